/-! ===== what is seen, tides by a seed, the page ===== -/
theorem see_eq {S ρ : Nat → Nat → Int32} {m q : Nat} {x : Int32} {sn : Nat} (h : ∀ e, e < sn → S 9 e = ρ 11 e ∧ S 10 e = ρ 12 e ∧ S 11 e = ρ 13 e - 200) : ∀ e, e ≤ sn → seeX S m q x e = seeM ρ m q (x + 200) e
  | 0, _ => rfl
  | e + 1, he => by
    simp only [seeX, seeM]
    rw [see_eq h e (by omega)]
    obtain ⟨h1, h2, h3⟩ := h e (by omega)
    rw [h1, h2, h3]
    have : (ρ 13 e - 200 = x) ↔ (ρ 13 e = x + 200) := by
      constructor
      · intro q; rw [← q, Int32.sub_add_cancel]
      · intro q; rw [q, Int32.add_sub_cancel]
    simp only [this]
theorem ln3_1 {i : Nat} (hi : i < 3) : ln3 (1 - nI i) := by
  unfold ln3
  rcases (show i = 0 ∨ i = 1 ∨ i = 2 by omega) with rfl | rfl | rfl <;> decide
theorem upd_R {n c q m q0 : Nat} {S L ρ : Nat → Nat → Int32} {x : Int32} (h : SmR n c S L ρ q) (hx : ln3 x) (hq : q < 3) (hq0 : q0 < 3) : SmR n c S (va_up L q0 (upd (L q0) m x)) (va_up ρ 4 (upd (ρ 4) (3 * m + q0) x)) q := by
  refine ⟨h.1, h.2.1, fun j hj => ?_, fun j hj => ?_⟩
  · show (va_up L q0 (upd (L q0) m x)) q j = upd (ρ 4) (3 * m + q0) x (3 * j + q)
    by_cases e : q = q0
    · subst e
      rw [va_up_self]
      by_cases e2 : j = m
      · subst e2; rw [pk_us, pk_us]
      · rw [pk_un e2, pk_un (by omega)]; exact h.2.2.1 j hj
    · rw [va_up_ne _ _ e, pk_un (by omega)]; exact h.2.2.1 j hj
  · show ln3 ((va_up L q0 (upd (L q0) m x)) q j)
    by_cases e : q = q0
    · subst e
      rw [va_up_self]
      by_cases e2 : j = m
      · subst e2; rw [pk_us]; exact hx
      · rw [pk_un e2]; exact h.2.2.2 j hj
    · rw [va_up_ne _ _ e]; exact h.2.2.2 j hj
theorem sl_eq {n c m q i : Nat} {kd : Nat → Nat} {S L ρ : Nat → Nat → Int32} (h : SmR n c S L ρ q) (hk : ∀ m, m < n → kd m ≤ 4) (hq : q < 3) (hi : i < 3) : lsM ρ n c kd m q i = slX S L n kd m q i + 200 := by
  unfold lsM slX
  rw [sm_eq (upd_R h (ln3_1 hi) hq hq) hk]
theorem lv_eq {n c m q sn : Nat} {kd : Nat → Nat} {S L ρ : Nat → Nat → Int32} (h : SmR n c S L ρ q) (hk : ∀ m, m < n → kd m ≤ 4) (hq : q < 3) (hs : ∀ e, e < sn → S 9 e = ρ 11 e ∧ S 10 e = ρ 12 e ∧ S 11 e = ρ 13 e - 200) : ∀ k, k ≤ 3 → lvX S L n kd sn m q k = lvB ρ n c kd sn m q k
  | 0, _ => rfl
  | k + 1, hk3 => by simp only [lvX, lvB]; rw [lv_eq h hk hq hs k (by omega), see_eq hs sn (Nat.le_refl sn), sl_eq h hk hq (by omega)]
theorem cntW_200 {G K : Nat → Int32} {b a : Nat} (h : ∀ j, j < 3 → K j = G j + 200) (ha : a < 3) : ∀ k, k ≤ 3 → cntW G b a k = cntW K b a k
  | 0, _ => rfl
  | k + 1, hk => by
    simp only [cntW]
    rw [cntW_200 h ha k (by omega), h a ha, h k (by omega)]
    have : (G a + 200 = G k + 200) ↔ G a = G k := by
      constructor
      · intro q; have := congrArg (· - 200) q; simpa [Int32.add_sub_cancel] using this
      · intro q; rw [q]
    simp only [this]
theorem mxW_200 {G K : Nat → Int32} {b : Nat} (h : ∀ j, j < 3 → K j = G j + 200) : ∀ k, k ≤ 3 → mxW G b k = mxW K b k
  | 0, _ => rfl
  | k + 1, hk => by simp only [mxW]; rw [mxW_200 h k (by omega), cntW_200 h (by omega) 3 (by omega)]
theorem ak_eq {n c m sn : Nat} {kd : Nat → Nat} {S L ρ : Nat → Nat → Int32} (h : ∀ q, q < 3 → SmR n c S L ρ q) (hk : ∀ m, m < n → kd m ≤ 4) (hs : ∀ e, e < sn → S 9 e = ρ 11 e ∧ S 10 e = ρ 12 e ∧ S 11 e = ρ 13 e - 200) : ∀ k, k ≤ 3 → (akX S L n kd sn m k).1 = (akM ρ n c kd sn m k).1 ∧ ((akX S L n kd sn m k).2 = (akM ρ n c kd sn m k).2 ∨ ((akX S L n kd sn m k).2 = 4 ∧ (akM ρ n c kd sn m k).2 = 268435456))
  | 0, _ => ⟨rfl, Or.inr ⟨rfl, rfl⟩⟩
  | k + 1, hk3 => by
    obtain ⟨h1, h2⟩ := ak_eq (m := m) h hk hs k (by omega)
    simp only [akX, akM]
    have e1 := lv_eq (m := m) (h k (by omega)) hk (by omega) hs 3 (Nat.le_refl 3)
    have e2 := mxW_200 (G := slX S L n kd m k) (K := lsM ρ n c kd m k) (b := lvB ρ n c kd sn m k 3) (fun j hj => sl_eq (h k (by omega)) hk (by omega) hj) 3 (Nat.le_refl 3)
    rw [e1, e2]
    have h3 := mxW_le (lsM ρ n c kd m k) (lvB ρ n c kd sn m k 3) 3
    by_cases c1 : mxW (lsM ρ n c kd m k) (lvB ρ n c kd sn m k 3) 3 < pcn (lvB ρ n c kd sn m k 3) 8
    · by_cases c2 : mxW (lsM ρ n c kd m k) (lvB ρ n c kd sn m k 3) 3 < (akM ρ n c kd sn m k).2
      · have c3 : mxW (lsM ρ n c kd m k) (lvB ρ n c kd sn m k 3) 3 < (akX S L n kd sn m k).2 := by omega
        rw [if_pos ⟨c1, c3⟩, if_pos ⟨c1, c2⟩]; exact ⟨rfl, Or.inl rfl⟩
      · have c3 : ¬ mxW (lsM ρ n c kd m k) (lvB ρ n c kd sn m k 3) 3 < (akX S L n kd sn m k).2 := by omega
        rw [if_neg (fun q => c3 q.2), if_neg (fun q => c2 q.2)]; exact ⟨h1, h2⟩
    · rw [if_neg (fun q => c1 q.1), if_neg (fun q => c1 q.1)]; exact ⟨h1, h2⟩
theorem trn_ln3 {x : Int32} (h : ln3 x) : ln3 (trnL x) := by
  unfold ln3
  rcases h with rfl | rfl | rfl <;> decide
theorem df_R {n c : Nat} {kd : Nat → Nat} {S L ρ : Nat → Nat → Int32} (h : ∀ q, q < 3 → SmR n c S L ρ q) (q : Nat) (hq : q < 3) : SmR n c S (dfX S L n kd) (va_up ρ 4 (td4 ρ n c kd)) q :=
  ⟨(h q hq).1, (h q hq).2.1, fun _ hm => df_eq (h q hq) hq hm, fun m hm => df_ln3 (c := c) (ρ := ρ) ((h q hq).2.2.2 m hm)⟩
theorem ts_eq {n c sd : Nat} {kd : Nat → Nat} {S L ρ : Nat → Nat → Int32} (h : ∀ q, q < 3 → SmR n c S L ρ q) (hk : ∀ m, m < n → kd m ≤ 4) (hn0 : 0 < n) : ∀ k, (tsX S L n kd sd k).2 = (tsM ρ n c kd sd k).2 ∧ ∀ q, q < 3 → SmR n c S (tsX S L n kd sd k).1 (va_up ρ 4 (tsM ρ n c kd sd k).1) q
  | 0 => ⟨rfl, h⟩
  | k + 1 => by
    obtain ⟨h1, h2⟩ := ts_eq (sd := sd) h hk hn0 k
    have hq3 : nxs (tsM ρ n c kd sd k).2.1 / 65536 % 3 < 3 := Nat.mod_lt _ (by decide)
    have hm : nxs (nxs (tsM ρ n c kd sd k).2.1) / 65536 % n < n := Nat.mod_lt _ hn0
    simp only [tsX, tsM]
    rw [h1]
    generalize hqe : nxs (tsM ρ n c kd sd k).2.1 / 65536 % 3 = q0 at *
    generalize hme : nxs (nxs (tsM ρ n c kd sd k).2.1) / 65536 % n = m0 at *
    have es : smX S (tsX S L n kd sd k).1 n kd q0 = smM (va_up ρ 4 (tsM ρ n c kd sd k).1) n c kd q0 := sm_eq (h2 q0 hq3) hk
    constructor
    · rw [es]
      congr 2
      by_cases e : 0 < smM (va_up ρ 4 (tsM ρ n c kd sd k).1) n c kd q0
      · rw [if_pos e, if_pos (sgn1.mpr e)]
      · rw [if_neg e, if_neg (fun q => e (sgn1.mp q))]
    · intro q hq
      have el : (tsX S L n kd sd k).1 q0 m0 = (tsM ρ n c kd sd k).1 (3 * m0 + q0) := (h2 q0 hq3).2.2.1 m0 hm
      have l3 := (h2 q0 hq3).2.2.2 m0 hm
      have hR : ∀ q, q < 3 → SmR n c S (va_up (tsX S L n kd sd k).1 q0 (upd ((tsX S L n kd sd k).1 q0) m0 (trnL ((tsX S L n kd sd k).1 q0 m0)))) (va_up (va_up ρ 4 (tsM ρ n c kd sd k).1) 4 (upd (tsM ρ n c kd sd k).1 (3 * m0 + q0) (trnL ((tsM ρ n c kd sd k).1 (3 * m0 + q0))))) q := by
        intro q hq
        rw [← el]
        exact upd_R (h2 q hq) (trn_ln3 l3) hq hq3
      have hd := df_R (kd := kd) hR q hq
      refine ⟨hd.1, hd.2.1, fun m hm => ?_, hd.2.2.2⟩
      rw [hd.2.2.1 m hm]
      rfl
theorem tsR_eq {n c sd tm t : Nat} {kd : Nat → Nat} {S L ρ : Nat → Nat → Int32} (h : ∀ q, q < 3 → SmR n c S L ρ q) (hk : ∀ m, m < n → kd m ≤ 4) (hn0 : 0 < n) : tsRX S L n kd tm sd t = tsR ρ n c kd tm sd t := by
  unfold tsRX tsR
  rw [(ts_eq (sd := sd) h hk hn0 tm).1, Int32.add_comm 10000]
/-! the page -/
theorem fit_at {a b : Nat → Int32} {j : Nat} (h : a j = b j) : fitX a j = fitX b j := by unfold fitX; rw [h]
theorem kind_neg {x : Int32} : kindC x < 0 ↔ kindC x = -1 := by
  rcases kin (x := x) with q | q | q | q | q | q <;> rw [q] <;> decide
section Page
variable {A : Nat → Int32} {b : Nat → Nat} {nm : Nat}
theorem fit0 (hn : nm < 8) : fitX A (6 * nm) = true ↔ ¬ kindC (A (6 * nm)) = -1 := by
  unfold fitX
  rw [if_pos (by omega), ← kind_neg]
  simp [show 6 * nm < 47 by omega]
theorem fit1 (hn : nm < 8) (hA : ∀ j, A j = nI (b j) ∧ b j < 127) : fitX A (6 * nm + 1) = true ↔ (1 ≤ A (6 * nm + 1) - 48 ∧ A (6 * nm + 1) - 48 ≤ 9) := by
  unfold fitX
  rw [if_neg (by omega), if_pos (by omega)]
  obtain ⟨h1, h2⟩ := hA (6 * nm + 1)
  rw [h1]
  have key : ∀ c : Fin 127, (¬ nI c.val < 49 ∧ ¬ 57 < nI c.val) ↔ (1 ≤ nI c.val - 48 ∧ nI c.val - 48 ≤ 9) := by decide +kernel
  have := key ⟨b (6 * nm + 1), h2⟩
  simp [show 6 * nm + 1 < 47 by omega]
  simpa using this
theorem fit2 (hn : nm < 8) {i : Nat} (hi : i < 3) : fitX A (6 * nm + 2 + i) = true ↔ (A (6 * nm + 2 + i) = 43 ∨ A (6 * nm + 2 + i) = 45 ∨ A (6 * nm + 2 + i) = 48) := by
  unfold fitX
  rw [if_neg (by omega), if_neg (by omega), if_neg (by omega)]
  simp [show 6 * nm + 2 + i < 47 by omega]
theorem fit5 : fitX A (6 * nm + 5) = true ↔ (6 * nm + 5 < 47 ∧ A (6 * nm + 5) = 44) := by
  unfold fitX
  rw [if_neg (by omega), if_neg (by omega), if_pos (by omega)]
  simp
theorem ldn_char (A : Nat → Int32) : ∀ d k, (ldn A k d = k + d ∧ ∀ j, k ≤ j → j < k + d → (A j = 43 ∨ A j = 45 ∨ A j = 48)) ∨ (ldn A k d < k + d ∧ k ≤ ldn A k d ∧ ¬ (A (ldn A k d) = 43 ∨ A (ldn A k d) = 45 ∨ A (ldn A k d) = 48) ∧ ∀ j, k ≤ j → j < ldn A k d → (A j = 43 ∨ A j = 45 ∨ A j = 48))
  | 0, k => Or.inl ⟨rfl, fun j a b => absurd b (by omega)⟩
  | d + 1, k => by
    simp only [ldn]
    by_cases h : A k = 43 ∨ A k = 45 ∨ A k = 48
    · rw [if_pos h]
      rcases ldn_char A d (k + 1) with ⟨h1, h2⟩ | ⟨h1, h2, h3, h4⟩
      · refine Or.inl ⟨by omega, fun j a b => ?_⟩
        by_cases e : j = k
        · subst e; exact h
        · exact h2 j (by omega) (by omega)
      · refine Or.inr ⟨by omega, by omega, h3, fun j a b => ?_⟩
        by_cases e : j = k
        · subst e; exact h
        · exact h4 j (by omega) b
    · rw [if_neg h]
      exact Or.inr ⟨by omega, Nat.le_refl k, h, fun j a b => absurd b (by omega)⟩
theorem rd1_char (hn : nm < 8) (hA : ∀ j, A j = nI (b j) ∧ b j < 127) : (rd1 A (6 * nm) = 6 * nm + 5 ∧ ∀ j, 6 * nm ≤ j → j < 6 * nm + 5 → fitX A j = true) ∨ (rd1 A (6 * nm) < 6 * nm + 5 ∧ 6 * nm ≤ rd1 A (6 * nm) ∧ ¬ fitX A (rd1 A (6 * nm)) = true ∧ ∀ j, 6 * nm ≤ j → j < rd1 A (6 * nm) → fitX A j = true) := by
  unfold rd1
  by_cases h0 : kindC (A (6 * nm)) = -1
  · rw [if_pos h0]
    exact Or.inr ⟨by omega, Nat.le_refl _, fun q => (fit0 hn).mp q h0, fun j a b => absurd b (by omega)⟩
  · rw [if_neg h0]
    have f0 := (fit0 hn).mpr h0
    by_cases h1 : 1 ≤ A (6 * nm + 1) - 48 ∧ A (6 * nm + 1) - 48 ≤ 9
    · rw [if_pos h1]
      have f1 := (fit1 hn hA).mpr h1
      have e2 : ∀ j, 6 * nm + 2 ≤ j → j < 6 * nm + 5 → (fitX A j = true ↔ (A j = 43 ∨ A j = 45 ∨ A j = 48)) := by
        intro j a b
        have := fit2 (A := A) hn (i := j - (6 * nm + 2)) (by omega)
        rw [show 6 * nm + 2 + (j - (6 * nm + 2)) = j by omega] at this
        exact this
      have low : ∀ j, 6 * nm ≤ j → j < 6 * nm + 2 → fitX A j = true := by
        intro j a b
        rcases (show j = 6 * nm ∨ j = 6 * nm + 1 by omega) with rfl | rfl
        · exact f0
        · exact f1
      rcases ldn_char A 3 (6 * nm + 2) with ⟨a1, a2⟩ | ⟨a1, a2, a3, a4⟩
      · refine Or.inl ⟨by omega, fun j x y => ?_⟩
        by_cases e : j < 6 * nm + 2
        · exact low j x e
        · exact (e2 j (by omega) y).mpr (a2 j (by omega) (by omega))
      · refine Or.inr ⟨by omega, by omega, fun q => a3 ((e2 _ a2 (by omega)).mp q), fun j x y => ?_⟩
        by_cases e : j < 6 * nm + 2
        · exact low j x e
        · exact (e2 j (by omega) (by omega)).mpr (a4 j (by omega) y)
    · rw [if_neg h1]
      refine Or.inr ⟨by omega, by omega, fun q => h1 ((fit1 hn hA).mp q), fun j x y => ?_⟩
      rw [show j = 6 * nm by omega]; exact f0
end Page
theorem rdF_gen {A : Nat → Int32} {b : Nat → Nat} {pg J : Nat} (hA : ∀ j, A j = nI (b j) ∧ b j < 127) (hpg : ∀ j, fitX A j = true → j < pg) (hJ1 : ∀ j, j < J → fitX A j = true) (hJ2 : ¬ fitX A J = true) : ∀ f nm, f + nm = 8 → nm < 8 → 6 * nm ≤ J → (rdF A pg f nm false).1 = J ∧ ((rdF A pg f nm false).2.2 = true ↔ (J = pg ∧ 11 ≤ pg ∧ pg % 6 = 5)) ∧ ((rdF A pg f nm false).2.2 = true → (rdF A pg f nm false).2.1 = (pg + 1) / 6)
  | 0, nm, h1, h2, _ => absurd h1 (by omega)
  | f + 1, nm, h1, h2, h3 => by
    simp only [rdF]
    rcases rd1_char (A := A) (b := b) h2 hA with ⟨a1, a2⟩ | ⟨a1, a2, a3, a4⟩
    · rw [if_pos a1]
      have hJ5 : 6 * nm + 5 ≤ J := by
        by_cases e : 6 * nm + 5 ≤ J
        · exact e
        · exact absurd (a2 J h3 (by omega)) hJ2
      by_cases hc : nm + 1 = 8 ∨ ¬ A (6 * nm + 5) = 44
      · rw [if_pos hc]
        have hne : ¬ fitX A (6 * nm + 5) = true := fun q => by
          obtain ⟨x, y⟩ := fit5.mp q
          rcases hc with hc | hc
          · omega
          · exact hc y
        have e : J = 6 * nm + 5 := by
          by_cases e : J = 6 * nm + 5
          · exact e
          · exact absurd (hJ1 (6 * nm + 5) (by omega)) hne
        refine ⟨e.symm, ?_, ?_⟩
        · simp only [decide_eq_true_eq]; omega
        · simp only [decide_eq_true_eq]; omega
      · rw [if_neg hc]
        have h8 : ¬ nm + 1 = 8 := fun q => hc (Or.inl q)
        have h44 : A (6 * nm + 5) = 44 := by
          by_cases q : A (6 * nm + 5) = 44
          · exact q
          · exact absurd (Or.inr q) hc
        have hf5 : fitX A (6 * nm + 5) = true := fit5.mpr ⟨by omega, h44⟩
        have hlt := hpg _ hf5
        have hd : decide (6 * nm + 5 = pg ∧ 1 < nm + 1) = false := by simp; omega
        rw [hd]
        have hJ6 : 6 * (nm + 1) ≤ J := by
          by_cases e : J = 6 * nm + 5
          · rw [e] at hJ2; exact absurd hf5 hJ2
          · omega
        exact rdF_gen hA hpg hJ1 hJ2 f (nm + 1) (by omega) (by omega) hJ6
    · rw [if_neg (by omega)]
      have e : J = rd1 A (6 * nm) := by
        rcases Nat.lt_trichotomy J (rd1 A (6 * nm)) with q | q | q
        · exact absurd (a4 J h3 q) hJ2
        · exact q
        · exact absurd (hJ1 _ q) a3
      refine ⟨e.symm, ?_, fun q => by cases q⟩
      constructor
      · intro q; cases q
      · intro q; omega
theorem page_eq {a r : Nat → Int32} {pn : Nat} {pg : Nat → Nat} (hpn : pn ≤ 50) (hP : ∀ j, j < 50 → a j = nI (pg j) ∧ pg j < 127) (hr : ∀ j, j < pn → r j = a j) : (rdF (fun k => if k < pn then r k else 0) pn 8 0 false).1 = ffe (fun j => !fitX a j) pn 0 ∧ ((rdF (fun k => if k < pn then r k else 0) pn 8 0 false).2.2 = true ↔ (ffe (fun j => !fitX a j) pn 0 = pn ∧ 11 ≤ pn ∧ pn % 6 = 5)) ∧ ((rdF (fun k => if k < pn then r k else 0) pn 8 0 false).2.2 = true → (rdF (fun k => if k < pn then r k else 0) pn 8 0 false).2.1 = (pn + 1) / 6) := by
  have hA : ∀ j, (fun k => if k < pn then r k else 0) j = nI (if j < pn then pg j else 0) ∧ (if j < pn then pg j else 0) < 127 := by
    intro j
    by_cases hj : j < pn
    · simp only [if_pos hj]; rw [hr j hj]; exact hP j (by omega)
    · simp only [if_neg hj]; exact ⟨rfl, by decide⟩
  have hf := ffe_le (fun j => !fitX a j) pn 0
  have hz : ∀ j, ¬ j < pn → ¬ fitX (fun k => if k < pn then r k else 0) j = true := by
    intro j hj
    have e : fitX (fun k => if k < pn then r k else 0) j = fitX (fun _ => 0) j := fit_at (if_neg hj)
    rw [e]
    unfold fitX
    by_cases h1 : j % 6 = 0
    · rw [if_pos h1]; simp [kindC]
    · rw [if_neg h1]
      by_cases h2 : j % 6 = 1
      · rw [if_pos h2]; simp
      · rw [if_neg h2]
        by_cases h3 : j % 6 = 5
        · rw [if_pos h3]; simp
        · rw [if_neg h3]; simp
  refine rdF_gen (b := fun j => if j < pn then pg j else 0) hA (fun j h => ?_) (fun j hj => ?_) ?_ 8 0 rfl (by decide) (Nat.zero_le _)
  · by_cases e : j < pn
    · exact e
    · exact absurd h (hz j e)
  · have h1 := ffe_not (cu := fun j => !fitX a j) (d := pn) (i := 0) (Nat.zero_le j) hj
    rw [fit_at (b := a) (by show (if j < pn then r j else 0) = a j; rw [if_pos (by omega), hr j (by omega)])]
    simpa using h1
  · by_cases e : ffe (fun j => !fitX a j) pn 0 < pn
    · have h1 := ffe_at (cu := fun j => !fitX a j) (d := pn) (i := 0) (by omega)
      rw [fit_at (b := a) (by show (if _ then r _ else 0) = a _; rw [if_pos e, hr _ e])]
      simpa using h1
    · exact hz _ e
