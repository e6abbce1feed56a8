/-! ===== settling ===== -/
theorem cnt_le (P : Nat → Prop) [DecidablePred P] : ∀ n, cntTo P n ≤ n
  | 0 => Nat.le_refl 0
  | n + 1 => by have := cnt_le P n; simp only [cntTo]; split <;> omega
theorem cnt_mono {P Q : Nat → Prop} [DecidablePred P] [DecidablePred Q] : ∀ {n : Nat}, (∀ m, m < n → P m → Q m) → cntTo P n ≤ cntTo Q n
  | 0, _ => Nat.le_refl 0
  | n + 1, h => by
    have h1 := cnt_mono (P := P) (Q := Q) (n := n) (fun m hm => h m (by omega))
    simp only [cntTo]
    by_cases hp : P n
    · rw [if_pos hp, if_pos (h n (by omega) hp)]; omega
    · rw [if_neg hp]; split <;> omega
theorem cnt_lt {P Q : Nat → Prop} [DecidablePred P] [DecidablePred Q] {k : Nat} (hQ : Q k) (hP : ¬ P k) : ∀ {n : Nat}, k < n → (∀ m, m < n → P m → Q m) → cntTo P n < cntTo Q n
  | 0, hk, _ => absurd hk (by omega)
  | n + 1, hk, h => by
    simp only [cntTo]
    by_cases e : k = n
    · subst e
      have h1 := cnt_mono (P := P) (Q := Q) (n := k) (fun m hm => h m (by omega))
      rw [if_neg hP, if_pos hQ]; omega
    · have h1 := cnt_lt (P := P) (Q := Q) hQ hP (n := n) (by omega) (fun m hm => h m (by omega))
      by_cases hp : P n
      · rw [if_pos hp, if_pos (h n (by omega) hp)]; omega
      · rw [if_neg hp]; split <;> omega
/-- how many lean at all, how many beside one that leans as they do -/
def phiX (S : Nat → Nat → Int32) (n : Nat) (f : Nat → Int32) : Nat := cntTo (fun m => ¬ f m = 0) n + cntTo (fun m => m + 1 < n ∧ cuX S (m + 1) = false ∧ f m = f (m + 1) ∧ ¬ f m = 0) n
theorem dr_nz {k : Nat} {x a b : Int32} (hx : ln3 x) (ha : ln3 a) (hb : ln3 b) (h : ¬ x = 0) : ¬ drX k x a b = 0 := by
  unfold drX
  split
  · rename_i h2
    have h3 := h2.1
    rcases hx with rfl | rfl | rfl <;> rcases ha with rfl | rfl | rfl <;> rcases hb with rfl | rfl | rfl <;> revert h3 <;> decide
  · exact h
theorem dr_ag {k : Nat} {x a b : Int32} (hx : ln3 x) (ha : ln3 a) (hb : ln3 b) (h0 : ¬ x = 0) (h : a = x ∨ b = x) : drX k x a b = x := by
  unfold drX
  split
  · rcases hx with rfl | rfl | rfl <;> rcases ha with rfl | rfl | rfl <;> rcases hb with rfl | rfl | rfl <;> revert h0 h <;> decide
  · rfl
theorem dr_flip {k : Nat} {x a b : Int32} (hx : ln3 x) (ha : ln3 a) (hb : ln3 b) (h0 : ¬ x = 0) (h : ¬ drX k x a b = x) : ¬ a = 0 ∧ drX k x a b = a ∧ ¬ a = x := by
  unfold drX at h ⊢
  split at h
  · rename_i h2
    rw [if_pos h2]
    have h3 := h2.1
    clear h2
    revert h0 h h3
    rcases hx with rfl | rfl | rfl <;> rcases ha with rfl | rfl | rfl <;> rcases hb with rfl | rfl | rfl <;> decide
  · exact absurd rfl h
theorem lnA_nz {S L : Nat → Nat → Int32} {m q : Nat} (h : ¬ lnA (leX L) (cuX S) m q = 0) : 0 < m ∧ cuX S m = false ∧ lnA (leX L) (cuX S) m q = L q (m - 1) := by
  unfold lnA at h ⊢
  by_cases h0 : 0 < m ∧ cuX S m = false
  · rw [if_pos h0]; exact ⟨h0.1, h0.2, rfl⟩
  · rw [if_neg h0] at h; exact absurd rfl h
section Settle
variable {S L : Nat → Nat → Int32} {n q : Nat} {kd : Nat → Nat}
theorem dfX_in (hq : q < 3) {m : Nat} (hm : m < n) : dfX S L n kd q m = drX (kd m) (L q m) (lnA (leX L) (cuX S) m q) (lnB n (leX L) (cuX S) m q) := by unfold dfX; rw [if_pos ⟨hq, hm⟩]
theorem l3A (h3 : ∀ m, m < n → ln3 (L q m)) {m : Nat} (hm : m < n) : ln3 (lnA (leX L) (cuX S) m q) := by
  unfold lnA
  split
  · exact h3 (m - 1) (by omega)
  · exact ln3_0
theorem l3B (h3 : ∀ m, m < n → ln3 (L q m)) {m : Nat} : ln3 (lnB n (leX L) (cuX S) m q) := by
  unfold lnB
  split
  · rename_i h1; exact h3 (m + 1) h1.1
  · exact ln3_0
theorem df_nz (hq : q < 3) (h3 : ∀ m, m < n → ln3 (L q m)) {m : Nat} (hm : m < n) (h : ¬ L q m = 0) : ¬ dfX S L n kd q m = 0 := by
  rw [dfX_in hq hm]; exact dr_nz (h3 m hm) (l3A h3 hm) (l3B h3) h
theorem df_ag (hq : q < 3) (h3 : ∀ m, m < n → ln3 (L q m)) {m : Nat} (h1 : m + 1 < n) (hc : cuX S (m + 1) = false) (he : L q m = L q (m + 1)) (h0 : ¬ L q m = 0) : dfX S L n kd q m = L q m ∧ dfX S L n kd q (m + 1) = L q (m + 1) := by
  constructor
  · rw [dfX_in hq (by omega)]
    refine dr_ag (h3 m (by omega)) (l3A h3 (by omega)) (l3B h3) h0 (Or.inr ?_)
    unfold lnB; rw [if_pos ⟨h1, hc⟩]; exact he.symm
  · rw [dfX_in hq h1]
    refine dr_ag (h3 _ h1) (l3A h3 h1) (l3B h3) (by rw [← he]; exact h0) (Or.inl ?_)
    unfold lnA; rw [if_pos ⟨by omega, hc⟩]; exact he
theorem phi_mono (hq : q < 3) (h3 : ∀ m, m < n → ln3 (L q m)) : phiX S n (L q) ≤ phiX S n (dfX S L n kd q) := by
  unfold phiX
  refine Nat.add_le_add (cnt_mono (fun m hm h => df_nz hq h3 hm h)) (cnt_mono (fun m hm h => ?_))
  obtain ⟨a, b⟩ := df_ag (kd := kd) hq h3 h.1 h.2.1 h.2.2.1 h.2.2.2
  exact ⟨h.1, h.2.1, by rw [a, b]; exact h.2.2.1, by rw [a]; exact h.2.2.2⟩
theorem least_ex {P : Nat → Prop} : ∀ B, P B → ∃ R, R ≤ B ∧ P R ∧ ∀ r, r < R → ¬ P r := by
  intro B
  induction B using Nat.strongRecOn with
  | _ B ih =>
    intro hB
    by_cases h : ∃ r, r < B ∧ P r
    · obtain ⟨r, h1, h2⟩ := h
      obtain ⟨R, a, b, c⟩ := ih r h1 h2
      exact ⟨R, by omega, b, c⟩
    · exact ⟨B, Nat.le_refl B, hB, fun r hr hp => h ⟨r, hr, hp⟩⟩
theorem phi_lt (hq : q < 3) (h3 : ∀ m, m < n → ln3 (L q m)) (hch : ∃ m, m < n ∧ ¬ dfX S L n kd q m = L q m) : phiX S n (L q) < phiX S n (dfX S L n kd q) := by
  have hag : cntTo (fun m => m + 1 < n ∧ cuX S (m + 1) = false ∧ L q m = L q (m + 1) ∧ ¬ L q m = 0) n ≤ cntTo (fun m => m + 1 < n ∧ cuX S (m + 1) = false ∧ dfX S L n kd q m = dfX S L n kd q (m + 1) ∧ ¬ dfX S L n kd q m = 0) n := cnt_mono (fun m hm h => by
    obtain ⟨a, b⟩ := df_ag (kd := kd) hq h3 h.1 h.2.1 h.2.2.1 h.2.2.2
    exact ⟨h.1, h.2.1, by rw [a, b]; exact h.2.2.1, by rw [a]; exact h.2.2.2⟩)
  have hnz : cntTo (fun m => ¬ L q m = 0) n ≤ cntTo (fun m => ¬ dfX S L n kd q m = 0) n := cnt_mono (fun m hm h => df_nz hq h3 hm h)
  by_cases hz : ∃ m, m < n ∧ L q m = 0 ∧ ¬ dfX S L n kd q m = 0
  · obtain ⟨m, hm, h0, h1⟩ := hz
    have := cnt_lt (P := fun m => ¬ L q m = 0) (Q := fun m => ¬ dfX S L n kd q m = 0) (k := m) h1 (fun q => q h0) (n := n) hm (fun m hm h => df_nz hq h3 hm h)
    unfold phiX; omega
  · obtain ⟨m0, hm0, hc0⟩ := hch
    obtain ⟨m, _, ⟨hm, hc⟩, hl⟩ := least_ex (P := fun m => m < n ∧ ¬ dfX S L n kd q m = L q m) m0 ⟨hm0, hc0⟩
    have h0 : ¬ L q m = 0 := fun e => hz ⟨m, hm, e, fun e2 => hc (by rw [e, e2])⟩
    have hf := hc
    rw [dfX_in hq hm] at hf
    obtain ⟨f1, f2, f3⟩ := dr_flip (h3 m hm) (l3A h3 hm) (l3B h3) h0 hf
    obtain ⟨g1, g2, g3⟩ := lnA_nz f1
    have hsame : dfX S L n kd q (m - 1) = L q (m - 1) := by
      by_cases e : dfX S L n kd q (m - 1) = L q (m - 1)
      · exact e
      · exact absurd ⟨by omega, e⟩ (hl (m - 1) (by omega))
    have hnew : dfX S L n kd q m = L q (m - 1) := by rw [dfX_in hq hm, f2, g3]
    have := cnt_lt (P := fun m => m + 1 < n ∧ cuX S (m + 1) = false ∧ L q m = L q (m + 1) ∧ ¬ L q m = 0) (Q := fun m => m + 1 < n ∧ cuX S (m + 1) = false ∧ dfX S L n kd q m = dfX S L n kd q (m + 1) ∧ ¬ dfX S L n kd q m = 0) (k := m - 1)
      (by rw [show m - 1 + 1 = m by omega]; exact ⟨hm, g2, by rw [hsame, hnew], by rw [hsame, ← g3]; exact f1⟩)
      (by rw [show m - 1 + 1 = m by omega]; exact fun w => f3 (by rw [g3]; exact w.2.2.1)) (n := n) (by omega) (fun m hm h => by
        obtain ⟨a, b⟩ := df_ag (kd := kd) hq h3 h.1 h.2.1 h.2.2.1 h.2.2.2
        exact ⟨h.1, h.2.1, by rw [a, b]; exact h.2.2.1, by rw [a]; exact h.2.2.2⟩)
    unfold phiX; omega
theorem phi_le (S : Nat → Nat → Int32) (n : Nat) (f : Nat → Int32) : phiX S n f ≤ 2 * n := by
  unfold phiX
  have h1 := cnt_le (fun m => ¬ f m = 0) n
  have h2 := cnt_le (fun m => m + 1 < n ∧ cuX S (m + 1) = false ∧ f m = f (m + 1) ∧ ¬ f m = 0) n
  omega
end Settle
theorem it_ln3 {S L : Nat → Nat → Int32} {n : Nat} {kd : Nat → Nat} (h3 : ∀ q, q < 3 → ∀ m, m < 8 → ln3 (L q m)) : ∀ i q, q < 3 → ∀ m, m < 8 → ln3 (itX S L n kd i q m)
  | 0, q, hq, m, hm => h3 q hq m hm
  | i + 1, q, hq, m, hm => df_ln3 (c := 0) (ρ := L) (it_ln3 h3 i q hq m hm)
theorem it_fix {S L : Nat → Nat → Int32} {n : Nat} {kd : Nat → Nat} (hn : n ≤ 8) (h3 : ∀ q, q < 3 → ∀ m, m < 8 → ln3 (L q m)) : ∃ i, i ≤ 48 ∧ itX S L n kd (i + 1) = itX S L n kd i := by
  have hp : ∀ k, (∀ i, i < k → ¬ itX S L n kd (i + 1) = itX S L n kd i) → k ≤ phiX S n (itX S L n kd k 0) + phiX S n (itX S L n kd k 1) + phiX S n (itX S L n kd k 2) := by
    intro k
    induction k with
    | zero => intro _; exact Nat.zero_le _
    | succ k ih =>
      intro h
      have h1 := ih (fun i hi => h i (by omega))
      have h2 := h k (by omega)
      have l3 := fun q (hq : q < 3) m (hm : m < n) => it_ln3 (S := S) (n := n) (kd := kd) h3 k q hq m (by omega)
      have m0 := phi_mono (S := S) (kd := kd) (q := 0) (by decide) (l3 0 (by decide))
      have m1 := phi_mono (S := S) (kd := kd) (q := 1) (by decide) (l3 1 (by decide))
      have m2 := phi_mono (S := S) (kd := kd) (q := 2) (by decide) (l3 2 (by decide))
      have hex : ∃ q, q < 3 ∧ ∃ m, m < n ∧ ¬ dfX S (itX S L n kd k) n kd q m = itX S L n kd k q m := by
        by_cases e : ∃ q, q < 3 ∧ ∃ m, m < n ∧ ¬ dfX S (itX S L n kd k) n kd q m = itX S L n kd k q m
        · exact e
        · exfalso; apply h2
          funext q m
          show dfX S (itX S L n kd k) n kd q m = _
          by_cases e2 : q < 3 ∧ m < n
          · by_cases e3 : dfX S (itX S L n kd k) n kd q m = itX S L n kd k q m
            · exact e3
            · exact absurd ⟨q, e2.1, m, e2.2, e3⟩ e
          · unfold dfX; rw [if_neg e2]
      obtain ⟨q, hq, hm⟩ := hex
      have := phi_lt (S := S) (kd := kd) hq (l3 q hq) hm
      show k + 1 ≤ phiX S n (dfX S (itX S L n kd k) n kd 0) + phiX S n (dfX S (itX S L n kd k) n kd 1) + phiX S n (dfX S (itX S L n kd k) n kd 2)
      rcases (show q = 0 ∨ q = 1 ∨ q = 2 by omega) with rfl | rfl | rfl <;> omega
  by_cases h : ∃ i, i ≤ 48 ∧ itX S L n kd (i + 1) = itX S L n kd i
  · exact h
  · exfalso
    have := hp 49 (fun i hi e => h ⟨i, by omega, e⟩)
    have a0 := phi_le S n (itX S L n kd 49 0)
    have a1 := phi_le S n (itX S L n kd 49 1)
    have a2 := phi_le S n (itX S L n kd 49 2)
    omega
/-! codes -/
def dg3 (x : Int32) : Nat := (x + 1).toNatClampNeg
theorem dg3_ok {x : Int32} (h : ln3 x) : dg3 x < 3 ∧ x = nI (dg3 x) - 1 ∧ x.toInt64 + 1 = lN (dg3 x) := by
  rcases h with rfl | rfl | rfl <;> decide
def nc1 (g : Nat → Nat) (h : Nat) : Nat → Nat
  | 0 => h
  | m + 1 => nc1 g h m * 3 + g m
theorem nc1_inj {g k : Nat → Nat} {a b : Nat} : ∀ n, (∀ m, m < n → g m < 3 ∧ k m < 3) → nc1 g a n = nc1 k b n → a = b ∧ ∀ m, m < n → g m = k m
  | 0, _, h => ⟨h, fun m hm => absurd hm (by omega)⟩
  | n + 1, h3, h => by
    simp only [nc1] at h
    have h4 := h3 n (by omega)
    obtain ⟨h5, h6⟩ := nc1_inj n (fun m hm => h3 m (by omega)) (show nc1 g a n = nc1 k b n by omega)
    refine ⟨h5, fun m hm => ?_⟩
    by_cases e : m = n
    · subst e; omega
    · exact h6 m (by omega)
theorem nc1_lt {g : Nat → Nat} {a : Nat} : ∀ n, (∀ m, m < n → g m < 3) → nc1 g a n < (a + 1) * 3 ^ n
  | 0, _ => by simp [nc1]
  | n + 1, h => by
    have h1 := nc1_lt (a := a) n (fun m hm => h m (by omega))
    have h2 := h n (by omega)
    simp only [nc1]
    rw [Nat.pow_succ, ← Nat.mul_assoc]
    omega
theorem cd1_nat {f : Nat → Int32} {h : Nat} : ∀ n, (∀ m, m < n → ln3 (f m)) → cd1 f (lN h) n = lN (nc1 (fun m => dg3 (f m)) h n)
  | 0, _ => rfl
  | n + 1, h3 => by
    simp only [cd1, nc1]
    rw [cd1_nat n (fun m hm => h3 m (by omega)), show (3 : Int64) = lN 3 from rfl, lN_mul, Int64.add_assoc, (dg3_ok (h3 n (by omega))).2.2, lN_add]
theorem tell_nat {f : Nat → Int32} : ∀ n, (∀ m, m < n → ln3 (f m)) → tellM f n = lN (nc1 (fun m => dg3 (f m)) 0 n)
  | 0, _ => rfl
  | n + 1, h3 => by
    simp only [tellM, nc1]
    rw [tell_nat n (fun m hm => h3 m (by omega)), show (3 : Int64) = lN 3 from rfl, lN_mul, Int64.add_assoc, (dg3_ok (h3 n (by omega))).2.2, lN_add, Nat.mul_comm]
theorem dg3_inj {x y : Int32} (hx : ln3 x) (hy : ln3 y) (h : dg3 x = dg3 y) : x = y := by rw [(dg3_ok hx).2.1, (dg3_ok hy).2.1, h]
def cdn (L : Nat → Nat → Int32) : Nat → Nat
  | 0 => 0
  | q + 1 => nc1 (fun m => dg3 (L q m)) (cdn L q) 8
theorem cdq_nat {L : Nat → Nat → Int32} : ∀ k, k ≤ 3 → (∀ q, q < 3 → ∀ m, m < 8 → ln3 (L q m)) → cdq L k = lN (cdn L k) ∧ cdn L k < 6561 ^ k
  | 0, _, _ => ⟨rfl, by show 0 < 1; decide⟩
  | k + 1, hk, h => by
    obtain ⟨h1, h2⟩ := cdq_nat k (by omega) h
    simp only [cdq, cdn]
    rw [h1]
    refine ⟨cd1_nat 8 (h k (by omega)), ?_⟩
    have h3 := nc1_lt (g := fun m => dg3 (L k m)) (a := cdn L k) 8 (fun m hm => (dg3_ok (h k (by omega) m hm)).1)
    rw [Nat.pow_succ]
    have h4 : (cdn L k + 1) * 3 ^ 8 ≤ 6561 ^ k * 6561 := Nat.mul_le_mul h2 (by decide)
    exact Nat.lt_of_lt_of_le h3 h4
theorem cdn_inj {L M : Nat → Nat → Int32} (hL : ∀ q, q < 3 → ∀ m, m < 8 → ln3 (L q m)) (hM : ∀ q, q < 3 → ∀ m, m < 8 → ln3 (M q m)) : ∀ k, k ≤ 3 → cdn L k = cdn M k → ∀ q, q < k → ∀ m, m < 8 → L q m = M q m
  | 0, _, _, q, hq => absurd hq (by omega)
  | k + 1, hk, h, q, hq => by
    intro m hm
    simp only [cdn] at h
    obtain ⟨h1, h2⟩ := nc1_inj 8 (fun m hm => ⟨(dg3_ok (hL k (by omega) m hm)).1, (dg3_ok (hM k (by omega) m hm)).1⟩) h
    by_cases e : q = k
    · subst e; exact dg3_inj (hL q (by omega) m hm) (hM q (by omega) m hm) (h2 m hm)
    · exact cdn_inj hL hM k (by omega) h1 q (by omega) m hm
theorem b6561 : (6561 : Nat) ^ 3 < 2 ^ 63 := by omega
theorem b324 : (3 : Nat) ^ 24 < 2 ^ 63 := by omega
theorem cB {L M : Nat → Nat → Int32} (hL : ∀ q, q < 3 → ∀ m, m < 8 → ln3 (L q m)) (hM : ∀ q, q < 3 → ∀ m, m < 8 → ln3 (M q m)) : cdq L 3 = cdq M 3 ↔ cdn L 3 = cdn M 3 := by
  obtain ⟨a1, a2⟩ := cdq_nat 3 (Nat.le_refl 3) hL
  obtain ⟨b1, b2⟩ := cdq_nat 3 (Nat.le_refl 3) hM
  rw [a1, b1, pk_lEQ (Nat.lt_trans a2 b6561) (Nat.lt_trans b2 b6561)]
theorem cdq_iff {L M : Nat → Nat → Int32} (hL : ∀ q, q < 3 → ∀ m, m < 8 → ln3 (L q m)) (hM : ∀ q, q < 3 → ∀ m, m < 8 → ln3 (M q m)) : cdq L 3 = cdq M 3 ↔ ∀ q, q < 3 → ∀ m, m < 8 → L q m = M q m := by
  rw [cB hL hM]
  constructor
  · intro h; exact cdn_inj hL hM 3 (Nat.le_refl 3) h
  · intro h
    have key : ∀ k, k ≤ 3 → cdn L k = cdn M k := by
      intro k
      induction k with
      | zero => intro _; rfl
      | succ k ih =>
        intro hk
        simp only [cdn]
        rw [ih (by omega)]
        have : ∀ j, j ≤ 8 → nc1 (fun m => dg3 (L k m)) (cdn M k) j = nc1 (fun m => dg3 (M k m)) (cdn M k) j := by
          intro j
          induction j with
          | zero => intro _; simp only [nc1]
          | succ j ihj => intro hj; simp only [nc1]; rw [ihj (by omega), h k (by omega) j (by omega)]
        exact this 8 (Nat.le_refl 8)
    exact key 3 (Nat.le_refl 3)
theorem tA {f : Nat → Int32} {k : Nat} (hk : k ≤ 24) (a : nc1 (fun m => dg3 (f m)) 0 k < (0 + 1) * 3 ^ k) : nc1 (fun m => dg3 (f m)) 0 k < 2 ^ 63 := by
  have hp : 3 ^ k ≤ 3 ^ 24 := Nat.pow_le_pow_right (by decide) hk
  rw [Nat.zero_add, Nat.one_mul] at a
  exact Nat.lt_trans (Nat.lt_of_lt_of_le a hp) b324
theorem tB {f g : Nat → Int32} {k : Nat} (hf : ∀ m, m < k → ln3 (f m)) (hg : ∀ m, m < k → ln3 (g m)) (a : nc1 (fun m => dg3 (f m)) 0 k < 2 ^ 63) (b : nc1 (fun m => dg3 (g m)) 0 k < 2 ^ 63) : tellM f k = tellM g k ↔ nc1 (fun m => dg3 (f m)) 0 k = nc1 (fun m => dg3 (g m)) 0 k := by
  rw [tell_nat k hf, tell_nat k hg, pk_lEQ a b]
theorem tell_iff {f g : Nat → Int32} {k : Nat} (hk : k ≤ 24) (hf : ∀ m, m < k → ln3 (f m)) (hg : ∀ m, m < k → ln3 (g m)) : tellM f k = tellM g k ↔ ∀ m, m < k → f m = g m := by
  rw [tB hf hg (tA hk (nc1_lt k (fun m hm => (dg3_ok (hf m hm)).1))) (tA hk (nc1_lt k (fun m hm => (dg3_ok (hg m hm)).1)))]
  constructor
  · intro h m hm
    exact dg3_inj (hf m hm) (hg m hm) ((nc1_inj k (fun m hm => ⟨(dg3_ok (hf m hm)).1, (dg3_ok (hg m hm)).1⟩) h).2 m hm)
  · intro h
    have : ∀ j, j ≤ k → nc1 (fun m => dg3 (f m)) 0 j = nc1 (fun m => dg3 (g m)) 0 j := by
      intro j
      induction j with
      | zero => intro _; simp only [nc1]
      | succ j ihj => intro hj; simp only [nc1]; rw [ihj (by omega), h j (by omega)]
    exact this k (Nat.le_refl k)
/-! the first tide that has been before -/
def Rep (h : Nat → Int64) (r : Nat) : Prop := ∃ k, k < r ∧ h k = h r
theorem fl_char (h : Nat → Int64) (k : Nat) : ∀ d i, (flX h k d i = i + d ∧ ∀ j, i ≤ j → j < i + d → ¬ h j = h k) ∨ (flX h k d i < i + d ∧ i ≤ flX h k d i ∧ h (flX h k d i) = h k ∧ ∀ j, i ≤ j → j < flX h k d i → ¬ h j = h k)
  | 0, i => Or.inl ⟨rfl, fun j a b => absurd b (by omega)⟩
  | d + 1, i => by
    simp only [flX]
    by_cases e : h i = h k
    · rw [if_pos e]; exact Or.inr ⟨by omega, Nat.le_refl i, e, fun j a b => absurd b (by omega)⟩
    · rw [if_neg e]
      rcases fl_char h k d (i + 1) with ⟨a, b⟩ | ⟨a, b, c, d'⟩
      · refine Or.inl ⟨by omega, fun j x y => ?_⟩
        by_cases e2 : j = i
        · subst e2; exact e
        · exact b j (by omega) (by omega)
      · refine Or.inr ⟨by omega, by omega, c, fun j x y => ?_⟩
        by_cases e2 : j = i
        · subst e2; exact e
        · exact d' j (by omega) y
theorem fl_rep {h : Nat → Int64} {k : Nat} : flX h k k 0 = k ↔ ¬ Rep h k := by
  rcases fl_char h k k 0 with ⟨a, b⟩ | ⟨a, b, c, d⟩
  · constructor
    · intro _ hr; obtain ⟨j, h1, h2⟩ := hr; exact b j (Nat.zero_le j) (by omega) h2
    · intro _; omega
  · constructor
    · intro e; omega
    · intro hn; exact absurd ⟨_, by omega, c⟩ hn
theorem tl_is {h : Nat → Int64} {R : Nat} (hR : Rep h R) : ∀ d i, i < R → R ≤ i + d + 1 → (∀ r, i < r → r < R → ¬ Rep h r) → tlX h d i = R
  | 0, i, h1, h2, _ => by simp only [tlX]; omega
  | d + 1, i, h1, h2, h3 => by
    simp only [tlX]
    by_cases e : R = i + 1
    · rw [if_neg (fun q => fl_rep.mp q (by rw [← e]; exact hR))]; exact e.symm
    · rw [if_pos (fl_rep.mpr (h3 (i + 1) (by omega) (by omega)))]
      exact tl_is hR d (i + 1) (by omega) (by omega) (fun r a b => h3 r (by omega) b)
theorem dnx_char (h : Nat → Int64) (i : Nat) : ∀ d, d ≤ i → (dnx h i d = none ∧ ∀ j, i - d ≤ j → j < i → ¬ h j = h i) ∨ ∃ k, dnx h i d = some k ∧ i - d ≤ k ∧ k < i ∧ h k = h i ∧ ∀ j, i - d ≤ j → j < k → ¬ h j = h i
  | 0, _ => Or.inl ⟨rfl, fun j a b => absurd b (by omega)⟩
  | d + 1, hd => by
    simp only [dnx]
    by_cases e : h (i - 1 - d) = h i
    · rw [if_pos e]; exact Or.inr ⟨_, rfl, by omega, by omega, e, fun j a b => absurd b (by omega)⟩
    · rw [if_neg e]
      rcases dnx_char h i d (by omega) with ⟨a, b⟩ | ⟨k, a, b, c, d1, d2⟩
      · refine Or.inl ⟨a, fun j x y => ?_⟩
        by_cases e2 : j = i - 1 - d
        · subst e2; exact e
        · exact b j (by omega) y
      · refine Or.inr ⟨k, a, by omega, c, d1, fun j x y => ?_⟩
        by_cases e2 : j = i - 1 - d
        · subst e2; exact e
        · exact d2 j (by omega) y
theorem dnx_rep {h : Nat → Int64} {i : Nat} : dnx h i i = none ↔ ¬ Rep h i := by
  rcases dnx_char h i i (Nat.le_refl i) with ⟨a, b⟩ | ⟨k, a, b, c, d, _⟩
  · exact ⟨fun _ hr => by obtain ⟨j, h1, h2⟩ := hr; exact b j (by omega) h1 h2, fun _ => a⟩
  · exact ⟨(fun e => by rw [a] at e; cases e), fun hn => absurd ⟨k, c, d⟩ hn⟩
theorem stl_is {h : Nat → Int64} {R : Nat} (hR : Rep h R) : ∀ f i, i ≤ R → R ≤ i + f → (∀ r, i ≤ r → r < R → ¬ Rep h r) → stlF h f i = R
  | 0, i, h1, h2, _ => by simp only [stlF]; omega
  | f + 1, i, h1, h2, h3 => by
    simp only [stlF]
    by_cases e : R = i
    · subst e; rw [if_neg (fun q => dnx_rep.mp q hR)]
    · rw [if_pos (dnx_rep.mpr (h3 i (Nat.le_refl i) (by omega)))]
      exact stl_is hR f (i + 1) (by omega) (by omega) (fun r a b => h3 r (by omega) b)
theorem settle_gen {h g : Nat → Int64} {t : Nat} (he : ∀ i j, h i = h j ↔ g i = g j) (hr : ∃ i, i ≤ 48 ∧ h (i + 1) = h i) : nI (stX1 h t) = stlR g t := by
  obtain ⟨i, hi, hi2⟩ := hr
  obtain ⟨R, r1, r2, r3⟩ := least_ex (P := Rep h) (i + 1) ⟨i, by omega, hi2.symm⟩
  have rep : ∀ r, Rep h r ↔ Rep g r := fun r => ⟨fun ⟨k, a, b⟩ => ⟨k, a, (he k r).mp b⟩, fun ⟨k, a, b⟩ => ⟨k, a, (he k r).mpr b⟩⟩
  have hR0 : 0 < R := by obtain ⟨k, a, _⟩ := r2; omega
  have e1 : tlX h 62 0 = R := tl_is r2 62 0 hR0 (by omega) (fun r _ b => r3 r b)
  have e2 : stlF g 99 0 = R := stl_is ((rep R).mp r2) 99 0 (Nat.zero_le R) (by omega) (fun r _ b q => r3 r b ((rep r).mpr q))
  unfold stX1 stlR
  rw [e1, e2]
  by_cases ht : t = 0
  · rw [if_pos ht, if_pos ht]
  · rw [if_neg ht, if_neg ht]
    rcases dnx_char g R R (Nat.le_refl R) with ⟨a, b⟩ | ⟨k, a, b, c, d, e⟩
    · exact absurd ((rep R).mp r2) (dnx_rep.mp a)
    · rw [a]
      show nI _ = nI k
      congr 1
      rcases fl_char h R R 0 with ⟨x, y⟩ | ⟨x, y, z, w⟩
      · exact absurd r2 (fl_rep.mp (by omega))
      · have h1 : ¬ flX h R R 0 < k := fun q => e _ (by omega) q ((he _ _).mp z)
        have h2 : ¬ k < flX h R R 0 := fun q => w k (Nat.zero_le k) q ((he _ _).mpr d)
        omega
theorem it_R {n c : Nat} {kd : Nat → Nat} {S L ρ : Nat → Nat → Int32} (h : ∀ q, q < 3 → SmR n c S L ρ q) : ∀ i q, q < 3 → SmR n c S (itX S L n kd i) (va_up ρ 4 (itM ρ n c kd i)) q
  | 0, q, hq => h q hq
  | i + 1, q, hq => by
    have ih := it_R (kd := kd) h i
    refine ⟨(h q hq).1, (h q hq).2.1, fun m hm => ?_, fun m hm => ?_⟩
    · exact df_eq (ih q hq) hq hm
    · exact df_ln3 (c := c) (ρ := ρ) ((ih q hq).2.2.2 m hm)
theorem it_out {S L : Nat → Nat → Int32} {n : Nat} {kd : Nat → Nat} {q m : Nat} (hm : ¬ m < n) : ∀ i, itX S L n kd i q m = L q m
  | 0 => rfl
  | i + 1 => by show dfX S _ n kd q m = _; unfold dfX; rw [if_neg (fun w => hm w.2)]; exact it_out hm i
theorem settle_eq {n c t : Nat} {kd : Nat → Nat} {S L ρ : Nat → Nat → Int32} (h : ∀ q, q < 3 → SmR n c S L ρ q) (h3 : ∀ q, q < 3 → ∀ m, m < 8 → ln3 (L q m)) (hn : n ≤ 8) : nI (stX1 (hcX S L n kd) t) = stlR (hsM ρ n c kd) t := by
  refine settle_gen (fun i j => ?_) ?_
  · unfold hcX hsM
    rw [cdq_iff (it_ln3 h3 i) (it_ln3 h3 j)]
    have ri := it_R (kd := kd) h i
    have rj := it_R (kd := kd) h j
    have l3 : ∀ i, ∀ m, m < 3 * n → ln3 (itM ρ n c kd i m) := by
      intro i m hm
      have r := it_R (kd := kd) h i (m % 3) (Nat.mod_lt _ (by decide))
      have a := r.2.2.1 (m / 3) (by omega)
      have b := r.2.2.2 (m / 3) (by omega)
      have a : itX S L n kd i (m % 3) (m / 3) = itM ρ n c kd i (3 * (m / 3) + m % 3) := a
      rw [show 3 * (m / 3) + m % 3 = m by omega] at a
      rw [← a]; exact b
    rw [tell_iff (by omega) (l3 i) (l3 j)]
    constructor
    · intro e m hm
      have a : itX S L n kd i (m % 3) (m / 3) = itM ρ n c kd i (3 * (m / 3) + m % 3) := (ri (m % 3) (Nat.mod_lt _ (by decide))).2.2.1 (m / 3) (by omega)
      have b : itX S L n kd j (m % 3) (m / 3) = itM ρ n c kd j (3 * (m / 3) + m % 3) := (rj (m % 3) (Nat.mod_lt _ (by decide))).2.2.1 (m / 3) (by omega)
      rw [show 3 * (m / 3) + m % 3 = m by omega] at a b
      rw [← a, ← b]; exact e _ (Nat.mod_lt _ (by decide)) _ (by omega)
    · intro e q hq m hm
      by_cases hmn : m < n
      · have a : itX S L n kd i q m = itM ρ n c kd i (3 * m + q) := (ri q hq).2.2.1 m hmn
        have b : itX S L n kd j q m = itM ρ n c kd j (3 * m + q) := (rj q hq).2.2.1 m hmn
        rw [a, b]; exact e _ (by omega)
      · rw [it_out hmn, it_out hmn]
  · obtain ⟨i, hi, e⟩ := it_fix (S := S) (n := n) (kd := kd) hn h3
    exact ⟨i, hi, by unfold hcX; rw [e]⟩
