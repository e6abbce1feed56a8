/-! ===== the fewest who must be turned ===== -/
theorem smX_felt {S : Nat → Nat → Int32} {n q : Nat} {kd : Nat → Nat} {v u : Nat → Int32} (h : ∀ m, m < ffe (cuX S) n 0 → v m = u m) : smX S (fun _ => v) n kd q = smX S (fun _ => u) n kd q := by
  unfold smX
  have hf := ffe_le (cuX S) n 0
  refine bx_cong (fun m hm => ?_)
  unfold plX
  have e1 : leX (fun _ => v) m q = leX (fun _ => u) m q := h m hm
  have e2 : lnA (leX (fun _ => v)) (cuX S) m q = lnA (leX (fun _ => u)) (cuX S) m q := by
    unfold lnA
    by_cases h0 : 0 < m ∧ cuX S m = false
    · rw [if_pos h0, if_pos h0]; exact h (m - 1) (by omega)
    · rw [if_neg h0, if_neg h0]
  have e3 : lnB n (leX (fun _ => v)) (cuX S) m q = lnB n (leX (fun _ => u)) (cuX S) m q := by
    unfold lnB
    by_cases h0 : m + 1 < n ∧ cuX S (m + 1) = false
    · rw [if_pos h0, if_pos h0]
      have : m + 1 < ffe (cuX S) n 0 := by
        by_cases e : m + 1 < ffe (cuX S) n 0
        · exact e
        · have := ffe_at (cu := cuX S) (d := n) (i := 0) (by omega)
          rw [show ffe (cuX S) n 0 = m + 1 by omega, h0.2] at this; cases this
      exact h (m + 1) this
    · rw [if_neg h0, if_neg h0]
  rw [e1, e2, e3]
def turnO (ρ : Nat → Nat → Int32) (n q i : Nat) : Nat := obits (tcode ρ n q i) (ρ 4) q n
def turnV (ρ : Nat → Nat → Int32) (n c : Nat) (kd : Nat → Nat) (q : Nat) (o : Int32) (i : Nat) : Prop := sgn (smM (va_up ρ 4 (tcode ρ n q i)) n c kd q) = o
theorem turnB_best {ρ : Nat → Nat → Int32} {n c q : Nat} {kd : Nat → Nat} {o : Int32} : ∀ N, Bst (fun x => ∃ i, i < N ∧ turnO ρ n q i = x ∧ turnV ρ n c kd q o i) (fun i => pcn i 8) (turnB ρ n c kd q o N)
  | 0 => fun x h => by obtain ⟨i, hi, _⟩ := h; omega
  | N + 1 => by
    have ih := turnB_best (ρ := ρ) (n := n) (c := c) (q := q) (kd := kd) (o := o) N
    simp only [turnB]
    split
    · rename_i h
      refine ⟨⟨N, by omega, rfl, h.2⟩, fun x hx => ?_⟩
      obtain ⟨i, hi, hix, hv⟩ := hx
      show pcn (turnO ρ n q N) 8 < pcn x 8 ∨ (pcn (turnO ρ n q N) 8 = pcn x 8 ∧ turnO ρ n q N ≤ x)
      by_cases e : i = N
      · subst e; rw [hix]; omega
      · cases hb : turnB ρ n c kd q o N with
        | none => rw [hb] at ih; exact absurd ⟨i, by omega, hix, hv⟩ (ih x)
        | some j =>
          rw [hb] at ih
          have h1 : pcn (turnO ρ n q N) 8 < pcn j 8 ∨ (pcn (turnO ρ n q N) 8 = pcn j 8 ∧ turnO ρ n q N < j) := h.1 j hb
          have h2 : pcn j 8 < pcn x 8 ∨ (pcn j 8 = pcn x 8 ∧ j ≤ x) := ih.2 x ⟨i, by omega, hix, hv⟩
          omega
    · rename_i h
      cases hb : turnB ρ n c kd q o N with
      | none =>
        rw [hb] at ih
        intro x hx
        obtain ⟨i, hi, hix, hv⟩ := hx
        by_cases e : i = N
        · subst e; exact h ⟨(fun j hj => by rw [hb] at hj; cases hj), hv⟩
        · exact ih x ⟨i, by omega, hix, hv⟩
      | some j =>
        rw [hb] at ih
        obtain ⟨⟨k, hk1, hk2⟩, h2⟩ := ih
        refine ⟨⟨k, by omega, hk2⟩, fun x hx => ?_⟩
        obtain ⟨i, hi, hix, hv⟩ := hx
        by_cases e : i = N
        · subst e
          have : ¬ (pcn (turnO ρ n q i) 8 < pcn j 8 ∨ (pcn (turnO ρ n q i) 8 = pcn j 8 ∧ turnO ρ n q i < j)) := fun q => h ⟨(fun k hk => by rw [hb] at hk; cases hk; exact q), hv⟩
          show pcn j 8 < pcn x 8 ∨ (pcn j 8 = pcn x 8 ∧ j ≤ x)
          rw [← hix]; omega
        · exact h2 x ⟨i, by omega, hix, hv⟩
theorem tw_char {C : Nat → Bool} {k : Nat} : ∀ d x, (twX C k d x = none ∧ ∀ u, x ≤ u → u < x + d → ¬ (pcn u 8 = k ∧ C u = true)) ∨ ∃ u, x ≤ u ∧ u < x + d ∧ twX C k d x = some u ∧ pcn u 8 = k ∧ C u = true ∧ ∀ y, x ≤ y → y < u → ¬ (pcn y 8 = k ∧ C y = true)
  | 0, x => Or.inl ⟨rfl, fun u h1 h2 => absurd h2 (by omega)⟩
  | d + 1, x => by
    simp only [twX]
    by_cases h : pcn x 8 = k ∧ C x = true
    · rw [if_pos h]; exact Or.inr ⟨x, Nat.le_refl x, by omega, rfl, h.1, h.2, fun y a b => absurd b (by omega)⟩
    · rw [if_neg h]
      rcases tw_char (C := C) (k := k) d (x + 1) with ⟨h1, h2⟩ | ⟨u, h1, h2, h3, h4, h5, h6⟩
      · refine Or.inl ⟨h1, fun u a b => ?_⟩
        by_cases e : u = x
        · subst e; exact h
        · exact h2 u (by omega) (by omega)
      · refine Or.inr ⟨u, by omega, by omega, h3, h4, h5, fun y a b => ?_⟩
        by_cases e : y = x
        · subst e; exact h
        · exact h6 y (by omega) b
theorem tm_best {C : Nat → Bool} {f : Nat} : ∀ d k, (∀ x, x < 2 ^ f → C x = true → k ≤ pcn x 8) → (∀ x, x < 2 ^ f → C x = true → pcn x 8 < k + d) → Bst (fun x => x < 2 ^ f ∧ C x = true) (fun i => pcn i 8) (tmX C f d k)
  | 0, k, h1, h2 => fun x hx => by have := h1 x hx.1 hx.2; have := h2 x hx.1 hx.2; omega
  | d + 1, k, h1, h2 => by
    simp only [tmX]
    rcases tw_char (C := C) (k := k) (2 ^ f) 0 with ⟨a1, a2⟩ | ⟨u, a1, a2, a3, a4, a5, a6⟩
    · rw [if_pos a1]
      refine tm_best d (k + 1) (fun x hx hc => ?_) (fun x hx hc => by have := h2 x hx hc; omega)
      have := h1 x hx hc
      have : ¬ pcn x 8 = k := fun e => a2 x (Nat.zero_le x) (by omega) ⟨e, hc⟩
      omega
    · rw [a3, if_neg (by simp)]
      refine ⟨⟨by omega, a5⟩, fun x hx => ?_⟩
      have b1 := h1 x hx.1 hx.2
      show pcn u 8 < pcn x 8 ∨ (pcn u 8 = pcn x 8 ∧ u ≤ x)
      by_cases e : pcn x 8 = k
      · have : ¬ x < u := fun q => a6 x (Nat.zero_le x) q ⟨e, hx.2⟩
        omega
      · omega
theorem oth_ok {z : Int32} (hz : ln3 z) {b : Nat} (hb : b < 2) : ln3 (othX z b) ∧ ¬ othX z b = z := by
  unfold ln3
  rcases (show b = 0 ∨ b = 1 by omega) with rfl | rfl <;> rcases hz with rfl | rfl | rfl <;> decide
theorem oth_ex {z v : Int32} (hz : ln3 z) (hv : ln3 v) (h : ¬ v = z) : ∃ b, b < 2 ∧ othX z b = v := by
  rcases hz with rfl | rfl | rfl <;> rcases hv with rfl | rfl | rfl
  · exact absurd rfl h
  · exact ⟨0, by decide, by decide⟩
  · exact ⟨1, by decide, by decide⟩
  · exact ⟨1, by decide, by decide⟩
  · exact absurd rfl h
  · exact ⟨0, by decide, by decide⟩
  · exact ⟨0, by decide, by decide⟩
  · exact ⟨1, by decide, by decide⟩
  · exact absurd rfl h
theorem tb_eq {x y j : Nat} (h : x.testBit j = y.testBit j) : x / 2 ^ j % 2 = y / 2 ^ j % 2 := by
  have h1 := tb_div x j
  have h2 := tb_div y j
  have h3 := Nat.mod_lt (x / 2 ^ j) (show 2 > 0 by decide)
  have h4 := Nat.mod_lt (y / 2 ^ j) (show 2 > 0 by decide)
  rw [h] at h1
  by_cases hb : y.testBit j = true
  · rw [h1.mp hb, h2.mp hb]
  · have a1 : ¬ x / 2 ^ j % 2 = 1 := fun q => hb (h1.mpr q)
    have a2 : ¬ y / 2 ^ j % 2 = 1 := fun q => hb (h2.mpr q)
    omega
theorem pcn_mono (x : Nat) : ∀ {a b : Nat}, a ≤ b → pcn x a ≤ pcn x b := by
  intro a b h
  induction h with
  | refl => exact Nat.le_refl _
  | step h ih => exact Nat.le_trans ih (Nat.le_add_right _ _)
theorem way_ex {g v : Nat → Int32} {x : Nat} : ∀ k, (∀ m, m < k → x.testBit m = true → ln3 (g m) ∧ ln3 (v m) ∧ ¬ v m = g m) → ∃ y, y < 2 ^ pcn x k ∧ ∀ m, m < k → x.testBit m = true → othX (g m) (y / 2 ^ pcn x m % 2) = v m
  | 0, _ => ⟨0, by show 0 < 2 ^ 0; decide, fun m hm => absurd hm (by omega)⟩
  | k + 1, h => by
    obtain ⟨y, hy, hy2⟩ := way_ex k (fun m hm => h m (by omega))
    by_cases hb : x.testBit k = true
    · obtain ⟨b, hb2, hbv⟩ := oth_ex (h k (by omega) hb).1 (h k (by omega) hb).2.1 (h k (by omega) hb).2.2
      have hp : pcn x (k + 1) = pcn x k + 1 := by simp only [pcn]; rw [(tb_div x k).mp hb]
      have hlow : ∀ m, m < k → x.testBit m = true → pcn x m < pcn x k := by
        intro m hm hbm
        have h1 := pcn_mono x (show m + 1 ≤ k by omega)
        have h2 : pcn x (m + 1) = pcn x m + 1 := by simp only [pcn]; rw [(tb_div x m).mp hbm]
        omega
      have e2 : 2 ^ (pcn x k + 1) = 2 ^ pcn x k * 2 := Nat.pow_succ 2 _
      rcases (show b = 0 ∨ b = 1 by omega) with rfl | rfl
      · refine ⟨y, by rw [hp]; omega, fun m hm hbm => ?_⟩
        by_cases e : m = k
        · subst e; rw [Nat.div_eq_of_lt hy]; exact hbv
        · exact hy2 m (by omega) hbm
      · refine ⟨2 ^ pcn x k + y, by rw [hp]; omega, fun m hm hbm => ?_⟩
        by_cases e : m = k
        · subst e; rw [(tb_div _ _).mp (tb_hi hy)]; exact hbv
        · rw [tb_eq (tb_lo (hlow m (by omega) hbm))]; exact hy2 m (by omega) hbm
    · have hp : pcn x (k + 1) = pcn x k := by
        simp only [pcn]
        have : ¬ x / 2 ^ k % 2 = 1 := fun q => hb ((tb_div x k).mpr q)
        omega
      refine ⟨y, by rw [hp]; exact hy, fun m hm hbm => ?_⟩
      by_cases e : m = k
      · subst e; exact absurd hbm hb
      · exact hy2 m (by omega) hbm
theorem code_ex {v : Nat → Int32} : ∀ n, (∀ m, m < n → ln3 (v m)) → ∃ i, i < 3 ^ n ∧ ∀ m, m < n → nI (i / 3 ^ m % 3) - 1 = v m
  | 0, _ => ⟨0, by decide, fun m hm => absurd hm (by omega)⟩
  | n + 1, h => by
    obtain ⟨i, hi, hi2⟩ := code_ex n (fun m hm => h m (by omega))
    obtain ⟨d, hd, hd2⟩ := ln3_nat (h n (by omega))
    have e3 : 3 ^ (n + 1) = 3 ^ n * 3 := Nat.pow_succ 3 n
    have hp : 0 < 3 ^ n := Nat.pow_pos (by decide)
    have hdm : 3 ^ n * d ≤ 3 ^ n * 2 := Nat.mul_le_mul_left _ (by omega)
    refine ⟨i + 3 ^ n * d, by omega, fun m hm => ?_⟩
    by_cases e : m = n
    · subst e
      rw [Nat.add_mul_div_left _ _ hp, Nat.div_eq_of_lt hi, Nat.zero_add, Nat.mod_eq_of_lt hd, hd2]
    · have e4 : 3 ^ n = 3 ^ m * (3 * 3 ^ (n - m - 1)) := by rw [← Nat.mul_assoc, ← Nat.pow_succ, ← Nat.pow_add]; congr 1; omega
      rw [e4, Nat.mul_assoc, Nat.add_mul_div_left _ _ (Nat.pow_pos (by decide)), Nat.mul_assoc, Nat.add_mul_mod_self_left]
      exact hi2 m (by omega)
theorem obits_tb (f g : Nat → Int32) (q : Nat) : ∀ n m, (obits f g q n).testBit m = decide (m < n ∧ ¬ f (3 * m + q) = g (3 * m + q))
  | 0, m => by simp [obits]
  | n + 1, m => by
    simp only [obits]
    rw [Nat.testBit_or, obits_tb f g q n m]
    by_cases h : f (3 * n + q) = g (3 * n + q)
    · rw [if_pos h, Nat.zero_testBit]
      by_cases e : m = n
      · subst e; simp [h]
      · by_cases e2 : m < n
        · simp [e2, show m < n + 1 by omega]
        · simp [e2, show ¬ m < n + 1 by omega]
    · rw [if_neg h, Nat.one_mul, Nat.testBit_two_pow]
      by_cases e : m = n
      · subst e; simp [h]
      · by_cases e2 : m < n
        · simp [e2, show m < n + 1 by omega, show ¬ n = m by omega]
        · simp [e2, show ¬ m < n + 1 by omega, show ¬ n = m by omega]
theorem tcode_R {n c q i : Nat} {S L ρ : Nat → Nat → Int32} (h : SmR n c S L ρ q) (hq : q < 3) : SmR n c S (fun _ m => nI (i / 3 ^ m % 3) - 1) (va_up ρ 4 (tcode ρ n q i)) q := by
  refine ⟨h.1, h.2.1, fun m hm => ?_, fun m hm => ?_⟩
  · show _ = tcode ρ n q i (3 * m + q)
    unfold tcode
    rw [if_pos ⟨by omega, by omega⟩, show (3 * m + q) / 3 = m by omega]
  · have := Nat.mod_lt (i / 3 ^ m) (show 3 > 0 by decide)
    show ln3 (nI (i / 3 ^ m % 3) - 1)
    unfold ln3
    rcases (show i / 3 ^ m % 3 = 0 ∨ i / 3 ^ m % 3 = 1 ∨ i / 3 ^ m % 3 = 2 by omega) with e | e | e <;> rw [e] <;> decide
theorem any_ex {P : Nat → Bool} : ∀ {k : Nat}, anyX P k = true → ∃ y, y < k ∧ P y = true
  | 0, h => by cases h
  | k + 1, h => by
    simp only [anyX, Bool.or_eq_true] at h
    rcases h with h | h
    · obtain ⟨y, a, b⟩ := any_ex h; exact ⟨y, by omega, b⟩
    · exact ⟨k, by omega, h⟩
theorem turn_eq {n c q : Nat} {kd : Nat → Nat} {o : Int32} {S L ρ : Nat → Nat → Int32} (h : SmR n c S L ρ q) (hk : ∀ m, m < n → kd m ≤ 4) (hn : n ≤ 8) (hq : q < 3) : tuX S L n kd q o = turnB ρ n c kd q o (3 ^ n) := by
  refine Bst.uniq (P := fun x => ∃ i, i < 3 ^ n ∧ turnO ρ n q i = x ∧ turnV ρ n c kd q o i) (w := fun i => pcn i 8) ?_ (turnB_best _)
  have hf := ffe_le (cuX S) n 0
  have hpf : 2 ^ ffe (cuX S) n 0 ≤ 2 ^ n := Nat.pow_le_pow_right (by decide) (by omega)
  have hp := p2le hn
  have sv : ∀ i, smM (va_up ρ 4 (tcode ρ n q i)) n c kd q = smX S (fun _ m => nI (i / 3 ^ m % 3) - 1) n kd q := fun i => (sm_eq (tcode_R h hq) hk).symm
  have otb : ∀ i m, (turnO ρ n q i).testBit m = decide (m < n ∧ ¬ nI (i / 3 ^ m % 3) - 1 = L q m) := by
    intro i m
    unfold turnO
    rw [obits_tb]
    by_cases hm : m < n
    · unfold tcode
      rw [if_pos ⟨by omega, by omega⟩, show (3 * m + q) / 3 = m by omega, h.2.2.1 m hm]
    · simp [hm]
  have hX := tm_best (C := cmX S L n kd q o) (f := ffe (cuX S) n 0) (ffe (cuX S) n 0 + 1) 0 (fun x _ _ => Nat.zero_le _) (fun x hx _ => by have := pcn_le_of_lt hx 8; omega)
  -- (a)
  have hA : ∀ x, x < 2 ^ ffe (cuX S) n 0 ∧ cmX S L n kd q o x = true → ∃ i, i < 3 ^ n ∧ turnO ρ n q i = x ∧ turnV ρ n c kd q o i := by
    intro x hx
    obtain ⟨y, hy, hy2⟩ := any_ex hx.2
    have hy2 : sgn (smX S (fun _ => loX (L q) x y) n kd q) = o := by simpa using hy2
    have hv : ∀ m, m < n → ln3 (loX (L q) x y m) := by
      intro m hm
      unfold loX
      split
      · exact (oth_ok (h.2.2.2 m hm) (Nat.mod_lt _ (by decide))).1
      · exact h.2.2.2 m hm
    obtain ⟨i, hi, hi2⟩ := code_ex n hv
    refine ⟨i, hi, ?_, ?_⟩
    · apply Nat.eq_of_testBit_eq
      intro m
      rw [otb]
      by_cases hm : m < n
      · rw [hi2 m hm]
        unfold loX
        by_cases hb : x.testBit m = true
        · rw [if_pos hb, hb]; simp [hm, (oth_ok (h.2.2.2 m hm) (Nat.mod_lt (y / 2 ^ pcn x m) (show 2 > 0 by decide))).2]
        · rw [if_neg hb]; simp [hm, hb]
      · have : x.testBit m = false := Nat.testBit_lt_two_pow (Nat.lt_of_lt_of_le (show x < 2 ^ n by omega) (Nat.pow_le_pow_right (by decide) (by omega)))
        rw [this]; simp [hm]
    · unfold turnV
      rw [sv, ← hy2]
      congr 1
      exact smX_congL (L := fun _ m => nI (i / 3 ^ m % 3) - 1) (M := fun _ => loX (L q) x y) (fun m hm => hi2 m hm)
  -- (b)
  have hB : ∀ x, (∃ i, i < 3 ^ n ∧ turnO ρ n q i = x ∧ turnV ρ n c kd q o i) → ∃ z, (z < 2 ^ ffe (cuX S) n 0 ∧ cmX S L n kd q o z = true) ∧ pcn z 8 ≤ pcn x 8 ∧ z ≤ x := by
    intro x hx
    obtain ⟨i, hi, hix, hv⟩ := hx
    have ztb : ∀ m, (x % 2 ^ ffe (cuX S) n 0).testBit m = decide (m < ffe (cuX S) n 0 ∧ ¬ nI (i / 3 ^ m % 3) - 1 = L q m) := by
      intro m
      rw [Nat.testBit_mod_two_pow, ← hix, otb]
      by_cases hm : m < ffe (cuX S) n 0
      · simp [hm, show m < n by omega]
      · simp [hm]
    have hz : x % 2 ^ ffe (cuX S) n 0 < 2 ^ ffe (cuX S) n 0 := Nat.mod_lt _ (Nat.two_pow_pos _)
    refine ⟨x % 2 ^ ffe (cuX S) n 0, ⟨hz, ?_⟩, ?_, Nat.mod_le _ _⟩
    · have l3 := (tcode_R (i := i) h hq).2.2.2
      obtain ⟨y, hy, hy2⟩ := way_ex (g := L q) (v := fun m => nI (i / 3 ^ m % 3) - 1) (x := x % 2 ^ ffe (cuX S) n 0) 8 (fun m hm hb => by
        rw [ztb] at hb
        simp only [decide_eq_true_eq] at hb
        exact ⟨h.2.2.2 m (by omega), l3 m (by omega), hb.2⟩)
      refine anyX_of (y := y) ?_ _ hy
      simp only [decide_eq_true_eq]
      unfold turnV at hv
      rw [sv] at hv
      rw [← hv]
      congr 1
      refine smX_felt (v := loX (L q) (x % 2 ^ ffe (cuX S) n 0) y) (u := fun m => nI (i / 3 ^ m % 3) - 1) (fun m hm => ?_)
      unfold loX
      by_cases hb : (x % 2 ^ ffe (cuX S) n 0).testBit m = true
      · rw [if_pos hb]; exact hy2 m (by omega) hb
      · rw [if_neg hb]
        rw [ztb] at hb
        simp only [decide_eq_true_eq] at hb
        by_cases e : nI (i / 3 ^ m % 3) - 1 = L q m
        · exact e.symm
        · exact absurd ⟨hm, e⟩ hb
    · refine pcn_sub 8 (fun j _ hb => ?_)
      rw [Nat.testBit_mod_two_pow] at hb
      simp at hb
      exact hb.2
  unfold tuX
  cases hb : tmX (cmX S L n kd q o) (ffe (cuX S) n 0) (ffe (cuX S) n 0 + 1) 0 with
  | none =>
    rw [hb] at hX
    intro x hx
    obtain ⟨z, hz, _⟩ := hB x hx
    exact hX z hz
  | some j =>
    rw [hb] at hX
    refine ⟨hA j hX.1, fun x hx => ?_⟩
    obtain ⟨z, hz, h1, h2⟩ := hB x hx
    have h3 : pcn j 8 < pcn z 8 ∨ (pcn j 8 = pcn z 8 ∧ j ≤ z) := hX.2 z hz
    show pcn j 8 < pcn x 8 ∨ (pcn j 8 = pcn x 8 ∧ j ≤ x)
    omega
