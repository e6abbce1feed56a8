/-! ===== the class beside the reference: pulls, sums, what is felt ===== -/
def ln3 (x : Int32) : Prop := x = -1 ∨ x = 0 ∨ x = 1
theorem ln3_0 : ln3 0 := Or.inr (Or.inl rfl)
theorem ln3_sgn (x : Int32) : ln3 (sgn x) := by
  unfold sgn ln3
  split
  · exact Or.inr (Or.inr rfl)
  · split
    · exact Or.inl rfl
    · exact Or.inr (Or.inl rfl)
theorem mulm1 (w : Int32) : w * -1 = -w := by rw [Int32.mul_neg, Int32.mul_one]
theorem pull_eq {k : Nat} {w x a b : Int32} (hk : k ≤ 4) (ha : ln3 a) (hb : ln3 b) : pullX k w x a b = pullK k w x a b := by
  rcases (show k = 0 ∨ k = 1 ∨ k = 2 ∨ k = 3 ∨ k = 4 by omega) with rfl | rfl | rfl | rfl | rfl
  · rfl
  · show 2 * w * x = 2 * (w * x); exact Int32.mul_assoc _ _ _
  · show -w * x = -(w * x); exact Int32.neg_mul _ _
  · show w * (if a = b then a else 0) = if a + b = 2 then w else if a + b = -2 then -w else 0
    rcases ha with rfl | rfl | rfl <;> rcases hb with rfl | rfl | rfl
    · show w * -1 = -w; exact mulm1 w
    · show w * 0 = 0; exact Int32.mul_zero
    · show w * 0 = 0; exact Int32.mul_zero
    · show w * 0 = 0; exact Int32.mul_zero
    · show w * 0 = 0; exact Int32.mul_zero
    · show w * 0 = 0; exact Int32.mul_zero
    · show w * 0 = 0; exact Int32.mul_zero
    · show w * 0 = 0; exact Int32.mul_zero
    · show w * 1 = w; exact Int32.mul_one _
  · show (if (if a = b then a else 0) = 0 then w * x else w * (if a = b then a else 0)) = if a + b = 2 then w else if a + b = -2 then -w else w * x
    rcases ha with rfl | rfl | rfl <;> rcases hb with rfl | rfl | rfl
    · show w * -1 = -w; exact mulm1 w
    · rfl
    · rfl
    · rfl
    · rfl
    · rfl
    · rfl
    · rfl
    · show w * 1 = w; exact Int32.mul_one _
/-- all that the sum of one question goes by -/
def SmR (n c : Nat) (S L ρ : Nat → Nat → Int32) (q : Nat) : Prop := (∀ m, m < n → S 1 m = ρ 3 m) ∧ (∀ m, m < n → cuX S m = c.testBit m) ∧ (∀ m, m < n → L q m = ρ 4 (3 * m + q)) ∧ (∀ m, m < n → ln3 (L q m))
theorem lnA_eq {n c q m : Nat} {S L ρ : Nat → Nat → Int32} (h : SmR n c S L ρ q) (hm : m < n) : lnA (leX L) (cuX S) m q = lnA (leM ρ) (cuM c) m q := by
  unfold lnA leX leM cuM
  rw [h.2.1 m hm]
  by_cases h0 : 0 < m ∧ c.testBit m = false
  · rw [if_pos h0, if_pos h0, h.2.2.1 (m - 1) (by omega)]
  · rw [if_neg h0, if_neg h0]
theorem lnB_eqM {n c q m : Nat} {S L ρ : Nat → Nat → Int32} (h : SmR n c S L ρ q) : lnB n (leX L) (cuX S) m q = lnB n (leM ρ) (cuM c) m q := by
  unfold lnB leX leM cuM
  by_cases h1 : m + 1 < n
  · rw [h.2.1 (m + 1) h1, h.2.2.1 (m + 1) h1]
  · rw [if_neg (fun q => h1 q.1), if_neg (fun q => h1 q.1)]
theorem ln3_lnA {n c q m : Nat} {S L ρ : Nat → Nat → Int32} (h : SmR n c S L ρ q) (hm : m < n) : ln3 (lnA (leX L) (cuX S) m q) := by
  unfold lnA
  split
  · exact h.2.2.2 (m - 1) (by omega)
  · exact ln3_0
theorem ln3_lnB {n c q m : Nat} {S L ρ : Nat → Nat → Int32} (h : SmR n c S L ρ q) : ln3 (lnB n (leX L) (cuX S) m q) := by
  unfold lnB
  split
  · rename_i h1; exact h.2.2.2 (m + 1) h1.1
  · exact ln3_0
theorem pl_eq {n c q m : Nat} {kd : Nat → Nat} {S L ρ : Nat → Nat → Int32} (h : SmR n c S L ρ q) (hk : kd m ≤ 4) (hm : m < n) : plX S L n kd q m = plM ρ n c kd q m := by
  unfold plX plM pl
  rw [pull_eq hk (ln3_lnA h hm) (ln3_lnB h), lnA_eq h hm, lnB_eqM h, h.1 m hm]
  show pullK _ _ (L q m) _ _ = _
  rw [h.2.2.1 m hm]; rfl
theorem ffe_ge {cu : Nat → Bool} : ∀ {d i k : Nat}, k ≤ d → (∀ j, i ≤ j → j < i + k → cu j = false) → i + k ≤ ffe cu d i
  | 0, i, k, h1, _ => by simp only [ffe]; omega
  | d + 1, i, k, h1, h2 => by
    simp only [ffe]
    by_cases hk : k = 0
    · subst hk; have := show i ≤ ffe cu d (i + 1) from Nat.le_trans (Nat.le_succ i) (ffe_ge (cu := cu) (d := d) (i := i + 1) (k := 0) (Nat.zero_le _) (fun j _ _ => by omega)); split <;> omega
    · rw [if_neg (by rw [h2 i (Nat.le_refl i) (by omega)]; decide)]
      have := ffe_ge (cu := cu) (d := d) (i := i + 1) (k := k - 1) (by omega) (fun j a b => h2 j (by omega) (by omega))
      omega
theorem mod0 {c k : Nat} : c % 2 ^ k = 0 ↔ ∀ j, j < k → c.testBit j = false := by
  constructor
  · intro h j hj
    have h1 := Nat.testBit_mod_two_pow c k j
    rw [h, Nat.zero_testBit] at h1
    simpa [hj] using h1.symm
  · intro h
    apply Nat.eq_of_testBit_eq
    intro j
    rw [Nat.testBit_mod_two_pow, Nat.zero_testBit]
    by_cases hj : j < k
    · rw [h j hj]; simp
    · simp [hj]
theorem felt_iff {cu : Nat → Bool} {n c m : Nat} (hc : ∀ j, j < n → cu j = c.testBit j) (hm : m < n) : m < ffe cu n 0 ↔ c % 2 ^ (m + 1) = 0 := by
  rw [mod0]
  constructor
  · intro h j hj
    rw [← hc j (by omega)]
    exact ffe_not (d := n) (i := 0) (Nat.zero_le j) (by omega)
  · intro h
    have := ffe_ge (cu := cu) (d := n) (i := 0) (k := m + 1) (by omega) (fun j _ b => by rw [hc j (by omega)]; exact h j (by omega))
    omega
theorem bx_if {g : Nat → Int32} {f : Nat} : ∀ {n : Nat}, f ≤ n → bx_sum (fun m => if m < f then g m else 0) n = bx_sum g f
  | 0, h => by rw [show f = 0 by omega]; rfl
  | n + 1, h => by
    show bx_sum _ n + (if n < f then g n else 0) = _
    by_cases e : f = n + 1
    · subst e
      rw [if_pos (by omega), bx_cong (g := g) (fun k hk => if_pos (by omega))]; rfl
    · rw [if_neg (by omega), bx_if (by omega)]; exact Int32.add_zero _
theorem sm_eq {n c q : Nat} {kd : Nat → Nat} {S L ρ : Nat → Nat → Int32} (h : SmR n c S L ρ q) (hk : ∀ m, m < n → kd m ≤ 4) : smX S L n kd q = smM ρ n c kd q := by
  unfold smX smM
  have hf := ffe_le (cuX S) n 0
  rw [← bx_if (n := n) (f := ffe (cuX S) n 0) (by omega)]
  refine bx_cong (fun m hm => ?_)
  have h1 := felt_iff (cu := cuX S) h.2.1 hm
  by_cases e : m < ffe (cuX S) n 0
  · rw [if_pos e, if_pos (h1.mp e), pl_eq h (hk m hm) hm]
  · rw [if_neg e, if_neg (fun q => e (h1.mpr q))]
theorem fbits_tb (c : Nat) : ∀ n m, (fbits c n).testBit m = decide (m < n ∧ c % 2 ^ (m + 1) = 0)
  | 0, m => by simp [fbits]
  | n + 1, m => by
    simp only [fbits]
    rw [Nat.testBit_or, fbits_tb c n m]
    by_cases h : c % 2 ^ (n + 1) = 0
    · rw [if_pos h, Nat.one_mul, Nat.testBit_two_pow]
      by_cases e : n = m
      · subst e; simp [h]
      · by_cases e2 : m < n
        · simp [e2, show m < n + 1 by omega, e]
        · simp [e2, show ¬ m < n + 1 by omega, e]
    · rw [if_neg h, Nat.zero_testBit]
      by_cases e : n = m
      · subst e; simp [h]
      · by_cases e2 : m < n
        · simp [e2, show m < n + 1 by omega]
        · simp [e2, show ¬ m < n + 1 by omega]
theorem fb_eq {cu : Nat → Bool} {n c : Nat} (hc : ∀ j, j < n → cu j = c.testBit j) : fbits c n = 2 ^ ffe cu n 0 - 1 := by
  apply Nat.eq_of_testBit_eq
  intro m
  rw [fbits_tb, Nat.testBit_two_pow_sub_one]
  have hf := ffe_le cu n 0
  by_cases hm : m < n
  · have := felt_iff hc hm
    by_cases e : m < ffe cu n 0
    · simp [hm, e, this.mp e]
    · simp [hm, e, show ¬ c % 2 ^ (m + 1) = 0 from fun q => e (this.mpr q)]
  · simp [hm, show ¬ m < ffe cu n 0 by omega]
theorem pcn_full : ∀ f, f ≤ 8 → pcn (2 ^ f - 1) 8 = f := by decide
theorem pcn_fb {cu : Nat → Bool} {n c : Nat} (hn : n ≤ 8) (hc : ∀ j, j < n → cu j = c.testBit j) : pcn (fbits c n) 8 = ffe cu n 0 := by
  rw [fb_eq hc, pcn_full _ (by have := ffe_le cu n 0; omega)]
/-- a tide: one lean -/
theorem dr_eq (k : Nat) (x a b : Int32) : drX k x a b = drf k x a b := by
  unfold drX drf sgn
  have e : x + a + b = a + x + b := by rw [Int32.add_comm x a]
  rw [e]
  by_cases h2 : k = 2
  · rw [if_neg (fun q => q.2 h2), if_pos (Or.inl h2)]
  · by_cases h0 : a + x + b = 0
    · rw [if_neg (fun q => q.1 h0), if_pos (Or.inr h0)]
    · have hn : ¬ (k = 2 ∨ a + x + b = 0) := fun q => q.elim h2 h0
      rw [if_pos ⟨h0, h2⟩, if_neg hn]
      by_cases h1 : 0 < a + x + b
      · rw [if_pos h1, if_pos h1]
      · rw [if_neg h1, if_neg h1, if_pos]
        exact Int32.lt_of_le_of_ne (Int32.not_lt.mp h1) h0
theorem df_eq {n c q m : Nat} {kd : Nat → Nat} {S L ρ : Nat → Nat → Int32} (h : SmR n c S L ρ q) (hq : q < 3) (hm : m < n) : dfX S L n kd q m = td4 ρ n c kd (3 * m + q) := by
  unfold dfX td4 tdM
  rw [if_pos ⟨hq, hm⟩, if_pos (by omega), dr_eq, show (3 * m + q) / 3 = m by omega, show (3 * m + q) % 3 = q by omega, lnA_eq h hm, lnB_eqM h]
  unfold leM
  rw [h.2.2.1 m hm]
theorem df_ln3 {n c q m : Nat} {kd : Nat → Nat} {S L ρ : Nat → Nat → Int32} (h : ln3 (L q m)) : ln3 (dfX S L n kd q m) := by
  unfold dfX
  split
  · unfold drX
    split
    · exact ln3_sgn _
    · exact h
  · exact h
theorem sgn1 {x : Int32} : sgn x = 1 ↔ 0 < x := by
  unfold sgn
  constructor
  · intro h
    by_cases h1 : 0 < x
    · exact h1
    · rw [if_neg h1] at h
      split at h <;> exact absurd h (by decide)
  · intro h; rw [if_pos h]
