/-! ===== the fewest cuts ===== -/
/-- b is the best of those that P takes: least by w, then by itself -/
def Bst (P : Nat → Prop) (w : Nat → Nat) : Option Nat → Prop
  | none => ∀ i, ¬ P i
  | some j => P j ∧ ∀ i, P i → w j < w i ∨ (w j = w i ∧ j ≤ i)
theorem Bst.uniq {P : Nat → Prop} {w : Nat → Nat} {a b : Option Nat} (ha : Bst P w a) (hb : Bst P w b) : a = b := by
  cases a with
  | none =>
    cases b with
    | none => rfl
    | some j => exact absurd hb.1 (ha j)
  | some i =>
    cases b with
    | none => exact absurd ha.1 (hb i)
    | some j =>
      have h1 := ha.2 j hb.1
      have h2 := hb.2 i ha.1
      congr 1
      omega
theorem ffe_at {cu : Nat → Bool} : ∀ {d i : Nat}, ffe cu d i < i + d → cu (ffe cu d i) = true
  | 0, i, h => absurd h (by simp only [ffe]; omega)
  | d + 1, i, h => by
    simp only [ffe] at h ⊢
    by_cases hc : cu i = true
    · rw [if_pos hc]; exact hc
    · rw [if_neg hc] at h ⊢
      exact ffe_at (d := d) (i := i + 1) (by omega)
theorem ffe_is {cu : Nat → Bool} {n t : Nat} (ht : t ≤ n) (h1 : ∀ j, j < t → cu j = false) (h2 : t = n ∨ cu t = true) : ffe cu n 0 = t := by
  have h3 := ffe_ge (cu := cu) (d := n) (i := 0) (k := t) ht (fun j _ b => h1 j (by omega))
  have h4 := ffe_le cu n 0
  rcases h2 with h2 | h2
  · omega
  · by_cases e : ffe cu n 0 = t
    · exact e
    · have := ffe_not (cu := cu) (d := n) (i := 0) (Nat.zero_le t) (by omega)
      rw [this] at h2; cases h2
theorem smM_f {ρ : Nat → Nat → Int32} {n c d q : Nat} {kd : Nat → Nat} (h : ffe (cuM c) n 0 = ffe (cuM d) n 0) : smM ρ n c kd q = smM ρ n d kd q := by
  unfold smM
  have hf := ffe_le (cuM d) n 0
  refine bx_cong (fun m hm => ?_)
  have h1 := felt_iff (cu := cuM c) (n := n) (fun j _ => rfl) hm
  have h2 := felt_iff (cu := cuM d) (n := n) (fun j _ => rfl) hm
  by_cases e : m < ffe (cuM d) n 0
  · rw [if_pos (h1.mp (by omega)), if_pos (h2.mp e)]
    unfold plM pl
    have a1 : cuM c m = false := ffe_not (d := n) (i := 0) (Nat.zero_le m) (by omega)
    have a2 : cuM d m = false := ffe_not (d := n) (i := 0) (Nat.zero_le m) e
    have eA : lnA (leM ρ) (cuM c) m q = lnA (leM ρ) (cuM d) m q := by unfold lnA; rw [a1, a2]
    have eB : lnB n (leM ρ) (cuM c) m q = lnB n (leM ρ) (cuM d) m q := by
      unfold lnB
      by_cases hm1 : m + 1 < n
      · have : cuM c (m + 1) = cuM d (m + 1) := by
          by_cases hm2 : m + 1 < ffe (cuM d) n 0
          · rw [ffe_not (cu := cuM c) (d := n) (i := 0) (Nat.zero_le _) (by omega), ffe_not (cu := cuM d) (d := n) (i := 0) (Nat.zero_le _) hm2]
          · have b1 := ffe_at (cu := cuM c) (d := n) (i := 0) (by omega)
            have b2 := ffe_at (cu := cuM d) (d := n) (i := 0) (by omega)
            rw [show m + 1 = ffe (cuM d) n 0 by omega]
            rw [h] at b1
            rw [b1, b2]
        rw [this]
      · rw [if_neg (fun q => hm1 q.1), if_neg (fun q => hm1 q.1)]
    rw [eA, eB]
  · rw [if_neg (fun q => e (by have := h1.mpr q; omega)), if_neg (fun q => e (h2.mpr q))]
def cutV (ρ : Nat → Nat → Int32) (n c : Nat) (kd : Nat → Nat) (q : Nat) (o : Int32) (i : Nat) : Prop := i &&& c = 0 ∧ sgn (smM ρ n (c ||| i) kd q) = o
theorem cutB_best {ρ : Nat → Nat → Int32} {n c q : Nat} {kd : Nat → Nat} {o : Int32} : ∀ N, Bst (fun i => i < N ∧ cutV ρ n c kd q o i) (fun i => pcn i 8) (cutB ρ n c kd q o N)
  | 0 => fun i h => absurd h.1 (by omega)
  | N + 1 => by
    have ih := cutB_best (ρ := ρ) (n := n) (c := c) (q := q) (kd := kd) (o := o) N
    simp only [cutB]
    split
    · rename_i h
      refine ⟨⟨by omega, h.1, h.2.2⟩, fun i hi => ?_⟩
      by_cases e : i = N
      · subst e; exact Or.inr ⟨rfl, Nat.le_refl _⟩
      · cases hb : cutB ρ n c kd q o N with
        | none => rw [hb] at ih; exact absurd ⟨by omega, hi.2⟩ (ih i)
        | some j =>
          rw [hb] at ih
          have h1 := h.2.1 j hb
          have h2 := ih.2 i ⟨by omega, hi.2⟩
          left; show pcn N 8 < pcn i 8
          have h2 : pcn j 8 < pcn i 8 ∨ (pcn j 8 = pcn i 8 ∧ j ≤ i) := h2
          omega
    · rename_i h
      cases hb : cutB ρ n c kd q o N with
      | none =>
        rw [hb] at ih
        intro i hi
        by_cases e : i = N
        · subst e; exact h ⟨hi.2.1, (fun j hj => by rw [hb] at hj; cases hj), hi.2.2⟩
        · exact ih i ⟨by omega, hi.2⟩
      | some j =>
        rw [hb] at ih
        refine ⟨⟨by have := ih.1.1; omega, ih.1.2⟩, fun i hi => ?_⟩
        by_cases e : i = N
        · subst e
          have : ¬ pcn i 8 < pcn j 8 := fun q => h ⟨hi.2.1, fun k hk => by rw [hb] at hk; cases hk; exact q, hi.2.2⟩
          have h3 : j < i := ih.1.1
          show pcn j 8 < pcn i 8 ∨ (pcn j 8 = pcn i 8 ∧ j ≤ i)
          omega
        · exact ih.2 i ⟨by omega, hi.2⟩
theorem pcn_two : ∀ t, t < 8 → pcn (2 ^ t) 8 = 1 := by decide
theorem cutS_R {n c q t : Nat} {S L ρ : Nat → Nat → Int32} (h : SmR n c S L ρ q) : SmR n (c ||| 2 ^ t) (cutS S t) L ρ q := by
  refine ⟨h.1, fun m hm => ?_, h.2.2⟩
  rw [Nat.testBit_or, Nat.testBit_two_pow, ← h.2.1 m hm]
  unfold cuX cutS
  rw [va_up_self]
  by_cases e : m = t
  · subst e; rw [pk_us]; simp
  · rw [pk_un e]; simp [show ¬ t = m from fun q => e q.symm]
theorem fc_char {S L : Nat → Nat → Int32} {n : Nat} {kd : Nat → Nat} {q : Nat} {o : Int32} : ∀ d i, (fcX S L n kd q o d i = none ∧ ∀ t, i ≤ t → t < i + d → ¬ sgn (smX (cutS S t) L n kd q) = o) ∨ ∃ t, i ≤ t ∧ t < i + d ∧ fcX S L n kd q o d i = some (2 ^ t) ∧ sgn (smX (cutS S t) L n kd q) = o ∧ ∀ u, i ≤ u → u < t → ¬ sgn (smX (cutS S u) L n kd q) = o
  | 0, i => Or.inl ⟨rfl, fun t h1 h2 => absurd h2 (by omega)⟩
  | d + 1, i => by
    simp only [fcX]
    by_cases h : sgn (smX (cutS S i) L n kd q) = o
    · rw [if_pos h]
      exact Or.inr ⟨i, Nat.le_refl i, by omega, by rw [Nat.one_mul], h, fun u h1 h2 => absurd h2 (by omega)⟩
    · rw [if_neg h]
      rcases fc_char (S := S) (L := L) (n := n) (kd := kd) (q := q) (o := o) d (i + 1) with ⟨h1, h2⟩ | ⟨t, h1, h2, h3, h4, h5⟩
      · refine Or.inl ⟨h1, fun t a b => ?_⟩
        by_cases e : t = i
        · subst e; exact h
        · exact h2 t (by omega) (by omega)
      · refine Or.inr ⟨t, by omega, by omega, h3, h4, fun u a b => ?_⟩
        by_cases e : u = i
        · subst e; exact h
        · exact h5 u (by omega) b
theorem cut_eq {n c q : Nat} {kd : Nat → Nat} {o : Int32} {S L ρ : Nat → Nat → Int32} (h : SmR n c S L ρ q) (hk : ∀ m, m < n → kd m ≤ 4) (hn : n ≤ 8) (hn0 : 0 < n) : ctX S L n kd q o = cutB ρ n c kd q o (1 * 2 ^ n) := by
  refine Bst.uniq (P := fun i => i < 1 * 2 ^ n ∧ cutV ρ n c kd q o i) (w := fun i => pcn i 8) ?_ (cutB_best _)
  have hp0 := Nat.two_pow_pos n
  have hfX : ffe (cuX S) n 0 = ffe (cuM c) n 0 := ffe_cong (fun j hj => h.2.1 j (by omega))
  have hf := ffe_le (cuX S) n 0
  have sX : ∀ t, smX (cutS S t) L n kd q = smM ρ n (c ||| 2 ^ t) kd q := fun t => sm_eq (cutS_R h) hk
  unfold ctX
  rw [sm_eq h hk]
  by_cases h0 : sgn (smM ρ n c kd q) = o
  · rw [if_pos h0]
    refine ⟨⟨by omega, by simp, by rw [Nat.or_zero]; exact h0⟩, fun i _ => ?_⟩
    show pcn 0 8 < pcn i 8 ∨ (pcn 0 8 = pcn i 8 ∧ 0 ≤ i)
    rw [show pcn 0 8 = 0 by decide]; omega
  · rw [if_neg h0]
    -- any set that does it has a thread among those felt that does it alone
    have key : ∀ i, cutV ρ n c kd q o i → ∃ t, t < ffe (cuX S) n 0 ∧ i.testBit t = true ∧ sgn (smM ρ n (c ||| 2 ^ t) kd q) = o := by
      intro i hi
      have hle : ffe (cuM (c ||| i)) n 0 ≤ ffe (cuM c) n 0 := by
        by_cases e : ffe (cuM (c ||| i)) n 0 ≤ ffe (cuM c) n 0
        · exact e
        · exfalso
          have h1 := ffe_le (cuM (c ||| i)) n 0
          have h2 := ffe_at (cu := cuM c) (d := n) (i := 0) (by omega)
          have h3 := ffe_not (cu := cuM (c ||| i)) (d := n) (i := 0) (Nat.zero_le (ffe (cuM c) n 0)) (by omega)
          unfold cuM at h2 h3
          rw [Nat.testBit_or, h2] at h3
          simp at h3
      have hne : ffe (cuM (c ||| i)) n 0 ≠ ffe (cuM c) n 0 := fun e => h0 (by rw [← smM_f e]; exact hi.2)
      refine ⟨ffe (cuM (c ||| i)) n 0, by omega, ?_, ?_⟩
      · have h1 := ffe_at (cu := cuM (c ||| i)) (d := n) (i := 0) (by omega)
        have h2 := ffe_not (cu := cuM c) (d := n) (i := 0) (Nat.zero_le (ffe (cuM (c ||| i)) n 0)) (by omega)
        unfold cuM at h1 h2
        rw [Nat.testBit_or] at h1
        unfold cuM
        rw [h2] at h1
        simpa using h1
      · rw [← hi.2]
        congr 1
        apply smM_f
        apply ffe_is (by omega)
        · intro j hj
          have h2 := ffe_not (cu := cuM c) (d := n) (i := 0) (Nat.zero_le j) (by omega)
          have h2 : c.testBit j = false := h2
          show (c ||| 2 ^ ffe (cuM (c ||| i)) n 0).testBit j = false
          rw [Nat.testBit_or, h2, Nat.testBit_two_pow]
          simp; omega
        · right
          unfold cuM
          rw [Nat.testBit_or, Nat.testBit_two_pow_self]; simp
    rcases fc_char (S := S) (L := L) (n := n) (kd := kd) (q := q) (o := o) (ffe (cuX S) n 0) 0 with ⟨h1, h2⟩ | ⟨t, h1, h2, h3, h4, h5⟩
    · rw [h1]
      intro i hi
      obtain ⟨t, a1, a2, a3⟩ := key i hi.2
      exact h2 t (Nat.zero_le t) (by omega) (by rw [sX]; exact a3)
    · rw [h3]
      rw [sX] at h4
      have hct : c.testBit t = false := by
        have := ffe_not (cu := cuM c) (d := n) (i := 0) (Nat.zero_le t) (by omega)
        exact this
      refine ⟨⟨?_, ?_, h4⟩, fun i hi => ?_⟩
      · rw [Nat.one_mul]; exact Nat.pow_lt_pow_right (by decide) (by omega)
      · apply Nat.eq_of_testBit_eq
        intro j
        rw [Nat.testBit_and, Nat.testBit_two_pow, Nat.zero_testBit]
        by_cases e : t = j
        · subst e; rw [hct]; simp
        · simp [e]
      · obtain ⟨u, a1, a2, a3⟩ := key i hi.2
        have htu : t ≤ u := by
          by_cases e : t ≤ u
          · exact e
          · exact absurd (by rw [sX]; exact a3) (h5 u (Nat.zero_le u) (by omega))
        have h6 := pcn_two t (by omega)
        have h7 := pcn_pos a2 (by omega)
        have h8 : 2 ^ u ≤ i := Nat.ge_two_pow_of_testBit a2
        have h9 : 2 ^ t ≤ 2 ^ u := Nat.pow_le_pow_right (by decide) htu
        show pcn (2 ^ t) 8 < pcn i 8 ∨ (pcn (2 ^ t) 8 = pcn i 8 ∧ 2 ^ t ≤ i)
        omega
