/-! ===== say and chance ===== -/
theorem sub_lt {F f x : Nat} (hF : F = 2 ^ f - 1) (hf : f ≤ 8) (hx : x < 256) : x &&& (F ^^^ 255) = 0 ↔ x < 2 ^ f := by
  rw [sub_iff hx]
  constructor
  · intro h
    apply Nat.lt_pow_two_of_testBit
    intro i hi
    by_cases h8 : i < 8
    · cases q : x.testBit i with
      | false => rfl
      | true =>
        have := h i h8 q
        rw [hF, Nat.testBit_two_pow_sub_one] at this
        simp at this; omega
    · exact Nat.testBit_lt_two_pow (Nat.lt_of_lt_of_le hx (show 256 ≤ 2 ^ i from Nat.pow_le_pow_right (by decide : 0 < 2) (show 8 ≤ i by omega)))
  · intro h i hi hx1
    rw [hF, Nat.testBit_two_pow_sub_one]
    have : i < f := by
      by_cases q : i < f
      · exact q
      · rw [Nat.testBit_lt_two_pow (Nat.lt_of_lt_of_le h (Nat.pow_le_pow_right (by decide) (by omega)))] at hx1; simp at hx1
    simp [this]
theorem pos_eq (x : Int32) : posPart x = if x < 0 then 0 else x := by
  unfold posPart
  by_cases h : 0 < x
  · rw [if_pos h, if_neg (fun q => Int32.lt_irrefl (Int32.lt_trans h q))]
  · rw [if_neg h]
    by_cases h2 : x < 0
    · rw [if_pos h2]
    · rw [if_neg h2]; exact (Int32.le_antisymm (Int32.not_lt.mp h) (Int32.not_lt.mp h2)).symm
theorem pf_pos {S L : Nat → Nat → Int32} {n : Nat} {kd : Nat → Nat} {q m : Nat} : pfX true S L n kd q m = posPart (plX S L n kd q m) := by
  rw [pos_eq]; unfold pfX
  by_cases h : plX S L n kd q m < 0
  · rw [if_pos ⟨rfl, h⟩, if_pos h]
  · rw [if_neg (fun q => h q.2), if_neg h]
theorem pf_all {S L : Nat → Nat → Int32} {n : Nat} {kd : Nat → Nat} {q m : Nat} : pfX false S L n kd q m = plX S L n kd q m := by
  unfold pfX; rw [if_neg (fun q => by cases q.1)]
theorem bit_hi {x f m : Nat} (hx : x < 2 ^ f) (hm : ¬ m < f) : x.testBit m = false := Nat.testBit_lt_two_pow (Nat.lt_of_lt_of_le hx (Nat.pow_le_pow_right (by decide) (by omega)))
theorem fr_eq {n c q x : Nat} {kd : Nat → Nat} {S L ρ : Nat → Nat → Int32} (h : SmR n c S L ρ q) (hk : ∀ m, m < n → kd m ≤ 4) (hx : x < 2 ^ ffe (cuX S) n 0) : frM ρ n c kd q x = ssX (pfX true S L n kd q) x (ffe (cuX S) n 0) := by
  unfold frM ssX
  have hf := ffe_le (cuX S) n 0
  rw [← bx_if (n := n) (f := ffe (cuX S) n 0) (by omega)]
  refine bx_cong (fun m hm => ?_)
  by_cases e : m < ffe (cuX S) n 0
  · rw [if_pos e]
    by_cases hb : x.testBit m = true
    · rw [if_pos hb, if_pos hb, pf_pos, pl_eq h (hk m hm) hm]
    · rw [if_neg hb, if_neg hb]; rfl
  · rw [if_neg e, bit_hi hx e, if_neg (by decide)]; rfl
theorem cs_eq {n c q x : Nat} {kd : Nat → Nat} {S L ρ : Nat → Nat → Int32} (h : SmR n c S L ρ q) (hk : ∀ m, m < n → kd m ≤ 4) (hx : x < 2 ^ ffe (cuX S) n 0) : csM ρ n c kd q x n = ssX (pfX false S L n kd q) x (ffe (cuX S) n 0) := by
  unfold csM ssX
  have hf := ffe_le (cuX S) n 0
  rw [← bx_if (n := n) (f := ffe (cuX S) n 0) (by omega)]
  refine bx_cong (fun m hm => ?_)
  by_cases e : m < ffe (cuX S) n 0
  · rw [if_pos e]
    by_cases hb : x.testBit m = true
    · rw [if_pos hb, if_pos hb, pf_all, pl_eq h (hk m hm) hm]
    · rw [if_neg hb, if_neg hb]
  · rw [if_neg e, bit_hi hx e, if_neg (by decide)]
theorem nsm_tail {g k : Nat → Nat} {a b : Nat} (hab : a ≤ b) (h1 : ∀ x, x < a → g x = k x) (h2 : ∀ x, a ≤ x → x < b → g x = 0) : nsm g b = nsm k a := by
  have e : b = a + (b - a) := by omega
  rw [e, nsm_app, nsm_cong h1]
  have : nsm (fun x => g (a + x)) (b - a) = 0 := (nsm_cong (g := fun _ => 0) (fun x hx => h2 (a + x) (by omega) (by omega))).trans (nsm_z _)
  omega
theorem say_sum {n c m q : Nat} {kd : Nat → Nat} {S L ρ : Nat → Nat → Int32} (h : SmR n c S L ρ q) (hk : ∀ m, m < n → kd m ≤ 4) (hn : n ≤ 8) (hm : m < ffe (cuX S) n 0) : sayA ρ n c kd m q = ordX (pfX true S L n kd q) m (ffe (cuX S) n 0) := by
  have hf := ffe_le (cuX S) n 0
  have hF := fb_eq (cu := cuX S) h.2.1
  have hp := p2le hn
  have hpf : 2 ^ ffe (cuX S) n 0 ≤ 2 ^ n := Nat.pow_le_pow_right (by decide) (by omega)
  have hp0 : 0 < 2 ^ ffe (cuX S) n 0 := Nat.two_pow_pos _
  unfold sayA ordX
  rw [if_neg (by omega), Nat.one_mul]
  refine nsm_tail hpf (fun x hx => ?_) (fun x h1 h2 => ?_)
  · unfold sayT ordT
    have hs := sub_lt hF (by omega) (show x < 256 by omega)
    have hpm : 2 ^ m < 2 ^ ffe (cuX S) n 0 := Nat.pow_lt_pow_right (by decide) hm
    rw [pcn_fb hn h.2.1, Nat.one_mul, fr_eq h hk hx, fr_eq h hk hpm, hF, fr_eq h hk (show 2 ^ ffe (cuX S) n 0 - 1 < 2 ^ ffe (cuX S) n 0 by omega)]
    rw [hF] at hs
    by_cases hb : x.testBit m = true
    · rw [if_neg (fun q => q.1.2 hb), if_neg (fun q => by rw [hb] at q; exact absurd q.1 (by decide))]
    · have hb0 : x.testBit m = false := by cases q : x.testBit m with
        | false => rfl
        | true => exact absurd q hb
      by_cases h3 : ssX (pfX true S L n kd q) (2 ^ ffe (cuX S) n 0 - 1) (ffe (cuX S) n 0) < 2 * ssX (pfX true S L n kd q) x (ffe (cuX S) n 0)
      · rw [if_neg (fun q => absurd h3 (Int32.not_lt.mpr q.2.1)), if_neg (fun q => q.2.1 h3)]
      · by_cases h4 : 2 * (ssX (pfX true S L n kd q) x (ffe (cuX S) n 0) + ssX (pfX true S L n kd q) (2 ^ m) (ffe (cuX S) n 0)) ≤ ssX (pfX true S L n kd q) (2 ^ ffe (cuX S) n 0 - 1) (ffe (cuX S) n 0)
        · rw [if_neg (fun q => q.2.2 h4), if_neg (fun q => q.2.2 h4)]
        · rw [if_pos ⟨⟨hs.mpr hx, hb⟩, Int32.not_lt.mp h3, h4⟩, if_pos ⟨hb0, h3, h4⟩]
  · unfold sayT
    have hs := sub_lt hF (by omega) (show x < 256 by omega)
    rw [if_neg (fun q => absurd (hs.mp q.1.1) (by omega))]
def wg9 (w : Int32) : Prop := ∃ a, a ≤ 9 ∧ w = nI a
theorem ln3_nat {x : Int32} (h : ln3 x) : ∃ a, a < 3 ∧ x = nI a - 1 := by
  rcases h with rfl | rfl | rfl
  · exact ⟨0, by decide, by decide⟩
  · exact ⟨1, by decide, by decide⟩
  · exact ⟨2, by decide, by decide⟩
set_option maxRecDepth 100000 in
theorem pos18 {k : Nat} {w x a b : Int32} (hk : k ≤ 4) (hw : wg9 w) (hx : ln3 x) (ha : ln3 a) (hb : ln3 b) : ∃ p, p ≤ 18 ∧ posPart (pullK k w x a b) = nI p := by
  have key : ∀ k : Fin 5, ∀ w : Fin 10, ∀ x a b : Fin 3, (posPart (pullK k.val (nI w.val) (nI x.val - 1) (nI a.val - 1) (nI b.val - 1))).toNatClampNeg ≤ 18 ∧ posPart (pullK k.val (nI w.val) (nI x.val - 1) (nI a.val - 1) (nI b.val - 1)) = nI (posPart (pullK k.val (nI w.val) (nI x.val - 1) (nI a.val - 1) (nI b.val - 1))).toNatClampNeg := by decide +kernel
  obtain ⟨w0, hw0, rfl⟩ := hw
  obtain ⟨x0, hx0, rfl⟩ := ln3_nat hx
  obtain ⟨a0, ha0, rfl⟩ := ln3_nat ha
  obtain ⟨b0, hb0, rfl⟩ := ln3_nat hb
  exact ⟨_, key ⟨k, by omega⟩ ⟨w0, by omega⟩ ⟨x0, hx0⟩ ⟨a0, ha0⟩ ⟨b0, hb0⟩⟩
theorem ss_nat {P : Nat → Int32} {p : Nat → Nat} {x : Nat} : ∀ {k : Nat}, (∀ m, m < k → P m = nI (p m)) → ssX P x k = nI (nsm (fun m => if x.testBit m = true then p m else 0) k)
  | 0, _ => rfl
  | k + 1, h => by
    show ssX P x k + (if x.testBit k = true then P k else 0) = nI (nsm _ k + (if x.testBit k = true then p k else 0))
    rw [ss_nat (fun m hm => h m (by omega))]
    have e : ∀ a b : Nat, nI a + nI b = nI (a + b) := fun a b => (Int32.ofNat_add a b).symm
    by_cases hb : x.testBit k = true
    · rw [if_pos hb, if_pos hb, h k (by omega), e]
    · rw [if_neg hb, if_neg hb]; exact Int32.add_zero _
theorem nsm_0 {g : Nat → Nat} : ∀ {k : Nat}, nsm g k = 0 → ∀ m, m < k → g m = 0
  | 0, _, m, h => absurd h (by omega)
  | k + 1, h, m, hm => by
    simp only [nsm] at h
    by_cases e : m = k
    · subst e; omega
    · exact nsm_0 (k := k) (by omega) m (by omega)
theorem ord_zero {P : Nat → Int32} {p : Nat → Nat} {m f : Nat} (hf : f ≤ 8) (hP : ∀ j, j < f → P j = nI (p j) ∧ p j ≤ 18) (h0 : ssX P (2 ^ f - 1) f = 0) : ordX P m f = 0 := by
  unfold ordX
  split
  · rfl
  · rw [ss_nat (fun j hj => (hP j hj).1)] at h0
    have hb : nsm (fun j => if (2 ^ f - 1).testBit j = true then p j else 0) f ≤ f * 18 := nsm_bound2 f (fun j hj => by
      have := (hP j hj).2
      show (if _ then _ else _) ≤ 18
      split <;> omega)
    have hz : nsm (fun j => if (2 ^ f - 1).testBit j = true then p j else 0) f = 0 := (nI_eq (by omega) (by decide)).mp h0
    have hp : ∀ j, j < f → p j = 0 := by
      intro j hj
      have := nsm_0 hz j hj
      rw [Nat.testBit_two_pow_sub_one] at this
      simpa [hj] using this
    have hs : ∀ x, ssX P x f = 0 := by
      intro x
      rw [ss_nat (fun j hj => (hP j hj).1)]
      have : nsm (fun m => if x.testBit m = true then p m else 0) f = 0 := (nsm_cong (g := fun _ => 0) (fun j hj => by rw [hp j hj]; simp)).trans (nsm_z _)
      rw [this]; rfl
    refine (nsm_cong (g := fun _ => 0) (fun x hx => ?_)).trans (nsm_z _)
    unfold ordT
    rw [if_neg (fun q => q.2.2 (by rw [hs, hs, hs]; decide))]
theorem say_eq {n c m q t : Nat} {kd : Nat → Nat} {S L ρ : Nat → Nat → Int32} (h : SmR n c S L ρ q) (hk : ∀ m, m < n → kd m ≤ 4) (hn : n ≤ 8) (hw : ∀ m, m < n → wg9 (ρ 3 m)) (ht : t < 2) : sayX S L n kd m q t = sayM ρ n c kd m q t := by
  have hf := ffe_le (cuX S) n 0
  have hF := fb_eq (cu := cuX S) h.2.1
  have hfac := fac_pos (ffe (cuX S) n 0)
  have hz : ordX (pfX true S L n kd q) m (ffe (cuX S) n 0) = 0 → sayX S L n kd m q t = t := by
    intro e
    unfold sayX
    rw [e, Nat.gcd_zero_left]
    rcases (show t = 0 ∨ t = 1 by omega) with rfl | rfl
    · rw [if_pos rfl, Nat.zero_div]
    · rw [if_neg (by decide), Nat.div_self hfac]
  unfold sayM
  by_cases h1 : frM ρ n c kd q (fbits c n) = 0 ∨ ¬ (fbits c n).testBit m = true
  · rw [if_pos h1]
    apply hz
    rcases h1 with h1 | h1
    · rw [hF, fr_eq h hk (Nat.sub_lt (Nat.two_pow_pos _) (by decide))] at h1
      have hp : ∀ j, ∃ p, j < ffe (cuX S) n 0 → pfX true S L n kd q j = nI p ∧ p ≤ 18 := by
        intro j
        by_cases hj : j < ffe (cuX S) n 0
        · have hjn : j < n := by omega
          obtain ⟨p, hp1, hp2⟩ := pos18 (hk j hjn) (hw j hjn) (h.2.2.2 j hjn) (ln3_lnA h hjn) (ln3_lnB h (m := j))
          refine ⟨p, fun _ => ⟨?_, hp1⟩⟩
          rw [pf_pos]
          unfold plX
          rw [pull_eq (hk j hjn) (ln3_lnA h hjn) (ln3_lnB h), h.1 j hjn]
          exact hp2
        · exact ⟨0, fun q => absurd q hj⟩
      obtain ⟨p, hp⟩ := Classical.axiomOfChoice hp
      exact ord_zero (by omega) hp h1
    · unfold ordX
      rw [if_pos]
      rw [hF, Nat.testBit_two_pow_sub_one] at h1
      simpa using h1
  · rw [if_neg h1]
    have h2 : m < ffe (cuX S) n 0 := by
      have h3 : (fbits c n).testBit m = true := by
        cases q : (fbits c n).testBit m with
        | true => rfl
        | false => exact absurd (Or.inr (by rw [q]; decide)) h1
      rw [hF, Nat.testBit_two_pow_sub_one] at h3
      simpa using h3
    unfold sayX
    rw [say_sum h hk hn h2, pcn_fb hn h.2.1, Nat.gcd_comm]
theorem lk_pow {F f x t n : Nat} (hF : F = 2 ^ f - 1) (hf : f ≤ n) (hx : x < 2 ^ f) : ∀ k, k ≤ n → lkM F x t k = (10 - t) ^ pcn x (min k f) * t ^ (min k f - pcn x (min k f))
  | 0, _ => by simp [lkM, pcn]
  | k + 1, hk => by
    simp only [lkM]
    rw [lk_pow hF hf hx k (by omega), hF, Nat.testBit_two_pow_sub_one]
    by_cases h : k < f
    · rw [show min k f = k by omega, show min (k + 1) f = k + 1 by omega]
      have hp := pcn_le x k
      simp only [h, decide_true, if_true, pcn]
      by_cases hb : x.testBit k = true
      · rw [if_pos hb, (tb_div x k).mp hb, show k + 1 - (pcn x k + 1) = k - pcn x k by omega, Nat.pow_succ]
        rw [Nat.mul_assoc, Nat.mul_comm (t ^ _), ← Nat.mul_assoc]
      · rw [if_neg hb]
        have : x / 2 ^ k % 2 = 0 := by rw [tb_div] at hb; omega
        rw [this, Nat.add_zero, show k + 1 - pcn x k = (k - pcn x k) + 1 by omega, Nat.pow_succ, Nat.mul_assoc]
    · rw [show min k f = f by omega, show min (k + 1) f = f by omega]
      simp [h]
theorem ch_eq {n c q t w : Nat} {kd : Nat → Nat} {S L ρ : Nat → Nat → Int32} (h : SmR n c S L ρ q) (hk : ∀ m, m < n → kd m ≤ 4) (hn : n ≤ 8) : chX S L n kd q t w = chM ρ n c kd q t w := by
  have hf := ffe_le (cuX S) n 0
  have hF := fb_eq (cu := cuX S) h.2.1
  have hp := p2le hn
  have hpf : 2 ^ ffe (cuX S) n 0 ≤ 2 ^ n := Nat.pow_le_pow_right (by decide) (by omega)
  have e : chA ρ n c kd q t = parX (pfX false S L n kd q) t (ffe (cuX S) n 0) := by
    unfold chA parX
    rw [Nat.one_mul]
    refine nsm_tail hpf (fun x hx => ?_) (fun x h1 h2 => ?_)
    · unfold chT parT
      have hs := sub_lt hF (by omega) (show x < 256 by omega)
      rw [if_pos (hs.mpr hx), cs_eq h hk hx, lk_pow hF (by omega) hx n (Nat.le_refl n), show min n (ffe (cuX S) n 0) = ffe (cuX S) n 0 by omega]
      have := pcn_hi hx (8 - ffe (cuX S) n 0)
      rw [show ffe (cuX S) n 0 + (8 - ffe (cuX S) n 0) = 8 by omega] at this
      rw [this]
    · unfold chT
      have hs := sub_lt hF (by omega) (show x < 256 by omega)
      rw [if_neg (fun q => absurd (hs.mp q) (by omega))]
  unfold chX chM
  rw [e, pcn_fb hn h.2.1, Nat.gcd_comm]
