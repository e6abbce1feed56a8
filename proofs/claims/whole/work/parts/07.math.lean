/-! ===== numbers ===== -/
/-- how many of the first k bits of b are 1 -/
def pcn (b : Nat) : Nat → Nat
  | 0 => 0
  | k + 1 => pcn b k + b / 2 ^ k % 2
theorem pcn_le (b : Nat) : ∀ k, pcn b k ≤ k
  | 0 => Nat.le_refl 0
  | k + 1 => by have h := pcn_le b k; have h2 := Nat.mod_lt (b / 2 ^ k) (show 2 > 0 by decide); simp only [pcn]; omega
theorem tb_div (x k : Nat) : x.testBit k = true ↔ x / 2 ^ k % 2 = 1 := by
  rw [Nat.testBit_eq_decide_div_mod_eq]; simp
theorem and1 (x : Nat) : x &&& 1 = x % 2 := Nat.and_one_is_mod x
theorem shr_lt {x z : Nat} (h : x < 2 ^ 31) : x / 2 ^ z < 2 ^ 31 := Nat.lt_of_le_of_lt (Nat.div_le_self _ _) h
theorem pow_lt8 : ∀ m, m < 9 → 2 ^ m ≤ 256 := by decide
theorem pow_pos2 (m : Nat) : 0 < 2 ^ m := Nat.two_pow_pos m
/-! ===== what a rope is, and what is felt (n mussels; kd kinds; w weights; le leans: mussel, question; cu: its thread is cut) ===== -/
def lnA (le : Nat → Nat → Int32) (cu : Nat → Bool) (m q : Nat) : Int32 := if 0 < m ∧ cu m = false then le (m - 1) q else 0
def lnB (n : Nat) (le : Nat → Nat → Int32) (cu : Nat → Bool) (m q : Nat) : Int32 := if m + 1 < n ∧ cu (m + 1) = false then le (m + 1) q else 0
/-- what a mussel pulls, by its kind, weight, lean, and the two leans beside it -/
def pullK (k : Nat) (w x a b : Int32) : Int32 := if k = 1 then 2 * (w * x) else if k = 2 then -(w * x) else if k = 3 then (if a + b = 2 then w else if a + b = -2 then -w else 0) else if k = 4 then (if a + b = 2 then w else if a + b = -2 then -w else w * x) else w * x
def pl (n : Nat) (kd : Nat → Nat) (w : Nat → Int32) (le : Nat → Nat → Int32) (cu : Nat → Bool) (q m : Nat) : Int32 := pullK (kd m) (w m) (le m q) (lnA le cu m q) (lnB n le cu m q)
def sgn (x : Int32) : Int32 := if 0 < x then 1 else if x < 0 then -1 else 0
def leM (σ : Nat → Nat → Int32) (m q : Nat) : Int32 := σ 4 (3 * m + q)
def cuM (c m : Nat) : Bool := c.testBit m
/-- what is known of the reference's rope: n mussels, cut threads c as bits, kinds kd -/
def MOK (σ : Nat → Nat → Int32) (n c : Nat) (kd : Nat → Nat) : Prop := σ 1 0 = nI n ∧ n ≤ 8 ∧ σ 5 0 = nI c ∧ c < 256 ∧ ∀ m, m < 8 → σ 2 m = nI (kd m) ∧ kd m ≤ 4
def fbits (c : Nat) : Nat → Nat
  | 0 => 0
  | m + 1 => fbits c m ||| (if c % 2 ^ (m + 1) = 0 then 1 * 2 ^ m else 0)
def plM (σ : Nat → Nat → Int32) (n c : Nat) (kd : Nat → Nat) (q m : Nat) : Int32 := pl n kd (σ 3) (leM σ) (cuM c) q m
/-- the sum of a question, as the reference adds it -/
def smM (σ : Nat → Nat → Int32) (n c : Nat) (kd : Nat → Nat) (q : Nat) : Int32 := bx_sum (fun m => if c % 2 ^ (m + 1) = 0 then plM σ n c kd q m else 0) n
theorem pw2 (m : Nat) : 2 * 2 ^ m = 2 ^ (m + 1) := by rw [Nat.pow_succ, Nat.mul_comm]
theorem feltN (c m : Nat) : c &&& (2 * 2 ^ m - 1) = c % 2 ^ (m + 1) := by rw [pw2, Nat.and_two_pow_sub_one_eq_mod]
theorem isM_nat {n : Nat} {x : Int32} (hn : n ≤ 8) (h : 0 ≤ x ∧ x ≤ nI n - 1) : ∃ j, j < n ∧ x = nI j := by
  obtain ⟨h1, h2⟩ := h
  have h3 : (nI n - 1).toInt = (n : Int) - 1 := by
    rw [show (nI n - 1 : Int32) = nI n - nI 1 from rfl, pk_sub_toInt (by omega) (by decide)]; rfl
  rw [Int32.le_iff_toInt_le] at h1 h2
  rw [h3] at h2
  have h1 : 0 ≤ x.toInt := h1
  refine ⟨x.toInt.toNat, by omega, ?_⟩
  apply Int32.toInt_inj.mp
  rw [nI_toInt (by omega)]; omega
theorem isM_of {n j : Nat} (hn : n ≤ 8) (h : j < n) : 0 ≤ nI j ∧ nI j ≤ nI n - 1 := by
  refine ⟨nI_pos' (by omega), ?_⟩
  rw [Int32.le_iff_toInt_le, show (nI n - 1 : Int32) = nI n - nI 1 from rfl, pk_sub_toInt (by omega) (by decide), nI_toInt (by omega)]
  omega
