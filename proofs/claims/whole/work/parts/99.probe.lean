theorem zz_probe1 (a b c : Int32) (h : a < b) (h2 : b ≤ c) : a < c := by grind
theorem zz_probe2 (a b : Int32) : (a + b) * 2 = 2 * b + 2 * a := by grind
theorem zz_probe3 (a : Int32) (h : ¬ a < 0) (h2 : ¬ 7 < a) : 0 ≤ a.toInt ∧ a.toInt ≤ 7 := by grind
theorem zz_probe4 (a b : Int32) (h : a = b - 200) : a + 200 = b := by grind
theorem zz_probe5 (n i : Nat) (h : n < 8) (h2 : i < 3) : 3 * n + i < 24 := by omega
