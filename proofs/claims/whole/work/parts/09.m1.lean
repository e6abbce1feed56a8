theorem isin_lt {x k : Nat} (h : x < 2 ^ 31) : x / 2 ^ k &&& 1 < 2 ^ 31 := by rw [and1]; omega
theorem isin_1 {x k : Nat} (h : x / 2 ^ k &&& 1 = 1) : (1 : Int32) = if x.testBit k = true then 1 else 0 := by rw [if_pos ((tb_div x k).mpr (by rw [← and1]; exact h))]
theorem isin_0 {x k : Nat} (h : ¬ x / 2 ^ k &&& 1 = 1) : (0 : Int32) = if x.testBit k = true then 1 else 0 := by rw [if_neg (fun q => h (by rw [and1]; exact (tb_div x k).mp q))]
def fac : Nat → Nat
  | 0 => 1
  | n + 1 => fac n * (n + 1)
set_option maxHeartbeats 4000000 in
set_option maxRecDepth 100000 in
theorem kX9_within (l : Launch) (D : va_G) (ct : Nat → ClassId) (v lo hi : Int32) : MI l yX9_within (gWs yX9_within cX9_within 3 (some .boolean)) rmX9_within D ct gNo [.int v, .int lo, .int hi] [] (fun _ : Unit => []) (fun r _ => r = (if lo ≤ v ∧ v ≤ hi then 1 else 0)) := by
  refine MI.ofZ RX9 rfl (by decide) (Nat.le_of_ble_eq_true rfl) ?_
  intro zp ze zs zm za zb zt zc zA ls zQ C h hX hl hret
  have hx := C.1
  have hb := C.2.1
  have hl : lv_has ls 3 [(0, .int v), (1, .int lo), (2, .int hi)] := hl
  refine lv_iload_n hx hb dX9_within_0 rfl (lv_at hl 0 rfl) ?_
  refine lv_iload_n hx hb dX9_within_1 rfl (lv_at hl 1 rfl) ?_
  refine lv_icmp_lt (tgt := 14) hx hb dX9_within_2 (by decide) (fun c_2 => ?_) (fun c_2 => ?_)
  · refine lv_iconst (v := 0) hx hb dX9_within_14 (by decide) ?_
    exact hret _ () _ _ _ _ h (by first | exact (if_pos ⟨Int32.not_lt.mp c_2, Int32.not_lt.mp c_7⟩).symm | exact (if_neg (fun q => Int32.not_lt.mpr q.1 c_2)).symm | exact (if_neg (fun q => Int32.not_lt.mpr q.2 c_7)).symm) dX9_within_15 (by decide)
  · refine lv_iload_n hx hb dX9_within_5 rfl (lv_at hl 0 rfl) ?_
    refine lv_iload_n hx hb dX9_within_6 rfl (lv_at hl 2 rfl) ?_
    refine lv_icmp_gt (tgt := 14) hx hb dX9_within_7 (by decide) (fun c_7 => ?_) (fun c_7 => ?_)
    · refine lv_iconst (v := 0) hx hb dX9_within_14 (by decide) ?_
      exact hret _ () _ _ _ _ h (by first | exact (if_pos ⟨Int32.not_lt.mp c_2, Int32.not_lt.mp c_7⟩).symm | exact (if_neg (fun q => Int32.not_lt.mpr q.1 c_2)).symm | exact (if_neg (fun q => Int32.not_lt.mpr q.2 c_7)).symm) dX9_within_15 (by decide)
    · refine lv_iconst (v := 1) hx hb dX9_within_10 (by decide) ?_
      refine lv_goto (tgt := 15) hx hb dX9_within_11 (by decide) ?_
      exact hret _ () _ _ _ _ h (by first | exact (if_pos ⟨Int32.not_lt.mp c_2, Int32.not_lt.mp c_7⟩).symm | exact (if_neg (fun q => Int32.not_lt.mpr q.1 c_2)).symm | exact (if_neg (fun q => Int32.not_lt.mpr q.2 c_7)).symm) dX9_within_15 (by decide)
set_option maxHeartbeats 4000000 in
set_option maxRecDepth 100000 in
theorem kX9_isIn (l : Launch) (D : va_G) (ct : Nat → ClassId) (x k : Nat) (hx1 : x < 2 ^ 31) (hk1 : k < 32) : MI l yX9_isIn (gWs yX9_isIn cX9_isIn 2 (some .boolean)) rmX9_isIn D ct gNo [.int (nI x), .int (nI k)] [] (fun _ : Unit => []) (fun r _ => r = (if x.testBit k = true then 1 else 0)) := by
  refine MI.ofZ RX9 rfl (by decide) (Nat.le_of_ble_eq_true rfl) ?_
  intro zp ze zs zm za zb zt zc zA ls zQ C h hX hl hret
  have hx := C.1
  have hb := C.2.1
  have hl : lv_has ls 2 [(0, .int (nI x)), (1, .int (nI k))] := hl
  refine lv_iload_n hx hb dX9_isIn_0 rfl (lv_at hl 0 rfl) ?_
  refine lv_iload_n hx hb dX9_isIn_1 rfl (lv_at hl 1 rfl) ?_
  refine nshr hx hb x k (by omega) (by omega) dX9_isIn_2 ?_
  refine lv_iconst (v := 1) hx hb dX9_isIn_3 (by decide) ?_
  refine nand hx hb (x / 2 ^ k) 1 dX9_isIn_4 ?_
  refine lv_iconst (v := 1) hx hb dX9_isIn_5 (by decide) ?_
  refine nb_ne hx hb ((x / 2 ^ k) &&& 1) 1 (isin_lt hx1) (by omega) (tgt := 13) dX9_isIn_6 (by decide) (fun c_6 => ?_) (fun c_6 => ?_)
  · refine lv_iconst (v := 0) hx hb dX9_isIn_13 (by decide) ?_
    exact hret _ () _ _ _ _ h (isin_0 c_6) dX9_isIn_14 (by decide)
  · refine lv_iconst (v := 1) hx hb dX9_isIn_9 (by decide) ?_
    refine lv_goto (tgt := 14) hx hb dX9_isIn_10 (by decide) ?_
    exact hret _ () _ _ _ _ h (isin_1 c_6) dX9_isIn_14 (by decide)
set_option maxHeartbeats 4000000 in
set_option maxRecDepth 100000 in
theorem kX9_size (l : Launch) (D : va_G) (ct : Nat → ClassId) (b : Nat) (hb1 : b < 2 ^ 31) : MI l yX9_size (gWs yX9_size cX9_size 3 (some .int)) rmX9_size D ct gNo [.int (nI b)] [] (fun _ : Unit => []) (fun r _ => r = nI (pcn b 8)) := by
  refine MI.ofI RX9 rfl (by decide) (Nat.le_of_ble_eq_true rfl) ?_
  intro zp ze zs zm za zb zt zc zA ls zQ C h hX hl hret
  have hx := C.1
  have hb := C.2.1
  have hl : lv_has ls 3 [(0, .int (nI b))] := hl
  refine lv_iconst (v := 0) hx hb dX9_size_0 (by decide) ?_
  refine lv_istore_n (lv' := [(1, .int 0), (0, .int (nI b))]) hx hb dX9_size_1 rfl hl (by decide) rfl (fun ls hl => ?_)
  refine lv_iconst (v := 0) hx hb dX9_size_2 (by decide) ?_
  refine lv_istore_n (lv' := [(2, .int 0), (1, .int 0), (0, .int (nI b))]) hx hb dX9_size_3 rfl hl (by decide) rfl (fun ls hl => ?_)
  have L4_0 : ∀ (kk : Nat) (i : Nat) (H : Heap) (ll : List Loc) (ls : Array Slot), 8 - i = kk → (i ≤ 8) → gW D ct zA zs H ll ([]) → lv_has ls 3 [(2, .int (nI i)), (1, .int (nI (pcn b i))), (0, .int (nI b))] → W zp l ze rmX9_size zs zm za zb zt zc H ll 0 0 zQ (F0 zm 4 ls []) := by
    intro kk4
    induction kk4 using Nat.strongRecOn with
    | _ kk4 ih4 =>
    intro i H ll ls hk4 hi h hl
    refine lv_iload_n hx hb dX9_size_4 rfl (lv_at hl 0 rfl) ?_
    refine lv_bipush (v := 8) hx hb dX9_size_5 (by decide) ?_
    refine nb_ge hx hb i 8 (by omega) (by omega) (tgt := 24) dX9_size_7 (by decide) (fun c_7 => ?_) (fun c_7 => ?_)
    · refine lv_iload_n hx hb dX9_size_24 rfl (lv_at hl 1 rfl) ?_
      exact hret _ () _ _ _ _ h (by rw [show i = 8 by omega]) dX9_size_25
    · refine lv_iload_n hx hb dX9_size_10 rfl (lv_at hl 1 rfl) ?_
      refine lv_iload_n hx hb dX9_size_11 rfl (lv_at hl 2 rfl) ?_
      refine lv_iload_n hx hb dX9_size_12 rfl (lv_at hl 0 rfl) ?_
      refine nshr hx hb b i (by omega) (by omega) dX9_size_13 ?_
      refine lv_iconst (v := 1) hx hb dX9_size_14 (by decide) ?_
      refine nand hx hb (b / 2 ^ i) 1 dX9_size_15 ?_
      refine nadd hx hb (pcn b i) ((b / 2 ^ i) &&& 1) dX9_size_16 ?_
      refine lv_istore_n (lv' := [(1, .int (nI ((pcn b i) + ((b / 2 ^ i) &&& 1)))), (2, .int (nI i)), (0, .int (nI b))]) hx hb dX9_size_17 rfl hl (by decide) rfl (fun ls hl => ?_)
      refine ninc (lv' := [(2, .int (nI (i + 1))), (1, .int (nI ((pcn b i) + ((b / 2 ^ i) &&& 1)))), (0, .int (nI b))]) hx hb i 1 dX9_size_18 hl (k := 1) rfl (by decide) rfl (fun ls hl => ?_)
      refine lv_goto (tgt := 4) hx hb dX9_size_21 (by decide) ?_
      have hl : lv_has ls 3 [(2, .int (nI (i + 1))), (1, .int (nI (pcn b (i + 1)))), (0, .int (nI b))] := by rw [and1] at hl; exact hl
      exact ih4 _ (by omega) (i + 1) _ _ _ rfl (by omega) h (lv_sub hl [0, 1, 2] rfl)
  exact L4_0 _ 0 _ _ _ rfl (by omega) h (lv_sub hl [0, 1, 2] rfl)
set_option maxHeartbeats 4000000 in
set_option maxRecDepth 100000 in
theorem kX9_orders (l : Launch) (D : va_G) (ct : Nat → ClassId) (n : Nat) (hn1 : n < 100) : MI l yX9_orders (gWs yX9_orders cX9_orders 3 (some .int)) rmX9_orders D ct gNo [.int (nI n)] [] (fun _ : Unit => []) (fun r _ => r = nI (fac n)) := by
  refine MI.ofI RX9 rfl (by decide) (Nat.le_of_ble_eq_true rfl) ?_
  intro zp ze zs zm za zb zt zc zA ls zQ C h hX hl hret
  have hx := C.1
  have hb := C.2.1
  have hl : lv_has ls 3 [(0, .int (nI n))] := hl
  refine lv_iconst (v := 1) hx hb dX9_orders_0 (by decide) ?_
  refine lv_istore_n (lv' := [(1, .int 1), (0, .int (nI n))]) hx hb dX9_orders_1 rfl hl (by decide) rfl (fun ls hl => ?_)
  refine lv_iconst (v := 2) hx hb dX9_orders_2 (by decide) ?_
  refine lv_istore_n (lv' := [(2, .int 2), (1, .int 1), (0, .int (nI n))]) hx hb dX9_orders_3 rfl hl (by decide) rfl (fun ls hl => ?_)
  have L4_0 : ∀ (kk : Nat) (i : Nat) (H : Heap) (ll : List Loc) (ls : Array Slot), n - i = kk → (i + 1 ≤ n ∨ i = 0) → gW D ct zA zs H ll ([]) → lv_has ls 3 [(2, .int (nI (i + 2))), (1, .int (nI (fac (i + 1)))), (0, .int (nI n))] → W zp l ze rmX9_orders zs zm za zb zt zc H ll 0 0 zQ (F0 zm 4 ls []) := by
    intro kk4
    induction kk4 using Nat.strongRecOn with
    | _ kk4 ih4 =>
    intro i H ll ls hk4 hi h hl
    refine lv_iload_n hx hb dX9_orders_4 rfl (lv_at hl 0 rfl) ?_
    refine lv_iload_n hx hb dX9_orders_5 rfl (lv_at hl 2 rfl) ?_
    refine nb_gt hx hb (i + 2) n (by omega) (by omega) (tgt := 19) dX9_orders_6 (by decide) (fun c_6 => ?_) (fun c_6 => ?_)
    · refine lv_iload_n hx hb dX9_orders_19 rfl (lv_at hl 1 rfl) ?_
      exact hret _ () _ _ _ _ h (by rcases hi with hi | hi; (rw [show i + 1 = n by omega]); (subst hi; rcases (show n = 0 ∨ n = 1 by omega) with q | q <;> rw [q] <;> rfl)) dX9_orders_20
    · refine lv_iload_n hx hb dX9_orders_9 rfl (lv_at hl 1 rfl) ?_
      refine lv_iload_n hx hb dX9_orders_10 rfl (lv_at hl 0 rfl) ?_
      refine nmul hx hb (fac (i + 1)) (i + 2) dX9_orders_11 ?_
      refine lv_istore_n (lv' := [(1, .int (nI ((fac (i + 1)) * (i + 2)))), (2, .int (nI (i + 2))), (0, .int (nI n))]) hx hb dX9_orders_12 rfl hl (by decide) rfl (fun ls hl => ?_)
      refine ninc (lv' := [(2, .int (nI (i + 2 + 1))), (1, .int (nI ((fac (i + 1)) * (i + 2)))), (0, .int (nI n))]) hx hb (i + 2) 1 dX9_orders_13 hl (k := 1) rfl (by decide) rfl (fun ls hl => ?_)
      refine lv_goto (tgt := 4) hx hb dX9_orders_16 (by decide) ?_
      exact ih4 _ (by omega) (i + 1) _ _ _ rfl (by omega) h (lv_sub hl [0, 1, 2] rfl)
  exact L4_0 _ 0 _ _ _ rfl (by omega) h (lv_sub hl [0, 1, 2] rfl)
