theorem kX3_pulled (l : Launch) (D : va_G) (ct : Nat → ClassId) (a : Nat) (w x g : Int32) : MI l yX3_pulled (gWs yX3_pulled cX3_pulled 4 (some .int)) rmX3_pulled D ct gNo [.ref a, .int w, .int x, .int g] [(a, .inr (3, []))] (fun _ : Unit => [(a, .inr (3, []))]) (fun r _ => r = w * x) := by
  refine MI.ofI RX3 rfl (by decide) (Nat.le_of_ble_eq_true rfl) ?_
  intro zp ze zs zm za zb zt zc zA ls zQ C h hX hl hret
  have hx := C.1
  have hb := C.2.1
  have hl : lv_has ls 4 [(0, .ref a), (1, .int w), (2, .int x), (3, .int g)] := hl
  refine lv_iload_n hx hb dX3_pulled_0 rfl (lv_at hl 1 rfl) ?_
  refine lv_iload_n hx hb dX3_pulled_1 rfl (lv_at hl 2 rfl) ?_
  refine lv_imul hx hb dX3_pulled_2 ?_
  exact hret _ () _ _ _ _ h rfl dX3_pulled_3
theorem kX3_number (l : Launch) (D : va_G) (ct : Nat → ClassId) (a : Nat)  : MI l yX3_number (gWs yX3_number cX3_number 1 (some .int)) rmX3_number D ct gNo [.ref a] [(a, .inr (3, []))] (fun _ : Unit => [(a, .inr (3, []))]) (fun r _ => r = 0) := by
  refine MI.ofI RX3 rfl (by decide) (Nat.le_of_ble_eq_true rfl) ?_
  intro zp ze zs zm za zb zt zc zA ls zQ C h hX hl hret
  have hx := C.1
  have hb := C.2.1
  have hl : lv_has ls 1 [(0, .ref a)] := hl
  refine lv_iconst (v := 0) hx hb dX3_number_0 (by decide) ?_
  exact hret _ () _ _ _ _ h rfl dX3_number_1
theorem kX1_pulled (l : Launch) (D : va_G) (ct : Nat → ClassId) (a : Nat) (w x g : Int32) : MI l yX1_pulled (gWs yX1_pulled cX1_pulled 4 (some .int)) rmX1_pulled D ct gNo [.ref a, .int w, .int x, .int g] [(a, .inr (1, []))] (fun _ : Unit => [(a, .inr (1, []))]) (fun r _ => r = 2 * w * x) := by
  refine MI.ofI RX1 rfl (by decide) (Nat.le_of_ble_eq_true rfl) ?_
  intro zp ze zs zm za zb zt zc zA ls zQ C h hX hl hret
  have hx := C.1
  have hb := C.2.1
  have hl : lv_has ls 4 [(0, .ref a), (1, .int w), (2, .int x), (3, .int g)] := hl
  refine lv_iconst (v := 2) hx hb dX1_pulled_0 (by decide) ?_
  refine lv_iload_n hx hb dX1_pulled_1 rfl (lv_at hl 1 rfl) ?_
  refine lv_imul hx hb dX1_pulled_2 ?_
  refine lv_iload_n hx hb dX1_pulled_3 rfl (lv_at hl 2 rfl) ?_
  refine lv_imul hx hb dX1_pulled_4 ?_
  exact hret _ () _ _ _ _ h rfl dX1_pulled_5
theorem kX1_number (l : Launch) (D : va_G) (ct : Nat → ClassId) (a : Nat)  : MI l yX1_number (gWs yX1_number cX1_number 1 (some .int)) rmX1_number D ct gNo [.ref a] [(a, .inr (1, []))] (fun _ : Unit => [(a, .inr (1, []))]) (fun r _ => r = 1) := by
  refine MI.ofI RX1 rfl (by decide) (Nat.le_of_ble_eq_true rfl) ?_
  intro zp ze zs zm za zb zt zc zA ls zQ C h hX hl hret
  have hx := C.1
  have hb := C.2.1
  have hl : lv_has ls 1 [(0, .ref a)] := hl
  refine lv_iconst (v := 1) hx hb dX1_number_0 (by decide) ?_
  exact hret _ () _ _ _ _ h rfl dX1_number_1
theorem kX0_pulled (l : Launch) (D : va_G) (ct : Nat → ClassId) (a : Nat) (w x g : Int32) : MI l yX0_pulled (gWs yX0_pulled cX0_pulled 4 (some .int)) rmX0_pulled D ct gNo [.ref a, .int w, .int x, .int g] [(a, .inr (0, []))] (fun _ : Unit => [(a, .inr (0, []))]) (fun r _ => r = -w * x) := by
  refine MI.ofI RX0 rfl (by decide) (Nat.le_of_ble_eq_true rfl) ?_
  intro zp ze zs zm za zb zt zc zA ls zQ C h hX hl hret
  have hx := C.1
  have hb := C.2.1
  have hl : lv_has ls 4 [(0, .ref a), (1, .int w), (2, .int x), (3, .int g)] := hl
  refine lv_iload_n hx hb dX0_pulled_0 rfl (lv_at hl 1 rfl) ?_
  refine lv_ineg hx hb dX0_pulled_1 ?_
  refine lv_iload_n hx hb dX0_pulled_2 rfl (lv_at hl 2 rfl) ?_
  refine lv_imul hx hb dX0_pulled_3 ?_
  exact hret _ () _ _ _ _ h rfl dX0_pulled_4
theorem kX0_number (l : Launch) (D : va_G) (ct : Nat → ClassId) (a : Nat)  : MI l yX0_number (gWs yX0_number cX0_number 1 (some .int)) rmX0_number D ct gNo [.ref a] [(a, .inr (0, []))] (fun _ : Unit => [(a, .inr (0, []))]) (fun r _ => r = 2) := by
  refine MI.ofI RX0 rfl (by decide) (Nat.le_of_ble_eq_true rfl) ?_
  intro zp ze zs zm za zb zt zc zA ls zQ C h hX hl hret
  have hx := C.1
  have hb := C.2.1
  have hl : lv_has ls 1 [(0, .ref a)] := hl
  refine lv_iconst (v := 2) hx hb dX0_number_0 (by decide) ?_
  exact hret _ () _ _ _ _ h rfl dX0_number_1
theorem kX2_pulled (l : Launch) (D : va_G) (ct : Nat → ClassId) (a : Nat) (w x g : Int32) : MI l yX2_pulled (gWs yX2_pulled cX2_pulled 4 (some .int)) rmX2_pulled D ct gNo [.ref a, .int w, .int x, .int g] [(a, .inr (2, []))] (fun _ : Unit => [(a, .inr (2, []))]) (fun r _ => r = w * g) := by
  refine MI.ofI RX2 rfl (by decide) (Nat.le_of_ble_eq_true rfl) ?_
  intro zp ze zs zm za zb zt zc zA ls zQ C h hX hl hret
  have hx := C.1
  have hb := C.2.1
  have hl : lv_has ls 4 [(0, .ref a), (1, .int w), (2, .int x), (3, .int g)] := hl
  refine lv_iload_n hx hb dX2_pulled_0 rfl (lv_at hl 1 rfl) ?_
  refine lv_iload_n hx hb dX2_pulled_1 rfl (lv_at hl 3 rfl) ?_
  refine lv_imul hx hb dX2_pulled_2 ?_
  exact hret _ () _ _ _ _ h rfl dX2_pulled_3
theorem kX2_number (l : Launch) (D : va_G) (ct : Nat → ClassId) (a : Nat)  : MI l yX2_number (gWs yX2_number cX2_number 1 (some .int)) rmX2_number D ct gNo [.ref a] [(a, .inr (2, []))] (fun _ : Unit => [(a, .inr (2, []))]) (fun r _ => r = 3) := by
  refine MI.ofI RX2 rfl (by decide) (Nat.le_of_ble_eq_true rfl) ?_
  intro zp ze zs zm za zb zt zc zA ls zQ C h hX hl hret
  have hx := C.1
  have hb := C.2.1
  have hl : lv_has ls 1 [(0, .ref a)] := hl
  refine lv_iconst (v := 3) hx hb dX2_number_0 (by decide) ?_
  exact hret _ () _ _ _ _ h rfl dX2_number_1
theorem kX7_pulled (l : Launch) (D : va_G) (ct : Nat → ClassId) (a : Nat) (w x g : Int32) : MI l yX7_pulled (gWs yX7_pulled cX7_pulled 4 (some .int)) rmX7_pulled D ct gNo [.ref a, .int w, .int x, .int g] [(a, .inr (7, []))] (fun _ : Unit => [(a, .inr (7, []))]) (fun r _ => r = (if g = 0 then w * x else w * g)) := by
  refine MI.ofI RX7 rfl (by decide) (Nat.le_of_ble_eq_true rfl) ?_
  intro zp ze zs zm za zb zt zc zA ls zQ C h hX hl hret
  have hx := C.1
  have hb := C.2.1
  have hl : lv_has ls 4 [(0, .ref a), (1, .int w), (2, .int x), (3, .int g)] := hl
  refine lv_iload_n hx hb dX7_pulled_0 rfl (lv_at hl 3 rfl) ?_
  refine lv_if_eq (tgt := 10) hx hb dX7_pulled_1 (by decide) (fun c_1 => ?_) (fun c_1 => ?_)
  · refine lv_iload_n hx hb dX7_pulled_10 rfl (lv_at hl 1 rfl) ?_
    refine lv_iload_n hx hb dX7_pulled_11 rfl (lv_at hl 2 rfl) ?_
    refine lv_imul hx hb dX7_pulled_12 ?_
    exact hret _ () _ _ _ _ h (by first | rw [if_pos c_1] | rw [if_neg c_1]) dX7_pulled_13
  · refine lv_iload_n hx hb dX7_pulled_4 rfl (lv_at hl 1 rfl) ?_
    refine lv_iload_n hx hb dX7_pulled_5 rfl (lv_at hl 3 rfl) ?_
    refine lv_imul hx hb dX7_pulled_6 ?_
    refine lv_goto (tgt := 13) hx hb dX7_pulled_7 (by decide) ?_
    exact hret _ () _ _ _ _ h (by first | rw [if_pos c_1] | rw [if_neg c_1]) dX7_pulled_13
theorem kX7_number (l : Launch) (D : va_G) (ct : Nat → ClassId) (a : Nat)  : MI l yX7_number (gWs yX7_number cX7_number 1 (some .int)) rmX7_number D ct gNo [.ref a] [(a, .inr (7, []))] (fun _ : Unit => [(a, .inr (7, []))]) (fun r _ => r = 4) := by
  refine MI.ofI RX7 rfl (by decide) (Nat.le_of_ble_eq_true rfl) ?_
  intro zp ze zs zm za zb zt zc zA ls zQ C h hX hl hret
  have hx := C.1
  have hb := C.2.1
  have hl : lv_has ls 1 [(0, .ref a)] := hl
  refine lv_iconst (v := 4) hx hb dX7_number_0 (by decide) ?_
  exact hret _ () _ _ _ _ h rfl dX7_number_1
theorem kX0_driftsAlong (l : Launch) (D : va_G) (ct : Nat → ClassId) (a : Nat)  : MI l yX0_driftsAlong (gWs yX0_driftsAlong cX0_driftsAlong 1 (some .boolean)) rmX0_driftsAlong D ct gNo [.ref a] [(a, .inr (0, []))] (fun _ : Unit => [(a, .inr (0, []))]) (fun r _ => r = 0) := by
  refine MI.ofZ RX0 rfl (by decide) (Nat.le_of_ble_eq_true rfl) ?_
  intro zp ze zs zm za zb zt zc zA ls zQ C h hX hl hret
  have hx := C.1
  have hb := C.2.1
  have hl : lv_has ls 1 [(0, .ref a)] := hl
  refine lv_iconst (v := 0) hx hb dX0_driftsAlong_0 (by decide) ?_
  exact hret _ () _ _ _ _ h rfl dX0_driftsAlong_1 (by decide)
theorem kX3_driftsAlong_3 (l : Launch) (D : va_G) (ct : Nat → ClassId) (a : Nat)  : MI l yX3_driftsAlong (gWs yX3_driftsAlong cX3_driftsAlong 1 (some .boolean)) rmX3_driftsAlong D ct gNo [.ref a] [(a, .inr (3, []))] (fun _ : Unit => [(a, .inr (3, []))]) (fun r _ => r = 1) := by
  refine MI.ofZ RX3 rfl (by decide) (Nat.le_of_ble_eq_true rfl) ?_
  intro zp ze zs zm za zb zt zc zA ls zQ C h hX hl hret
  have hx := C.1
  have hb := C.2.1
  have hl : lv_has ls 1 [(0, .ref a)] := hl
  refine lv_iconst (v := 1) hx hb dX3_driftsAlong_0 (by decide) ?_
  exact hret _ () _ _ _ _ h rfl dX3_driftsAlong_1 (by decide)
theorem kX3_driftsAlong_1 (l : Launch) (D : va_G) (ct : Nat → ClassId) (a : Nat)  : MI l yX3_driftsAlong (gWs yX3_driftsAlong cX3_driftsAlong 1 (some .boolean)) rmX3_driftsAlong D ct gNo [.ref a] [(a, .inr (1, []))] (fun _ : Unit => [(a, .inr (1, []))]) (fun r _ => r = 1) := by
  refine MI.ofZ RX3 rfl (by decide) (Nat.le_of_ble_eq_true rfl) ?_
  intro zp ze zs zm za zb zt zc zA ls zQ C h hX hl hret
  have hx := C.1
  have hb := C.2.1
  have hl : lv_has ls 1 [(0, .ref a)] := hl
  refine lv_iconst (v := 1) hx hb dX3_driftsAlong_0 (by decide) ?_
  exact hret _ () _ _ _ _ h rfl dX3_driftsAlong_1 (by decide)
theorem kX3_driftsAlong_2 (l : Launch) (D : va_G) (ct : Nat → ClassId) (a : Nat)  : MI l yX3_driftsAlong (gWs yX3_driftsAlong cX3_driftsAlong 1 (some .boolean)) rmX3_driftsAlong D ct gNo [.ref a] [(a, .inr (2, []))] (fun _ : Unit => [(a, .inr (2, []))]) (fun r _ => r = 1) := by
  refine MI.ofZ RX3 rfl (by decide) (Nat.le_of_ble_eq_true rfl) ?_
  intro zp ze zs zm za zb zt zc zA ls zQ C h hX hl hret
  have hx := C.1
  have hb := C.2.1
  have hl : lv_has ls 1 [(0, .ref a)] := hl
  refine lv_iconst (v := 1) hx hb dX3_driftsAlong_0 (by decide) ?_
  exact hret _ () _ _ _ _ h rfl dX3_driftsAlong_1 (by decide)
theorem kX3_driftsAlong_7 (l : Launch) (D : va_G) (ct : Nat → ClassId) (a : Nat)  : MI l yX3_driftsAlong (gWs yX3_driftsAlong cX3_driftsAlong 1 (some .boolean)) rmX3_driftsAlong D ct gNo [.ref a] [(a, .inr (7, []))] (fun _ : Unit => [(a, .inr (7, []))]) (fun r _ => r = 1) := by
  refine MI.ofZ RX3 rfl (by decide) (Nat.le_of_ble_eq_true rfl) ?_
  intro zp ze zs zm za zb zt zc zA ls zQ C h hX hl hret
  have hx := C.1
  have hb := C.2.1
  have hl : lv_has ls 1 [(0, .ref a)] := hl
  refine lv_iconst (v := 1) hx hb dX3_driftsAlong_0 (by decide) ?_
  exact hret _ () _ _ _ _ h rfl dX3_driftsAlong_1 (by decide)
set_option maxHeartbeats 1000000 in
set_option maxRecDepth 100000 in
theorem kX8_outcomeOf (l : Launch) (D : va_G) (ct : Nat → ClassId)  (x : Int32) : MI l yX8_outcomeOf (gWs yX8_outcomeOf cX8_outcomeOf 1 (some .int)) rmX8_outcomeOf D ct gNo [.int x] [] (fun _ : Unit => []) (fun r _ => r = sgn x) := by
  refine MI.ofI RX8 rfl (by decide) (Nat.le_of_ble_eq_true rfl) ?_
  intro zp ze zs zm za zb zt zc zA ls zQ C h hX hl hret
  have hx := C.1
  have hb := C.2.1
  have hl : lv_has ls 1 [(0, .int x)] := hl
  refine lv_iload_n hx hb dX8_outcomeOf_0 rfl (lv_at hl 0 rfl) ?_
  refine lv_if_le (tgt := 6) hx hb dX8_outcomeOf_1 (by decide) (fun c_1 => ?_) (fun c_1 => ?_)
  · refine lv_iload_n hx hb dX8_outcomeOf_6 rfl (lv_at hl 0 rfl) ?_
    refine lv_if_ge (tgt := 14) hx hb dX8_outcomeOf_7 (by decide) (fun c_7 => ?_) (fun c_7 => ?_)
    · refine lv_iconst (v := 0) hx hb dX8_outcomeOf_14 (by decide) ?_
      exact hret _ () _ _ _ _ h (sgZ c_1 c_7) dX8_outcomeOf_15
    · refine lv_iconst (v := -1) hx hb dX8_outcomeOf_10 (by decide) ?_
      refine lv_goto (tgt := 15) hx hb dX8_outcomeOf_11 (by decide) ?_
      exact hret _ () _ _ _ _ h (sgN c_1 c_7) dX8_outcomeOf_15
  · refine lv_iconst (v := 1) hx hb dX8_outcomeOf_4 (by decide) ?_
    exact hret _ () _ _ _ _ h (sgP c_1) dX8_outcomeOf_5
set_option maxHeartbeats 1000000 in
set_option maxRecDepth 100000 in
theorem kX8_isWay (l : Launch) (D : va_G) (ct : Nat → ClassId)  (x : Int32) : MI l yX8_isWay (gWs yX8_isWay cX8_isWay 1 (some .boolean)) rmX8_isWay D ct gNo [.int x] [] (fun _ : Unit => []) (fun r _ => r = (if -1 ≤ x ∧ x ≤ 1 then 1 else 0)) := by
  refine MI.ofZ RX8 rfl (by decide) (Nat.le_of_ble_eq_true rfl) ?_
  intro zp ze zs zm za zb zt zc zA ls zQ C h hX hl hret
  have hx := C.1
  have hb := C.2.1
  have hl : lv_has ls 1 [(0, .int x)] := hl
  refine lv_iload_n hx hb dX8_isWay_0 rfl (lv_at hl 0 rfl) ?_
  refine lv_iconst (v := -1) hx hb dX8_isWay_1 (by decide) ?_
  refine lv_icmp_lt (tgt := 14) hx hb dX8_isWay_2 (by decide) (fun c_2 => ?_) (fun c_2 => ?_)
  · refine lv_iconst (v := 0) hx hb dX8_isWay_14 (by decide) ?_
    exact hret _ () _ _ _ _ h (by first | exact (if_pos ⟨Int32.not_lt.mp c_2, Int32.not_lt.mp c_7⟩).symm | exact (if_pos ⟨Int32.not_lt.mp c_2, Int32.not_lt.mp c_7⟩).symm | exact (if_neg (fun q => Int32.not_lt.mpr q.1 c_2)).symm | exact (if_neg (fun q => Int32.not_lt.mpr q.2 c_7)).symm | simp [Int32.not_lt.mp, c_2]) dX8_isWay_15 (by decide)
  · refine lv_iload_n hx hb dX8_isWay_5 rfl (lv_at hl 0 rfl) ?_
    refine lv_iconst (v := 1) hx hb dX8_isWay_6 (by decide) ?_
    refine lv_icmp_gt (tgt := 14) hx hb dX8_isWay_7 (by decide) (fun c_7 => ?_) (fun c_7 => ?_)
    · refine lv_iconst (v := 0) hx hb dX8_isWay_14 (by decide) ?_
      exact hret _ () _ _ _ _ h (by first | exact (if_pos ⟨Int32.not_lt.mp c_2, Int32.not_lt.mp c_7⟩).symm | exact (if_pos ⟨Int32.not_lt.mp c_2, Int32.not_lt.mp c_7⟩).symm | exact (if_neg (fun q => Int32.not_lt.mpr q.1 c_2)).symm | exact (if_neg (fun q => Int32.not_lt.mpr q.2 c_7)).symm | simp [Int32.not_lt.mp, c_2, c_7]) dX8_isWay_15 (by decide)
    · refine lv_iconst (v := 1) hx hb dX8_isWay_10 (by decide) ?_
      refine lv_goto (tgt := 15) hx hb dX8_isWay_11 (by decide) ?_
      exact hret _ () _ _ _ _ h (by first | exact (if_pos ⟨Int32.not_lt.mp c_2, Int32.not_lt.mp c_7⟩).symm | exact (if_pos ⟨Int32.not_lt.mp c_2, Int32.not_lt.mp c_7⟩).symm | exact (if_neg (fun q => Int32.not_lt.mpr q.1 c_2)).symm | exact (if_neg (fun q => Int32.not_lt.mpr q.2 c_7)).symm | simp [Int32.not_lt.mp, c_2, c_7]) dX8_isWay_15 (by decide)
set_option maxHeartbeats 1000000 in
set_option maxRecDepth 100000 in
theorem kX8_isHalf (l : Launch) (D : va_G) (ct : Nat → ClassId)  (x : Int32) : MI l yX8_isHalf (gWs yX8_isHalf cX8_isHalf 1 (some .boolean)) rmX8_isHalf D ct gNo [.int x] [] (fun _ : Unit => []) (fun r _ => r = (if x = 0 ∨ x = 1 then 1 else 0)) := by
  refine MI.ofZ RX8 rfl (by decide) (Nat.le_of_ble_eq_true rfl) ?_
  intro zp ze zs zm za zb zt zc zA ls zQ C h hX hl hret
  have hx := C.1
  have hb := C.2.1
  have hl : lv_has ls 1 [(0, .int x)] := hl
  refine lv_iload_n hx hb dX8_isHalf_0 rfl (lv_at hl 0 rfl) ?_
  refine lv_if_eq (tgt := 9) hx hb dX8_isHalf_1 (by decide) (fun c_1 => ?_) (fun c_1 => ?_)
  · refine lv_iconst (v := 1) hx hb dX8_isHalf_9 (by decide) ?_
    refine lv_goto (tgt := 14) hx hb dX8_isHalf_10 (by decide) ?_
    exact hret _ () _ _ _ _ h (by simp [c_1]) dX8_isHalf_14 (by decide)
  · refine lv_iload_n hx hb dX8_isHalf_4 rfl (lv_at hl 0 rfl) ?_
    refine lv_iconst (v := 1) hx hb dX8_isHalf_5 (by decide) ?_
    refine lv_icmp_ne (tgt := 13) hx hb dX8_isHalf_6 (by decide) (fun c_6 => ?_) (fun c_6 => ?_)
    · refine lv_iconst (v := 0) hx hb dX8_isHalf_13 (by decide) ?_
      exact hret _ () _ _ _ _ h (by simp [c_1, c_6]) dX8_isHalf_14 (by decide)
    · refine lv_iconst (v := 1) hx hb dX8_isHalf_9 (by decide) ?_
      refine lv_goto (tgt := 14) hx hb dX8_isHalf_10 (by decide) ?_
      exact hret _ () _ _ _ _ h (by simp [c_1, c_6]) dX8_isHalf_14 (by decide)
set_option maxHeartbeats 1000000 in
set_option maxRecDepth 100000 in
theorem kX8_power (l : Launch) (D : va_G) (ct : Nat → ClassId)  (b k : Nat) (hk : k < 2 ^ 31) : MI l yX8_power (gWs yX8_power cX8_power 4 (some .int)) rmX8_power D ct gNo [.int (nI b), .int (nI k)] [] (fun _ : Unit => []) (fun r _ => r = nI (b ^ k)) := by
  refine MI.ofI RX8 rfl (by decide) (Nat.le_of_ble_eq_true rfl) ?_
  intro zp ze zs zm za zb zt zc zA ls zQ C h hX hl hret
  have hx := C.1
  have hb := C.2.1
  have hl : lv_has ls 4 [(0, .int (nI b)), (1, .int (nI k))] := hl
  refine lv_iconst (v := 1) hx hb dX8_power_0 (by decide) ?_
  refine lv_istore_n (lv' := [(2, .int 1), (0, .int (nI b)), (1, .int (nI k))]) hx hb dX8_power_1 rfl hl (by decide) rfl (fun ls hl => ?_)
  refine lv_iconst (v := 0) hx hb dX8_power_2 (by decide) ?_
  refine lv_istore_n (lv' := [(3, .int 0), (2, .int 1), (0, .int (nI b)), (1, .int (nI k))]) hx hb dX8_power_3 rfl hl (by decide) rfl (fun ls hl => ?_)
  have L4_0 : ∀ (kk : Nat) (i : Nat) (H : Heap) (ll : List Loc) (ls : Array Slot), k - i = kk → (i ≤ k) → gW D ct zA zs H ll ([]) → lv_has ls 4 [(3, .int (nI i)), (2, .int (nI (b ^ i))), (0, .int (nI b)), (1, .int (nI k))] → W zp l ze rmX8_power zs zm za zb zt zc H ll 0 0 zQ (F0 zm 4 ls []) := by
    intro kk4
    induction kk4 using Nat.strongRecOn with
    | _ kk4 ih4 =>
    intro i H ll ls hk4 hi h hl
    refine lv_iload_n hx hb dX8_power_4 rfl (lv_at hl 0 rfl) ?_
    refine lv_iload_n hx hb dX8_power_5 rfl (lv_at hl 3 rfl) ?_
    refine nb_ge hx hb i k (by omega) (by omega) (tgt := 19) dX8_power_6 (by decide) (fun c_6 => ?_) (fun c_6 => ?_)
    · refine lv_iload_n hx hb dX8_power_19 rfl (lv_at hl 1 rfl) ?_
      exact hret _ () _ _ _ _ h (by rw [show i = k by omega]) dX8_power_20
    · refine lv_iload_n hx hb dX8_power_9 rfl (lv_at hl 1 rfl) ?_
      refine lv_iload_n hx hb dX8_power_10 rfl (lv_at hl 2 rfl) ?_
      refine nmul hx hb (b ^ i) b dX8_power_11 ?_
      refine lv_istore_n (lv' := [(2, .int (nI ((b ^ i) * b))), (3, .int (nI i)), (0, .int (nI b)), (1, .int (nI k))]) hx hb dX8_power_12 rfl hl (by decide) rfl (fun ls hl => ?_)
      refine ninc (lv' := [(3, .int (nI (i + 1))), (2, .int (nI ((b ^ i) * b))), (0, .int (nI b)), (1, .int (nI k))]) hx hb i 1 dX8_power_13 hl (k := 1) rfl (by decide) rfl (fun ls hl => ?_)
      refine lv_goto (tgt := 4) hx hb dX8_power_16 (by decide) ?_
      exact ih4 _ (by omega) (i + 1) _ _ _ rfl (by omega) h (lv_sub hl [0, 1, 2, 3] rfl)
  exact L4_0 _ 0 _ _ _ rfl (by omega) h (lv_sub hl [0, 1, 2, 3] rfl)
set_option maxHeartbeats 1000000 in
set_option maxRecDepth 100000 in
theorem kX8_nextSeed (l : Launch) (D : va_G) (ct : Nat → ClassId)  (sd : Nat) (hsd : sd < 2 ^ 31) : MI l yX8_nextSeed (gWs yX8_nextSeed cX8_nextSeed 1 (some .int)) rmX8_nextSeed D ct gNo [.int (nI sd)] [] (fun _ : Unit => []) (fun r _ => r = nI (nxs sd)) := by
  refine MI.ofI RX8 rfl (by decide) (Nat.le_of_ble_eq_true rfl) ?_
  intro zp ze zs zm za zb zt zc zA ls zQ C h hX hl hret
  have hx := C.1
  have hb := C.2.1
  have hl : lv_has ls 1 [(0, .int (nI sd))] := hl
  refine lv_ldc2 (v := 1103515245) hx hb C.2.2.2.1 (C.2.2.2.2 _ (gWs_in q643)) dX8_nextSeed_0 ?_
  refine lv_iload_n hx hb dX8_nextSeed_3 rfl (lv_at hl 0 rfl) ?_
  refine lv_i2l (v := (nI sd).toInt64) hx hb dX8_nextSeed_4 rfl ?_
  refine lv_lmul hx hb dX8_nextSeed_5 ?_
  refine lv_ldc2 (v := 12345) hx hb C.2.2.2.1 (C.2.2.2.2 _ (gWs_in q644)) dX8_nextSeed_6 ?_
  refine lv_ladd hx hb dX8_nextSeed_9 ?_
  refine lv_ldc2 (v := 2147483647) hx hb C.2.2.2.1 (C.2.2.2.2 _ (gWs_in q645)) dX8_nextSeed_10 ?_
  refine lv_land hx hb dX8_nextSeed_13 ?_
  refine lv_l2i (v := (((1103515245 * ((nI sd).toInt64)) + 12345) &&& 2147483647).toInt32) hx hb dX8_nextSeed_14 rfl ?_
  exact hret _ () _ _ _ _ h (by rw [nI_l hsd, seed_eq, lN_i]) dX8_nextSeed_15
set_option maxHeartbeats 1000000 in
set_option maxRecDepth 100000 in
theorem kX8_drawOf (l : Launch) (D : va_G) (ct : Nat → ClassId)  (sd k : Nat) (hsd : sd < 2 ^ 31) (hk : k < 9) : MI l yX8_drawOf (gWs yX8_drawOf cX8_drawOf 2 (some .int)) rmX8_drawOf D ct gNo [.int (nI sd), .int (nI k)] [] (fun _ : Unit => []) (fun r _ => r = nI (if k = 0 then 0 else sd / 65536 % k)) := by
  refine MI.ofI RX8 rfl (by decide) (Nat.le_of_ble_eq_true rfl) ?_
  intro zp ze zs zm za zb zt zc zA ls zQ C h hX hl hret
  have hx := C.1
  have hb := C.2.1
  have hl : lv_has ls 2 [(0, .int (nI sd)), (1, .int (nI k))] := hl
  refine lv_iload_n hx hb dX8_drawOf_0 rfl (lv_at hl 1 rfl) ?_
  refine nz_le hx hb k (by omega) (tgt := 14) dX8_drawOf_1 (by decide) (fun c_1 => ?_) (fun c_1 => ?_)
  · refine lv_iconst (v := 0) hx hb dX8_drawOf_14 (by decide) ?_
    exact hret _ () _ _ _ _ h (by first | rw [if_pos (by omega)]; rfl | rw [if_neg (by omega)]) dX8_drawOf_15
  · refine lv_iload_n hx hb dX8_drawOf_4 rfl (lv_at hl 0 rfl) ?_
    refine lv_ldcw (v := 65536) hx hb C.2.2.2.1 (C.2.2.2.2 _ (gWs_in q649)) dX8_drawOf_5 ?_
    refine ndiv hx hb sd 65536 (by omega) (by omega) (by omega) dX8_drawOf_8 ?_
    refine lv_iload_n hx hb dX8_drawOf_9 rfl (lv_at hl 1 rfl) ?_
    refine nrem hx hb (sd / 65536) k (by omega) (by omega) (by omega) dX8_drawOf_10 ?_
    refine lv_goto (tgt := 15) hx hb dX8_drawOf_11 (by decide) ?_
    exact hret _ () _ _ _ _ h (by first | rw [if_pos (by omega)]; rfl | rw [if_neg (by omega)]) dX8_drawOf_15
set_option maxHeartbeats 1000000 in
set_option maxRecDepth 100000 in
theorem kX8_mixed (l : Launch) (D : va_G) (ct : Nat → ClassId)  (h0 v : Int64) : ML l yX8_mixed (gWs yX8_mixed cX8_mixed 4 (some .long)) rmX8_mixed D ct gNo [.long h0, .long v] [] (fun _ : Unit => []) (fun r _ => r = 31 * h0 + v) := by
  refine ML.of RX8 rfl (by decide) (Nat.le_of_ble_eq_true rfl) ?_
  intro zp ze zs zm za zb zt zc zA ls zQ C h hX hl hret
  have hx := C.1
  have hb := C.2.1
  have hl : lv_has ls 4 [(0, .long h0), (2, .long v)] := hl
  refine lv_ldc2 (v := 31) hx hb C.2.2.2.1 (C.2.2.2.2 _ (gWs_in q684)) dX8_mixed_0 ?_
  refine lv_lload_n hx hb dX8_mixed_3 rfl (lv_at hl 0 rfl) ?_
  refine lv_lmul hx hb dX8_mixed_4 ?_
  refine lv_lload_n hx hb dX8_mixed_5 rfl (lv_at hl 1 rfl) ?_
  refine lv_ladd hx hb dX8_mixed_6 ?_
  exact hret _ () _ _ _ _ h rfl dX8_mixed_7
