set_option maxHeartbeats 1000000 in
set_option maxRecDepth 100000 in
theorem kX8_letter_no (l : Launch) (D : va_G) (ct : Nat → ClassId) (ad : Nat → Nat → Nat) (σ lm : Nat → Nat → Nat → Int32) (τ : Nat → Int64) (n : Nat) (kd : Nat → Nat) (hok : ROK (σ 2) n kd) (pn : Nat) (hpn : σ 1 0 0 = nI pn) (hpn50 : pn ≤ 50) (x : Int32) (hv : ¬ (((¬ x < 32) ∧ (x ≤ 126)) ∧ ((pn < 50)))) : MI l yX8_letter (gWs yX8_letter cX8_letter 2 (some .int)) rmX8_letter D ct gNo [.ref (ad 0 0), .int x] (wX ad ct σ lm τ) (fun _ : Unit => (wX ad ct σ lm τ)) (fun r _ => r = (if ¬ ((¬ x < 32) ∧ (x ≤ 126)) then -102 else -104)) := by
  refine MI.ofI RX8 rfl (by decide) (Nat.le_of_ble_eq_true rfl) ?_
  intro zp ze zs zm za zb zt zc zA ls zQ C h hX hl hret
  have hx := C.1
  have hb := C.2.1
  have hl : lv_has ls 2 [(0, .ref (ad 0 0)), (1, .int x)] := hl
  have hok0 := hok
  obtain ⟨hn, hn8, hkd⟩ := hok0
  refine lv_iload_n hx hb dX8_letter_0 rfl (lv_at hl 1 rfl) ?_
  refine lv_bipush (v := 32) hx hb dX8_letter_1 (by decide) ?_
  refine lv_icmp_lt (tgt := 12) hx hb dX8_letter_3 (by decide) (fun c_3 => ?_) (fun c_3 => ?_)
  · refine lv_bipush (v := -102) hx hb dX8_letter_12 (by decide) ?_
    exact hret _ () _ _ _ _ h (by rw [if_pos (fun q9 => by first | exact c_3 q9.1 | exact q9.1 c_3)]) dX8_letter_14
  · refine lv_iload_n hx hb dX8_letter_6 rfl (lv_at hl 1 rfl) ?_
    refine lv_bipush (v := 126) hx hb dX8_letter_7 (by decide) ?_
    refine lv_icmp_le (tgt := 15) hx hb dX8_letter_9 (by decide) (fun c_9 => ?_) (fun c_9 => ?_)
    · refine lv_aload_n hx hb dX8_letter_15 rfl (lv_at hl 0 rfl) ?_
      refine gget C h igX8 0 rfl rfl 0 (by decide) q201 rfl rfl dX8_letter_16 ?_
      refine gget C h igX4 1 rfl rfl 1 (by decide) q92 rfl rfl dX8_letter_19 ?_
      refine gas hpn ?_
      refine lv_bipush (v := 50) hx hb dX8_letter_22 (by decide) ?_
      refine nb_lt hx hb pn 50 (by omega) (by omega) (tgt := 30) dX8_letter_24 (by decide) (fun c_24 => ?_) (fun c_24 => ?_)
      · exact absurd (show ((¬ x < 32) ∧ (x ≤ 126)) ∧ ((pn < 50)) from ⟨⟨c_3, c_9⟩, c_24⟩) hv
      · refine lv_bipush (v := -104) hx hb dX8_letter_27 (by decide) ?_
        exact hret _ () _ _ _ _ h (by rw [if_neg (not_not_intro (show (¬ x < 32) ∧ (x ≤ 126) from ⟨c_3, c_9⟩))]) dX8_letter_29
    · refine lv_bipush (v := -102) hx hb dX8_letter_12 (by decide) ?_
      exact hret _ () _ _ _ _ h (by rw [if_pos (fun q9 => by first | exact c_9 q9.2 | exact q9.2 c_9)]) dX8_letter_14
set_option maxHeartbeats 1000000 in
set_option maxRecDepth 100000 in
theorem kX8_rope_no (l : Launch) (D : va_G) (ct : Nat → ClassId) (ad : Nat → Nat → Nat) (σ lm : Nat → Nat → Nat → Int32) (τ : Nat → Int64) (dt : Nat → Nat) (n : Nat) (kd : Nat → Nat) (hok : ROK (σ 2) n kd) (pn : Nat) (pg : Nat → Nat) (hpk : POK (σ 1) pn pg) (hv : ¬ (((11 ≤ pn ∧ pn % 6 = 5 ∧ ffe (fun j => !fitX (σ 1 1) j) pn 0 = pn)))) : MI l yX8_rope (gWs yX8_rope cX8_rope 3 (some .int)) rmX8_rope D ct (stX dt) [.ref (ad 0 0)] (wX ad ct σ lm τ) (fun _ : Unit => (wX ad ct σ lm τ)) (fun r _ => r = (-103)) := by
  refine MI.ofI RX8 rfl (by decide) (Nat.le_of_ble_eq_true rfl) ?_
  intro zp ze zs zm za zb zt zc zA ls zQ C h hX hl hret
  have hx := C.1
  have hb := C.2.1
  have hl : lv_has ls 3 [(0, .ref (ad 0 0))] := hl
  have hok0 := hok
  obtain ⟨hn, hn8, hkd⟩ := hok0
  have hpk0 := hpk
  obtain ⟨hpn, hpn50, hpg⟩ := hpk0
  refine lv_aload_n hx hb dX8_rope_0 rfl (lv_at hl 0 rfl) ?_
  refine gget C h igX8 0 rfl rfl 0 (by decide) q201 rfl rfl dX8_rope_1 ?_
  refine gFi C h hX (stX_ok _) (kX4_readsAsRope l D ct (ad 1) (σ 1) dt pn pg hpk) (cwV 0 C.2.2.2.2 (gInV q351 q352 q353 q58 q354) rfl rfl rfl hvX4_readsAsRope ⟨Nat.le_of_ble_eq_true rfl, Nat.le_of_ble_eq_true rfl⟩) 1 rfl rfl rfl (fr_X_P ad ct _ _ _) rfl hl.1 rfl (Nat.le_of_ble_eq_true rfl) dX8_rope_4 ⟨Nat.zero_le _, Nat.zero_le _⟩ (fun r9 u9 H ll hw h => ?_)
  have hw : r9 = (if 11 ≤ pn ∧ pn % 6 = 5 ∧ ffe (fun j => !fitX ((σ 1) 1) j) pn 0 = pn then 1 else 0) := hw
  subst hw
  have h : gW D ct zA zs _ _ (wX ad ct σ lm τ) := h
  refine bz_ne hx hb (11 ≤ pn ∧ pn % 6 = 5 ∧ ffe (fun j => !fitX ((σ 1) 1) j) pn 0 = pn) (tgt := 13) dX8_rope_7 (by decide) (fun c_7 => ?_) (fun c_7 => ?_)
  · exact absurd (show ((11 ≤ pn ∧ pn % 6 = 5 ∧ ffe (fun j => !fitX (σ 1 1) j) pn 0 = pn)) from c_7) hv
  · refine lv_bipush (v := -103) hx hb dX8_rope_10 (by decide) ?_
    exact hret _ () _ _ _ _ h rfl dX8_rope_12
set_option maxHeartbeats 1000000 in
set_option maxRecDepth 100000 in
theorem kX8_as_no (l : Launch) (D : va_G) (ct : Nat → ClassId) (ad : Nat → Nat → Nat) (σ lm : Nat → Nat → Nat → Int32) (τ : Nat → Int64) (dt : Nat → Nat) (n : Nat) (kd : Nat → Nat) (hok : ROK (σ 2) n kd) (x z : Int32) (hv : ¬ (((0 ≤ x ∧ x < nI n)) ∧ ((¬ z < 0) ∧ (z < nI 5)))) : MI l yX8_as (gWs yX8_as cX8_as 3 (some .int)) rmX8_as D ct (stX dt) [.ref (ad 0 0), .int x, .int z] (wX ad ct σ lm τ) (fun _ : Unit => (wX ad ct σ lm τ)) (fun r _ => r = (if ¬ ((0 ≤ x ∧ x < nI n)) then -101 else -102)) := by
  refine MI.ofI RX8 rfl (by decide) (Nat.le_of_ble_eq_true rfl) ?_
  intro zp ze zs zm za zb zt zc zA ls zQ C h hX hl hret
  have hx := C.1
  have hb := C.2.1
  have hl : lv_has ls 3 [(0, .ref (ad 0 0)), (1, .int x), (2, .int z)] := hl
  have hok0 := hok
  obtain ⟨hn, hn8, hkd⟩ := hok0
  refine lv_aload_n hx hb dX8_as_0 rfl (lv_at hl 0 rfl) ?_
  refine gget C h igX8 0 rfl rfl 1 (by decide) q202 rfl rfl dX8_as_1 ?_
  refine lv_iload_n hx hb dX8_as_4 rfl (lv_at hl 1 rfl) ?_
  refine gFi C h trivial gNo_ok (kX5_has l D ct (ad 2) (σ 2) n hn hn8 x) (cwV 1 C.2.2.2.2 (gInV q380 q381 q382 q59 q383) rfl rfl rfl hvX5_has ⟨Nat.le_of_ble_eq_true rfl, Nat.le_of_ble_eq_true rfl⟩) 3 rfl rfl rfl (fr_X_R ad ct _ _ _) rfl hl.1 rfl (Nat.le_of_ble_eq_true rfl) dX8_as_5 ⟨Nat.zero_le _, Nat.zero_le _⟩ (fun r9 u9 H ll hw h => ?_)
  have hw : r9 = (if 0 ≤ x ∧ x < nI n then 1 else 0) := hw
  subst hw
  have h : gW D ct zA zs _ _ (wX ad ct σ lm τ) := h
  refine bz_ne hx hb (0 ≤ x ∧ x < nI n) (tgt := 14) dX8_as_8 (by decide) (fun c_8 => ?_) (fun c_8 => ?_)
  · refine lv_iload_n hx hb dX8_as_14 rfl (lv_at hl 2 rfl) ?_
    refine lv_if_lt (tgt := 27) hx hb dX8_as_15 (by decide) (fun c_15 => ?_) (fun c_15 => ?_)
    · refine lv_bipush (v := -102) hx hb dX8_as_27 (by decide) ?_
      exact hret _ () _ _ _ _ h (by rw [if_neg (not_not_intro (show (0 ≤ x ∧ x < nI n) from c_8))]) dX8_as_29
    · refine lv_iload_n hx hb dX8_as_18 rfl (lv_at hl 2 rfl) ?_
      refine va_ldcS C.1 C.2.1 C.2.2.2.1 (stX_r8 hX) dX8_as_19 ?_
      refine gJV C h hX (stX_ok dt) (kJ0_length_8abf5 l D ct dt ) (cwV 0 C.2.2.2.2 (gInV q480 q275 q276 q67 q277) rfl rfl rfl hvJ0_length_8abf5 ⟨Nat.le_of_ble_eq_true rfl, Nat.le_of_ble_eq_true rfl⟩) (stX_rc hX h.2.2.2.1) rfl hl.1 rfl (Nat.le_of_ble_eq_true rfl) dX8_as_21 ⟨Nat.zero_le _, Nat.zero_le _⟩ (fun H ll h => ?_)
      have h : gW D ct zA zs _ _ (wX ad ct σ lm τ) := h
      refine lv_icmp_lt (tgt := 30) hx hb dX8_as_24 (by decide) (fun c_24 => ?_) (fun c_24 => ?_)
      · exact absurd (show ((0 ≤ x ∧ x < nI n)) ∧ ((¬ z < 0) ∧ (z < nI 5)) from ⟨c_8, ⟨c_15, c_24⟩⟩) hv
      · refine lv_bipush (v := -102) hx hb dX8_as_27 (by decide) ?_
        exact hret _ () _ _ _ _ h (by rw [if_neg (not_not_intro (show (0 ≤ x ∧ x < nI n) from c_8))]) dX8_as_29
  · refine lv_bipush (v := -101) hx hb dX8_as_11 (by decide) ?_
    exact hret _ () _ _ _ _ h (by rw [if_pos (fun q9 => by first | exact c_8 q9 | exact q9 c_8)]) dX8_as_13
set_option maxHeartbeats 1000000 in
set_option maxRecDepth 100000 in
theorem kX8_ask_no (l : Launch) (D : va_G) (ct : Nat → ClassId) (ad : Nat → Nat → Nat) (σ lm : Nat → Nat → Nat → Int32) (τ : Nat → Int64) (n : Nat) (kd : Nat → Nat) (hok : ROK (σ 2) n kd) (x : Int32) (hv : ¬ (((0 < n ∧ 0 ≤ x ∧ x < 3)))) : MI l yX8_ask (gWs yX8_ask cX8_ask 3 (some .int)) rmX8_ask D ct gNo [.ref (ad 0 0), .int x] (wX ad ct σ lm τ) (fun _ : Unit => (wX ad ct σ lm τ)) (fun r _ => r = (-101)) := by
  refine MI.ofI RX8 rfl (by decide) (Nat.le_of_ble_eq_true rfl) ?_
  intro zp ze zs zm za zb zt zc zA ls zQ C h hX hl hret
  have hx := C.1
  have hb := C.2.1
  have hl : lv_has ls 3 [(0, .ref (ad 0 0)), (1, .int x)] := hl
  have hok0 := hok
  obtain ⟨hn, hn8, hkd⟩ := hok0
  refine lv_aload_n hx hb dX8_ask_0 rfl (lv_at hl 0 rfl) ?_
  refine lv_iload_n hx hb dX8_ask_1 rfl (lv_at hl 1 rfl) ?_
  refine gcallVi C h trivial gNo_ok (kX8_isQuestion l D ct ad σ lm τ n kd hok x) (cwV 1 C.2.2.2.2 (gInV q492 q494 q6 q57 q495) rfl rfl rfl hvX8_isQuestion ⟨Nat.le_of_ble_eq_true rfl, Nat.le_of_ble_eq_true rfl⟩) 0 rfl rfl rfl rfl hl.1 rfl (Nat.le_of_ble_eq_true rfl) dX8_ask_2 ⟨Nat.zero_le _, Nat.zero_le _⟩ (fun r9 u9 H ll hw h => ?_)
  have hw : r9 = (if 0 < n ∧ 0 ≤ x ∧ x < 3 then 1 else 0) := hw
  subst hw
  have h : gW D ct zA zs _ _ (wX ad ct σ lm τ) := h
  refine bz_ne hx hb (0 < n ∧ 0 ≤ x ∧ x < 3) (tgt := 11) dX8_ask_5 (by decide) (fun c_5 => ?_) (fun c_5 => ?_)
  · exact absurd (show ((0 < n ∧ 0 ≤ x ∧ x < 3)) from c_5) hv
  · refine lv_bipush (v := -101) hx hb dX8_ask_8 (by decide) ?_
    exact hret _ () _ _ _ _ h rfl dX8_ask_10
set_option maxHeartbeats 1000000 in
set_option maxRecDepth 100000 in
theorem kX8_tide_no (l : Launch) (D : va_G) (ct : Nat → ClassId) (ad : Nat → Nat → Nat) (σ lm : Nat → Nat → Nat → Int32) (τ : Nat → Int64) (n : Nat) (kd : Nat → Nat) (hok : ROK (σ 2) n kd)  (hv : ¬ (((¬ n = 0)) ∧ ((σ 3 12 0 < 999)))) : MI l yX8_tide (gWs yX8_tide cX8_tide 1 (some .int)) rmX8_tide D ct gNo [.ref (ad 0 0)] (wX ad ct σ lm τ) (fun _ : Unit => (wX ad ct σ lm τ)) (fun r _ => r = (if ¬ ((¬ n = 0)) then -103 else -104)) := by
  refine MI.ofI RX8 rfl (by decide) (Nat.le_of_ble_eq_true rfl) ?_
  intro zp ze zs zm za zb zt zc zA ls zQ C h hX hl hret
  have hx := C.1
  have hb := C.2.1
  have hl : lv_has ls 1 [(0, .ref (ad 0 0))] := hl
  have hok0 := hok
  obtain ⟨hn, hn8, hkd⟩ := hok0
  refine lv_aload_n hx hb dX8_tide_0 rfl (lv_at hl 0 rfl) ?_
  refine gget C h igX8 0 rfl rfl 1 (by decide) q202 rfl rfl dX8_tide_1 ?_
  refine gget C h igX5 3 rfl rfl 2 (by decide) q144 rfl rfl dX8_tide_4 ?_
  refine gas hn ?_
  refine nz_ne hx hb n (by omega) (tgt := 13) dX8_tide_7 (by decide) (fun c_7 => ?_) (fun c_7 => ?_)
  · refine lv_aload_n hx hb dX8_tide_13 rfl (lv_at hl 0 rfl) ?_
    refine gget C h igX8 0 rfl rfl 2 (by decide) q203 rfl rfl dX8_tide_14 ?_
    refine gget C h igX6 11 rfl rfl 9 (by decide) q179 rfl rfl dX8_tide_17 ?_
    refine lv_sipush (v := 999) hx hb dX8_tide_20 (by decide) ?_
    refine lv_icmp_lt (tgt := 29) hx hb dX8_tide_23 (by decide) (fun c_23 => ?_) (fun c_23 => ?_)
    · exact absurd (show ((¬ n = 0)) ∧ ((σ 3 12 0 < 999)) from ⟨c_7, c_23⟩) hv
    · refine lv_bipush (v := -104) hx hb dX8_tide_26 (by decide) ?_
      exact hret _ () _ _ _ _ h (by rw [if_neg (not_not_intro (show (¬ n = 0) from c_7))]) dX8_tide_28
  · refine lv_bipush (v := -103) hx hb dX8_tide_10 (by decide) ?_
    exact hret _ () _ _ _ _ h (by rw [if_pos (fun q9 => by first | exact c_7 q9 | exact q9 c_7)]) dX8_tide_12
set_option maxHeartbeats 1000000 in
set_option maxRecDepth 100000 in
theorem kX8_cut_no (l : Launch) (D : va_G) (ct : Nat → ClassId) (ad : Nat → Nat → Nat) (σ lm : Nat → Nat → Nat → Int32) (τ : Nat → Int64) (n : Nat) (kd : Nat → Nat) (hok : ROK (σ 2) n kd) (x : Int32) (hv : ¬ (((0 ≤ x ∧ x < nI n)))) : MI l yX8_cut (gWs yX8_cut cX8_cut 2 (some .int)) rmX8_cut D ct gNo [.ref (ad 0 0), .int x] (wX ad ct σ lm τ) (fun _ : Unit => (wX ad ct σ lm τ)) (fun r _ => r = (-101)) := by
  refine MI.ofI RX8 rfl (by decide) (Nat.le_of_ble_eq_true rfl) ?_
  intro zp ze zs zm za zb zt zc zA ls zQ C h hX hl hret
  have hx := C.1
  have hb := C.2.1
  have hl : lv_has ls 2 [(0, .ref (ad 0 0)), (1, .int x)] := hl
  have hok0 := hok
  obtain ⟨hn, hn8, hkd⟩ := hok0
  refine lv_aload_n hx hb dX8_cut_0 rfl (lv_at hl 0 rfl) ?_
  refine gget C h igX8 0 rfl rfl 1 (by decide) q202 rfl rfl dX8_cut_1 ?_
  refine lv_iload_n hx hb dX8_cut_4 rfl (lv_at hl 1 rfl) ?_
  refine gFi C h trivial gNo_ok (kX5_has l D ct (ad 2) (σ 2) n hn hn8 x) (cwV 1 C.2.2.2.2 (gInV q380 q381 q382 q59 q383) rfl rfl rfl hvX5_has ⟨Nat.le_of_ble_eq_true rfl, Nat.le_of_ble_eq_true rfl⟩) 3 rfl rfl rfl (fr_X_R ad ct _ _ _) rfl hl.1 rfl (Nat.le_of_ble_eq_true rfl) dX8_cut_5 ⟨Nat.zero_le _, Nat.zero_le _⟩ (fun r9 u9 H ll hw h => ?_)
  have hw : r9 = (if 0 ≤ x ∧ x < nI n then 1 else 0) := hw
  subst hw
  have h : gW D ct zA zs _ _ (wX ad ct σ lm τ) := h
  refine bz_ne hx hb (0 ≤ x ∧ x < nI n) (tgt := 14) dX8_cut_8 (by decide) (fun c_8 => ?_) (fun c_8 => ?_)
  · exact absurd (show ((0 ≤ x ∧ x < nI n)) from c_8) hv
  · refine lv_bipush (v := -101) hx hb dX8_cut_11 (by decide) ?_
    exact hret _ () _ _ _ _ h rfl dX8_cut_13
set_option maxHeartbeats 1000000 in
set_option maxRecDepth 100000 in
theorem kX8_tie_no (l : Launch) (D : va_G) (ct : Nat → ClassId) (ad : Nat → Nat → Nat) (σ lm : Nat → Nat → Nat → Int32) (τ : Nat → Int64) (n : Nat) (kd : Nat → Nat) (hok : ROK (σ 2) n kd) (x : Int32) (hv : ¬ (((0 ≤ x ∧ x < nI n)))) : MI l yX8_tie (gWs yX8_tie cX8_tie 2 (some .int)) rmX8_tie D ct gNo [.ref (ad 0 0), .int x] (wX ad ct σ lm τ) (fun _ : Unit => (wX ad ct σ lm τ)) (fun r _ => r = (-101)) := by
  refine MI.ofI RX8 rfl (by decide) (Nat.le_of_ble_eq_true rfl) ?_
  intro zp ze zs zm za zb zt zc zA ls zQ C h hX hl hret
  have hx := C.1
  have hb := C.2.1
  have hl : lv_has ls 2 [(0, .ref (ad 0 0)), (1, .int x)] := hl
  have hok0 := hok
  obtain ⟨hn, hn8, hkd⟩ := hok0
  refine lv_aload_n hx hb dX8_tie_0 rfl (lv_at hl 0 rfl) ?_
  refine gget C h igX8 0 rfl rfl 1 (by decide) q202 rfl rfl dX8_tie_1 ?_
  refine lv_iload_n hx hb dX8_tie_4 rfl (lv_at hl 1 rfl) ?_
  refine gFi C h trivial gNo_ok (kX5_has l D ct (ad 2) (σ 2) n hn hn8 x) (cwV 1 C.2.2.2.2 (gInV q380 q381 q382 q59 q383) rfl rfl rfl hvX5_has ⟨Nat.le_of_ble_eq_true rfl, Nat.le_of_ble_eq_true rfl⟩) 3 rfl rfl rfl (fr_X_R ad ct _ _ _) rfl hl.1 rfl (Nat.le_of_ble_eq_true rfl) dX8_tie_5 ⟨Nat.zero_le _, Nat.zero_le _⟩ (fun r9 u9 H ll hw h => ?_)
  have hw : r9 = (if 0 ≤ x ∧ x < nI n then 1 else 0) := hw
  subst hw
  have h : gW D ct zA zs _ _ (wX ad ct σ lm τ) := h
  refine bz_ne hx hb (0 ≤ x ∧ x < nI n) (tgt := 14) dX8_tie_8 (by decide) (fun c_8 => ?_) (fun c_8 => ?_)
  · exact absurd (show ((0 ≤ x ∧ x < nI n)) from c_8) hv
  · refine lv_bipush (v := -101) hx hb dX8_tie_11 (by decide) ?_
    exact hret _ () _ _ _ _ h rfl dX8_tie_13
set_option maxHeartbeats 1000000 in
set_option maxRecDepth 100000 in
theorem kX8_turn_no (l : Launch) (D : va_G) (ct : Nat → ClassId) (ad : Nat → Nat → Nat) (σ lm : Nat → Nat → Nat → Int32) (τ : Nat → Int64) (n : Nat) (kd : Nat → Nat) (hok : ROK (σ 2) n kd) (x z t : Int32) (hv : ¬ (((0 ≤ x ∧ x < nI n) ∧ (0 < n ∧ 0 ≤ z ∧ z < 3)) ∧ ((-1 ≤ t ∧ t ≤ 1)))) : MI l yX8_turn (gWs yX8_turn cX8_turn 5 (some .int)) rmX8_turn D ct gNo [.ref (ad 0 0), .int x, .int z, .int t] (wX ad ct σ lm τ) (fun _ : Unit => (wX ad ct σ lm τ)) (fun r _ => r = (if ¬ ((0 ≤ x ∧ x < nI n) ∧ (0 < n ∧ 0 ≤ z ∧ z < 3)) then -101 else -102)) := by
  refine MI.ofI RX8 rfl (by decide) (Nat.le_of_ble_eq_true rfl) ?_
  intro zp ze zs zm za zb zt zc zA ls zQ C h hX hl hret
  have hx := C.1
  have hb := C.2.1
  have hl : lv_has ls 5 [(0, .ref (ad 0 0)), (1, .int x), (2, .int z), (3, .int t)] := hl
  have hok0 := hok
  obtain ⟨hn, hn8, hkd⟩ := hok0
  refine lv_aload_n hx hb dX8_turn_0 rfl (lv_at hl 0 rfl) ?_
  refine gget C h igX8 0 rfl rfl 1 (by decide) q202 rfl rfl dX8_turn_1 ?_
  refine lv_iload_n hx hb dX8_turn_4 rfl (lv_at hl 1 rfl) ?_
  refine gFi C h trivial gNo_ok (kX5_has l D ct (ad 2) (σ 2) n hn hn8 x) (cwV 1 C.2.2.2.2 (gInV q380 q381 q382 q59 q383) rfl rfl rfl hvX5_has ⟨Nat.le_of_ble_eq_true rfl, Nat.le_of_ble_eq_true rfl⟩) 3 rfl rfl rfl (fr_X_R ad ct _ _ _) rfl hl.1 rfl (Nat.le_of_ble_eq_true rfl) dX8_turn_5 ⟨Nat.zero_le _, Nat.zero_le _⟩ (fun r9 u9 H ll hw h => ?_)
  have hw : r9 = (if 0 ≤ x ∧ x < nI n then 1 else 0) := hw
  subst hw
  have h : gW D ct zA zs _ _ (wX ad ct σ lm τ) := h
  refine bz_eq hx hb (0 ≤ x ∧ x < nI n) (tgt := 19) dX8_turn_8 (by decide) (fun c_8 => ?_) (fun c_8 => ?_)
  · refine lv_bipush (v := -101) hx hb dX8_turn_19 (by decide) ?_
    exact hret _ () _ _ _ _ h (by rw [if_pos (fun q9 => by first | exact c_8 q9.1 | exact q9.1 c_8)]) dX8_turn_21
  · refine lv_aload_n hx hb dX8_turn_11 rfl (lv_at hl 0 rfl) ?_
    refine lv_iload_n hx hb dX8_turn_12 rfl (lv_at hl 2 rfl) ?_
    refine gcallVi C h trivial gNo_ok (kX8_isQuestion l D ct ad σ lm τ n kd hok z) (cwV 1 C.2.2.2.2 (gInV q492 q494 q6 q57 q495) rfl rfl rfl hvX8_isQuestion ⟨Nat.le_of_ble_eq_true rfl, Nat.le_of_ble_eq_true rfl⟩) 0 rfl rfl rfl rfl hl.1 rfl (Nat.le_of_ble_eq_true rfl) dX8_turn_13 ⟨Nat.zero_le _, Nat.zero_le _⟩ (fun r9 u9 H ll hw h => ?_)
    have hw : r9 = (if 0 < n ∧ 0 ≤ z ∧ z < 3 then 1 else 0) := hw
    subst hw
    have h : gW D ct zA zs _ _ (wX ad ct σ lm τ) := h
    refine bz_ne hx hb (0 < n ∧ 0 ≤ z ∧ z < 3) (tgt := 22) dX8_turn_16 (by decide) (fun c_16 => ?_) (fun c_16 => ?_)
    · refine lv_iload_n hx hb dX8_turn_22 rfl (lv_at hl 3 rfl) ?_
      refine gcallSi C h (kX8_isWay l D ct t) (va_cwS 1 C.2.2.2.2 (gInS q539 q540 q57 q541) rfl rfl rfl hdX8_isWay ⟨Nat.le_of_ble_eq_true rfl, Nat.le_of_ble_eq_true rfl⟩) rfl hl.1 rfl (Nat.le_of_ble_eq_true rfl) dX8_turn_23 ⟨Nat.zero_le _, Nat.zero_le _⟩ (fun H ll h => ?_)
      refine bz_ne hx hb (-1 ≤ t ∧ t ≤ 1) (tgt := 32) dX8_turn_26 (by decide) (fun c_26 => ?_) (fun c_26 => ?_)
      · exact absurd (show ((0 ≤ x ∧ x < nI n) ∧ (0 < n ∧ 0 ≤ z ∧ z < 3)) ∧ ((-1 ≤ t ∧ t ≤ 1)) from ⟨⟨c_8, c_16⟩, c_26⟩) hv
      · refine lv_bipush (v := -102) hx hb dX8_turn_29 (by decide) ?_
        exact hret _ () _ _ _ _ h (by rw [if_neg (not_not_intro (show (0 ≤ x ∧ x < nI n) ∧ (0 < n ∧ 0 ≤ z ∧ z < 3) from ⟨c_8, c_16⟩))]) dX8_turn_31
    · refine lv_bipush (v := -101) hx hb dX8_turn_19 (by decide) ?_
      exact hret _ () _ _ _ _ h (by rw [if_pos (fun q9 => by first | exact c_16 q9.2 | exact q9.2 c_16)]) dX8_turn_21
set_option maxHeartbeats 1000000 in
set_option maxRecDepth 100000 in
theorem kX8_grow_no (l : Launch) (D : va_G) (ct : Nat → ClassId) (ad : Nat → Nat → Nat) (σ lm : Nat → Nat → Nat → Int32) (τ : Nat → Int64) (n : Nat) (kd : Nat → Nat) (hok : ROK (σ 2) n kd) (x z : Int32) (hv : ¬ (((0 ≤ x ∧ x < nI n)) ∧ ((¬ z < 1) ∧ (z ≤ 9)))) : MI l yX8_grow (gWs yX8_grow cX8_grow 4 (some .int)) rmX8_grow D ct gNo [.ref (ad 0 0), .int x, .int z] (wX ad ct σ lm τ) (fun _ : Unit => (wX ad ct σ lm τ)) (fun r _ => r = (if ¬ ((0 ≤ x ∧ x < nI n)) then -101 else -102)) := by
  refine MI.ofI RX8 rfl (by decide) (Nat.le_of_ble_eq_true rfl) ?_
  intro zp ze zs zm za zb zt zc zA ls zQ C h hX hl hret
  have hx := C.1
  have hb := C.2.1
  have hl : lv_has ls 4 [(0, .ref (ad 0 0)), (1, .int x), (2, .int z)] := hl
  have hok0 := hok
  obtain ⟨hn, hn8, hkd⟩ := hok0
  refine lv_aload_n hx hb dX8_grow_0 rfl (lv_at hl 0 rfl) ?_
  refine gget C h igX8 0 rfl rfl 1 (by decide) q202 rfl rfl dX8_grow_1 ?_
  refine lv_iload_n hx hb dX8_grow_4 rfl (lv_at hl 1 rfl) ?_
  refine gFi C h trivial gNo_ok (kX5_has l D ct (ad 2) (σ 2) n hn hn8 x) (cwV 1 C.2.2.2.2 (gInV q380 q381 q382 q59 q383) rfl rfl rfl hvX5_has ⟨Nat.le_of_ble_eq_true rfl, Nat.le_of_ble_eq_true rfl⟩) 3 rfl rfl rfl (fr_X_R ad ct _ _ _) rfl hl.1 rfl (Nat.le_of_ble_eq_true rfl) dX8_grow_5 ⟨Nat.zero_le _, Nat.zero_le _⟩ (fun r9 u9 H ll hw h => ?_)
  have hw : r9 = (if 0 ≤ x ∧ x < nI n then 1 else 0) := hw
  subst hw
  have h : gW D ct zA zs _ _ (wX ad ct σ lm τ) := h
  refine bz_ne hx hb (0 ≤ x ∧ x < nI n) (tgt := 14) dX8_grow_8 (by decide) (fun c_8 => ?_) (fun c_8 => ?_)
  · refine lv_iload_n hx hb dX8_grow_14 rfl (lv_at hl 2 rfl) ?_
    refine lv_iconst (v := 1) hx hb dX8_grow_15 (by decide) ?_
    refine lv_icmp_lt (tgt := 25) hx hb dX8_grow_16 (by decide) (fun c_16 => ?_) (fun c_16 => ?_)
    · refine lv_bipush (v := -102) hx hb dX8_grow_25 (by decide) ?_
      exact hret _ () _ _ _ _ h (by rw [if_neg (not_not_intro (show (0 ≤ x ∧ x < nI n) from c_8))]) dX8_grow_27
    · refine lv_iload_n hx hb dX8_grow_19 rfl (lv_at hl 2 rfl) ?_
      refine lv_bipush (v := 9) hx hb dX8_grow_20 (by decide) ?_
      refine lv_icmp_le (tgt := 28) hx hb dX8_grow_22 (by decide) (fun c_22 => ?_) (fun c_22 => ?_)
      · exact absurd (show ((0 ≤ x ∧ x < nI n)) ∧ ((¬ z < 1) ∧ (z ≤ 9)) from ⟨c_8, ⟨c_16, c_22⟩⟩) hv
      · refine lv_bipush (v := -102) hx hb dX8_grow_25 (by decide) ?_
        exact hret _ () _ _ _ _ h (by rw [if_neg (not_not_intro (show (0 ≤ x ∧ x < nI n) from c_8))]) dX8_grow_27
  · refine lv_bipush (v := -101) hx hb dX8_grow_11 (by decide) ?_
    exact hret _ () _ _ _ _ h (by rw [if_pos (fun q9 => by first | exact c_8 q9 | exact q9 c_8)]) dX8_grow_13
set_option maxHeartbeats 1000000 in
set_option maxRecDepth 100000 in
theorem kX8_say_no (l : Launch) (D : va_G) (ct : Nat → ClassId) (ad : Nat → Nat → Nat) (σ lm : Nat → Nat → Nat → Int32) (τ : Nat → Int64) (n : Nat) (kd : Nat → Nat) (hok : ROK (σ 2) n kd) (x z t : Int32) (hv : ¬ (((0 ≤ x ∧ x < nI n) ∧ (0 < n ∧ 0 ≤ z ∧ z < 3)) ∧ ((t = 0 ∨ t = 1)))) : MI l yX8_say (gWs yX8_say cX8_say 5 (some .int)) rmX8_say D ct gNo [.ref (ad 0 0), .int x, .int z, .int t] (wX ad ct σ lm τ) (fun _ : Unit => (wX ad ct σ lm τ)) (fun r _ => r = (if ¬ ((0 ≤ x ∧ x < nI n) ∧ (0 < n ∧ 0 ≤ z ∧ z < 3)) then -101 else -102)) := by
  refine MI.ofI RX8 rfl (by decide) (Nat.le_of_ble_eq_true rfl) ?_
  intro zp ze zs zm za zb zt zc zA ls zQ C h hX hl hret
  have hx := C.1
  have hb := C.2.1
  have hl : lv_has ls 5 [(0, .ref (ad 0 0)), (1, .int x), (2, .int z), (3, .int t)] := hl
  have hok0 := hok
  obtain ⟨hn, hn8, hkd⟩ := hok0
  refine lv_aload_n hx hb dX8_say_0 rfl (lv_at hl 0 rfl) ?_
  refine gget C h igX8 0 rfl rfl 1 (by decide) q202 rfl rfl dX8_say_1 ?_
  refine lv_iload_n hx hb dX8_say_4 rfl (lv_at hl 1 rfl) ?_
  refine gFi C h trivial gNo_ok (kX5_has l D ct (ad 2) (σ 2) n hn hn8 x) (cwV 1 C.2.2.2.2 (gInV q380 q381 q382 q59 q383) rfl rfl rfl hvX5_has ⟨Nat.le_of_ble_eq_true rfl, Nat.le_of_ble_eq_true rfl⟩) 3 rfl rfl rfl (fr_X_R ad ct _ _ _) rfl hl.1 rfl (Nat.le_of_ble_eq_true rfl) dX8_say_5 ⟨Nat.zero_le _, Nat.zero_le _⟩ (fun r9 u9 H ll hw h => ?_)
  have hw : r9 = (if 0 ≤ x ∧ x < nI n then 1 else 0) := hw
  subst hw
  have h : gW D ct zA zs _ _ (wX ad ct σ lm τ) := h
  refine bz_eq hx hb (0 ≤ x ∧ x < nI n) (tgt := 19) dX8_say_8 (by decide) (fun c_8 => ?_) (fun c_8 => ?_)
  · refine lv_bipush (v := -101) hx hb dX8_say_19 (by decide) ?_
    exact hret _ () _ _ _ _ h (by rw [if_pos (fun q9 => by first | exact c_8 q9.1 | exact q9.1 c_8)]) dX8_say_21
  · refine lv_aload_n hx hb dX8_say_11 rfl (lv_at hl 0 rfl) ?_
    refine lv_iload_n hx hb dX8_say_12 rfl (lv_at hl 2 rfl) ?_
    refine gcallVi C h trivial gNo_ok (kX8_isQuestion l D ct ad σ lm τ n kd hok z) (cwV 1 C.2.2.2.2 (gInV q492 q494 q6 q57 q495) rfl rfl rfl hvX8_isQuestion ⟨Nat.le_of_ble_eq_true rfl, Nat.le_of_ble_eq_true rfl⟩) 0 rfl rfl rfl rfl hl.1 rfl (Nat.le_of_ble_eq_true rfl) dX8_say_13 ⟨Nat.zero_le _, Nat.zero_le _⟩ (fun r9 u9 H ll hw h => ?_)
    have hw : r9 = (if 0 < n ∧ 0 ≤ z ∧ z < 3 then 1 else 0) := hw
    subst hw
    have h : gW D ct zA zs _ _ (wX ad ct σ lm τ) := h
    refine bz_ne hx hb (0 < n ∧ 0 ≤ z ∧ z < 3) (tgt := 22) dX8_say_16 (by decide) (fun c_16 => ?_) (fun c_16 => ?_)
    · refine lv_iload_n hx hb dX8_say_22 rfl (lv_at hl 3 rfl) ?_
      refine gcallSi C h (kX8_isHalf l D ct t) (va_cwS 1 C.2.2.2.2 (gInS q550 q551 q57 q552) rfl rfl rfl hdX8_isHalf ⟨Nat.le_of_ble_eq_true rfl, Nat.le_of_ble_eq_true rfl⟩) rfl hl.1 rfl (Nat.le_of_ble_eq_true rfl) dX8_say_23 ⟨Nat.zero_le _, Nat.zero_le _⟩ (fun H ll h => ?_)
      refine bz_ne hx hb (t = 0 ∨ t = 1) (tgt := 32) dX8_say_26 (by decide) (fun c_26 => ?_) (fun c_26 => ?_)
      · exact absurd (show ((0 ≤ x ∧ x < nI n) ∧ (0 < n ∧ 0 ≤ z ∧ z < 3)) ∧ ((t = 0 ∨ t = 1)) from ⟨⟨c_8, c_16⟩, c_26⟩) hv
      · refine lv_bipush (v := -102) hx hb dX8_say_29 (by decide) ?_
        exact hret _ () _ _ _ _ h (by rw [if_neg (not_not_intro (show (0 ≤ x ∧ x < nI n) ∧ (0 < n ∧ 0 ≤ z ∧ z < 3) from ⟨c_8, c_16⟩))]) dX8_say_31
    · refine lv_bipush (v := -101) hx hb dX8_say_19 (by decide) ?_
      exact hret _ () _ _ _ _ h (by rw [if_pos (fun q9 => by first | exact c_16 q9.2 | exact q9.2 c_16)]) dX8_say_21
set_option maxHeartbeats 1000000 in
set_option maxRecDepth 100000 in
theorem kX8_chance_no (l : Launch) (D : va_G) (ct : Nat → ClassId) (ad : Nat → Nat → Nat) (σ lm : Nat → Nat → Nat → Int32) (τ : Nat → Int64) (n : Nat) (kd : Nat → Nat) (hok : ROK (σ 2) n kd) (x z t : Int32) (hv : ¬ (((0 < n ∧ 0 ≤ x ∧ x < 3)) ∧ ((¬ z < 0) ∧ (¬ 10 < z) ∧ (t = 0 ∨ t = 1)))) : MI l yX8_chance (gWs yX8_chance cX8_chance 5 (some .int)) rmX8_chance D ct gNo [.ref (ad 0 0), .int x, .int z, .int t] (wX ad ct σ lm τ) (fun _ : Unit => (wX ad ct σ lm τ)) (fun r _ => r = (if ¬ ((0 < n ∧ 0 ≤ x ∧ x < 3)) then -101 else -102)) := by
  refine MI.ofI RX8 rfl (by decide) (Nat.le_of_ble_eq_true rfl) ?_
  intro zp ze zs zm za zb zt zc zA ls zQ C h hX hl hret
  have hx := C.1
  have hb := C.2.1
  have hl : lv_has ls 5 [(0, .ref (ad 0 0)), (1, .int x), (2, .int z), (3, .int t)] := hl
  have hok0 := hok
  obtain ⟨hn, hn8, hkd⟩ := hok0
  refine lv_aload_n hx hb dX8_chance_0 rfl (lv_at hl 0 rfl) ?_
  refine lv_iload_n hx hb dX8_chance_1 rfl (lv_at hl 1 rfl) ?_
  refine gcallVi C h trivial gNo_ok (kX8_isQuestion l D ct ad σ lm τ n kd hok x) (cwV 1 C.2.2.2.2 (gInV q492 q494 q6 q57 q495) rfl rfl rfl hvX8_isQuestion ⟨Nat.le_of_ble_eq_true rfl, Nat.le_of_ble_eq_true rfl⟩) 0 rfl rfl rfl rfl hl.1 rfl (Nat.le_of_ble_eq_true rfl) dX8_chance_2 ⟨Nat.zero_le _, Nat.zero_le _⟩ (fun r9 u9 H ll hw h => ?_)
  have hw : r9 = (if 0 < n ∧ 0 ≤ x ∧ x < 3 then 1 else 0) := hw
  subst hw
  have h : gW D ct zA zs _ _ (wX ad ct σ lm τ) := h
  refine bz_ne hx hb (0 < n ∧ 0 ≤ x ∧ x < 3) (tgt := 11) dX8_chance_5 (by decide) (fun c_5 => ?_) (fun c_5 => ?_)
  · refine lv_iload_n hx hb dX8_chance_11 rfl (lv_at hl 2 rfl) ?_
    refine lv_if_lt (tgt := 28) hx hb dX8_chance_12 (by decide) (fun c_12 => ?_) (fun c_12 => ?_)
    · refine lv_bipush (v := -102) hx hb dX8_chance_28 (by decide) ?_
      exact hret _ () _ _ _ _ h (by rw [if_neg (not_not_intro (show (0 < n ∧ 0 ≤ x ∧ x < 3) from c_5))]) dX8_chance_30
    · refine lv_iload_n hx hb dX8_chance_15 rfl (lv_at hl 2 rfl) ?_
      refine lv_bipush (v := 10) hx hb dX8_chance_16 (by decide) ?_
      refine lv_icmp_gt (tgt := 28) hx hb dX8_chance_18 (by decide) (fun c_18 => ?_) (fun c_18 => ?_)
      · refine lv_bipush (v := -102) hx hb dX8_chance_28 (by decide) ?_
        exact hret _ () _ _ _ _ h (by rw [if_neg (not_not_intro (show (0 < n ∧ 0 ≤ x ∧ x < 3) from c_5))]) dX8_chance_30
      · refine lv_iload_n hx hb dX8_chance_21 rfl (lv_at hl 3 rfl) ?_
        refine gcallSi C h (kX8_isHalf l D ct t) (va_cwS 1 C.2.2.2.2 (gInS q550 q551 q57 q552) rfl rfl rfl hdX8_isHalf ⟨Nat.le_of_ble_eq_true rfl, Nat.le_of_ble_eq_true rfl⟩) rfl hl.1 rfl (Nat.le_of_ble_eq_true rfl) dX8_chance_22 ⟨Nat.zero_le _, Nat.zero_le _⟩ (fun H ll h => ?_)
        refine bz_ne hx hb (t = 0 ∨ t = 1) (tgt := 31) dX8_chance_25 (by decide) (fun c_25 => ?_) (fun c_25 => ?_)
        · exact absurd (show ((0 < n ∧ 0 ≤ x ∧ x < 3)) ∧ ((¬ z < 0) ∧ (¬ 10 < z) ∧ (t = 0 ∨ t = 1)) from ⟨c_5, ⟨c_12, c_18, c_25⟩⟩) hv
        · refine lv_bipush (v := -102) hx hb dX8_chance_28 (by decide) ?_
          exact hret _ () _ _ _ _ h (by rw [if_neg (not_not_intro (show (0 < n ∧ 0 ≤ x ∧ x < 3) from c_5))]) dX8_chance_30
  · refine lv_bipush (v := -101) hx hb dX8_chance_8 (by decide) ?_
    exact hret _ () _ _ _ _ h (by rw [if_pos (fun q9 => by first | exact c_5 q9 | exact q9 c_5)]) dX8_chance_10
set_option maxHeartbeats 1000000 in
set_option maxRecDepth 100000 in
theorem kX8_cuts_no (l : Launch) (D : va_G) (ct : Nat → ClassId) (ad : Nat → Nat → Nat) (σ lm : Nat → Nat → Nat → Int32) (τ : Nat → Int64) (n : Nat) (kd : Nat → Nat) (hok : ROK (σ 2) n kd) (x z t : Int32) (hv : ¬ (((0 < n ∧ 0 ≤ x ∧ x < 3)) ∧ ((-1 ≤ z ∧ z ≤ 1) ∧ (t = 0 ∨ t = 1)))) : MI l yX8_cuts (gWs yX8_cuts cX8_cuts 4 (some .int)) rmX8_cuts D ct gNo [.ref (ad 0 0), .int x, .int z, .int t] (wX ad ct σ lm τ) (fun _ : Unit => (wX ad ct σ lm τ)) (fun r _ => r = (if ¬ ((0 < n ∧ 0 ≤ x ∧ x < 3)) then -101 else -102)) := by
  refine MI.ofI RX8 rfl (by decide) (Nat.le_of_ble_eq_true rfl) ?_
  intro zp ze zs zm za zb zt zc zA ls zQ C h hX hl hret
  have hx := C.1
  have hb := C.2.1
  have hl : lv_has ls 4 [(0, .ref (ad 0 0)), (1, .int x), (2, .int z), (3, .int t)] := hl
  have hok0 := hok
  obtain ⟨hn, hn8, hkd⟩ := hok0
  refine lv_aload_n hx hb dX8_cuts_0 rfl (lv_at hl 0 rfl) ?_
  refine lv_iload_n hx hb dX8_cuts_1 rfl (lv_at hl 1 rfl) ?_
  refine gcallVi C h trivial gNo_ok (kX8_isQuestion l D ct ad σ lm τ n kd hok x) (cwV 1 C.2.2.2.2 (gInV q492 q494 q6 q57 q495) rfl rfl rfl hvX8_isQuestion ⟨Nat.le_of_ble_eq_true rfl, Nat.le_of_ble_eq_true rfl⟩) 0 rfl rfl rfl rfl hl.1 rfl (Nat.le_of_ble_eq_true rfl) dX8_cuts_2 ⟨Nat.zero_le _, Nat.zero_le _⟩ (fun r9 u9 H ll hw h => ?_)
  have hw : r9 = (if 0 < n ∧ 0 ≤ x ∧ x < 3 then 1 else 0) := hw
  subst hw
  have h : gW D ct zA zs _ _ (wX ad ct σ lm τ) := h
  refine bz_ne hx hb (0 < n ∧ 0 ≤ x ∧ x < 3) (tgt := 11) dX8_cuts_5 (by decide) (fun c_5 => ?_) (fun c_5 => ?_)
  · refine lv_iload_n hx hb dX8_cuts_11 rfl (lv_at hl 2 rfl) ?_
    refine gcallSi C h (kX8_isWay l D ct z) (va_cwS 1 C.2.2.2.2 (gInS q539 q540 q57 q541) rfl rfl rfl hdX8_isWay ⟨Nat.le_of_ble_eq_true rfl, Nat.le_of_ble_eq_true rfl⟩) rfl hl.1 rfl (Nat.le_of_ble_eq_true rfl) dX8_cuts_12 ⟨Nat.zero_le _, Nat.zero_le _⟩ (fun H ll h => ?_)
    refine bz_eq hx hb (-1 ≤ z ∧ z ≤ 1) (tgt := 25) dX8_cuts_15 (by decide) (fun c_15 => ?_) (fun c_15 => ?_)
    · refine lv_bipush (v := -102) hx hb dX8_cuts_25 (by decide) ?_
      exact hret _ () _ _ _ _ h (by rw [if_neg (not_not_intro (show (0 < n ∧ 0 ≤ x ∧ x < 3) from c_5))]) dX8_cuts_27
    · refine lv_iload_n hx hb dX8_cuts_18 rfl (lv_at hl 3 rfl) ?_
      refine gcallSi C h (kX8_isHalf l D ct t) (va_cwS 1 C.2.2.2.2 (gInS q550 q551 q57 q552) rfl rfl rfl hdX8_isHalf ⟨Nat.le_of_ble_eq_true rfl, Nat.le_of_ble_eq_true rfl⟩) rfl hl.1 rfl (Nat.le_of_ble_eq_true rfl) dX8_cuts_19 ⟨Nat.zero_le _, Nat.zero_le _⟩ (fun H ll h => ?_)
      refine bz_ne hx hb (t = 0 ∨ t = 1) (tgt := 28) dX8_cuts_22 (by decide) (fun c_22 => ?_) (fun c_22 => ?_)
      · exact absurd (show ((0 < n ∧ 0 ≤ x ∧ x < 3)) ∧ ((-1 ≤ z ∧ z ≤ 1) ∧ (t = 0 ∨ t = 1)) from ⟨c_5, ⟨c_15, c_22⟩⟩) hv
      · refine lv_bipush (v := -102) hx hb dX8_cuts_25 (by decide) ?_
        exact hret _ () _ _ _ _ h (by rw [if_neg (not_not_intro (show (0 < n ∧ 0 ≤ x ∧ x < 3) from c_5))]) dX8_cuts_27
  · refine lv_bipush (v := -101) hx hb dX8_cuts_8 (by decide) ?_
    exact hret _ () _ _ _ _ h (by rw [if_pos (fun q9 => by first | exact c_5 q9 | exact q9 c_5)]) dX8_cuts_10
set_option maxHeartbeats 1000000 in
set_option maxRecDepth 100000 in
theorem kX8_fewTurns_no (l : Launch) (D : va_G) (ct : Nat → ClassId) (ad : Nat → Nat → Nat) (σ lm : Nat → Nat → Nat → Int32) (τ : Nat → Int64) (n : Nat) (kd : Nat → Nat) (hok : ROK (σ 2) n kd) (x z t : Int32) (hv : ¬ (((0 < n ∧ 0 ≤ x ∧ x < 3)) ∧ ((-1 ≤ z ∧ z ≤ 1) ∧ (t = 0 ∨ t = 1)) ∧ ((σ 0 2 0 < 20)))) : MI l yX8_fewTurns (gWs yX8_fewTurns cX8_fewTurns 4 (some .int)) rmX8_fewTurns D ct gNo [.ref (ad 0 0), .int x, .int z, .int t] (wX ad ct σ lm τ) (fun _ : Unit => (wX ad ct σ lm τ)) (fun r _ => r = (if ¬ ((0 < n ∧ 0 ≤ x ∧ x < 3)) then -101 else if ¬ ((-1 ≤ z ∧ z ≤ 1) ∧ (t = 0 ∨ t = 1)) then -102 else -103)) := by
  refine MI.ofI RX8 rfl (by decide) (Nat.le_of_ble_eq_true rfl) ?_
  intro zp ze zs zm za zb zt zc zA ls zQ C h hX hl hret
  have hx := C.1
  have hb := C.2.1
  have hl : lv_has ls 4 [(0, .ref (ad 0 0)), (1, .int x), (2, .int z), (3, .int t)] := hl
  have hok0 := hok
  obtain ⟨hn, hn8, hkd⟩ := hok0
  refine lv_aload_n hx hb dX8_fewTurns_0 rfl (lv_at hl 0 rfl) ?_
  refine lv_iload_n hx hb dX8_fewTurns_1 rfl (lv_at hl 1 rfl) ?_
  refine gcallVi C h trivial gNo_ok (kX8_isQuestion l D ct ad σ lm τ n kd hok x) (cwV 1 C.2.2.2.2 (gInV q492 q494 q6 q57 q495) rfl rfl rfl hvX8_isQuestion ⟨Nat.le_of_ble_eq_true rfl, Nat.le_of_ble_eq_true rfl⟩) 0 rfl rfl rfl rfl hl.1 rfl (Nat.le_of_ble_eq_true rfl) dX8_fewTurns_2 ⟨Nat.zero_le _, Nat.zero_le _⟩ (fun r9 u9 H ll hw h => ?_)
  have hw : r9 = (if 0 < n ∧ 0 ≤ x ∧ x < 3 then 1 else 0) := hw
  subst hw
  have h : gW D ct zA zs _ _ (wX ad ct σ lm τ) := h
  refine bz_ne hx hb (0 < n ∧ 0 ≤ x ∧ x < 3) (tgt := 11) dX8_fewTurns_5 (by decide) (fun c_5 => ?_) (fun c_5 => ?_)
  · refine lv_iload_n hx hb dX8_fewTurns_11 rfl (lv_at hl 2 rfl) ?_
    refine gcallSi C h (kX8_isWay l D ct z) (va_cwS 1 C.2.2.2.2 (gInS q539 q540 q57 q541) rfl rfl rfl hdX8_isWay ⟨Nat.le_of_ble_eq_true rfl, Nat.le_of_ble_eq_true rfl⟩) rfl hl.1 rfl (Nat.le_of_ble_eq_true rfl) dX8_fewTurns_12 ⟨Nat.zero_le _, Nat.zero_le _⟩ (fun H ll h => ?_)
    refine bz_eq hx hb (-1 ≤ z ∧ z ≤ 1) (tgt := 25) dX8_fewTurns_15 (by decide) (fun c_15 => ?_) (fun c_15 => ?_)
    · refine lv_bipush (v := -102) hx hb dX8_fewTurns_25 (by decide) ?_
      exact hret _ () _ _ _ _ h (by rw [if_neg (not_not_intro (show (0 < n ∧ 0 ≤ x ∧ x < 3) from c_5)), if_pos (fun q9 => by first | exact c_15 q9.1 | exact q9.1 c_15)]) dX8_fewTurns_27
    · refine lv_iload_n hx hb dX8_fewTurns_18 rfl (lv_at hl 3 rfl) ?_
      refine gcallSi C h (kX8_isHalf l D ct t) (va_cwS 1 C.2.2.2.2 (gInS q550 q551 q57 q552) rfl rfl rfl hdX8_isHalf ⟨Nat.le_of_ble_eq_true rfl, Nat.le_of_ble_eq_true rfl⟩) rfl hl.1 rfl (Nat.le_of_ble_eq_true rfl) dX8_fewTurns_19 ⟨Nat.zero_le _, Nat.zero_le _⟩ (fun H ll h => ?_)
      refine bz_ne hx hb (t = 0 ∨ t = 1) (tgt := 28) dX8_fewTurns_22 (by decide) (fun c_22 => ?_) (fun c_22 => ?_)
      · refine lv_aload_n hx hb dX8_fewTurns_28 rfl (lv_at hl 0 rfl) ?_
        refine gget C h igX8 0 rfl rfl 11 (by decide) q212 rfl rfl dX8_fewTurns_29 ?_
        refine lv_bipush (v := 20) hx hb dX8_fewTurns_32 (by decide) ?_
        refine lv_icmp_lt (tgt := 40) hx hb dX8_fewTurns_34 (by decide) (fun c_34 => ?_) (fun c_34 => ?_)
        · exact absurd (show ((0 < n ∧ 0 ≤ x ∧ x < 3)) ∧ ((-1 ≤ z ∧ z ≤ 1) ∧ (t = 0 ∨ t = 1)) ∧ ((σ 0 2 0 < 20)) from ⟨c_5, ⟨c_15, c_22⟩, c_34⟩) hv
        · refine lv_bipush (v := -103) hx hb dX8_fewTurns_37 (by decide) ?_
          exact hret _ () _ _ _ _ h (by rw [if_neg (not_not_intro (show (0 < n ∧ 0 ≤ x ∧ x < 3) from c_5)), if_neg (not_not_intro (show (-1 ≤ z ∧ z ≤ 1) ∧ (t = 0 ∨ t = 1) from ⟨c_15, c_22⟩))]) dX8_fewTurns_39
      · refine lv_bipush (v := -102) hx hb dX8_fewTurns_25 (by decide) ?_
        exact hret _ () _ _ _ _ h (by rw [if_neg (not_not_intro (show (0 < n ∧ 0 ≤ x ∧ x < 3) from c_5)), if_pos (fun q9 => by first | exact c_22 q9.2 | exact q9.2 c_22)]) dX8_fewTurns_27
  · refine lv_bipush (v := -101) hx hb dX8_fewTurns_8 (by decide) ?_
    exact hret _ () _ _ _ _ h (by rw [if_pos (fun q9 => by first | exact c_5 q9 | exact q9 c_5)]) dX8_fewTurns_10
set_option maxHeartbeats 1000000 in
set_option maxRecDepth 100000 in
theorem kX8_settle_no (l : Launch) (D : va_G) (ct : Nat → ClassId) (ad : Nat → Nat → Nat) (σ lm : Nat → Nat → Nat → Int32) (τ : Nat → Int64) (n : Nat) (kd : Nat → Nat) (hok : ROK (σ 2) n kd) (x : Int32) (hv : ¬ (((x = 0 ∨ x = 1)) ∧ ((¬ n = 0)))) : MI l yX8_settle (gWs yX8_settle cX8_settle 3 (some .int)) rmX8_settle D ct gNo [.ref (ad 0 0), .int x] (wX ad ct σ lm τ) (fun _ : Unit => (wX ad ct σ lm τ)) (fun r _ => r = (if ¬ ((x = 0 ∨ x = 1)) then -102 else -103)) := by
  refine MI.ofI RX8 rfl (by decide) (Nat.le_of_ble_eq_true rfl) ?_
  intro zp ze zs zm za zb zt zc zA ls zQ C h hX hl hret
  have hx := C.1
  have hb := C.2.1
  have hl : lv_has ls 3 [(0, .ref (ad 0 0)), (1, .int x)] := hl
  have hok0 := hok
  obtain ⟨hn, hn8, hkd⟩ := hok0
  refine lv_iload_n hx hb dX8_settle_0 rfl (lv_at hl 1 rfl) ?_
  refine gcallSi C h (kX8_isHalf l D ct x) (va_cwS 1 C.2.2.2.2 (gInS q550 q551 q57 q552) rfl rfl rfl hdX8_isHalf ⟨Nat.le_of_ble_eq_true rfl, Nat.le_of_ble_eq_true rfl⟩) rfl hl.1 rfl (Nat.le_of_ble_eq_true rfl) dX8_settle_1 ⟨Nat.zero_le _, Nat.zero_le _⟩ (fun H ll h => ?_)
  refine bz_ne hx hb (x = 0 ∨ x = 1) (tgt := 10) dX8_settle_4 (by decide) (fun c_4 => ?_) (fun c_4 => ?_)
  · refine lv_aload_n hx hb dX8_settle_10 rfl (lv_at hl 0 rfl) ?_
    refine gget C h igX8 0 rfl rfl 1 (by decide) q202 rfl rfl dX8_settle_11 ?_
    refine gget C h igX5 3 rfl rfl 2 (by decide) q144 rfl rfl dX8_settle_14 ?_
    refine gas hn ?_
    refine nz_ne hx hb n (by omega) (tgt := 23) dX8_settle_17 (by decide) (fun c_17 => ?_) (fun c_17 => ?_)
    · exact absurd (show ((x = 0 ∨ x = 1)) ∧ ((¬ n = 0)) from ⟨c_4, c_17⟩) hv
    · refine lv_bipush (v := -103) hx hb dX8_settle_20 (by decide) ?_
      exact hret _ () _ _ _ _ h (by rw [if_neg (not_not_intro (show (x = 0 ∨ x = 1) from c_4))]) dX8_settle_22
  · refine lv_bipush (v := -102) hx hb dX8_settle_7 (by decide) ?_
    exact hret _ () _ _ _ _ h (by rw [if_pos (fun q9 => by first | exact c_4 q9 | exact q9 c_4)]) dX8_settle_9
set_option maxHeartbeats 1000000 in
set_option maxRecDepth 100000 in
theorem kX8_see_no (l : Launch) (D : va_G) (ct : Nat → ClassId) (ad : Nat → Nat → Nat) (σ lm : Nat → Nat → Nat → Int32) (τ : Nat → Int64) (n : Nat) (kd : Nat → Nat) (hok : ROK (σ 2) n kd) (sn : Nat) (hsn : σ 3 0 0 = nI sn) (hsn6 : sn ≤ 6) (x z t : Int32) (hv : ¬ (((0 ≤ x ∧ x < nI n) ∧ (0 < n ∧ 0 ≤ z ∧ z < 3)) ∧ ((¬ t < 0) ∧ (t ≤ 400)) ∧ ((sn < 6)))) : MI l yX8_see (gWs yX8_see cX8_see 4 (some .int)) rmX8_see D ct gNo [.ref (ad 0 0), .int x, .int z, .int t] (wX ad ct σ lm τ) (fun _ : Unit => (wX ad ct σ lm τ)) (fun r _ => r = (if ¬ ((0 ≤ x ∧ x < nI n) ∧ (0 < n ∧ 0 ≤ z ∧ z < 3)) then -101 else if ¬ ((¬ t < 0) ∧ (t ≤ 400)) then -102 else -104)) := by
  refine MI.ofI RX8 rfl (by decide) (Nat.le_of_ble_eq_true rfl) ?_
  intro zp ze zs zm za zb zt zc zA ls zQ C h hX hl hret
  have hx := C.1
  have hb := C.2.1
  have hl : lv_has ls 4 [(0, .ref (ad 0 0)), (1, .int x), (2, .int z), (3, .int t)] := hl
  have hok0 := hok
  obtain ⟨hn, hn8, hkd⟩ := hok0
  refine lv_aload_n hx hb dX8_see_0 rfl (lv_at hl 0 rfl) ?_
  refine gget C h igX8 0 rfl rfl 1 (by decide) q202 rfl rfl dX8_see_1 ?_
  refine lv_iload_n hx hb dX8_see_4 rfl (lv_at hl 1 rfl) ?_
  refine gFi C h trivial gNo_ok (kX5_has l D ct (ad 2) (σ 2) n hn hn8 x) (cwV 1 C.2.2.2.2 (gInV q380 q381 q382 q59 q383) rfl rfl rfl hvX5_has ⟨Nat.le_of_ble_eq_true rfl, Nat.le_of_ble_eq_true rfl⟩) 3 rfl rfl rfl (fr_X_R ad ct _ _ _) rfl hl.1 rfl (Nat.le_of_ble_eq_true rfl) dX8_see_5 ⟨Nat.zero_le _, Nat.zero_le _⟩ (fun r9 u9 H ll hw h => ?_)
  have hw : r9 = (if 0 ≤ x ∧ x < nI n then 1 else 0) := hw
  subst hw
  have h : gW D ct zA zs _ _ (wX ad ct σ lm τ) := h
  refine bz_eq hx hb (0 ≤ x ∧ x < nI n) (tgt := 19) dX8_see_8 (by decide) (fun c_8 => ?_) (fun c_8 => ?_)
  · refine lv_bipush (v := -101) hx hb dX8_see_19 (by decide) ?_
    exact hret _ () _ _ _ _ h (by rw [if_pos (fun q9 => by first | exact c_8 q9.1 | exact q9.1 c_8)]) dX8_see_21
  · refine lv_aload_n hx hb dX8_see_11 rfl (lv_at hl 0 rfl) ?_
    refine lv_iload_n hx hb dX8_see_12 rfl (lv_at hl 2 rfl) ?_
    refine gcallVi C h trivial gNo_ok (kX8_isQuestion l D ct ad σ lm τ n kd hok z) (cwV 1 C.2.2.2.2 (gInV q492 q494 q6 q57 q495) rfl rfl rfl hvX8_isQuestion ⟨Nat.le_of_ble_eq_true rfl, Nat.le_of_ble_eq_true rfl⟩) 0 rfl rfl rfl rfl hl.1 rfl (Nat.le_of_ble_eq_true rfl) dX8_see_13 ⟨Nat.zero_le _, Nat.zero_le _⟩ (fun r9 u9 H ll hw h => ?_)
    have hw : r9 = (if 0 < n ∧ 0 ≤ z ∧ z < 3 then 1 else 0) := hw
    subst hw
    have h : gW D ct zA zs _ _ (wX ad ct σ lm τ) := h
    refine bz_ne hx hb (0 < n ∧ 0 ≤ z ∧ z < 3) (tgt := 22) dX8_see_16 (by decide) (fun c_16 => ?_) (fun c_16 => ?_)
    · refine lv_iload_n hx hb dX8_see_22 rfl (lv_at hl 3 rfl) ?_
      refine lv_if_lt (tgt := 33) hx hb dX8_see_23 (by decide) (fun c_23 => ?_) (fun c_23 => ?_)
      · refine lv_bipush (v := -102) hx hb dX8_see_33 (by decide) ?_
        exact hret _ () _ _ _ _ h (by rw [if_neg (not_not_intro (show (0 ≤ x ∧ x < nI n) ∧ (0 < n ∧ 0 ≤ z ∧ z < 3) from ⟨c_8, c_16⟩)), if_pos (fun q9 => by first | exact c_23 q9.1 | exact q9.1 c_23)]) dX8_see_35
      · refine lv_iload_n hx hb dX8_see_26 rfl (lv_at hl 3 rfl) ?_
        refine lv_sipush (v := 400) hx hb dX8_see_27 (by decide) ?_
        refine lv_icmp_le (tgt := 36) hx hb dX8_see_30 (by decide) (fun c_30 => ?_) (fun c_30 => ?_)
        · refine lv_aload_n hx hb dX8_see_36 rfl (lv_at hl 0 rfl) ?_
          refine gget C h igX8 0 rfl rfl 2 (by decide) q203 rfl rfl dX8_see_37 ?_
          refine gget C h igX6 11 rfl rfl 8 (by decide) q177 rfl rfl dX8_see_40 ?_
          refine gas hsn ?_
          refine lv_bipush (v := 6) hx hb dX8_see_43 (by decide) ?_
          refine nb_lt hx hb sn 6 (by omega) (by omega) (tgt := 51) dX8_see_45 (by decide) (fun c_45 => ?_) (fun c_45 => ?_)
          · exact absurd (show ((0 ≤ x ∧ x < nI n) ∧ (0 < n ∧ 0 ≤ z ∧ z < 3)) ∧ ((¬ t < 0) ∧ (t ≤ 400)) ∧ ((sn < 6)) from ⟨⟨c_8, c_16⟩, ⟨c_23, c_30⟩, c_45⟩) hv
          · refine lv_bipush (v := -104) hx hb dX8_see_48 (by decide) ?_
            exact hret _ () _ _ _ _ h (by rw [if_neg (not_not_intro (show (0 ≤ x ∧ x < nI n) ∧ (0 < n ∧ 0 ≤ z ∧ z < 3) from ⟨c_8, c_16⟩)), if_neg (not_not_intro (show (¬ t < 0) ∧ (t ≤ 400) from ⟨c_23, c_30⟩))]) dX8_see_50
        · refine lv_bipush (v := -102) hx hb dX8_see_33 (by decide) ?_
          exact hret _ () _ _ _ _ h (by rw [if_neg (not_not_intro (show (0 ≤ x ∧ x < nI n) ∧ (0 < n ∧ 0 ≤ z ∧ z < 3) from ⟨c_8, c_16⟩)), if_pos (fun q9 => by first | exact c_30 q9.2 | exact q9.2 c_30)]) dX8_see_35
    · refine lv_bipush (v := -101) hx hb dX8_see_19 (by decide) ?_
      exact hret _ () _ _ _ _ h (by rw [if_pos (fun q9 => by first | exact c_16 q9.2 | exact q9.2 c_16)]) dX8_see_21
set_option maxHeartbeats 1000000 in
set_option maxRecDepth 100000 in
theorem kX8_tides_no (l : Launch) (D : va_G) (ct : Nat → ClassId) (ad : Nat → Nat → Nat) (σ lm : Nat → Nat → Nat → Int32) (τ : Nat → Int64) (n : Nat) (kd : Nat → Nat) (hok : ROK (σ 2) n kd) (x z t : Int32) (hv : ¬ (((¬ x < 1) ∧ (¬ 60 < x) ∧ (¬ z < 0) ∧ (¬ t < 0) ∧ (t ≤ 2)) ∧ ((¬ n = 0)))) : MI l yX8_tides (gWs yX8_tides cX8_tides 10 (some .int)) rmX8_tides D ct gNo [.ref (ad 0 0), .int x, .int z, .int t] (wX ad ct σ lm τ) (fun _ : Unit => (wX ad ct σ lm τ)) (fun r _ => r = (if ¬ ((¬ x < 1) ∧ (¬ 60 < x) ∧ (¬ z < 0) ∧ (¬ t < 0) ∧ (t ≤ 2)) then -102 else -103)) := by
  refine MI.ofI RX8 rfl (by decide) (Nat.le_of_ble_eq_true rfl) ?_
  intro zp ze zs zm za zb zt zc zA ls zQ C h hX hl hret
  have hx := C.1
  have hb := C.2.1
  have hl : lv_has ls 10 [(0, .ref (ad 0 0)), (1, .int x), (2, .int z), (3, .int t)] := hl
  have hok0 := hok
  obtain ⟨hn, hn8, hkd⟩ := hok0
  refine lv_iload_n hx hb dX8_tides_0 rfl (lv_at hl 1 rfl) ?_
  refine lv_iconst (v := 1) hx hb dX8_tides_1 (by decide) ?_
  refine lv_icmp_lt (tgt := 24) hx hb dX8_tides_2 (by decide) (fun c_2 => ?_) (fun c_2 => ?_)
  · refine lv_bipush (v := -102) hx hb dX8_tides_24 (by decide) ?_
    exact hret _ () _ _ _ _ h (by rw [if_pos (fun q9 => by first | exact c_2 q9.1 | exact q9.1 c_2)]) dX8_tides_26
  · refine lv_iload_n hx hb dX8_tides_5 rfl (lv_at hl 1 rfl) ?_
    refine lv_bipush (v := 60) hx hb dX8_tides_6 (by decide) ?_
    refine lv_icmp_gt (tgt := 24) hx hb dX8_tides_8 (by decide) (fun c_8 => ?_) (fun c_8 => ?_)
    · refine lv_bipush (v := -102) hx hb dX8_tides_24 (by decide) ?_
      exact hret _ () _ _ _ _ h (by rw [if_pos (fun q9 => by first | exact c_8 q9.2.1 | exact q9.2.1 c_8)]) dX8_tides_26
    · refine lv_iload_n hx hb dX8_tides_11 rfl (lv_at hl 2 rfl) ?_
      refine lv_if_lt (tgt := 24) hx hb dX8_tides_12 (by decide) (fun c_12 => ?_) (fun c_12 => ?_)
      · refine lv_bipush (v := -102) hx hb dX8_tides_24 (by decide) ?_
        exact hret _ () _ _ _ _ h (by rw [if_pos (fun q9 => by first | exact c_12 q9.2.2.1 | exact q9.2.2.1 c_12)]) dX8_tides_26
      · refine lv_iload_n hx hb dX8_tides_15 rfl (lv_at hl 3 rfl) ?_
        refine lv_if_lt (tgt := 24) hx hb dX8_tides_16 (by decide) (fun c_16 => ?_) (fun c_16 => ?_)
        · refine lv_bipush (v := -102) hx hb dX8_tides_24 (by decide) ?_
          exact hret _ () _ _ _ _ h (by rw [if_pos (fun q9 => by first | exact c_16 q9.2.2.2.1 | exact q9.2.2.2.1 c_16)]) dX8_tides_26
        · refine lv_iload_n hx hb dX8_tides_19 rfl (lv_at hl 3 rfl) ?_
          refine lv_iconst (v := 2) hx hb dX8_tides_20 (by decide) ?_
          refine lv_icmp_le (tgt := 27) hx hb dX8_tides_21 (by decide) (fun c_21 => ?_) (fun c_21 => ?_)
          · refine lv_aload_n hx hb dX8_tides_27 rfl (lv_at hl 0 rfl) ?_
            refine gget C h igX8 0 rfl rfl 1 (by decide) q202 rfl rfl dX8_tides_28 ?_
            refine gget C h igX5 3 rfl rfl 2 (by decide) q144 rfl rfl dX8_tides_31 ?_
            refine gas hn ?_
            refine nz_ne hx hb n (by omega) (tgt := 40) dX8_tides_34 (by decide) (fun c_34 => ?_) (fun c_34 => ?_)
            · exact absurd (show ((¬ x < 1) ∧ (¬ 60 < x) ∧ (¬ z < 0) ∧ (¬ t < 0) ∧ (t ≤ 2)) ∧ ((¬ n = 0)) from ⟨⟨c_2, c_8, c_12, c_16, c_21⟩, c_34⟩) hv
            · refine lv_bipush (v := -103) hx hb dX8_tides_37 (by decide) ?_
              exact hret _ () _ _ _ _ h (by rw [if_neg (not_not_intro (show (¬ x < 1) ∧ (¬ 60 < x) ∧ (¬ z < 0) ∧ (¬ t < 0) ∧ (t ≤ 2) from ⟨c_2, c_8, c_12, c_16, c_21⟩))]) dX8_tides_39
          · refine lv_bipush (v := -102) hx hb dX8_tides_24 (by decide) ?_
            exact hret _ () _ _ _ _ h (by rw [if_pos (fun q9 => by first | exact c_21 q9.2.2.2.2 | exact q9.2.2.2.2 c_21)]) dX8_tides_26
set_option maxHeartbeats 1000000 in
set_option maxRecDepth 100000 in
theorem kX8_image_no (l : Launch) (D : va_G) (ct : Nat → ClassId) (ad : Nat → Nat → Nat) (σ lm : Nat → Nat → Nat → Int32) (τ : Nat → Int64) (n : Nat) (kd : Nat → Nat) (hok : ROK (σ 2) n kd)  (hv : ¬ (((¬ n = 0)))) : MI l yX8_image (gWs yX8_image cX8_image 1 (some .int)) rmX8_image D ct gNo [.ref (ad 0 0)] (wX ad ct σ lm τ) (fun _ : Unit => (wX ad ct σ lm τ)) (fun r _ => r = (-103)) := by
  refine MI.ofI RX8 rfl (by decide) (Nat.le_of_ble_eq_true rfl) ?_
  intro zp ze zs zm za zb zt zc zA ls zQ C h hX hl hret
  have hx := C.1
  have hb := C.2.1
  have hl : lv_has ls 1 [(0, .ref (ad 0 0))] := hl
  have hok0 := hok
  obtain ⟨hn, hn8, hkd⟩ := hok0
  refine lv_aload_n hx hb dX8_image_0 rfl (lv_at hl 0 rfl) ?_
  refine gget C h igX8 0 rfl rfl 1 (by decide) q202 rfl rfl dX8_image_1 ?_
  refine gget C h igX5 3 rfl rfl 2 (by decide) q144 rfl rfl dX8_image_4 ?_
  refine gas hn ?_
  refine nz_ne hx hb n (by omega) (tgt := 13) dX8_image_7 (by decide) (fun c_7 => ?_) (fun c_7 => ?_)
  · exact absurd (show ((¬ n = 0)) from c_7) hv
  · refine lv_bipush (v := -103) hx hb dX8_image_10 (by decide) ?_
    exact hret _ () _ _ _ _ h rfl dX8_image_12
set_option maxHeartbeats 1000000 in
set_option maxRecDepth 100000 in
theorem kX8_restore_no (l : Launch) (D : va_G) (ct : Nat → ClassId) (ad : Nat → Nat → Nat) (σ lm : Nat → Nat → Nat → Int32) (τ : Nat → Int64) (n : Nat) (kd : Nat → Nat) (hok : ROK (σ 2) n kd)  (hv : ¬ (((¬ σ 0 0 0 = 0)))) : MI l yX8_restore (gWs yX8_restore cX8_restore 1 (some .int)) rmX8_restore D ct gNo [.ref (ad 0 0)] (wX ad ct σ lm τ) (fun _ : Unit => (wX ad ct σ lm τ)) (fun r _ => r = (-103)) := by
  refine MI.ofI RX8 rfl (by decide) (Nat.le_of_ble_eq_true rfl) ?_
  intro zp ze zs zm za zb zt zc zA ls zQ C h hX hl hret
  have hx := C.1
  have hb := C.2.1
  have hl : lv_has ls 1 [(0, .ref (ad 0 0))] := hl
  have hok0 := hok
  obtain ⟨hn, hn8, hkd⟩ := hok0
  refine lv_aload_n hx hb dX8_restore_0 rfl (lv_at hl 0 rfl) ?_
  refine gget C h igX8 0 rfl rfl 9 (by decide) q210 rfl rfl dX8_restore_1 ?_
  refine lv_if_ne (tgt := 10) hx hb dX8_restore_4 (by decide) (fun c_4 => ?_) (fun c_4 => ?_)
  · exact absurd (show ((¬ σ 0 0 0 = 0)) from c_4) hv
  · refine lv_bipush (v := -103) hx hb dX8_restore_7 (by decide) ?_
    exact hret _ () _ _ _ _ h rfl dX8_restore_9
set_option maxHeartbeats 1000000 in
set_option maxRecDepth 100000 in
theorem kX8_ask_st (l : Launch) (D : va_G) (ct : Nat → ClassId) (ad : Nat → Nat → Nat) (σ lm : Nat → Nat → Nat → Int32) (τ : Nat → Int64) (n : Nat) (kd : Nat → Nat) (hok : ROK (σ 2) n kd) (q : Nat) (hq : q < 3) (hn0 : 0 < n) (ha : ¬ σ 3 7 q < 99) : MI l yX8_ask (gWs yX8_ask cX8_ask 3 (some .int)) rmX8_ask D ct gNo [.ref (ad 0 0), .int (nI q)] (wX ad ct σ lm τ) (fun _ : Unit => (wX ad ct σ lm τ)) (fun r _ => r = (-104)) := by
  refine MI.ofI RX8 rfl (by decide) (Nat.le_of_ble_eq_true rfl) ?_
  intro zp ze zs zm za zb zt zc zA ls zQ C h hX hl hret
  have hx := C.1
  have hb := C.2.1
  have hl : lv_has ls 3 [(0, .ref (ad 0 0)), (1, .int (nI q))] := hl
  have hok0 := hok
  obtain ⟨hn, hn8, hkd⟩ := hok0
  refine lv_aload_n hx hb dX8_ask_0 rfl (lv_at hl 0 rfl) ?_
  refine lv_iload_n hx hb dX8_ask_1 rfl (lv_at hl 1 rfl) ?_
  refine gcallVi C h trivial gNo_ok (kX8_isQuestion l D ct ad σ lm τ n kd hok (nI q)) (cwV 1 C.2.2.2.2 (gInV q492 q494 q6 q57 q495) rfl rfl rfl hvX8_isQuestion ⟨Nat.le_of_ble_eq_true rfl, Nat.le_of_ble_eq_true rfl⟩) 0 rfl rfl rfl rfl hl.1 rfl (Nat.le_of_ble_eq_true rfl) dX8_ask_2 ⟨Nat.zero_le _, Nat.zero_le _⟩ (fun r9 u9 H ll hw h => ?_)
  have hw : r9 = (if 0 < n ∧ 0 ≤ (nI q) ∧ (nI q) < 3 then 1 else 0) := hw
  subst hw
  have h : gW D ct zA zs _ _ (wX ad ct σ lm τ) := h
  refine bz_ne hx hb (0 < n ∧ 0 ≤ (nI q) ∧ (nI q) < 3) (tgt := 11) dX8_ask_5 (by decide) (fun c_5 => ?_) (fun c_5 => absurd c_5 (fun q9 => q9 (isqI hn0 hq)))
  refine lv_aload_n hx hb dX8_ask_11 rfl (lv_at hl 0 rfl) ?_
  refine gget C h igX8 0 rfl rfl 2 (by decide) q203 rfl rfl dX8_ask_12 ?_
  refine gget C h igX6 11 rfl rfl 3 (by decide) q170 rfl rfl dX8_ask_15 ?_
  refine lv_iload_n hx hb dX8_ask_18 rfl (lv_at hl 1 rfl) ?_
  refine gild C h 18 rfl (j := q) (by omega) (by decide) dX8_ask_19 ?_
  refine gas (z := σ 3 7 q) rfl ?_
  refine lv_bipush (v := 99) hx hb dX8_ask_20 (by decide) ?_
  refine lv_icmp_lt (tgt := 28) hx hb dX8_ask_22 (by decide) (fun c_22 => absurd c_22 ha) (fun c_22 => ?_)
  refine lv_bipush (v := -104) hx hb dX8_ask_25 (by decide) ?_
  exact hret _ () _ _ _ _ h rfl dX8_ask_27
set_option maxHeartbeats 1000000 in
set_option maxRecDepth 100000 in
theorem kX8_cut_st (l : Launch) (D : va_G) (ct : Nat → ClassId) (ad : Nat → Nat → Nat) (σ lm : Nat → Nat → Nat → Int32) (τ : Nat → Int64) (n : Nat) (kd : Nat → Nat) (hok : ROK (σ 2) n kd) (m : Nat) (hm : m < n) (hc : σ 3 6 m = 1) : MI l yX8_cut (gWs yX8_cut cX8_cut 2 (some .int)) rmX8_cut D ct gNo [.ref (ad 0 0), .int (nI m)] (wX ad ct σ lm τ) (fun _ : Unit => (wX ad ct σ lm τ)) (fun r _ => r = (-103)) := by
  refine MI.ofI RX8 rfl (by decide) (Nat.le_of_ble_eq_true rfl) ?_
  intro zp ze zs zm za zb zt zc zA ls zQ C h hX hl hret
  have hx := C.1
  have hb := C.2.1
  have hl : lv_has ls 2 [(0, .ref (ad 0 0)), (1, .int (nI m))] := hl
  have hok0 := hok
  obtain ⟨hn, hn8, hkd⟩ := hok0
  refine lv_aload_n hx hb dX8_cut_0 rfl (lv_at hl 0 rfl) ?_
  refine gget C h igX8 0 rfl rfl 1 (by decide) q202 rfl rfl dX8_cut_1 ?_
  refine lv_iload_n hx hb dX8_cut_4 rfl (lv_at hl 1 rfl) ?_
  refine gFi C h trivial gNo_ok (kX5_has l D ct (ad 2) (σ 2) n hn hn8 (nI m)) (cwV 1 C.2.2.2.2 (gInV q380 q381 q382 q59 q383) rfl rfl rfl hvX5_has ⟨Nat.le_of_ble_eq_true rfl, Nat.le_of_ble_eq_true rfl⟩) 3 rfl rfl rfl (fr_X_R ad ct _ _ _) rfl hl.1 rfl (Nat.le_of_ble_eq_true rfl) dX8_cut_5 ⟨Nat.zero_le _, Nat.zero_le _⟩ (fun r9 u9 H ll hw h => ?_)
  have hw : r9 = (if 0 ≤ (nI m) ∧ (nI m) < nI n then 1 else 0) := hw
  subst hw
  have h : gW D ct zA zs _ _ (wX ad ct σ lm τ) := h
  refine bz_ne hx hb (0 ≤ (nI m) ∧ (nI m) < nI n) (tgt := 14) dX8_cut_8 (by decide) (fun c_8 => ?_) (fun c_8 => absurd c_8 (fun q9 => q9 (hasI hm hn8)))
  refine lv_aload_n hx hb dX8_cut_14 rfl (lv_at hl 0 rfl) ?_
  refine gget C h igX8 0 rfl rfl 2 (by decide) q203 rfl rfl dX8_cut_15 ?_
  refine gget C h igX6 11 rfl rfl 2 (by decide) q168 rfl rfl dX8_cut_18 ?_
  refine lv_iload_n hx hb dX8_cut_21 rfl (lv_at hl 1 rfl) ?_
  refine gild C h 17 rfl (j := m) (by omega) (by decide) dX8_cut_22 ?_
  refine gas (z := σ 3 6 m) rfl ?_
  refine lv_iconst (v := 1) hx hb dX8_cut_23 (by decide) ?_
  refine lv_icmp_ne (tgt := 30) hx hb dX8_cut_24 (by decide) (fun c_24 => absurd c_24 (fun q9 => q9 hc)) (fun c_24 => ?_)
  refine lv_bipush (v := -103) hx hb dX8_cut_27 (by decide) ?_
  exact hret _ () _ _ _ _ h rfl dX8_cut_29
set_option maxHeartbeats 1000000 in
set_option maxRecDepth 100000 in
theorem kX8_tie_st (l : Launch) (D : va_G) (ct : Nat → ClassId) (ad : Nat → Nat → Nat) (σ lm : Nat → Nat → Nat → Int32) (τ : Nat → Int64) (n : Nat) (kd : Nat → Nat) (hok : ROK (σ 2) n kd) (m : Nat) (hm : m < n) (hc : σ 3 6 m = 0) : MI l yX8_tie (gWs yX8_tie cX8_tie 2 (some .int)) rmX8_tie D ct gNo [.ref (ad 0 0), .int (nI m)] (wX ad ct σ lm τ) (fun _ : Unit => (wX ad ct σ lm τ)) (fun r _ => r = (-103)) := by
  refine MI.ofI RX8 rfl (by decide) (Nat.le_of_ble_eq_true rfl) ?_
  intro zp ze zs zm za zb zt zc zA ls zQ C h hX hl hret
  have hx := C.1
  have hb := C.2.1
  have hl : lv_has ls 2 [(0, .ref (ad 0 0)), (1, .int (nI m))] := hl
  have hok0 := hok
  obtain ⟨hn, hn8, hkd⟩ := hok0
  refine lv_aload_n hx hb dX8_tie_0 rfl (lv_at hl 0 rfl) ?_
  refine gget C h igX8 0 rfl rfl 1 (by decide) q202 rfl rfl dX8_tie_1 ?_
  refine lv_iload_n hx hb dX8_tie_4 rfl (lv_at hl 1 rfl) ?_
  refine gFi C h trivial gNo_ok (kX5_has l D ct (ad 2) (σ 2) n hn hn8 (nI m)) (cwV 1 C.2.2.2.2 (gInV q380 q381 q382 q59 q383) rfl rfl rfl hvX5_has ⟨Nat.le_of_ble_eq_true rfl, Nat.le_of_ble_eq_true rfl⟩) 3 rfl rfl rfl (fr_X_R ad ct _ _ _) rfl hl.1 rfl (Nat.le_of_ble_eq_true rfl) dX8_tie_5 ⟨Nat.zero_le _, Nat.zero_le _⟩ (fun r9 u9 H ll hw h => ?_)
  have hw : r9 = (if 0 ≤ (nI m) ∧ (nI m) < nI n then 1 else 0) := hw
  subst hw
  have h : gW D ct zA zs _ _ (wX ad ct σ lm τ) := h
  refine bz_ne hx hb (0 ≤ (nI m) ∧ (nI m) < nI n) (tgt := 14) dX8_tie_8 (by decide) (fun c_8 => ?_) (fun c_8 => absurd c_8 (fun q9 => q9 (hasI hm hn8)))
  refine lv_aload_n hx hb dX8_tie_14 rfl (lv_at hl 0 rfl) ?_
  refine gget C h igX8 0 rfl rfl 2 (by decide) q203 rfl rfl dX8_tie_15 ?_
  refine gget C h igX6 11 rfl rfl 2 (by decide) q168 rfl rfl dX8_tie_18 ?_
  refine lv_iload_n hx hb dX8_tie_21 rfl (lv_at hl 1 rfl) ?_
  refine gild C h 17 rfl (j := m) (by omega) (by decide) dX8_tie_22 ?_
  refine gas (z := σ 3 6 m) rfl ?_
  refine lv_if_ne (tgt := 29) hx hb dX8_tie_23 (by decide) (fun c_23 => absurd c_23 (fun q9 => q9 hc)) (fun c_23 => ?_)
  refine lv_bipush (v := -103) hx hb dX8_tie_26 (by decide) ?_
  exact hret _ () _ _ _ _ h rfl dX8_tie_28
set_option maxHeartbeats 1000000 in
set_option maxRecDepth 100000 in
theorem kX8_mussel_no (l : Launch) (D : va_G) (ct : Nat → ClassId) (ad : Nat → Nat → Nat) (σ lm : Nat → Nat → Nat → Int32) (τ : Nat → Int64) (n : Nat) (kd : Nat → Nat) (hok : ROK (σ 2) n kd) (x z : Int32) (hv : ¬ ((0 ≤ x ∧ x < nI n) ∧ ((¬ z < 10 ∧ ¬ 13 ≤ z) ∨ (¬ z < 20 ∧ ¬ 23 ≤ z) ∨ (0 ≤ z ∧ z ≤ 7)))) : MI l yX8_mussel (gWs yX8_mussel cX8_mussel 3 (some .int)) rmX8_mussel D ct gNo [.ref (ad 0 0), .int x, .int z] (wX ad ct σ lm τ) (fun _ : Unit => (wX ad ct σ lm τ)) (fun r _ => r = (if ¬ (0 ≤ x ∧ x < nI n) then -101 else -102)) := by
  refine MI.ofI RX8 rfl (by decide) (Nat.le_of_ble_eq_true rfl) ?_
  intro zp ze zs zm za zb zt zc zA ls zQ C h hX hl hret
  have hx := C.1
  have hb := C.2.1
  have hl : lv_has ls 3 [(0, .ref (ad 0 0)), (1, .int x), (2, .int z)] := hl
  have hok0 := hok
  obtain ⟨hn, hn8, hkd⟩ := hok0
  refine lv_aload_n hx hb dX8_mussel_0 rfl (lv_at hl 0 rfl) ?_
  refine gget C h igX8 0 rfl rfl 1 (by decide) q202 rfl rfl dX8_mussel_1 ?_
  refine lv_iload_n hx hb dX8_mussel_4 rfl (lv_at hl 1 rfl) ?_
  refine gFi C h trivial gNo_ok (kX5_has l D ct (ad 2) (σ 2) n hn hn8 x) (cwV 1 C.2.2.2.2 (gInV q380 q381 q382 q59 q383) rfl rfl rfl hvX5_has ⟨Nat.le_of_ble_eq_true rfl, Nat.le_of_ble_eq_true rfl⟩) 3 rfl rfl rfl (fr_X_R ad ct _ _ _) rfl hl.1 rfl (Nat.le_of_ble_eq_true rfl) dX8_mussel_5 ⟨Nat.zero_le _, Nat.zero_le _⟩ (fun r9 u9 H ll hw h => ?_)
  have hw : r9 = (if 0 ≤ x ∧ x < nI n then 1 else 0) := hw
  subst hw
  have h : gW D ct zA zs _ _ (wX ad ct σ lm τ) := h
  refine bz_ne hx hb (0 ≤ x ∧ x < nI n) (tgt := 14) dX8_mussel_8 (by decide) (fun c_8 => ?_) (fun c_8 => ?_)
  · refine lv_iload_n hx hb dX8_mussel_14 rfl (lv_at hl 2 rfl) ?_
    refine lv_bipush (v := 10) hx hb dX8_mussel_15 (by decide) ?_
    refine lv_icmp_lt (tgt := 46) hx hb dX8_mussel_17 (by decide) (fun c_17 => ?_) (fun c_17 => ?_)
    · refine lv_iload_n hx hb dX8_mussel_46 rfl (lv_at hl 2 rfl) ?_
      refine lv_bipush (v := 20) hx hb dX8_mussel_47 (by decide) ?_
      refine lv_icmp_lt (tgt := 68) hx hb dX8_mussel_49 (by decide) (fun c_49 => ?_) (fun c_49 => ?_)
      · refine lv_iload_n hx hb dX8_mussel_68 rfl (lv_at hl 2 rfl) ?_
        by_cases hr : 0 ≤ z ∧ z ≤ 7
        · exact absurd ⟨c_8, Or.inr (Or.inr hr)⟩ hv
        · refine lv_tableOut (tgt := 191) hx hb dX8_mussel_69 (sw_out (n := 7) (by decide) rfl hr) (by decide) ?_
          refine lv_bipush (v := -102) hx hb dX8_mussel_191 (by decide) ?_
          exact hret _ () _ _ _ _ h (if_neg (not_not_intro c_8)).symm dX8_mussel_193
      · refine lv_iload_n hx hb dX8_mussel_52 rfl (lv_at hl 2 rfl) ?_
        refine lv_bipush (v := 23) hx hb dX8_mussel_53 (by decide) ?_
        refine lv_icmp_ge (tgt := 68) hx hb dX8_mussel_55 (by decide) (fun c_55 => ?_) (fun c_55 => ?_)
        · refine lv_iload_n hx hb dX8_mussel_68 rfl (lv_at hl 2 rfl) ?_
          by_cases hr : 0 ≤ z ∧ z ≤ 7
          · exact absurd ⟨c_8, Or.inr (Or.inr hr)⟩ hv
          · refine lv_tableOut (tgt := 191) hx hb dX8_mussel_69 (sw_out (n := 7) (by decide) rfl hr) (by decide) ?_
            refine lv_bipush (v := -102) hx hb dX8_mussel_191 (by decide) ?_
            exact hret _ () _ _ _ _ h (if_neg (not_not_intro c_8)).symm dX8_mussel_193
        · exact absurd ⟨c_8, Or.inr (Or.inl ⟨c_49, c_55⟩)⟩ hv
    · refine lv_iload_n hx hb dX8_mussel_20 rfl (lv_at hl 2 rfl) ?_
      refine lv_bipush (v := 13) hx hb dX8_mussel_21 (by decide) ?_
      refine lv_icmp_ge (tgt := 46) hx hb dX8_mussel_23 (by decide) (fun c_23 => ?_) (fun c_23 => ?_)
      · refine lv_iload_n hx hb dX8_mussel_46 rfl (lv_at hl 2 rfl) ?_
        refine lv_bipush (v := 20) hx hb dX8_mussel_47 (by decide) ?_
        refine lv_icmp_lt (tgt := 68) hx hb dX8_mussel_49 (by decide) (fun c_49 => ?_) (fun c_49 => ?_)
        · refine lv_iload_n hx hb dX8_mussel_68 rfl (lv_at hl 2 rfl) ?_
          by_cases hr : 0 ≤ z ∧ z ≤ 7
          · exact absurd ⟨c_8, Or.inr (Or.inr hr)⟩ hv
          · refine lv_tableOut (tgt := 191) hx hb dX8_mussel_69 (sw_out (n := 7) (by decide) rfl hr) (by decide) ?_
            refine lv_bipush (v := -102) hx hb dX8_mussel_191 (by decide) ?_
            exact hret _ () _ _ _ _ h (if_neg (not_not_intro c_8)).symm dX8_mussel_193
        · refine lv_iload_n hx hb dX8_mussel_52 rfl (lv_at hl 2 rfl) ?_
          refine lv_bipush (v := 23) hx hb dX8_mussel_53 (by decide) ?_
          refine lv_icmp_ge (tgt := 68) hx hb dX8_mussel_55 (by decide) (fun c_55 => ?_) (fun c_55 => ?_)
          · refine lv_iload_n hx hb dX8_mussel_68 rfl (lv_at hl 2 rfl) ?_
            by_cases hr : 0 ≤ z ∧ z ≤ 7
            · exact absurd ⟨c_8, Or.inr (Or.inr hr)⟩ hv
            · refine lv_tableOut (tgt := 191) hx hb dX8_mussel_69 (sw_out (n := 7) (by decide) rfl hr) (by decide) ?_
              refine lv_bipush (v := -102) hx hb dX8_mussel_191 (by decide) ?_
              exact hret _ () _ _ _ _ h (if_neg (not_not_intro c_8)).symm dX8_mussel_193
          · exact absurd ⟨c_8, Or.inr (Or.inl ⟨c_49, c_55⟩)⟩ hv
      · exact absurd ⟨c_8, Or.inl ⟨c_17, c_23⟩⟩ hv
  · refine lv_bipush (v := -101) hx hb dX8_mussel_11 (by decide) ?_
    exact hret _ () _ _ _ _ h (if_pos c_8).symm dX8_mussel_13
set_option maxHeartbeats 1000000 in
set_option maxRecDepth 100000 in
theorem kX8_question_no (l : Launch) (D : va_G) (ct : Nat → ClassId) (ad : Nat → Nat → Nat) (σ lm : Nat → Nat → Nat → Int32) (τ : Nat → Int64) (n : Nat) (kd : Nat → Nat) (hok : ROK (σ 2) n kd) (x z : Int32) (hv : ¬ ((0 < n ∧ 0 ≤ x ∧ x < 3) ∧ (0 ≤ z ∧ z ≤ 5))) : MI l yX8_question (gWs yX8_question cX8_question 3 (some .int)) rmX8_question D ct gNo [.ref (ad 0 0), .int x, .int z] (wX ad ct σ lm τ) (fun _ : Unit => (wX ad ct σ lm τ)) (fun r _ => r = (if ¬ (0 < n ∧ 0 ≤ x ∧ x < 3) then -101 else -102)) := by
  refine MI.ofI RX8 rfl (by decide) (Nat.le_of_ble_eq_true rfl) ?_
  intro zp ze zs zm za zb zt zc zA ls zQ C h hX hl hret
  have hx := C.1
  have hb := C.2.1
  have hl : lv_has ls 3 [(0, .ref (ad 0 0)), (1, .int x), (2, .int z)] := hl
  have hok0 := hok
  obtain ⟨hn, hn8, hkd⟩ := hok0
  refine lv_aload_n hx hb dX8_question_0 rfl (lv_at hl 0 rfl) ?_
  refine lv_iload_n hx hb dX8_question_1 rfl (lv_at hl 1 rfl) ?_
  refine gcallVi C h trivial gNo_ok (kX8_isQuestion l D ct ad σ lm τ n kd hok x) (cwV 1 C.2.2.2.2 (gInV q492 q494 q6 q57 q495) rfl rfl rfl hvX8_isQuestion ⟨Nat.le_of_ble_eq_true rfl, Nat.le_of_ble_eq_true rfl⟩) 0 rfl rfl rfl rfl hl.1 rfl (Nat.le_of_ble_eq_true rfl) dX8_question_2 ⟨Nat.zero_le _, Nat.zero_le _⟩ (fun r9 u9 H ll hw h => ?_)
  have hw : r9 = (if 0 < n ∧ 0 ≤ x ∧ x < 3 then 1 else 0) := hw
  subst hw
  have h : gW D ct zA zs _ _ (wX ad ct σ lm τ) := h
  refine bz_ne hx hb (0 < n ∧ 0 ≤ x ∧ x < 3) (tgt := 11) dX8_question_5 (by decide) (fun c_5 => ?_) (fun c_5 => ?_)
  · refine lv_iload_n hx hb dX8_question_11 rfl (lv_at hl 2 rfl) ?_
    by_cases hr : 0 ≤ z ∧ z ≤ 5
    · exact absurd ⟨c_5, hr⟩ hv
    · refine lv_tableOut (tgt := 119) hx hb dX8_question_12 (sw_out (n := 5) (by decide) rfl hr) (by decide) ?_
      refine lv_bipush (v := -102) hx hb dX8_question_119 (by decide) ?_
      exact hret _ () _ _ _ _ h (if_neg (not_not_intro c_5)).symm dX8_question_121
  · refine lv_bipush (v := -101) hx hb dX8_question_8 (by decide) ?_
    exact hret _ () _ _ _ _ h (if_pos c_5).symm dX8_question_10
set_option maxHeartbeats 1000000 in
set_option maxRecDepth 100000 in
theorem kX8_count_no (l : Launch) (D : va_G) (ct : Nat → ClassId) (ad : Nat → Nat → Nat) (σ lm : Nat → Nat → Nat → Int32) (τ : Nat → Int64) (n : Nat) (kd : Nat → Nat) (hok : ROK (σ 2) n kd) (x : Int32) (hv : ¬ (0 ≤ x ∧ x ≤ 11)) : MI l yX8_count (gWs yX8_count cX8_count 2 (some .int)) rmX8_count D ct gNo [.ref (ad 0 0), .int x] (wX ad ct σ lm τ) (fun _ : Unit => (wX ad ct σ lm τ)) (fun r _ => r = (-102)) := by
  refine MI.ofI RX8 rfl (by decide) (Nat.le_of_ble_eq_true rfl) ?_
  intro zp ze zs zm za zb zt zc zA ls zQ C h hX hl hret
  have hx := C.1
  have hb := C.2.1
  have hl : lv_has ls 2 [(0, .ref (ad 0 0)), (1, .int x)] := hl
  have hok0 := hok
  obtain ⟨hn, hn8, hkd⟩ := hok0
  refine lv_iload_n hx hb dX8_count_0 rfl (lv_at hl 1 rfl) ?_
  by_cases hr : 0 ≤ x ∧ x ≤ 11
  · exact absurd hr hv
  · refine lv_tableOut (tgt := 167) hx hb dX8_count_1 (sw_out (n := 11) (by decide) rfl hr) (by decide) ?_
    refine lv_bipush (v := -102) hx hb dX8_count_167 (by decide) ?_
    exact hret _ () _ _ _ _ h rfl dX8_count_169
