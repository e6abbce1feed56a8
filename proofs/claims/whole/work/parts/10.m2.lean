theorem sgP {x : Int32} (h : ¬ x ≤ 0) : (1 : Int32) = sgn x := by rw [sgn, if_pos (Int32.not_le.mp h)]
theorem sgN {x : Int32} (h : x ≤ 0) (h2 : ¬ 0 ≤ x) : (-1 : Int32) = sgn x := by rw [sgn, if_neg (Int32.not_lt.mpr h), if_pos (Int32.not_le.mp h2)]
theorem sgZ {x : Int32} (h : x ≤ 0) (h2 : 0 ≤ x) : (0 : Int32) = sgn x := by rw [sgn, if_neg (Int32.not_lt.mpr h), if_neg (Int32.not_lt.mpr h2)]
def cntTo (P : Nat → Prop) [DecidablePred P] : Nat → Nat
  | 0 => 0
  | n + 1 => cntTo P n + (if P n then 1 else 0)
set_option maxHeartbeats 4000000 in
set_option maxRecDepth 100000 in
theorem kX9_isMussel (l : Launch) (D : va_G) (ct : Nat → ClassId) (ad : Nat → Nat) (σ : Nat → Nat → Int32) (τ : Nat → Nat → Int64) (n : Nat) (hn : σ 1 0 = nI n) (hn8 : n ≤ 8) (mu : Int32) : MI l yX9_isMussel (gWs yX9_isMussel cX9_isMussel 2 (some .boolean)) rmX9_isMussel D ct gNo [.ref (ad 0), .int mu] (wM ad ct σ τ) (fun _ : Unit => (wM ad ct σ τ)) (fun r _ => r = (if 0 ≤ mu ∧ mu ≤ nI n - 1 then 1 else 0)) := by
  refine MI.ofZ RX9 rfl (by decide) (Nat.le_of_ble_eq_true rfl) ?_
  intro zp ze zs zm za zb zt zc zA ls zQ C h hX hl hret
  have hx := C.1
  have hb := C.2.1
  have hl : lv_has ls 2 [(0, .ref (ad 0)), (1, .int mu)] := hl
  refine lv_iload_n hx hb dX9_isMussel_0 rfl (lv_at hl 1 rfl) ?_
  refine lv_iconst (v := 0) hx hb dX9_isMussel_1 (by decide) ?_
  refine lv_aload_n hx hb dX9_isMussel_2 rfl (lv_at hl 0 rfl) ?_
  refine mg_mussels C h dX9_isMussel_3 ?_
  refine gas hn ?_
  refine lv_iconst (v := 1) hx hb dX9_isMussel_6 (by decide) ?_
  refine lv_isub hx hb dX9_isMussel_7 ?_
  refine gcallSi C h (kX9_within l D ct mu 0 ((nI n) - 1)) (va_cwS 3 C.2.2.2.2 (gInS q817 q818 q66 q819) rfl rfl rfl hdX9_within ⟨Nat.le_of_ble_eq_true rfl, Nat.le_of_ble_eq_true rfl⟩) rfl hl.1 rfl (Nat.le_of_ble_eq_true rfl) dX9_isMussel_8 ⟨Nat.zero_le _, Nat.zero_le _⟩ (fun H ll h => ?_)
  exact hret _ () _ _ _ _ h rfl dX9_isMussel_11 (gnz _)
set_option maxHeartbeats 4000000 in
set_option maxRecDepth 100000 in
theorem kX9_isQuestion (l : Launch) (D : va_G) (ct : Nat → ClassId) (ad : Nat → Nat) (σ : Nat → Nat → Int32) (τ : Nat → Nat → Int64) (n : Nat) (hn : σ 1 0 = nI n) (hn8 : n ≤ 8) (qu : Int32) : MI l yX9_isQuestion (gWs yX9_isQuestion cX9_isQuestion 2 (some .boolean)) rmX9_isQuestion D ct gNo [.ref (ad 0), .int qu] (wM ad ct σ τ) (fun _ : Unit => (wM ad ct σ τ)) (fun r _ => r = (if 0 < n ∧ 0 ≤ qu ∧ qu ≤ 2 then 1 else 0)) := by
  refine MI.ofZ RX9 rfl (by decide) (Nat.le_of_ble_eq_true rfl) ?_
  intro zp ze zs zm za zb zt zc zA ls zQ C h hX hl hret
  have hx := C.1
  have hb := C.2.1
  have hl : lv_has ls 2 [(0, .ref (ad 0)), (1, .int qu)] := hl
  refine lv_aload_n hx hb dX9_isQuestion_0 rfl (lv_at hl 0 rfl) ?_
  refine mg_mussels C h dX9_isQuestion_1 ?_
  refine gas hn ?_
  refine nz_le hx hb n (by omega) (tgt := 20) dX9_isQuestion_4 (by decide) (fun c_4 => ?_) (fun c_4 => ?_)
  · refine lv_iconst (v := 0) hx hb dX9_isQuestion_20 (by decide) ?_
    exact hret _ () _ _ _ _ h (by first | exact (if_pos ⟨c_4, c_13⟩).symm | exact (if_neg (fun q => absurd q.1 (by omega))).symm | exact (if_neg (fun q => c_13 q.2)).symm) dX9_isQuestion_21 (by decide)
  · refine lv_iload_n hx hb dX9_isQuestion_7 rfl (lv_at hl 1 rfl) ?_
    refine lv_iconst (v := 0) hx hb dX9_isQuestion_8 (by decide) ?_
    refine lv_iconst (v := 2) hx hb dX9_isQuestion_9 (by decide) ?_
    refine gcallSi C h (kX9_within l D ct qu 0 2) (va_cwS 3 C.2.2.2.2 (gInS q817 q818 q66 q819) rfl rfl rfl hdX9_within ⟨Nat.le_of_ble_eq_true rfl, Nat.le_of_ble_eq_true rfl⟩) rfl hl.1 rfl (Nat.le_of_ble_eq_true rfl) dX9_isQuestion_10 ⟨Nat.zero_le _, Nat.zero_le _⟩ (fun H ll h => ?_)
    refine bz_eq hx hb (0 ≤ qu ∧ qu ≤ 2) (tgt := 20) dX9_isQuestion_13 (by decide) (fun c_13 => ?_) (fun c_13 => ?_)
    · refine lv_iconst (v := 0) hx hb dX9_isQuestion_20 (by decide) ?_
      exact hret _ () _ _ _ _ h (by first | exact (if_pos ⟨c_4, c_13⟩).symm | exact (if_neg (fun q => absurd q.1 (by omega))).symm | exact (if_neg (fun q => c_13 q.2)).symm) dX9_isQuestion_21 (by decide)
    · refine lv_iconst (v := 1) hx hb dX9_isQuestion_16 (by decide) ?_
      refine lv_goto (tgt := 21) hx hb dX9_isQuestion_17 (by decide) ?_
      exact hret _ () _ _ _ _ h (by first | exact (if_pos ⟨c_4, c_13⟩).symm | exact (if_neg (fun q => absurd q.1 (by omega))).symm | exact (if_neg (fun q => c_13 q.2)).symm) dX9_isQuestion_21 (by decide)
set_option maxHeartbeats 4000000 in
set_option maxRecDepth 100000 in
theorem kX9_isFelt (l : Launch) (D : va_G) (ct : Nat → ClassId) (ad : Nat → Nat) (σ : Nat → Nat → Int32) (τ : Nat → Nat → Int64) (n c : Nat) (kd : Nat → Nat) (hok : MOK σ n c kd) (m : Nat) (hm : m < 8) : MI l yX9_isFelt (gWs yX9_isFelt cX9_isFelt 2 (some .boolean)) rmX9_isFelt D ct gNo [.ref (ad 0), .int (nI m)] (wM ad ct σ τ) (fun _ : Unit => (wM ad ct σ τ)) (fun r _ => r = (if c % 2 ^ (m + 1) = 0 then 1 else 0)) := by
  refine MI.ofZ RX9 rfl (by decide) (Nat.le_of_ble_eq_true rfl) ?_
  intro zp ze zs zm za zb zt zc zA ls zQ C h hX hl hret
  have hx := C.1
  have hb := C.2.1
  have hl : lv_has ls 2 [(0, .ref (ad 0)), (1, .int (nI m))] := hl
  have hok0 := hok
  obtain ⟨hn, hn8, hc, hc8, hkd⟩ := hok0
  refine lv_aload_n hx hb dX9_isFelt_0 rfl (lv_at hl 0 rfl) ?_
  refine mg_cutThreads C h dX9_isFelt_1 ?_
  refine gas hc ?_
  refine lv_iconst (v := 2) hx hb dX9_isFelt_4 (by decide) ?_
  refine lv_iload_n hx hb dX9_isFelt_5 rfl (lv_at hl 1 rfl) ?_
  refine nshl hx hb 2 m (by omega) (by have := pow_lt8 m (by omega); omega) dX9_isFelt_6 ?_
  refine lv_iconst (v := 1) hx hb dX9_isFelt_7 (by decide) ?_
  refine nsub hx hb (2 * 2 ^ m) 1 (by have := pow_pos2 m; omega) dX9_isFelt_8 ?_
  refine nand hx hb c ((2 * 2 ^ m) - 1) dX9_isFelt_9 ?_
  refine nz_ne hx hb (c &&& ((2 * 2 ^ m) - 1)) (Nat.lt_of_le_of_lt Nat.and_le_left (by omega)) (tgt := 17) dX9_isFelt_10 (by decide) (fun c_10 => ?_) (fun c_10 => ?_)
  · refine lv_iconst (v := 0) hx hb dX9_isFelt_17 (by decide) ?_
    exact hret _ () _ _ _ _ h (by rw [feltN] at c_10; first | exact (if_pos c_10).symm | exact (if_neg c_10).symm) dX9_isFelt_18 (by decide)
  · refine lv_iconst (v := 1) hx hb dX9_isFelt_13 (by decide) ?_
    refine lv_goto (tgt := 18) hx hb dX9_isFelt_14 (by decide) ?_
    exact hret _ () _ _ _ _ h (by rw [feltN] at c_10; first | exact (if_pos c_10).symm | exact (if_neg c_10).symm) dX9_isFelt_18 (by decide)
set_option maxHeartbeats 4000000 in
set_option maxRecDepth 100000 in
theorem kX9_felt (l : Launch) (D : va_G) (ct : Nat → ClassId) (ad : Nat → Nat) (σ : Nat → Nat → Int32) (τ : Nat → Nat → Int64) (n c : Nat) (kd : Nat → Nat) (hok : MOK σ n c kd)  : MI l yX9_felt (gWs yX9_felt cX9_felt 3 (some .int)) rmX9_felt D ct gNo [.ref (ad 0)] (wM ad ct σ τ) (fun _ : Unit => (wM ad ct σ τ)) (fun r _ => r = nI (fbits c n)) := by
  refine MI.ofI RX9 rfl (by decide) (Nat.le_of_ble_eq_true rfl) ?_
  intro zp ze zs zm za zb zt zc zA ls zQ C h hX hl hret
  have hx := C.1
  have hb := C.2.1
  have hl : lv_has ls 3 [(0, .ref (ad 0))] := hl
  have hok0 := hok
  obtain ⟨hn, hn8, hc, hc8, hkd⟩ := hok0
  refine lv_iconst (v := 0) hx hb dX9_felt_0 (by decide) ?_
  refine lv_istore_n (lv' := [(1, .int 0), (0, .ref (ad 0))]) hx hb dX9_felt_1 rfl hl (by decide) rfl (fun ls hl => ?_)
  refine lv_iconst (v := 0) hx hb dX9_felt_2 (by decide) ?_
  refine lv_istore_n (lv' := [(2, .int 0), (1, .int 0), (0, .ref (ad 0))]) hx hb dX9_felt_3 rfl hl (by decide) rfl (fun ls hl => ?_)
  have L4_0 : ∀ (kk : Nat) (i : Nat) (H : Heap) (ll : List Loc) (ls : Array Slot), n - i = kk → (i ≤ n) → gW D ct zA zs H ll (wM ad ct σ τ) → lv_has ls 3 [(2, .int (nI i)), (1, .int (nI (fbits c i))), (0, .ref (ad 0))] → W zp l ze rmX9_felt zs zm za zb zt zc H ll 0 0 zQ (F0 zm 4 ls []) := by
    intro kk4
    induction kk4 using Nat.strongRecOn with
    | _ kk4 ih4 =>
    intro i H ll ls hk4 hi h hl
    refine lv_iload_n hx hb dX9_felt_4 rfl (lv_at hl 0 rfl) ?_
    refine lv_aload_n hx hb dX9_felt_5 rfl (lv_at hl 2 rfl) ?_
    refine mg_mussels C h dX9_felt_6 ?_
    refine gas hn ?_
    refine nb_ge hx hb i n (by omega) (by omega) (tgt := 36) dX9_felt_9 (by decide) (fun c_9 => ?_) (fun c_9 => ?_)
    · refine lv_iload_n hx hb dX9_felt_36 rfl (lv_at hl 1 rfl) ?_
      exact hret _ () _ _ _ _ h (by rw [show i = n by omega]) dX9_felt_37
    · refine lv_iload_n hx hb dX9_felt_12 rfl (lv_at hl 1 rfl) ?_
      refine lv_aload_n hx hb dX9_felt_13 rfl (lv_at hl 2 rfl) ?_
      refine lv_iload_n hx hb dX9_felt_14 rfl (lv_at hl 0 rfl) ?_
      refine gcallVi C h trivial gNo_ok (kX9_isFelt l D ct ad σ τ n c kd hok i (by omega)) (cwV 1 C.2.2.2.2 (gInV q877 q879 q27 q66 q880) rfl rfl rfl hvX9_isFelt ⟨Nat.le_of_ble_eq_true rfl, Nat.le_of_ble_eq_true rfl⟩) 0 (wM_o ad ct σ τ) rfl rfl rfl hl.1 rfl (Nat.le_of_ble_eq_true rfl) dX9_felt_15 ⟨Nat.zero_le _, Nat.zero_le _⟩ (fun r9 u9 H ll hw h => ?_)
      have hw : r9 = (if c % 2 ^ (i + 1) = 0 then 1 else 0) := hw
      subst hw
      have h : gW D ct zA zs _ _ (wM ad ct σ τ) := h
      refine bz_eq hx hb (c % 2 ^ (i + 1) = 0) (tgt := 27) dX9_felt_18 (by decide) (fun c_18 => ?_) (fun c_18 => ?_)
      · refine lv_iconst (v := 0) hx hb dX9_felt_27 (by decide) ?_
        refine nor hx hb (fbits c i) 0 dX9_felt_28 ?_
        refine lv_istore_n (lv' := [(1, .int (nI ((fbits c i) ||| 0))), (2, .int (nI i)), (0, .ref (ad 0))]) hx hb dX9_felt_29 rfl hl (by decide) rfl (fun ls hl => ?_)
        refine ninc (lv' := [(2, .int (nI (i + 1))), (1, .int (nI ((fbits c i) ||| 0))), (0, .ref (ad 0))]) hx hb i 1 dX9_felt_30 hl (k := 1) rfl (by decide) rfl (fun ls hl => ?_)
        refine lv_goto (tgt := 4) hx hb dX9_felt_33 (by decide) ?_
        have e9 : fbits c (i + 1) = (fbits c i) ||| 0 := by simp [fbits, c_18]
        rw [← e9] at hl
        exact ih4 _ (by omega) (i + 1) _ _ _ rfl (by omega) h (lv_sub hl [0, 1, 2] rfl)
      · refine lv_iconst (v := 1) hx hb dX9_felt_21 (by decide) ?_
        refine lv_iload_n hx hb dX9_felt_22 rfl (lv_at hl 0 rfl) ?_
        refine nshl hx hb 1 i (by omega) (by have := pow_lt8 i (by omega); omega) dX9_felt_23 ?_
        refine lv_goto (tgt := 28) hx hb dX9_felt_24 (by decide) ?_
        refine nor hx hb (fbits c i) (1 * 2 ^ i) dX9_felt_28 ?_
        refine lv_istore_n (lv' := [(1, .int (nI ((fbits c i) ||| (1 * 2 ^ i)))), (2, .int (nI i)), (0, .ref (ad 0))]) hx hb dX9_felt_29 rfl hl (by decide) rfl (fun ls hl => ?_)
        refine ninc (lv' := [(2, .int (nI (i + 1))), (1, .int (nI ((fbits c i) ||| (1 * 2 ^ i)))), (0, .ref (ad 0))]) hx hb i 1 dX9_felt_30 hl (k := 1) rfl (by decide) rfl (fun ls hl => ?_)
        refine lv_goto (tgt := 4) hx hb dX9_felt_33 (by decide) ?_
        have e9 : fbits c (i + 1) = (fbits c i) ||| (1 * 2 ^ i) := by simp [fbits, c_18]
        rw [← e9] at hl
        exact ih4 _ (by omega) (i + 1) _ _ _ rfl (by omega) h (lv_sub hl [0, 1, 2] rfl)
  exact L4_0 _ 0 _ _ _ rfl (by omega) h (lv_sub hl [0, 1, 2] rfl)
set_option maxHeartbeats 4000000 in
set_option maxRecDepth 100000 in
theorem kX9_leanAhead (l : Launch) (D : va_G) (ct : Nat → ClassId) (ad : Nat → Nat) (σ : Nat → Nat → Int32) (τ : Nat → Nat → Int64) (n c : Nat) (kd : Nat → Nat) (hok : MOK σ n c kd) (m q : Nat) (hm : m < n) (hq : q < 3) : MI l yX9_leanAhead (gWs yX9_leanAhead cX9_leanAhead 3 (some .int)) rmX9_leanAhead D ct gNo [.ref (ad 0), .int (nI m), .int (nI q)] (wM ad ct σ τ) (fun _ : Unit => (wM ad ct σ τ)) (fun r _ => r = lnA (leM σ) (cuM c) m q) := by
  refine MI.ofI RX9 rfl (by decide) (Nat.le_of_ble_eq_true rfl) ?_
  intro zp ze zs zm za zb zt zc zA ls zQ C h hX hl hret
  have hx := C.1
  have hb := C.2.1
  have hl : lv_has ls 3 [(0, .ref (ad 0)), (1, .int (nI m)), (2, .int (nI q))] := hl
  have hok0 := hok
  obtain ⟨hn, hn8, hc, hc8, hkd⟩ := hok0
  refine lv_iload_n hx hb dX9_leanAhead_0 rfl (lv_at hl 1 rfl) ?_
  refine nz_le hx hb m (by omega) (tgt := 30) dX9_leanAhead_1 (by decide) (fun c_1 => ?_) (fun c_1 => ?_)
  · refine lv_iconst (v := 0) hx hb dX9_leanAhead_30 (by decide) ?_
    exact hret _ () _ _ _ _ h (by unfold lnA; first | rw [if_pos ⟨by omega, by simpa [cuM] using c_12⟩, leM, show 3 * (m - 1) + q = 3 * m - 3 + q by omega] | rw [if_neg (fun h => absurd h.1 (by omega))] | rw [if_neg (fun h => by simp [cuM, c_12] at h)]) dX9_leanAhead_31
  · refine lv_aload_n hx hb dX9_leanAhead_4 rfl (lv_at hl 0 rfl) ?_
    refine mg_cutThreads C h dX9_leanAhead_5 ?_
    refine gas hc ?_
    refine lv_iload_n hx hb dX9_leanAhead_8 rfl (lv_at hl 1 rfl) ?_
    refine gcallSi C h (kX9_isIn l D ct c m (by omega) (by omega)) (va_cwS 2 C.2.2.2.2 (gInS q889 q890 q66 q891) rfl rfl rfl hdX9_isIn ⟨Nat.le_of_ble_eq_true rfl, Nat.le_of_ble_eq_true rfl⟩) rfl hl.1 rfl (Nat.le_of_ble_eq_true rfl) dX9_leanAhead_9 ⟨Nat.zero_le _, Nat.zero_le _⟩ (fun H ll h => ?_)
    refine bz_ne hx hb (c.testBit m = true) (tgt := 30) dX9_leanAhead_12 (by decide) (fun c_12 => ?_) (fun c_12 => ?_)
    · refine lv_iconst (v := 0) hx hb dX9_leanAhead_30 (by decide) ?_
      exact hret _ () _ _ _ _ h (by unfold lnA; first | rw [if_pos ⟨by omega, by simpa [cuM] using c_12⟩, leM, show 3 * (m - 1) + q = 3 * m - 3 + q by omega] | rw [if_neg (fun h => absurd h.1 (by omega))] | rw [if_neg (fun h => by simp [cuM, c_12] at h)]) dX9_leanAhead_31
    · refine lv_aload_n hx hb dX9_leanAhead_15 rfl (lv_at hl 0 rfl) ?_
      refine mg_leanOf C h dX9_leanAhead_16 ?_
      refine lv_iconst (v := 3) hx hb dX9_leanAhead_19 (by decide) ?_
      refine lv_iload_n hx hb dX9_leanAhead_20 rfl (lv_at hl 1 rfl) ?_
      refine nmul hx hb 3 m dX9_leanAhead_21 ?_
      refine lv_iconst (v := 3) hx hb dX9_leanAhead_22 (by decide) ?_
      refine nsub hx hb (3 * m) 3 (by omega) dX9_leanAhead_23 ?_
      refine lv_iload_n hx hb dX9_leanAhead_24 rfl (lv_at hl 2 rfl) ?_
      refine nadd hx hb ((3 * m) - 3) q dX9_leanAhead_25 ?_
      refine ml_leanOf C h (j := ((3 * m) - 3) + q) (by omega) dX9_leanAhead_26 ?_
      refine lv_goto (tgt := 31) hx hb dX9_leanAhead_27 (by decide) ?_
      exact hret _ () _ _ _ _ h (by unfold lnA; first | rw [if_pos ⟨by omega, by simpa [cuM] using c_12⟩, leM, show 3 * (m - 1) + q = 3 * m - 3 + q by omega] | rw [if_neg (fun h => absurd h.1 (by omega))] | rw [if_neg (fun h => by simp [cuM, c_12] at h)]) dX9_leanAhead_31
set_option maxHeartbeats 4000000 in
set_option maxRecDepth 100000 in
theorem kX9_leanBehind (l : Launch) (D : va_G) (ct : Nat → ClassId) (ad : Nat → Nat) (σ : Nat → Nat → Int32) (τ : Nat → Nat → Int64) (n c : Nat) (kd : Nat → Nat) (hok : MOK σ n c kd) (m q : Nat) (hm : m < n) (hq : q < 3) : MI l yX9_leanBehind (gWs yX9_leanBehind cX9_leanBehind 3 (some .int)) rmX9_leanBehind D ct gNo [.ref (ad 0), .int (nI m), .int (nI q)] (wM ad ct σ τ) (fun _ : Unit => (wM ad ct σ τ)) (fun r _ => r = lnB n (leM σ) (cuM c) m q) := by
  refine MI.ofI RX9 rfl (by decide) (Nat.le_of_ble_eq_true rfl) ?_
  intro zp ze zs zm za zb zt zc zA ls zQ C h hX hl hret
  have hx := C.1
  have hb := C.2.1
  have hl : lv_has ls 3 [(0, .ref (ad 0)), (1, .int (nI m)), (2, .int (nI q))] := hl
  have hok0 := hok
  obtain ⟨hn, hn8, hc, hc8, hkd⟩ := hok0
  refine lv_iload_n hx hb dX9_leanBehind_0 rfl (lv_at hl 1 rfl) ?_
  refine lv_iconst (v := 1) hx hb dX9_leanBehind_1 (by decide) ?_
  refine nadd hx hb m 1 dX9_leanBehind_2 ?_
  refine lv_aload_n hx hb dX9_leanBehind_3 rfl (lv_at hl 0 rfl) ?_
  refine mg_mussels C h dX9_leanBehind_4 ?_
  refine gas hn ?_
  refine nb_ge hx hb (m + 1) n (by omega) (by omega) (tgt := 38) dX9_leanBehind_7 (by decide) (fun c_7 => ?_) (fun c_7 => ?_)
  · refine lv_iconst (v := 0) hx hb dX9_leanBehind_38 (by decide) ?_
    exact hret _ () _ _ _ _ h (by unfold lnB; first | rw [if_pos ⟨by omega, by simpa [cuM] using c_20⟩, leM, show 3 * (m + 1) + q = 3 * m + 3 + q by omega] | rw [if_neg (fun h => absurd h.1 (by omega))] | rw [if_neg (fun h => by simp [cuM, c_20] at h)]) dX9_leanBehind_39
  · refine lv_aload_n hx hb dX9_leanBehind_10 rfl (lv_at hl 0 rfl) ?_
    refine mg_cutThreads C h dX9_leanBehind_11 ?_
    refine gas hc ?_
    refine lv_iload_n hx hb dX9_leanBehind_14 rfl (lv_at hl 1 rfl) ?_
    refine lv_iconst (v := 1) hx hb dX9_leanBehind_15 (by decide) ?_
    refine nadd hx hb m 1 dX9_leanBehind_16 ?_
    refine gcallSi C h (kX9_isIn l D ct c (m + 1) (by omega) (by omega)) (va_cwS 2 C.2.2.2.2 (gInS q889 q890 q66 q891) rfl rfl rfl hdX9_isIn ⟨Nat.le_of_ble_eq_true rfl, Nat.le_of_ble_eq_true rfl⟩) rfl hl.1 rfl (Nat.le_of_ble_eq_true rfl) dX9_leanBehind_17 ⟨Nat.zero_le _, Nat.zero_le _⟩ (fun H ll h => ?_)
    refine bz_ne hx hb (c.testBit (m + 1) = true) (tgt := 38) dX9_leanBehind_20 (by decide) (fun c_20 => ?_) (fun c_20 => ?_)
    · refine lv_iconst (v := 0) hx hb dX9_leanBehind_38 (by decide) ?_
      exact hret _ () _ _ _ _ h (by unfold lnB; first | rw [if_pos ⟨by omega, by simpa [cuM] using c_20⟩, leM, show 3 * (m + 1) + q = 3 * m + 3 + q by omega] | rw [if_neg (fun h => absurd h.1 (by omega))] | rw [if_neg (fun h => by simp [cuM, c_20] at h)]) dX9_leanBehind_39
    · refine lv_aload_n hx hb dX9_leanBehind_23 rfl (lv_at hl 0 rfl) ?_
      refine mg_leanOf C h dX9_leanBehind_24 ?_
      refine lv_iconst (v := 3) hx hb dX9_leanBehind_27 (by decide) ?_
      refine lv_iload_n hx hb dX9_leanBehind_28 rfl (lv_at hl 1 rfl) ?_
      refine nmul hx hb 3 m dX9_leanBehind_29 ?_
      refine lv_iconst (v := 3) hx hb dX9_leanBehind_30 (by decide) ?_
      refine nadd hx hb (3 * m) 3 dX9_leanBehind_31 ?_
      refine lv_iload_n hx hb dX9_leanBehind_32 rfl (lv_at hl 2 rfl) ?_
      refine nadd hx hb ((3 * m) + 3) q dX9_leanBehind_33 ?_
      refine ml_leanOf C h (j := ((3 * m) + 3) + q) (by omega) dX9_leanBehind_34 ?_
      refine lv_goto (tgt := 39) hx hb dX9_leanBehind_35 (by decide) ?_
      exact hret _ () _ _ _ _ h (by unfold lnB; first | rw [if_pos ⟨by omega, by simpa [cuM] using c_20⟩, leM, show 3 * (m + 1) + q = 3 * m + 3 + q by omega] | rw [if_neg (fun h => absurd h.1 (by omega))] | rw [if_neg (fun h => by simp [cuM, c_20] at h)]) dX9_leanBehind_39
set_option maxHeartbeats 4000000 in
set_option maxRecDepth 100000 in
theorem kX9_pulls (l : Launch) (D : va_G) (ct : Nat → ClassId) (ad : Nat → Nat) (σ : Nat → Nat → Int32) (τ : Nat → Nat → Int64) (n c : Nat) (kd : Nat → Nat) (hok : MOK σ n c kd) (m q : Nat) (hm : m < n) (hq : q < 3) : MI l yX9_pulls (gWs yX9_pulls cX9_pulls 6 (some .int)) rmX9_pulls D ct gNo [.ref (ad 0), .int (nI m), .int (nI q)] (wM ad ct σ τ) (fun _ : Unit => (wM ad ct σ τ)) (fun r _ => r = plM σ n c kd q m) := by
  refine MI.ofI RX9 rfl (by decide) (Nat.le_of_ble_eq_true rfl) ?_
  intro zp ze zs zm za zb zt zc zA ls zQ C h hX hl hret
  have hx := C.1
  have hb := C.2.1
  have hl : lv_has ls 6 [(0, .ref (ad 0)), (1, .int (nI m)), (2, .int (nI q))] := hl
  have hok0 := hok
  obtain ⟨hn, hn8, hc, hc8, hkd⟩ := hok0
  refine lv_aload_n hx hb dX9_pulls_0 rfl (lv_at hl 0 rfl) ?_
  refine mg_weightOf C h dX9_pulls_1 ?_
  refine lv_iload_n hx hb dX9_pulls_4 rfl (lv_at hl 1 rfl) ?_
  refine ml_weightOf C h (j := m) (by omega) dX9_pulls_5 ?_
  refine lv_istore_n (lv' := [(3, .int (σ 3 m)), (0, .ref (ad 0)), (1, .int (nI m)), (2, .int (nI q))]) hx hb dX9_pulls_6 rfl hl (by decide) rfl (fun ls hl => ?_)
  refine lv_iload_n hx hb dX9_pulls_7 rfl (lv_at hl 0 rfl) ?_
  refine lv_aload_n hx hb dX9_pulls_8 rfl (lv_at hl 1 rfl) ?_
  refine mg_leanOf C h dX9_pulls_9 ?_
  refine lv_iconst (v := 3) hx hb dX9_pulls_12 (by decide) ?_
  refine lv_iload_n hx hb dX9_pulls_13 rfl (lv_at hl 2 rfl) ?_
  refine nmul hx hb 3 m dX9_pulls_14 ?_
  refine lv_iload_n hx hb dX9_pulls_15 rfl (lv_at hl 3 rfl) ?_
  refine nadd hx hb (3 * m) q dX9_pulls_16 ?_
  refine ml_leanOf C h (j := (3 * m) + q) (by omega) dX9_pulls_17 ?_
  refine lv_imul hx hb dX9_pulls_18 ?_
  refine lv_istore (lv' := [(4, .int ((σ 3 m) * (σ 4 ((3 * m) + q)))), (3, .int (σ 3 m)), (0, .ref (ad 0)), (1, .int (nI m)), (2, .int (nI q))]) hx hb dX9_pulls_19 hl (by decide) rfl (fun ls hl => ?_)
  refine lv_aload_n hx hb dX9_pulls_21 rfl (lv_at hl 2 rfl) ?_
  refine lv_iload_n hx hb dX9_pulls_22 rfl (lv_at hl 3 rfl) ?_
  refine lv_iload_n hx hb dX9_pulls_23 rfl (lv_at hl 4 rfl) ?_
  refine gcallVi C h trivial gNo_ok (kX9_leanAhead l D ct ad σ τ n c kd hok m q (by omega) (by omega)) (cwV 2 C.2.2.2.2 (gInV q885 q887 q29 q66 q888) rfl rfl rfl hvX9_leanAhead ⟨Nat.le_of_ble_eq_true rfl, Nat.le_of_ble_eq_true rfl⟩) 0 (wM_o ad ct σ τ) rfl rfl rfl hl.1 rfl (Nat.le_of_ble_eq_true rfl) dX9_pulls_24 ⟨Nat.zero_le _, Nat.zero_le _⟩ (fun r9 u9 H ll hw h => ?_)
  have hw : r9 = lnA (leM σ) (cuM c) m q := hw
  subst hw
  have h : gW D ct zA zs _ _ (wM ad ct σ τ) := h
  refine lv_aload_n hx hb dX9_pulls_27 rfl (lv_at hl 2 rfl) ?_
  refine lv_iload_n hx hb dX9_pulls_28 rfl (lv_at hl 3 rfl) ?_
  refine lv_iload_n hx hb dX9_pulls_29 rfl (lv_at hl 4 rfl) ?_
  refine gcallVi C h trivial gNo_ok (kX9_leanBehind l D ct ad σ τ n c kd hok m q (by omega) (by omega)) (cwV 2 C.2.2.2.2 (gInV q892 q894 q30 q66 q895) rfl rfl rfl hvX9_leanBehind ⟨Nat.le_of_ble_eq_true rfl, Nat.le_of_ble_eq_true rfl⟩) 0 (wM_o ad ct σ τ) rfl rfl rfl hl.1 rfl (Nat.le_of_ble_eq_true rfl) dX9_pulls_30 ⟨Nat.zero_le _, Nat.zero_le _⟩ (fun r9 u9 H ll hw h => ?_)
  have hw : r9 = lnB n (leM σ) (cuM c) m q := hw
  subst hw
  have h : gW D ct zA zs _ _ (wM ad ct σ τ) := h
  refine lv_iadd hx hb dX9_pulls_33 ?_
  refine lv_istore (lv' := [(5, .int ((lnA (leM σ) (cuM c) m q) + (lnB n (leM σ) (cuM c) m q))), (4, .int ((σ 3 m) * (σ 4 ((3 * m) + q)))), (3, .int (σ 3 m)), (0, .ref (ad 0)), (1, .int (nI m)), (2, .int (nI q))]) hx hb dX9_pulls_34 hl (by decide) rfl (fun ls hl => ?_)
  refine lv_aload_n hx hb dX9_pulls_36 rfl (lv_at hl 3 rfl) ?_
  refine mg_kindOf C h dX9_pulls_37 ?_
  refine lv_iload_n hx hb dX9_pulls_40 rfl (lv_at hl 4 rfl) ?_
  refine ml_kindOf C h (j := m) (by omega) dX9_pulls_41 ?_
  refine gas (hkd m (by omega)).1 ?_
  rcases (show kd m = 0 ∨ kd m = 1 ∨ kd m = 2 ∨ kd m = 3 ∨ kd m = 4 by have := (hkd m (by omega)).2; omega) with hk_42 | hk_42 | hk_42 | hk_42 | hk_42
  · refine gas (show nI (kd m) = nI 0 by rw [hk_42]) ?_
    refine lv_tableOut (tgt := 130) hx hb dX9_pulls_42 (by decide) (by decide) ?_
    refine lv_iload hx hb dX9_pulls_130 (lv_at hl 1 rfl) ?_
    exact hret _ () _ _ _ _ h (by simp [plM, pl, pullK, leM, hk_42]) dX9_pulls_132
  · refine gas (show nI (kd m) = nI 1 by rw [hk_42]) ?_
    refine lv_tableIn (tgt := 72) (off := 30) hx hb dX9_pulls_42 (by decide) (by decide) (by decide) (by decide) ?_
    refine lv_iconst (v := 2) hx hb dX9_pulls_72 (by decide) ?_
    refine lv_iload hx hb dX9_pulls_73 (lv_at hl 1 rfl) ?_
    refine lv_imul hx hb dX9_pulls_75 ?_
    exact hret _ () _ _ _ _ h (by simp [plM, pl, pullK, leM, hk_42]) dX9_pulls_76
  · refine gas (show nI (kd m) = nI 2 by rw [hk_42]) ?_
    refine lv_tableIn (tgt := 77) (off := 35) hx hb dX9_pulls_42 (by decide) (by decide) (by decide) (by decide) ?_
    refine lv_iload hx hb dX9_pulls_77 (lv_at hl 1 rfl) ?_
    refine lv_ineg hx hb dX9_pulls_79 ?_
    exact hret _ () _ _ _ _ h (by simp [plM, pl, pullK, leM, hk_42]) dX9_pulls_80
  · refine gas (show nI (kd m) = nI 3 by rw [hk_42]) ?_
    refine lv_tableIn (tgt := 81) (off := 39) hx hb dX9_pulls_42 (by decide) (by decide) (by decide) (by decide) ?_
    refine lv_iload hx hb dX9_pulls_81 (lv_at hl 0 rfl) ?_
    refine lv_iconst (v := 2) hx hb dX9_pulls_83 (by decide) ?_
    refine lv_icmp_ne (tgt := 91) hx hb dX9_pulls_84 (by decide) (fun c_84 => ?_) (fun c_84 => ?_)
    · refine lv_iload hx hb dX9_pulls_91 (lv_at hl 0 rfl) ?_
      refine lv_bipush (v := -2) hx hb dX9_pulls_93 (by decide) ?_
      refine lv_icmp_ne (tgt := 103) hx hb dX9_pulls_95 (by decide) (fun c_95 => ?_) (fun c_95 => ?_)
      · refine lv_iconst (v := 0) hx hb dX9_pulls_103 (by decide) ?_
        exact hret _ () _ _ _ _ h (by simp [plM, pl, pullK, leM, hk_42, c_84, c_95]) dX9_pulls_104
      · refine lv_iload_n hx hb dX9_pulls_98 rfl (lv_at hl 2 rfl) ?_
        refine lv_ineg hx hb dX9_pulls_99 ?_
        refine lv_goto (tgt := 104) hx hb dX9_pulls_100 (by decide) ?_
        exact hret _ () _ _ _ _ h (by simp [plM, pl, pullK, leM, hk_42, c_84, c_95]) dX9_pulls_104
    · refine lv_iload_n hx hb dX9_pulls_87 rfl (lv_at hl 2 rfl) ?_
      refine lv_goto (tgt := 104) hx hb dX9_pulls_88 (by decide) ?_
      exact hret _ () _ _ _ _ h (by simp [plM, pl, pullK, leM, hk_42, c_84]) dX9_pulls_104
  · refine gas (show nI (kd m) = nI 4 by rw [hk_42]) ?_
    refine lv_tableIn (tgt := 105) (off := 63) hx hb dX9_pulls_42 (by decide) (by decide) (by decide) (by decide) ?_
    refine lv_iload hx hb dX9_pulls_105 (lv_at hl 0 rfl) ?_
    refine lv_iconst (v := 2) hx hb dX9_pulls_107 (by decide) ?_
    refine lv_icmp_ne (tgt := 115) hx hb dX9_pulls_108 (by decide) (fun c_108 => ?_) (fun c_108 => ?_)
    · refine lv_iload hx hb dX9_pulls_115 (lv_at hl 0 rfl) ?_
      refine lv_bipush (v := -2) hx hb dX9_pulls_117 (by decide) ?_
      refine lv_icmp_ne (tgt := 127) hx hb dX9_pulls_119 (by decide) (fun c_119 => ?_) (fun c_119 => ?_)
      · refine lv_iload hx hb dX9_pulls_127 (lv_at hl 1 rfl) ?_
        exact hret _ () _ _ _ _ h (by simp [plM, pl, pullK, leM, hk_42, c_108, c_119]) dX9_pulls_129
      · refine lv_iload_n hx hb dX9_pulls_122 rfl (lv_at hl 2 rfl) ?_
        refine lv_ineg hx hb dX9_pulls_123 ?_
        refine lv_goto (tgt := 129) hx hb dX9_pulls_124 (by decide) ?_
        exact hret _ () _ _ _ _ h (by simp [plM, pl, pullK, leM, hk_42, c_108, c_119]) dX9_pulls_129
    · refine lv_iload_n hx hb dX9_pulls_111 rfl (lv_at hl 2 rfl) ?_
      refine lv_goto (tgt := 129) hx hb dX9_pulls_112 (by decide) ?_
      exact hret _ () _ _ _ _ h (by simp [plM, pl, pullK, leM, hk_42, c_108]) dX9_pulls_129
set_option maxHeartbeats 4000000 in
set_option maxRecDepth 100000 in
theorem kX9_sumOf (l : Launch) (D : va_G) (ct : Nat → ClassId) (ad : Nat → Nat) (σ : Nat → Nat → Int32) (τ : Nat → Nat → Int64) (n c : Nat) (kd : Nat → Nat) (hok : MOK σ n c kd) (q : Nat) (hq : q < 3) : MI l yX9_sumOf (gWs yX9_sumOf cX9_sumOf 4 (some .int)) rmX9_sumOf D ct gNo [.ref (ad 0), .int (nI q)] (wM ad ct σ τ) (fun _ : Unit => (wM ad ct σ τ)) (fun r _ => r = smM σ n c kd q) := by
  refine MI.ofI RX9 rfl (by decide) (Nat.le_of_ble_eq_true rfl) ?_
  intro zp ze zs zm za zb zt zc zA ls zQ C h hX hl hret
  have hx := C.1
  have hb := C.2.1
  have hl : lv_has ls 4 [(0, .ref (ad 0)), (1, .int (nI q))] := hl
  have hok0 := hok
  obtain ⟨hn, hn8, hc, hc8, hkd⟩ := hok0
  refine lv_iconst (v := 0) hx hb dX9_sumOf_0 (by decide) ?_
  refine lv_istore_n (lv' := [(2, .int 0), (0, .ref (ad 0)), (1, .int (nI q))]) hx hb dX9_sumOf_1 rfl hl (by decide) rfl (fun ls hl => ?_)
  refine lv_iconst (v := 0) hx hb dX9_sumOf_2 (by decide) ?_
  refine lv_istore_n (lv' := [(3, .int 0), (2, .int 0), (0, .ref (ad 0)), (1, .int (nI q))]) hx hb dX9_sumOf_3 rfl hl (by decide) rfl (fun ls hl => ?_)
  have L4_0 : ∀ (kk : Nat) (i : Nat) (H : Heap) (ll : List Loc) (ls : Array Slot), n - i = kk → (i ≤ n) → gW D ct zA zs H ll (wM ad ct σ τ) → lv_has ls 4 [(3, .int (nI i)), (2, .int (bx_sum (fun m => if c % 2 ^ (m + 1) = 0 then plM σ n c kd q m else 0) i)), (0, .ref (ad 0)), (1, .int (nI q))] → W zp l ze rmX9_sumOf zs zm za zb zt zc H ll 0 0 zQ (F0 zm 4 ls []) := by
    intro kk4
    induction kk4 using Nat.strongRecOn with
    | _ kk4 ih4 =>
    intro i H ll ls hk4 hi h hl
    refine lv_iload_n hx hb dX9_sumOf_4 rfl (lv_at hl 0 rfl) ?_
    refine lv_aload_n hx hb dX9_sumOf_5 rfl (lv_at hl 2 rfl) ?_
    refine mg_mussels C h dX9_sumOf_6 ?_
    refine gas hn ?_
    refine nb_ge hx hb i n (by omega) (by omega) (tgt := 39) dX9_sumOf_9 (by decide) (fun c_9 => ?_) (fun c_9 => ?_)
    · refine lv_iload_n hx hb dX9_sumOf_39 rfl (lv_at hl 1 rfl) ?_
      exact hret _ () _ _ _ _ h (by rw [show i = n by omega]; rfl) dX9_sumOf_40
    · refine lv_iload_n hx hb dX9_sumOf_12 rfl (lv_at hl 1 rfl) ?_
      refine lv_aload_n hx hb dX9_sumOf_13 rfl (lv_at hl 2 rfl) ?_
      refine lv_iload_n hx hb dX9_sumOf_14 rfl (lv_at hl 0 rfl) ?_
      refine gcallVi C h trivial gNo_ok (kX9_isFelt l D ct ad σ τ n c kd hok i (by omega)) (cwV 1 C.2.2.2.2 (gInV q877 q879 q27 q66 q880) rfl rfl rfl hvX9_isFelt ⟨Nat.le_of_ble_eq_true rfl, Nat.le_of_ble_eq_true rfl⟩) 0 (wM_o ad ct σ τ) rfl rfl rfl hl.1 rfl (Nat.le_of_ble_eq_true rfl) dX9_sumOf_15 ⟨Nat.zero_le _, Nat.zero_le _⟩ (fun r9 u9 H ll hw h => ?_)
      have hw : r9 = (if c % 2 ^ (i + 1) = 0 then 1 else 0) := hw
      subst hw
      have h : gW D ct zA zs _ _ (wM ad ct σ τ) := h
      refine bz_eq hx hb (c % 2 ^ (i + 1) = 0) (tgt := 30) dX9_sumOf_18 (by decide) (fun c_18 => ?_) (fun c_18 => ?_)
      · refine lv_iconst (v := 0) hx hb dX9_sumOf_30 (by decide) ?_
        refine lv_iadd hx hb dX9_sumOf_31 ?_
        refine lv_istore_n (lv' := [(2, .int ((bx_sum (fun m => if c % 2 ^ (m + 1) = 0 then plM σ n c kd q m else 0) i) + 0)), (3, .int (nI i)), (0, .ref (ad 0)), (1, .int (nI q))]) hx hb dX9_sumOf_32 rfl hl (by decide) rfl (fun ls hl => ?_)
        refine ninc (lv' := [(3, .int (nI (i + 1))), (2, .int ((bx_sum (fun m => if c % 2 ^ (m + 1) = 0 then plM σ n c kd q m else 0) i) + 0)), (0, .ref (ad 0)), (1, .int (nI q))]) hx hb i 1 dX9_sumOf_33 hl (k := 1) rfl (by decide) rfl (fun ls hl => ?_)
        refine lv_goto (tgt := 4) hx hb dX9_sumOf_36 (by decide) ?_
        have e9 : bx_sum (fun m => if c % 2 ^ (m + 1) = 0 then plM σ n c kd q m else 0) (i + 1) = (bx_sum (fun m => if c % 2 ^ (m + 1) = 0 then plM σ n c kd q m else 0) i) + 0 := by simp [bx_sum, c_18]
        rw [← e9] at hl
        exact ih4 _ (by omega) (i + 1) _ _ _ rfl (by omega) h (lv_sub hl [0, 1, 2, 3] rfl)
      · refine lv_aload_n hx hb dX9_sumOf_21 rfl (lv_at hl 2 rfl) ?_
        refine lv_iload_n hx hb dX9_sumOf_22 rfl (lv_at hl 0 rfl) ?_
        refine lv_iload_n hx hb dX9_sumOf_23 rfl (lv_at hl 3 rfl) ?_
        refine gcallVi C h trivial gNo_ok (kX9_pulls l D ct ad σ τ n c kd hok i q (by omega) (by omega)) (cwV 2 C.2.2.2.2 (gInV q881 q883 q28 q66 q884) rfl rfl rfl hvX9_pulls ⟨Nat.le_of_ble_eq_true rfl, Nat.le_of_ble_eq_true rfl⟩) 0 (wM_o ad ct σ τ) rfl rfl rfl hl.1 rfl (Nat.le_of_ble_eq_true rfl) dX9_sumOf_24 ⟨Nat.zero_le _, Nat.zero_le _⟩ (fun r9 u9 H ll hw h => ?_)
        have hw : r9 = plM σ n c kd q i := hw
        subst hw
        have h : gW D ct zA zs _ _ (wM ad ct σ τ) := h
        refine lv_goto (tgt := 31) hx hb dX9_sumOf_27 (by decide) ?_
        refine lv_iadd hx hb dX9_sumOf_31 ?_
        refine lv_istore_n (lv' := [(2, .int ((bx_sum (fun m => if c % 2 ^ (m + 1) = 0 then plM σ n c kd q m else 0) i) + (plM σ n c kd q i))), (3, .int (nI i)), (0, .ref (ad 0)), (1, .int (nI q))]) hx hb dX9_sumOf_32 rfl hl (by decide) rfl (fun ls hl => ?_)
        refine ninc (lv' := [(3, .int (nI (i + 1))), (2, .int ((bx_sum (fun m => if c % 2 ^ (m + 1) = 0 then plM σ n c kd q m else 0) i) + (plM σ n c kd q i))), (0, .ref (ad 0)), (1, .int (nI q))]) hx hb i 1 dX9_sumOf_33 hl (k := 1) rfl (by decide) rfl (fun ls hl => ?_)
        refine lv_goto (tgt := 4) hx hb dX9_sumOf_36 (by decide) ?_
        have e9 : bx_sum (fun m => if c % 2 ^ (m + 1) = 0 then plM σ n c kd q m else 0) (i + 1) = (bx_sum (fun m => if c % 2 ^ (m + 1) = 0 then plM σ n c kd q m else 0) i) + (plM σ n c kd q i) := by simp [bx_sum, c_18]
        rw [← e9] at hl
        exact ih4 _ (by omega) (i + 1) _ _ _ rfl (by omega) h (lv_sub hl [0, 1, 2, 3] rfl)
  exact L4_0 _ 0 _ _ _ rfl (by omega) h (lv_sub hl [0, 1, 2, 3] rfl)
set_option maxHeartbeats 4000000 in
set_option maxRecDepth 100000 in
theorem kX9_outOf (l : Launch) (D : va_G) (ct : Nat → ClassId) (ad : Nat → Nat) (σ : Nat → Nat → Int32) (τ : Nat → Nat → Int64) (n c : Nat) (kd : Nat → Nat) (hok : MOK σ n c kd) (q : Nat) (hq : q < 3) : MI l yX9_outOf (gWs yX9_outOf cX9_outOf 3 (some .int)) rmX9_outOf D ct gNo [.ref (ad 0), .int (nI q)] (wM ad ct σ τ) (fun _ : Unit => (wM ad ct σ τ)) (fun r _ => r = sgn (smM σ n c kd q)) := by
  refine MI.ofI RX9 rfl (by decide) (Nat.le_of_ble_eq_true rfl) ?_
  intro zp ze zs zm za zb zt zc zA ls zQ C h hX hl hret
  have hx := C.1
  have hb := C.2.1
  have hl : lv_has ls 3 [(0, .ref (ad 0)), (1, .int (nI q))] := hl
  have hok0 := hok
  obtain ⟨hn, hn8, hc, hc8, hkd⟩ := hok0
  refine lv_aload_n hx hb dX9_outOf_0 rfl (lv_at hl 0 rfl) ?_
  refine lv_iload_n hx hb dX9_outOf_1 rfl (lv_at hl 1 rfl) ?_
  refine gcallVi C h trivial gNo_ok (kX9_sumOf l D ct ad σ τ n c kd hok q (by omega)) (cwV 1 C.2.2.2.2 (gInV q873 q875 q26 q66 q876) rfl rfl rfl hvX9_sumOf ⟨Nat.le_of_ble_eq_true rfl, Nat.le_of_ble_eq_true rfl⟩) 0 (wM_o ad ct σ τ) rfl rfl rfl hl.1 rfl (Nat.le_of_ble_eq_true rfl) dX9_outOf_2 ⟨Nat.zero_le _, Nat.zero_le _⟩ (fun r9 u9 H ll hw h => ?_)
  have hw : r9 = smM σ n c kd q := hw
  subst hw
  have h : gW D ct zA zs _ _ (wM ad ct σ τ) := h
  refine lv_istore_n (lv' := [(2, .int (smM σ n c kd q)), (0, .ref (ad 0)), (1, .int (nI q))]) hx hb dX9_outOf_5 rfl hl (by decide) rfl (fun ls hl => ?_)
  refine lv_iload_n hx hb dX9_outOf_6 rfl (lv_at hl 0 rfl) ?_
  refine lv_if_le (tgt := 14) hx hb dX9_outOf_7 (by decide) (fun c_7 => ?_) (fun c_7 => ?_)
  · refine lv_iload_n hx hb dX9_outOf_14 rfl (lv_at hl 0 rfl) ?_
    refine lv_if_ge (tgt := 22) hx hb dX9_outOf_15 (by decide) (fun c_15 => ?_) (fun c_15 => ?_)
    · refine lv_iconst (v := 0) hx hb dX9_outOf_22 (by decide) ?_
      exact hret _ () _ _ _ _ h (sgZ c_7 c_15) dX9_outOf_23
    · refine lv_iconst (v := -1) hx hb dX9_outOf_18 (by decide) ?_
      refine lv_goto (tgt := 23) hx hb dX9_outOf_19 (by decide) ?_
      exact hret _ () _ _ _ _ h (sgN c_7 c_15) dX9_outOf_23
  · refine lv_iconst (v := 1) hx hb dX9_outOf_10 (by decide) ?_
    refine lv_goto (tgt := 23) hx hb dX9_outOf_11 (by decide) ?_
    exact hret _ () _ _ _ _ h (sgP c_7) dX9_outOf_23
set_option maxHeartbeats 4000000 in
set_option maxRecDepth 100000 in
theorem kX9_leaning (l : Launch) (D : va_G) (ct : Nat → ClassId) (ad : Nat → Nat) (σ : Nat → Nat → Int32) (τ : Nat → Nat → Int64) (n c : Nat) (kd : Nat → Nat) (hok : MOK σ n c kd) (q : Nat) (x : Int32) (hq : q < 3) : MI l yX9_leaning (gWs yX9_leaning cX9_leaning 5 (some .int)) rmX9_leaning D ct gNo [.ref (ad 0), .int (nI q), .int x] (wM ad ct σ τ) (fun _ : Unit => (wM ad ct σ τ)) (fun r _ => r = nI (cntTo (fun m => leM σ m q = x) n)) := by
  refine MI.ofI RX9 rfl (by decide) (Nat.le_of_ble_eq_true rfl) ?_
  intro zp ze zs zm za zb zt zc zA ls zQ C h hX hl hret
  have hx := C.1
  have hb := C.2.1
  have hl : lv_has ls 5 [(0, .ref (ad 0)), (1, .int (nI q)), (2, .int x)] := hl
  have hok0 := hok
  obtain ⟨hn, hn8, hc, hc8, hkd⟩ := hok0
  refine lv_iconst (v := 0) hx hb dX9_leaning_0 (by decide) ?_
  refine lv_istore_n (lv' := [(3, .int 0), (0, .ref (ad 0)), (1, .int (nI q)), (2, .int x)]) hx hb dX9_leaning_1 rfl hl (by decide) rfl (fun ls hl => ?_)
  refine lv_iconst (v := 0) hx hb dX9_leaning_2 (by decide) ?_
  refine lv_istore (lv' := [(4, .int 0), (3, .int 0), (0, .ref (ad 0)), (1, .int (nI q)), (2, .int x)]) hx hb dX9_leaning_3 hl (by decide) rfl (fun ls hl => ?_)
  have L5_0 : ∀ (kk : Nat) (i : Nat) (H : Heap) (ll : List Loc) (ls : Array Slot), n - i = kk → (i ≤ n) → gW D ct zA zs H ll (wM ad ct σ τ) → lv_has ls 5 [(4, .int (nI i)), (3, .int (nI (cntTo (fun m => leM σ m q = x) i))), (0, .ref (ad 0)), (1, .int (nI q)), (2, .int x)] → W zp l ze rmX9_leaning zs zm za zb zt zc H ll 0 0 zQ (F0 zm 5 ls []) := by
    intro kk5
    induction kk5 using Nat.strongRecOn with
    | _ kk5 ih5 =>
    intro i H ll ls hk5 hi h hl
    refine lv_iload hx hb dX9_leaning_5 (lv_at hl 0 rfl) ?_
    refine lv_aload_n hx hb dX9_leaning_7 rfl (lv_at hl 2 rfl) ?_
    refine mg_mussels C h dX9_leaning_8 ?_
    refine gas hn ?_
    refine nb_ge hx hb i n (by omega) (by omega) (tgt := 43) dX9_leaning_11 (by decide) (fun c_11 => ?_) (fun c_11 => ?_)
    · refine lv_iload_n hx hb dX9_leaning_43 rfl (lv_at hl 1 rfl) ?_
      exact hret _ () _ _ _ _ h (by rw [show i = n by omega]) dX9_leaning_44
    · refine lv_iload_n hx hb dX9_leaning_14 rfl (lv_at hl 1 rfl) ?_
      refine lv_aload_n hx hb dX9_leaning_15 rfl (lv_at hl 2 rfl) ?_
      refine mg_leanOf C h dX9_leaning_16 ?_
      refine lv_iconst (v := 3) hx hb dX9_leaning_19 (by decide) ?_
      refine lv_iload hx hb dX9_leaning_20 (lv_at hl 0 rfl) ?_
      refine nmul hx hb 3 i dX9_leaning_22 ?_
      refine lv_iload_n hx hb dX9_leaning_23 rfl (lv_at hl 3 rfl) ?_
      refine nadd hx hb (3 * i) q dX9_leaning_24 ?_
      refine ml_leanOf C h (j := (3 * i) + q) (by omega) dX9_leaning_25 ?_
      refine lv_iload_n hx hb dX9_leaning_26 rfl (lv_at hl 4 rfl) ?_
      refine lv_icmp_ne (tgt := 34) hx hb dX9_leaning_27 (by decide) (fun c_27 => ?_) (fun c_27 => ?_)
      · refine lv_iconst (v := 0) hx hb dX9_leaning_34 (by decide) ?_
        refine nadd hx hb (cntTo (fun m => leM σ m q = x) i) 0 dX9_leaning_35 ?_
        refine lv_istore_n (lv' := [(3, .int (nI ((cntTo (fun m => leM σ m q = x) i) + 0))), (4, .int (nI i)), (0, .ref (ad 0)), (1, .int (nI q)), (2, .int x)]) hx hb dX9_leaning_36 rfl hl (by decide) rfl (fun ls hl => ?_)
        refine ninc (lv' := [(4, .int (nI (i + 1))), (3, .int (nI ((cntTo (fun m => leM σ m q = x) i) + 0))), (0, .ref (ad 0)), (1, .int (nI q)), (2, .int x)]) hx hb i 1 dX9_leaning_37 hl (k := 1) rfl (by decide) rfl (fun ls hl => ?_)
        refine lv_goto (tgt := 5) hx hb dX9_leaning_40 (by decide) ?_
        have e9 : cntTo (fun m => leM σ m q = x) (i + 1) = (cntTo (fun m => leM σ m q = x) i) + 0 := by simp [cntTo, leM, c_27]
        rw [← e9] at hl
        exact ih5 _ (by omega) (i + 1) _ _ _ rfl (by omega) h (lv_sub hl [0, 1, 2, 3, 4] rfl)
      · refine lv_iconst (v := 1) hx hb dX9_leaning_30 (by decide) ?_
        refine lv_goto (tgt := 35) hx hb dX9_leaning_31 (by decide) ?_
        refine nadd hx hb (cntTo (fun m => leM σ m q = x) i) 1 dX9_leaning_35 ?_
        refine lv_istore_n (lv' := [(3, .int (nI ((cntTo (fun m => leM σ m q = x) i) + 1))), (4, .int (nI i)), (0, .ref (ad 0)), (1, .int (nI q)), (2, .int x)]) hx hb dX9_leaning_36 rfl hl (by decide) rfl (fun ls hl => ?_)
        refine ninc (lv' := [(4, .int (nI (i + 1))), (3, .int (nI ((cntTo (fun m => leM σ m q = x) i) + 1))), (0, .ref (ad 0)), (1, .int (nI q)), (2, .int x)]) hx hb i 1 dX9_leaning_37 hl (k := 1) rfl (by decide) rfl (fun ls hl => ?_)
        refine lv_goto (tgt := 5) hx hb dX9_leaning_40 (by decide) ?_
        have e9 : cntTo (fun m => leM σ m q = x) (i + 1) = (cntTo (fun m => leM σ m q = x) i) + 1 := by simp [cntTo, leM, c_27]
        rw [← e9] at hl
        exact ih5 _ (by omega) (i + 1) _ _ _ rfl (by omega) h (lv_sub hl [0, 1, 2, 3, 4] rfl)
  exact L5_0 _ 0 _ _ _ rfl (by omega) h (lv_sub hl [0, 1, 2, 3, 4] rfl)
