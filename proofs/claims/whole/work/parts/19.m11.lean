def asF (k0 k mu : Int32) : Int32 := if k = 0 ∨ k0 = k ∨ (k = 3 ∧ k0 = 4) then mu else -1
def askR (x : Int32) : Int32 := if x = -1 then 2 else x
theorem told_nat {x : Int32} (h : (0 ≤ x ∧ x ≤ 7) ∨ (10 ≤ x ∧ x ≤ 12) ∨ (20 ≤ x ∧ x ≤ 22)) : ∃ k, k ≤ 22 ∧ x = nI k := by
  have h0 : 0 ≤ x ∧ x ≤ 22 := by
    rcases h with h | h | h
    · exact ⟨h.1, Int32.le_trans h.2 (by decide)⟩
    · exact ⟨Int32.le_trans (by decide) h.1, Int32.le_trans h.2 (by decide)⟩
    · exact ⟨Int32.le_trans (by decide) h.1, h.2⟩
  exact sw_nat (n := 22) (by decide) rfl h0
theorem nat60 {x : Int32} (h : 1 ≤ x ∧ x ≤ 60) : ∃ k, (1 ≤ k ∧ k ≤ 60) ∧ x = nI k := by
  obtain ⟨k, hk, rfl⟩ := sw_nat (n := 60) (by decide) rfl (x := x) ⟨Int32.le_trans (by decide) h.1, h.2⟩
  refine ⟨k, ⟨?_, hk⟩, rfl⟩
  exact (nI_leI (by decide : 1 < 2 ^ 31) (show k < 2 ^ 31 by omega)).mp h.1
theorem hok_c {σ : Nat → Nat → Int32} {n c d : Nat} {kd : Nat → Nat} (h : MOK σ n c kd) (hd : d < 256) : MOK (va_up σ 5 (fun _ => nI d)) n d kd := ⟨h.1, h.2.1, rfl, hd, h.2.2.2.2⟩
def lnC (x : Int32) : Int32 := if x = 43 then 1 else if x = 45 then -1 else 0
theorem turnB_congr {σ ρ : Nat → Nat → Int32} (h3 : ρ 3 = σ 3) (h4 : ρ 4 = σ 4) (n c : Nat) (kd : Nat → Nat) (q : Nat) (out : Int32) : ∀ i, turnB ρ n c kd q out i = turnB σ n c kd q out i
  | 0 => rfl
  | i + 1 => by
    have e : tcode ρ n q i = tcode σ n q i := by unfold tcode; rw [h4]
    simp only [turnB]; rw [turnB_congr h3 h4 n c kd q out i, e, h4, smM_congr (σ := va_up σ 4 (tcode σ n q i)) (ρ := va_up ρ 4 (tcode σ n q i)) h3 rfl]
set_option maxHeartbeats 1000000 in
set_option maxRecDepth 100000 in
theorem kX9_letter (l : Launch) (D : va_G) (ct : Nat → ClassId) (ad : Nat → Nat) (σ : Nat → Nat → Int32) (τ : Nat → Nat → Int64) (pg : Nat) (hpg : σ 14 0 = nI pg) (hpg50 : pg ≤ 50) (x : Int32) : MI l yX9_letter (gWs yX9_letter cX9_letter 2 (some .int)) rmX9_letter D ct gNo [.ref (ad 0), .int x] (wM ad ct σ τ) (fun u : (Nat → Nat → Int32) × (Nat → Nat → Int64) => wM ad ct u.1 u.2) (fun r u => if ¬ (32 ≤ x ∧ x ≤ 126) then (r = -102 ∧ u = (σ, τ)) else if pg = 50 then (r = -104 ∧ u = (σ, τ)) else (r = nI (pg + 1) ∧ u = (va_up (va_up σ 15 (upd (σ 15) pg (vp_nar .byte x.toInt8.toInt32))) 14 (fun _ => nI (pg + 1)), τ))) := by
  refine MI.ofI RX9 rfl (by decide) (Nat.le_of_ble_eq_true rfl) ?_
  intro zp ze zs zm za zb zt zc zA ls zQ C h hX hl hret
  have hx := C.1
  have hb := C.2.1
  have hl : lv_has ls 2 [(0, .ref (ad 0)), (1, .int x)] := hl
  refine lv_iload_n hx hb dX9_letter_0 rfl (lv_at hl 1 rfl) ?_
  refine lv_bipush (v := 32) hx hb dX9_letter_1 (by decide) ?_
  refine lv_bipush (v := 126) hx hb dX9_letter_3 (by decide) ?_
  refine gcallSi C h (kX9_within l D ct x 32 126) (va_cwS 3 C.2.2.2.2 (gInS q817 q818 q66 q819) rfl rfl rfl hdX9_within ⟨Nat.le_of_ble_eq_true rfl, Nat.le_of_ble_eq_true rfl⟩) rfl hl.1 rfl (Nat.le_of_ble_eq_true rfl) dX9_letter_5 ⟨Nat.zero_le _, Nat.zero_le _⟩ (fun H ll h => ?_)
  refine bz_ne hx hb (32 ≤ x ∧ x ≤ 126) (tgt := 14) dX9_letter_8 (by decide) (fun c_8 => ?_) (fun c_8 => ?_)
  · refine lv_aload_n hx hb dX9_letter_14 rfl (lv_at hl 0 rfl) ?_
    refine mg_pageLength C h dX9_letter_15 ?_
    refine gas hpg ?_
    refine lv_bipush (v := 50) hx hb dX9_letter_18 (by decide) ?_
    refine nb_ne hx hb pg 50 (by omega) (by omega) (tgt := 26) dX9_letter_20 (by decide) (fun c_20 => ?_) (fun c_20 => ?_)
    · refine lv_aload_n hx hb dX9_letter_26 rfl (lv_at hl 0 rfl) ?_
      refine mg_page C h dX9_letter_27 ?_
      refine lv_aload_n hx hb dX9_letter_30 rfl (lv_at hl 0 rfl) ?_
      refine mg_pageLength C h dX9_letter_31 ?_
      refine gas hpg ?_
      refine lv_iload_n hx hb dX9_letter_34 rfl (lv_at hl 1 rfl) ?_
      refine lv_i2b (v := (x).toInt8.toInt32) hx hb dX9_letter_35 rfl ?_
      refine ms_page C h (j := pg) (by omega) dX9_letter_36 (fun H ll h => ?_)
      refine lv_aload_n hx hb dX9_letter_37 rfl (lv_at hl 0 rfl) ?_
      refine lv_dup hx hb dX9_letter_38 rfl ?_
      refine mg_pageLength C h dX9_letter_39 ?_
      refine gas hpg ?_
      refine lv_iconst (v := 1) hx hb dX9_letter_42 (by decide) ?_
      refine nadd hx hb pg 1 dX9_letter_43 ?_
      refine mp_pageLength C h dX9_letter_44 (fun H ll h => ?_)
      refine lv_aload_n hx hb dX9_letter_47 rfl (lv_at hl 0 rfl) ?_
      refine mg_pageLength C h dX9_letter_48 ?_
      have h : gW D ct zA zs _ _ (wM ad ct (va_up (va_up σ 15 (upd (σ 15) pg (vp_nar .byte x.toInt8.toInt32))) 14 (fun _ => nI (pg + 1))) τ) := h
      exact hret _ (va_up (va_up σ 15 (upd (σ 15) pg (vp_nar .byte x.toInt8.toInt32))) 14 (fun _ => nI (pg + 1)), τ) _ _ _ _ h (by rw [if_neg (fun h9 => h9 c_8), if_neg c_20]; exact ⟨rfl, rfl⟩) dX9_letter_51
    · refine lv_bipush (v := -104) hx hb dX9_letter_23 (by decide) ?_
      have h : gW D ct zA zs _ _ (wM ad ct σ τ) := h
      exact hret _ (σ, τ) _ _ _ _ h (by rw [if_neg (fun h9 => h9 c_8), if_pos c_20]; exact ⟨rfl, rfl⟩) dX9_letter_25
  · refine lv_bipush (v := -102) hx hb dX9_letter_11 (by decide) ?_
    have h : gW D ct zA zs _ _ (wM ad ct σ τ) := h
    exact hret _ (σ, τ) _ _ _ _ h (by rw [if_pos c_8]; exact ⟨rfl, rfl⟩) dX9_letter_13
set_option maxHeartbeats 1000000 in
set_option maxRecDepth 100000 in
theorem kX9_blank (l : Launch) (D : va_G) (ct : Nat → ClassId) (ad : Nat → Nat) (σ : Nat → Nat → Int32) (τ : Nat → Nat → Int64) (pg : Nat) (hpg : σ 14 0 = nI pg) (hpg50 : pg ≤ 50) : MI l yX9_blank (gWs yX9_blank cX9_blank 2 (some .int)) rmX9_blank D ct gNo [.ref (ad 0)] (wM ad ct σ τ) (fun u : (Nat → Nat → Int32) × (Nat → Nat → Int64) => wM ad ct u.1 u.2) (fun r u => (r = nI pg ∧ u = (va_up σ 14 (fun _ => 0), τ))) := by
  refine MI.ofI RX9 rfl (by decide) (Nat.le_of_ble_eq_true rfl) ?_
  intro zp ze zs zm za zb zt zc zA ls zQ C h hX hl hret
  have hx := C.1
  have hb := C.2.1
  have hl : lv_has ls 2 [(0, .ref (ad 0))] := hl
  refine lv_aload_n hx hb dX9_blank_0 rfl (lv_at hl 0 rfl) ?_
  refine mg_pageLength C h dX9_blank_1 ?_
  refine gas hpg ?_
  refine lv_istore_n (lv' := [(1, .int (nI pg)), (0, .ref (ad 0))]) hx hb dX9_blank_4 rfl hl (by decide) rfl (fun ls hl => ?_)
  refine lv_aload_n hx hb dX9_blank_5 rfl (lv_at hl 1 rfl) ?_
  refine lv_iconst (v := 0) hx hb dX9_blank_6 (by decide) ?_
  refine mp_pageLength C h dX9_blank_7 (fun H ll h => ?_)
  refine lv_iload_n hx hb dX9_blank_10 rfl (lv_at hl 0 rfl) ?_
  have h : gW D ct zA zs _ _ (wM ad ct (va_up σ 14 (fun _ => 0)) τ) := h
  exact hret _ (va_up σ 14 (fun _ => 0), τ) _ _ _ _ h ⟨rfl, rfl⟩ dX9_blank_11
set_option maxHeartbeats 1000000 in
set_option maxRecDepth 100000 in
theorem kX9_mussel (l : Launch) (D : va_G) (ct : Nat → ClassId) (ad : Nat → Nat) (σ : Nat → Nat → Int32) (τ : Nat → Nat → Int64) (n c : Nat) (kd : Nat → Nat) (hok : MOK σ n c kd) (sn : Nat) (hsn : σ 10 0 = nI sn) (hsn6 : sn ≤ 6) (mu x : Int32) : MI l yX9_mussel (gWs yX9_mussel cX9_mussel 3 (some .int)) rmX9_mussel D ct gNo [.ref (ad 0), .int mu, .int x] (wM ad ct σ τ) (fun u : (Nat → Nat → Int32) × (Nat → Nat → Int64) => wM ad ct u.1 u.2) (fun r u => if ¬ (0 ≤ mu ∧ mu ≤ nI n - 1) then (r = -101 ∧ u = (σ, τ)) else if ¬ ((0 ≤ x ∧ x ≤ 7) ∨ (10 ≤ x ∧ x ≤ 12) ∨ (20 ≤ x ∧ x ≤ 22)) then (r = -102 ∧ u = (σ, τ)) else (r = mnF σ n c kd sn mu.toNatClampNeg x.toNatClampNeg ∧ ∃ (g21 : Nat → Int32), u = (va_up (va_up σ 21 g21) 4 (σ 4), τ))) := by
  refine MI.ofI RX9 rfl (by decide) (Nat.le_of_ble_eq_true rfl) ?_
  intro zp ze zs zm za zb zt zc zA ls zQ C h hX hl hret
  have hx := C.1
  have hb := C.2.1
  have hl : lv_has ls 3 [(0, .ref (ad 0)), (1, .int mu), (2, .int x)] := hl
  have hok0 := hok
  obtain ⟨hn, hn8, hc, hc8, hkd⟩ := hok0
  refine lv_aload_n hx hb dX9_mussel_0 rfl (lv_at hl 0 rfl) ?_
  refine lv_iload_n hx hb dX9_mussel_1 rfl (lv_at hl 1 rfl) ?_
  refine gcallVi C h trivial gNo_ok (kX9_isMussel l D ct ad σ τ n hn hn8 mu) (cwV 1 C.2.2.2.2 (gInV q854 q856 q22 q66 q857) rfl rfl rfl hvX9_isMussel ⟨Nat.le_of_ble_eq_true rfl, Nat.le_of_ble_eq_true rfl⟩) 0 (wM_o ad ct σ τ) rfl rfl rfl hl.1 rfl (Nat.le_of_ble_eq_true rfl) dX9_mussel_2 ⟨Nat.zero_le _, Nat.zero_le _⟩ (fun r9 u9 H ll hw h => ?_)
  have hw : r9 = (if 0 ≤ mu ∧ mu ≤ nI n - 1 then 1 else 0) := hw
  subst hw
  have h : gW D ct zA zs _ _ (wM ad ct σ τ) := h
  refine bz_ne hx hb (0 ≤ mu ∧ mu ≤ nI n - 1) (tgt := 13) dX9_mussel_5 (by decide) (fun c_5 => ?_) (fun c_5 => ?_)
  · refine lv_iload_n hx hb dX9_mussel_13 rfl (lv_at hl 2 rfl) ?_
    refine gcallSi C h (kX9_isTold l D ct x) (va_cwS 1 C.2.2.2.2 (gInS q858 q859 q66 q860) rfl rfl rfl hdX9_isTold ⟨Nat.le_of_ble_eq_true rfl, Nat.le_of_ble_eq_true rfl⟩) rfl hl.1 rfl (Nat.le_of_ble_eq_true rfl) dX9_mussel_14 ⟨Nat.zero_le _, Nat.zero_le _⟩ (fun H ll h => ?_)
    refine bz_eq hx hb ((0 ≤ x ∧ x ≤ 7) ∨ (10 ≤ x ∧ x ≤ 12) ∨ (20 ≤ x ∧ x ≤ 22)) (tgt := 29) dX9_mussel_17 (by decide) (fun c_17 => ?_) (fun c_17 => ?_)
    · refine lv_bipush (v := -102) hx hb dX9_mussel_29 (by decide) ?_
      have h : gW D ct zA zs _ _ (wM ad ct σ τ) := h
      exact hret _ (σ, τ) _ _ _ _ h (by rw [if_neg (fun h9 => h9 c_5), if_pos c_17]; exact ⟨rfl, rfl⟩) dX9_mussel_31
    · obtain ⟨j, hj, rfl⟩ := isM_nat hn8 c_5
      obtain ⟨k, hk, rfl⟩ := told_nat c_17
      have ht9 := (told_iff (show k < 100 by omega)).mp c_17
      refine lv_aload_n hx hb dX9_mussel_20 rfl (lv_at hl 0 rfl) ?_
      refine lv_iload_n hx hb dX9_mussel_21 rfl (lv_at hl 1 rfl) ?_
      refine lv_iload_n hx hb dX9_mussel_22 rfl (lv_at hl 2 rfl) ?_
      refine gcallVi C h trivial gNo_ok (kX9_musselNow l D ct ad σ τ n c kd hok sn hsn hsn6 j k (by omega) (by omega)) (cwV 2 C.2.2.2.2 (gInV q861 q863 q23 q66 q864) rfl rfl rfl hvX9_musselNow ⟨Nat.le_of_ble_eq_true rfl, Nat.le_of_ble_eq_true rfl⟩) 0 (wM_o ad ct σ τ) rfl rfl rfl hl.1 rfl (Nat.le_of_ble_eq_true rfl) dX9_mussel_23 ⟨Nat.zero_le _, Nat.zero_le _⟩ (fun r9 u9 H ll hw h => ?_)
      obtain ⟨hw, g21_1, rfl⟩ := hw
      have hw : r9 = mnF σ n c kd sn j k := hw
      subst hw
      have h : gW D ct zA zs _ _ (wM ad ct (va_up (va_up σ 21 g21_1) 4 (σ 4)) τ) := h
      refine lv_goto (tgt := 31) hx hb dX9_mussel_26 (by decide) ?_
      have h : gW D ct zA zs _ _ (wM ad ct (va_up (va_up σ 21 g21_1) 4 (σ 4)) τ) := h
      exact hret _ (va_up (va_up σ 21 g21_1) 4 (σ 4), τ) _ _ _ _ h (by rw [if_neg (fun h9 => h9 c_5), if_neg (fun h9 => h9 c_17)]; exact ⟨(by rw [nI_clamp (by omega), nI_clamp (by omega)]), g21_1, rfl⟩) dX9_mussel_31
  · refine lv_bipush (v := -101) hx hb dX9_mussel_8 (by decide) ?_
    refine lv_goto (tgt := 31) hx hb dX9_mussel_10 (by decide) ?_
    have h : gW D ct zA zs _ _ (wM ad ct σ τ) := h
    exact hret _ (σ, τ) _ _ _ _ h (by rw [if_pos c_5]; exact ⟨rfl, rfl⟩) dX9_mussel_31
set_option maxHeartbeats 1000000 in
set_option maxRecDepth 100000 in
theorem kX9_as (l : Launch) (D : va_G) (ct : Nat → ClassId) (ad : Nat → Nat) (σ : Nat → Nat → Int32) (τ : Nat → Nat → Int64) (n c : Nat) (kd : Nat → Nat) (hok : MOK σ n c kd) (mu k : Int32) : MI l yX9_as (gWs yX9_as cX9_as 4 (some .int)) rmX9_as D ct gNo [.ref (ad 0), .int mu, .int k] (wM ad ct σ τ) (fun u : (Nat → Nat → Int32) × (Nat → Nat → Int64) => wM ad ct u.1 u.2) (fun r u => if ¬ (0 ≤ mu ∧ mu ≤ nI n - 1) then (r = -101 ∧ u = (σ, τ)) else if ¬ (0 ≤ k ∧ k ≤ 4) then (r = -102 ∧ u = (σ, τ)) else (r = asF (σ 2 mu.toNatClampNeg) k mu ∧ u = (σ, τ))) := by
  refine MI.ofI RX9 rfl (by decide) (Nat.le_of_ble_eq_true rfl) ?_
  intro zp ze zs zm za zb zt zc zA ls zQ C h hX hl hret
  have hx := C.1
  have hb := C.2.1
  have hl : lv_has ls 4 [(0, .ref (ad 0)), (1, .int mu), (2, .int k)] := hl
  have hok0 := hok
  obtain ⟨hn, hn8, hc, hc8, hkd⟩ := hok0
  refine lv_aload_n hx hb dX9_as_0 rfl (lv_at hl 0 rfl) ?_
  refine lv_iload_n hx hb dX9_as_1 rfl (lv_at hl 1 rfl) ?_
  refine gcallVi C h trivial gNo_ok (kX9_isMussel l D ct ad σ τ n hn hn8 mu) (cwV 1 C.2.2.2.2 (gInV q854 q856 q22 q66 q857) rfl rfl rfl hvX9_isMussel ⟨Nat.le_of_ble_eq_true rfl, Nat.le_of_ble_eq_true rfl⟩) 0 (wM_o ad ct σ τ) rfl rfl rfl hl.1 rfl (Nat.le_of_ble_eq_true rfl) dX9_as_2 ⟨Nat.zero_le _, Nat.zero_le _⟩ (fun r9 u9 H ll hw h => ?_)
  have hw : r9 = (if 0 ≤ mu ∧ mu ≤ nI n - 1 then 1 else 0) := hw
  subst hw
  have h : gW D ct zA zs _ _ (wM ad ct σ τ) := h
  refine bz_ne hx hb (0 ≤ mu ∧ mu ≤ nI n - 1) (tgt := 11) dX9_as_5 (by decide) (fun c_5 => ?_) (fun c_5 => ?_)
  · refine lv_iload_n hx hb dX9_as_11 rfl (lv_at hl 2 rfl) ?_
    refine lv_iconst (v := 0) hx hb dX9_as_12 (by decide) ?_
    refine lv_iconst (v := 4) hx hb dX9_as_13 (by decide) ?_
    refine gcallSi C h (kX9_within l D ct k 0 4) (va_cwS 3 C.2.2.2.2 (gInS q817 q818 q66 q819) rfl rfl rfl hdX9_within ⟨Nat.le_of_ble_eq_true rfl, Nat.le_of_ble_eq_true rfl⟩) rfl hl.1 rfl (Nat.le_of_ble_eq_true rfl) dX9_as_14 ⟨Nat.zero_le _, Nat.zero_le _⟩ (fun H ll h => ?_)
    refine bz_ne hx hb (0 ≤ k ∧ k ≤ 4) (tgt := 23) dX9_as_17 (by decide) (fun c_17 => ?_) (fun c_17 => ?_)
    · obtain ⟨j, hj, rfl⟩ := isM_nat hn8 c_5
      refine lv_aload_n hx hb dX9_as_23 rfl (lv_at hl 0 rfl) ?_
      refine mg_kindOf C h dX9_as_24 ?_
      refine lv_iload_n hx hb dX9_as_27 rfl (lv_at hl 1 rfl) ?_
      refine ml_kindOf C h (j := j) (by omega) dX9_as_28 ?_
      refine lv_istore_n (lv' := [(3, .int (σ 2 j)), (0, .ref (ad 0)), (1, .int (nI j)), (2, .int k)]) hx hb dX9_as_29 rfl hl (by decide) rfl (fun ls hl => ?_)
      refine lv_iload_n hx hb dX9_as_30 rfl (lv_at hl 3 rfl) ?_
      refine lv_if_eq (tgt := 49) hx hb dX9_as_31 (by decide) (fun c_31 => ?_) (fun c_31 => ?_)
      · refine lv_iload_n hx hb dX9_as_49 rfl (lv_at hl 2 rfl) ?_
        refine lv_goto (tgt := 54) hx hb dX9_as_50 (by decide) ?_
        have h : gW D ct zA zs _ _ (wM ad ct σ τ) := h
        exact hret _ (σ, τ) _ _ _ _ h (by rw [if_neg (fun h9 => h9 c_5), if_neg (fun h9 => h9 c_17)]; exact ⟨(by unfold asF; rw [nI_clamp (by omega)]; rw [if_pos (Or.inl c_31)]), rfl⟩) dX9_as_54
      · refine lv_iload_n hx hb dX9_as_34 rfl (lv_at hl 0 rfl) ?_
        refine lv_iload_n hx hb dX9_as_35 rfl (lv_at hl 3 rfl) ?_
        refine lv_icmp_eq (tgt := 49) hx hb dX9_as_36 (by decide) (fun c_36 => ?_) (fun c_36 => ?_)
        · refine lv_iload_n hx hb dX9_as_49 rfl (lv_at hl 2 rfl) ?_
          refine lv_goto (tgt := 54) hx hb dX9_as_50 (by decide) ?_
          have h : gW D ct zA zs _ _ (wM ad ct σ τ) := h
          exact hret _ (σ, τ) _ _ _ _ h (by rw [if_neg (fun h9 => h9 c_5), if_neg (fun h9 => h9 c_17)]; exact ⟨(by unfold asF; rw [nI_clamp (by omega)]; rw [if_pos (Or.inr (Or.inl c_36))]), rfl⟩) dX9_as_54
        · refine lv_iload_n hx hb dX9_as_39 rfl (lv_at hl 3 rfl) ?_
          refine lv_iconst (v := 3) hx hb dX9_as_40 (by decide) ?_
          refine lv_icmp_ne (tgt := 53) hx hb dX9_as_41 (by decide) (fun c_41 => ?_) (fun c_41 => ?_)
          · refine lv_iconst (v := -1) hx hb dX9_as_53 (by decide) ?_
            have h : gW D ct zA zs _ _ (wM ad ct σ τ) := h
            exact hret _ (σ, τ) _ _ _ _ h (by rw [if_neg (fun h9 => h9 c_5), if_neg (fun h9 => h9 c_17)]; exact ⟨(by unfold asF; rw [nI_clamp (by omega)]; rw [if_neg (by intro h9; rcases h9 with h9 | h9 | h9; (exact c_31 h9); (exact c_36 h9); (exact c_41 h9.1))]), rfl⟩) dX9_as_54
          · refine lv_iload_n hx hb dX9_as_44 rfl (lv_at hl 0 rfl) ?_
            refine lv_iconst (v := 4) hx hb dX9_as_45 (by decide) ?_
            refine lv_icmp_ne (tgt := 53) hx hb dX9_as_46 (by decide) (fun c_46 => ?_) (fun c_46 => ?_)
            · refine lv_iconst (v := -1) hx hb dX9_as_53 (by decide) ?_
              have h : gW D ct zA zs _ _ (wM ad ct σ τ) := h
              exact hret _ (σ, τ) _ _ _ _ h (by rw [if_neg (fun h9 => h9 c_5), if_neg (fun h9 => h9 c_17)]; exact ⟨(by unfold asF; rw [nI_clamp (by omega)]; rw [if_neg (by intro h9; rcases h9 with h9 | h9 | h9; (exact c_31 h9); (exact c_36 h9); (exact c_46 h9.2))]), rfl⟩) dX9_as_54
            · refine lv_iload_n hx hb dX9_as_49 rfl (lv_at hl 2 rfl) ?_
              refine lv_goto (tgt := 54) hx hb dX9_as_50 (by decide) ?_
              have h : gW D ct zA zs _ _ (wM ad ct σ τ) := h
              exact hret _ (σ, τ) _ _ _ _ h (by rw [if_neg (fun h9 => h9 c_5), if_neg (fun h9 => h9 c_17)]; exact ⟨(by unfold asF; rw [nI_clamp (by omega)]; rw [if_pos (Or.inr (Or.inr ⟨c_41, c_46⟩))]), rfl⟩) dX9_as_54
    · refine lv_bipush (v := -102) hx hb dX9_as_20 (by decide) ?_
      have h : gW D ct zA zs _ _ (wM ad ct σ τ) := h
      exact hret _ (σ, τ) _ _ _ _ h (by rw [if_neg (fun h9 => h9 c_5), if_pos c_17]; exact ⟨rfl, rfl⟩) dX9_as_22
  · refine lv_bipush (v := -101) hx hb dX9_as_8 (by decide) ?_
    have h : gW D ct zA zs _ _ (wM ad ct σ τ) := h
    exact hret _ (σ, τ) _ _ _ _ h (by rw [if_pos c_5]; exact ⟨rfl, rfl⟩) dX9_as_10
set_option maxHeartbeats 1000000 in
set_option maxRecDepth 100000 in
theorem kX9_question (l : Launch) (D : va_G) (ct : Nat → ClassId) (ad : Nat → Nat) (σ : Nat → Nat → Int32) (τ : Nat → Nat → Int64) (n c : Nat) (kd : Nat → Nat) (hok : MOK σ n c kd) (qu x : Int32) : MI l yX9_question (gWs yX9_question cX9_question 3 (some .int)) rmX9_question D ct gNo [.ref (ad 0), .int qu, .int x] (wM ad ct σ τ) (fun u : (Nat → Nat → Int32) × (Nat → Nat → Int64) => wM ad ct u.1 u.2) (fun r u => if ¬ (0 < n ∧ 0 ≤ qu ∧ qu ≤ 2) then (r = -101 ∧ u = (σ, τ)) else if ¬ (0 ≤ x ∧ x ≤ 5) then (r = -102 ∧ u = (σ, τ)) else (r = qnF σ n c kd qu.toNatClampNeg x.toNatClampNeg ∧ u = (σ, τ))) := by
  refine MI.ofI RX9 rfl (by decide) (Nat.le_of_ble_eq_true rfl) ?_
  intro zp ze zs zm za zb zt zc zA ls zQ C h hX hl hret
  have hx := C.1
  have hb := C.2.1
  have hl : lv_has ls 3 [(0, .ref (ad 0)), (1, .int qu), (2, .int x)] := hl
  have hok0 := hok
  obtain ⟨hn, hn8, hc, hc8, hkd⟩ := hok0
  refine lv_aload_n hx hb dX9_question_0 rfl (lv_at hl 0 rfl) ?_
  refine lv_iload_n hx hb dX9_question_1 rfl (lv_at hl 1 rfl) ?_
  refine gcallVi C h trivial gNo_ok (kX9_isQuestion l D ct ad σ τ n hn hn8 qu) (cwV 1 C.2.2.2.2 (gInV q916 q918 q33 q66 q919) rfl rfl rfl hvX9_isQuestion ⟨Nat.le_of_ble_eq_true rfl, Nat.le_of_ble_eq_true rfl⟩) 0 (wM_o ad ct σ τ) rfl rfl rfl hl.1 rfl (Nat.le_of_ble_eq_true rfl) dX9_question_2 ⟨Nat.zero_le _, Nat.zero_le _⟩ (fun r9 u9 H ll hw h => ?_)
  have hw : r9 = (if 0 < n ∧ 0 ≤ qu ∧ qu ≤ 2 then 1 else 0) := hw
  subst hw
  have h : gW D ct zA zs _ _ (wM ad ct σ τ) := h
  refine bz_ne hx hb (0 < n ∧ 0 ≤ qu ∧ qu ≤ 2) (tgt := 13) dX9_question_5 (by decide) (fun c_5 => ?_) (fun c_5 => ?_)
  · refine lv_iload_n hx hb dX9_question_13 rfl (lv_at hl 2 rfl) ?_
    refine lv_iconst (v := 0) hx hb dX9_question_14 (by decide) ?_
    refine lv_iconst (v := 5) hx hb dX9_question_15 (by decide) ?_
    refine gcallSi C h (kX9_within l D ct x 0 5) (va_cwS 3 C.2.2.2.2 (gInS q817 q818 q66 q819) rfl rfl rfl hdX9_within ⟨Nat.le_of_ble_eq_true rfl, Nat.le_of_ble_eq_true rfl⟩) rfl hl.1 rfl (Nat.le_of_ble_eq_true rfl) dX9_question_16 ⟨Nat.zero_le _, Nat.zero_le _⟩ (fun H ll h => ?_)
    refine bz_eq hx hb (0 ≤ x ∧ x ≤ 5) (tgt := 31) dX9_question_19 (by decide) (fun c_19 => ?_) (fun c_19 => ?_)
    · refine lv_bipush (v := -102) hx hb dX9_question_31 (by decide) ?_
      have h : gW D ct zA zs _ _ (wM ad ct σ τ) := h
      exact hret _ (σ, τ) _ _ _ _ h (by rw [if_neg (fun h9 => h9 c_5), if_pos c_19]; exact ⟨rfl, rfl⟩) dX9_question_33
    · obtain ⟨q, hq, rfl⟩ := sw_nat (n := 2) (by decide) rfl c_5.2
      obtain ⟨k, hk, rfl⟩ := sw_nat (n := 5) (by decide) rfl c_19
      refine lv_aload_n hx hb dX9_question_22 rfl (lv_at hl 0 rfl) ?_
      refine lv_iload_n hx hb dX9_question_23 rfl (lv_at hl 1 rfl) ?_
      refine lv_iload_n hx hb dX9_question_24 rfl (lv_at hl 2 rfl) ?_
      refine gcallVi C h trivial gNo_ok (kX9_questionNow l D ct ad σ τ n c kd hok q k (by omega) (by omega)) (cwV 2 C.2.2.2.2 (gInV q920 q922 q34 q66 q923) rfl rfl rfl hvX9_questionNow ⟨Nat.le_of_ble_eq_true rfl, Nat.le_of_ble_eq_true rfl⟩) 0 (wM_o ad ct σ τ) rfl rfl rfl hl.1 rfl (Nat.le_of_ble_eq_true rfl) dX9_question_25 ⟨Nat.zero_le _, Nat.zero_le _⟩ (fun r9 u9 H ll hw h => ?_)
      have hw : r9 = qnF σ n c kd q k := hw
      subst hw
      have h : gW D ct zA zs _ _ (wM ad ct σ τ) := h
      refine lv_goto (tgt := 33) hx hb dX9_question_28 (by decide) ?_
      have h : gW D ct zA zs _ _ (wM ad ct σ τ) := h
      exact hret _ (σ, τ) _ _ _ _ h (by rw [if_neg (fun h9 => h9 c_5), if_neg (fun h9 => h9 c_19)]; exact ⟨(by rw [nI_clamp (by omega), nI_clamp (by omega)]), rfl⟩) dX9_question_33
  · refine lv_bipush (v := -101) hx hb dX9_question_8 (by decide) ?_
    refine lv_goto (tgt := 33) hx hb dX9_question_10 (by decide) ?_
    have h : gW D ct zA zs _ _ (wM ad ct σ τ) := h
    exact hret _ (σ, τ) _ _ _ _ h (by rw [if_pos c_5]; exact ⟨rfl, rfl⟩) dX9_question_33
set_option maxHeartbeats 1000000 in
set_option maxRecDepth 100000 in
theorem kX9_ask (l : Launch) (D : va_G) (ct : Nat → ClassId) (ad : Nat → Nat) (σ : Nat → Nat → Int32) (τ : Nat → Nat → Int64) (n c : Nat) (kd : Nat → Nat) (hok : MOK σ n c kd) (qu : Int32) : MI l yX9_ask (gWs yX9_ask cX9_ask 3 (some .int)) rmX9_ask D ct gNo [.ref (ad 0), .int qu] (wM ad ct σ τ) (fun u : (Nat → Nat → Int32) × (Nat → Nat → Int64) => wM ad ct u.1 u.2) (fun r u => if ¬ (0 < n ∧ 0 ≤ qu ∧ qu ≤ 2) then (r = -101 ∧ u = (σ, τ)) else if σ 7 qu.toNatClampNeg = 99 then (r = -104 ∧ u = (σ, τ)) else (r = askR (sgn (smM σ n c kd qu.toNatClampNeg)) ∧ u = (va_up (va_up σ 7 (upd (σ 7) qu.toNatClampNeg (σ 7 qu.toNatClampNeg + 1))) 8 (upd (σ 8) qu.toNatClampNeg (σ 8 qu.toNatClampNeg + (if sgn (smM σ n c kd qu.toNatClampNeg) = 1 then 1 else 0))), τ))) := by
  refine MI.ofI RX9 rfl (by decide) (Nat.le_of_ble_eq_true rfl) ?_
  intro zp ze zs zm za zb zt zc zA ls zQ C h hX hl hret
  have hx := C.1
  have hb := C.2.1
  have hl : lv_has ls 3 [(0, .ref (ad 0)), (1, .int qu)] := hl
  have hok0 := hok
  obtain ⟨hn, hn8, hc, hc8, hkd⟩ := hok0
  refine lv_aload_n hx hb dX9_ask_0 rfl (lv_at hl 0 rfl) ?_
  refine lv_iload_n hx hb dX9_ask_1 rfl (lv_at hl 1 rfl) ?_
  refine gcallVi C h trivial gNo_ok (kX9_isQuestion l D ct ad σ τ n hn hn8 qu) (cwV 1 C.2.2.2.2 (gInV q916 q918 q33 q66 q919) rfl rfl rfl hvX9_isQuestion ⟨Nat.le_of_ble_eq_true rfl, Nat.le_of_ble_eq_true rfl⟩) 0 (wM_o ad ct σ τ) rfl rfl rfl hl.1 rfl (Nat.le_of_ble_eq_true rfl) dX9_ask_2 ⟨Nat.zero_le _, Nat.zero_le _⟩ (fun r9 u9 H ll hw h => ?_)
  have hw : r9 = (if 0 < n ∧ 0 ≤ qu ∧ qu ≤ 2 then 1 else 0) := hw
  subst hw
  have h : gW D ct zA zs _ _ (wM ad ct σ τ) := h
  refine bz_ne hx hb (0 < n ∧ 0 ≤ qu ∧ qu ≤ 2) (tgt := 11) dX9_ask_5 (by decide) (fun c_5 => ?_) (fun c_5 => ?_)
  · obtain ⟨q, hq, rfl⟩ := sw_nat (n := 2) (by decide) rfl c_5.2
    have hcl : (nI q).toNatClampNeg = q := nI_clamp (by omega)
    rw [hcl] at hret
    refine lv_aload_n hx hb dX9_ask_11 rfl (lv_at hl 0 rfl) ?_
    refine mg_askedOf C h dX9_ask_12 ?_
    refine lv_iload_n hx hb dX9_ask_15 rfl (lv_at hl 1 rfl) ?_
    refine ml_askedOf C h (j := q) (by omega) dX9_ask_16 ?_
    refine lv_bipush (v := 99) hx hb dX9_ask_17 (by decide) ?_
    refine lv_icmp_ne (tgt := 25) hx hb dX9_ask_19 (by decide) (fun c_19 => ?_) (fun c_19 => ?_)
    · refine lv_aload_n hx hb dX9_ask_25 rfl (lv_at hl 0 rfl) ?_
      refine lv_iload_n hx hb dX9_ask_26 rfl (lv_at hl 1 rfl) ?_
      refine gcallVi C h trivial gNo_ok (kX9_outOf l D ct ad σ τ n c kd hok q (by omega)) (cwV 1 C.2.2.2.2 (gInV q924 q926 q35 q66 q927) rfl rfl rfl hvX9_outOf ⟨Nat.le_of_ble_eq_true rfl, Nat.le_of_ble_eq_true rfl⟩) 0 (wM_o ad ct σ τ) rfl rfl rfl hl.1 rfl (Nat.le_of_ble_eq_true rfl) dX9_ask_27 ⟨Nat.zero_le _, Nat.zero_le _⟩ (fun r9 u9 H ll hw h => ?_)
      have hw : r9 = sgn (smM σ n c kd q) := hw
      subst hw
      have h : gW D ct zA zs _ _ (wM ad ct σ τ) := h
      refine lv_istore_n (lv' := [(2, .int (sgn (smM σ n c kd q))), (0, .ref (ad 0)), (1, .int (nI q))]) hx hb dX9_ask_30 rfl hl (by decide) rfl (fun ls hl => ?_)
      refine lv_aload_n hx hb dX9_ask_31 rfl (lv_at hl 1 rfl) ?_
      refine mg_askedOf C h dX9_ask_32 ?_
      refine lv_iload_n hx hb dX9_ask_35 rfl (lv_at hl 2 rfl) ?_
      refine lv_dup2_11 hx hb dX9_ask_36 rfl rfl ?_
      refine ml_askedOf C h (j := q) (by omega) dX9_ask_37 ?_
      refine lv_iconst (v := 1) hx hb dX9_ask_38 (by decide) ?_
      refine lv_iadd hx hb dX9_ask_39 ?_
      refine ms_askedOf C h (j := q) (by omega) dX9_ask_40 (fun H ll h => ?_)
      refine lv_aload_n hx hb dX9_ask_41 rfl (lv_at hl 1 rfl) ?_
      refine mg_carriedOf C h dX9_ask_42 ?_
      refine lv_iload_n hx hb dX9_ask_45 rfl (lv_at hl 2 rfl) ?_
      refine lv_dup2_11 hx hb dX9_ask_46 rfl rfl ?_
      refine ml_carriedOf C h (j := q) (by omega) dX9_ask_47 ?_
      refine gas (z := σ 8 q) rfl ?_
      refine lv_iload_n hx hb dX9_ask_48 rfl (lv_at hl 0 rfl) ?_
      refine lv_iconst (v := 1) hx hb dX9_ask_49 (by decide) ?_
      refine lv_icmp_ne (tgt := 57) hx hb dX9_ask_50 (by decide) (fun c_50 => ?_) (fun c_50 => ?_)
      · refine lv_iconst (v := 0) hx hb dX9_ask_57 (by decide) ?_
        refine gas (z := if sgn (smM σ n c kd q) = 1 then 1 else 0) (by rw [if_neg c_50]) ?_
        refine lv_iadd hx hb dX9_ask_58 ?_
        refine ms_carriedOf C h (j := q) (by omega) dX9_ask_59 (fun H ll h => ?_)
        refine lv_iload_n hx hb dX9_ask_60 rfl (lv_at hl 0 rfl) ?_
        refine lv_iconst (v := -1) hx hb dX9_ask_61 (by decide) ?_
        refine lv_icmp_ne (tgt := 69) hx hb dX9_ask_62 (by decide) (fun c_62 => ?_) (fun c_62 => ?_)
        · refine lv_iload_n hx hb dX9_ask_69 rfl (lv_at hl 0 rfl) ?_
          have h : gW D ct zA zs _ _ (wM ad ct (va_up (va_up σ 7 (upd (σ 7) q (σ 7 q + 1))) 8 (upd (σ 8) q (σ 8 q + (if sgn (smM σ n c kd q) = 1 then 1 else 0)))) τ) := h
          exact hret _ (va_up (va_up σ 7 (upd (σ 7) q (σ 7 q + 1))) 8 (upd (σ 8) q (σ 8 q + (if sgn (smM σ n c kd q) = 1 then 1 else 0))), τ) _ _ _ _ h (by rw [if_neg (fun h9 => h9 c_5), if_neg c_19]; exact ⟨(by unfold askR; rw [if_neg c_62]), rfl⟩) dX9_ask_70
        · refine lv_iconst (v := 2) hx hb dX9_ask_65 (by decide) ?_
          refine lv_goto (tgt := 70) hx hb dX9_ask_66 (by decide) ?_
          have h : gW D ct zA zs _ _ (wM ad ct (va_up (va_up σ 7 (upd (σ 7) q (σ 7 q + 1))) 8 (upd (σ 8) q (σ 8 q + (if sgn (smM σ n c kd q) = 1 then 1 else 0)))) τ) := h
          exact hret _ (va_up (va_up σ 7 (upd (σ 7) q (σ 7 q + 1))) 8 (upd (σ 8) q (σ 8 q + (if sgn (smM σ n c kd q) = 1 then 1 else 0))), τ) _ _ _ _ h (by rw [if_neg (fun h9 => h9 c_5), if_neg c_19]; exact ⟨(by unfold askR; rw [if_pos c_62]), rfl⟩) dX9_ask_70
      · refine lv_iconst (v := 1) hx hb dX9_ask_53 (by decide) ?_
        refine lv_goto (tgt := 58) hx hb dX9_ask_54 (by decide) ?_
        refine gas (z := if sgn (smM σ n c kd q) = 1 then 1 else 0) (by rw [if_pos c_50]) ?_
        refine lv_iadd hx hb dX9_ask_58 ?_
        refine ms_carriedOf C h (j := q) (by omega) dX9_ask_59 (fun H ll h => ?_)
        refine lv_iload_n hx hb dX9_ask_60 rfl (lv_at hl 0 rfl) ?_
        refine lv_iconst (v := -1) hx hb dX9_ask_61 (by decide) ?_
        refine lv_icmp_ne (tgt := 69) hx hb dX9_ask_62 (by decide) (fun c_62 => ?_) (fun c_62 => ?_)
        · refine lv_iload_n hx hb dX9_ask_69 rfl (lv_at hl 0 rfl) ?_
          have h : gW D ct zA zs _ _ (wM ad ct (va_up (va_up σ 7 (upd (σ 7) q (σ 7 q + 1))) 8 (upd (σ 8) q (σ 8 q + (if sgn (smM σ n c kd q) = 1 then 1 else 0)))) τ) := h
          exact hret _ (va_up (va_up σ 7 (upd (σ 7) q (σ 7 q + 1))) 8 (upd (σ 8) q (σ 8 q + (if sgn (smM σ n c kd q) = 1 then 1 else 0))), τ) _ _ _ _ h (by rw [if_neg (fun h9 => h9 c_5), if_neg c_19]; exact ⟨(by unfold askR; rw [if_neg c_62]), rfl⟩) dX9_ask_70
        · refine lv_iconst (v := 2) hx hb dX9_ask_65 (by decide) ?_
          refine lv_goto (tgt := 70) hx hb dX9_ask_66 (by decide) ?_
          have h : gW D ct zA zs _ _ (wM ad ct (va_up (va_up σ 7 (upd (σ 7) q (σ 7 q + 1))) 8 (upd (σ 8) q (σ 8 q + (if sgn (smM σ n c kd q) = 1 then 1 else 0)))) τ) := h
          exact hret _ (va_up (va_up σ 7 (upd (σ 7) q (σ 7 q + 1))) 8 (upd (σ 8) q (σ 8 q + (if sgn (smM σ n c kd q) = 1 then 1 else 0))), τ) _ _ _ _ h (by rw [if_neg (fun h9 => h9 c_5), if_neg c_19]; exact ⟨(by unfold askR; rw [if_pos c_62]), rfl⟩) dX9_ask_70
    · refine lv_bipush (v := -104) hx hb dX9_ask_22 (by decide) ?_
      have h : gW D ct zA zs _ _ (wM ad ct σ τ) := h
      exact hret _ (σ, τ) _ _ _ _ h (by rw [if_neg (fun h9 => h9 c_5), if_pos c_19]; exact ⟨rfl, rfl⟩) dX9_ask_24
  · refine lv_bipush (v := -101) hx hb dX9_ask_8 (by decide) ?_
    have h : gW D ct zA zs _ _ (wM ad ct σ τ) := h
    exact hret _ (σ, τ) _ _ _ _ h (by rw [if_pos c_5]; exact ⟨rfl, rfl⟩) dX9_ask_10
set_option maxHeartbeats 1000000 in
set_option maxRecDepth 100000 in
theorem kX9_tide (l : Launch) (D : va_G) (ct : Nat → ClassId) (ad : Nat → Nat) (σ : Nat → Nat → Int32) (τ : Nat → Nat → Int64) (n c : Nat) (kd : Nat → Nat) (hok : MOK σ n c kd)  : MI l yX9_tide (gWs yX9_tide cX9_tide 1 (some .int)) rmX9_tide D ct gNo [.ref (ad 0)] (wM ad ct σ τ) (fun u : (Nat → Nat → Int32) × (Nat → Nat → Int64) => wM ad ct u.1 u.2) (fun r u => if n = 0 then (r = -103 ∧ u = (σ, τ)) else if σ 6 0 = 999 then (r = -104 ∧ u = (σ, τ)) else (r = σ 6 0 + 1 ∧ ∃ (g18 : Nat → Int32), u = (va_up (va_up (va_up σ 18 g18) 4 (td4 σ n c kd)) 6 (fun _ => σ 6 0 + 1), τ))) := by
  refine MI.ofI RX9 rfl (by decide) (Nat.le_of_ble_eq_true rfl) ?_
  intro zp ze zs zm za zb zt zc zA ls zQ C h hX hl hret
  have hx := C.1
  have hb := C.2.1
  have hl : lv_has ls 1 [(0, .ref (ad 0))] := hl
  have hok0 := hok
  obtain ⟨hn, hn8, hc, hc8, hkd⟩ := hok0
  refine lv_aload_n hx hb dX9_tide_0 rfl (lv_at hl 0 rfl) ?_
  refine mg_mussels C h dX9_tide_1 ?_
  refine gas hn ?_
  refine nz_ne hx hb n (by omega) (tgt := 10) dX9_tide_4 (by decide) (fun c_4 => ?_) (fun c_4 => ?_)
  · refine lv_aload_n hx hb dX9_tide_10 rfl (lv_at hl 0 rfl) ?_
    refine mg_tides C h dX9_tide_11 ?_
    refine lv_sipush (v := 999) hx hb dX9_tide_14 (by decide) ?_
    refine lv_icmp_ne (tgt := 23) hx hb dX9_tide_17 (by decide) (fun c_17 => ?_) (fun c_17 => ?_)
    · refine lv_aload_n hx hb dX9_tide_23 rfl (lv_at hl 0 rfl) ?_
      refine gcallVv C h trivial gNo_ok (kX9_turnTide l D ct ad σ τ n c kd hok) (cwV 0 C.2.2.2.2 (gInV q940 q942 q37 q66 q943) rfl rfl rfl hvX9_turnTide ⟨Nat.le_of_ble_eq_true rfl, Nat.le_of_ble_eq_true rfl⟩) 0 (wM_o ad ct σ τ) rfl rfl rfl hl.1 rfl (Nat.le_of_ble_eq_true rfl) dX9_tide_24 ⟨Nat.zero_le _, Nat.zero_le _⟩ (fun u9 H ll hw h => ?_)
      obtain ⟨g18_1, rfl⟩ := hw
      have h : gW D ct zA zs _ _ (wM ad ct (va_up (va_up σ 18 g18_1) 4 (td4 σ n c kd)) τ) := h
      refine lv_aload_n hx hb dX9_tide_27 rfl (lv_at hl 0 rfl) ?_
      refine lv_dup hx hb dX9_tide_28 rfl ?_
      refine mg_tides C h dX9_tide_29 ?_
      refine lv_iconst (v := 1) hx hb dX9_tide_32 (by decide) ?_
      refine lv_iadd hx hb dX9_tide_33 ?_
      refine mp_tides C h dX9_tide_34 (fun H ll h => ?_)
      refine lv_aload_n hx hb dX9_tide_37 rfl (lv_at hl 0 rfl) ?_
      refine mg_tides C h dX9_tide_38 ?_
      have h : gW D ct zA zs _ _ (wM ad ct (va_up (va_up (va_up σ 18 g18_1) 4 (td4 σ n c kd)) 6 (fun _ => σ 6 0 + 1)) τ) := h
      exact hret _ (va_up (va_up (va_up σ 18 g18_1) 4 (td4 σ n c kd)) 6 (fun _ => σ 6 0 + 1), τ) _ _ _ _ h (by rw [if_neg c_4, if_neg c_17]; exact ⟨rfl, g18_1, rfl⟩) dX9_tide_41
    · refine lv_bipush (v := -104) hx hb dX9_tide_20 (by decide) ?_
      have h : gW D ct zA zs _ _ (wM ad ct σ τ) := h
      exact hret _ (σ, τ) _ _ _ _ h (by rw [if_neg c_4, if_pos c_17]; exact ⟨rfl, rfl⟩) dX9_tide_22
  · refine lv_bipush (v := -103) hx hb dX9_tide_7 (by decide) ?_
    have h : gW D ct zA zs _ _ (wM ad ct σ τ) := h
    exact hret _ (σ, τ) _ _ _ _ h (by rw [if_pos c_4]; exact ⟨rfl, rfl⟩) dX9_tide_9
set_option maxHeartbeats 1000000 in
set_option maxRecDepth 100000 in
theorem kX9_cut (l : Launch) (D : va_G) (ct : Nat → ClassId) (ad : Nat → Nat) (σ : Nat → Nat → Int32) (τ : Nat → Nat → Int64) (n c : Nat) (kd : Nat → Nat) (hok : MOK σ n c kd) (mu : Int32) : MI l yX9_cut (gWs yX9_cut cX9_cut 2 (some .int)) rmX9_cut D ct gNo [.ref (ad 0), .int mu] (wM ad ct σ τ) (fun u : (Nat → Nat → Int32) × (Nat → Nat → Int64) => wM ad ct u.1 u.2) (fun r u => if ¬ (0 ≤ mu ∧ mu ≤ nI n - 1) then (r = -101 ∧ u = (σ, τ)) else if c.testBit mu.toNatClampNeg = true then (r = -103 ∧ u = (σ, τ)) else (r = nI (pcn (fbits (c ||| 1 * 2 ^ mu.toNatClampNeg) n) 8) ∧ u = (va_up σ 5 (fun _ => nI (c ||| 1 * 2 ^ mu.toNatClampNeg)), τ))) := by
  refine MI.ofI RX9 rfl (by decide) (Nat.le_of_ble_eq_true rfl) ?_
  intro zp ze zs zm za zb zt zc zA ls zQ C h hX hl hret
  have hx := C.1
  have hb := C.2.1
  have hl : lv_has ls 2 [(0, .ref (ad 0)), (1, .int mu)] := hl
  have hok0 := hok
  obtain ⟨hn, hn8, hc, hc8, hkd⟩ := hok0
  refine lv_aload_n hx hb dX9_cut_0 rfl (lv_at hl 0 rfl) ?_
  refine lv_iload_n hx hb dX9_cut_1 rfl (lv_at hl 1 rfl) ?_
  refine gcallVi C h trivial gNo_ok (kX9_isMussel l D ct ad σ τ n hn hn8 mu) (cwV 1 C.2.2.2.2 (gInV q854 q856 q22 q66 q857) rfl rfl rfl hvX9_isMussel ⟨Nat.le_of_ble_eq_true rfl, Nat.le_of_ble_eq_true rfl⟩) 0 (wM_o ad ct σ τ) rfl rfl rfl hl.1 rfl (Nat.le_of_ble_eq_true rfl) dX9_cut_2 ⟨Nat.zero_le _, Nat.zero_le _⟩ (fun r9 u9 H ll hw h => ?_)
  have hw : r9 = (if 0 ≤ mu ∧ mu ≤ nI n - 1 then 1 else 0) := hw
  subst hw
  have h : gW D ct zA zs _ _ (wM ad ct σ τ) := h
  refine bz_ne hx hb (0 ≤ mu ∧ mu ≤ nI n - 1) (tgt := 11) dX9_cut_5 (by decide) (fun c_5 => ?_) (fun c_5 => ?_)
  · obtain ⟨j, hj, rfl⟩ := isM_nat hn8 c_5
    have hcl : (nI j).toNatClampNeg = j := nI_clamp (by omega)
    rw [hcl] at hret
    have hpj := pow_lt8 j (by omega)
    have hpj2 : 2 ^ j ≤ 128 := Nat.pow_le_pow_right (n := 2) (by decide) (show j ≤ 7 by omega)
    refine lv_aload_n hx hb dX9_cut_11 rfl (lv_at hl 0 rfl) ?_
    refine mg_cutThreads C h dX9_cut_12 ?_
    refine gas hc ?_
    refine lv_iload_n hx hb dX9_cut_15 rfl (lv_at hl 1 rfl) ?_
    refine gcallSi C h (kX9_isIn l D ct c j (by omega) (by omega)) (va_cwS 2 C.2.2.2.2 (gInS q889 q890 q66 q891) rfl rfl rfl hdX9_isIn ⟨Nat.le_of_ble_eq_true rfl, Nat.le_of_ble_eq_true rfl⟩) rfl hl.1 rfl (Nat.le_of_ble_eq_true rfl) dX9_cut_16 ⟨Nat.zero_le _, Nat.zero_le _⟩ (fun H ll h => ?_)
    refine bz_eq hx hb (c.testBit j = true) (tgt := 25) dX9_cut_19 (by decide) (fun c_19 => ?_) (fun c_19 => ?_)
    · refine lv_aload_n hx hb dX9_cut_25 rfl (lv_at hl 0 rfl) ?_
      refine lv_dup hx hb dX9_cut_26 rfl ?_
      refine mg_cutThreads C h dX9_cut_27 ?_
      refine gas hc ?_
      refine lv_iconst (v := 1) hx hb dX9_cut_30 (by decide) ?_
      refine lv_iload_n hx hb dX9_cut_31 rfl (lv_at hl 1 rfl) ?_
      refine nshl hx hb 1 j (by omega) (by omega) dX9_cut_32 ?_
      refine nor hx hb c (1 * 2 ^ j) dX9_cut_33 ?_
      refine mp_cutThreads C h dX9_cut_34 (fun H ll h => ?_)
      have hcj : c ||| 1 * 2 ^ j < 256 := or256 hc8 (by omega)
      have hok1 := hok_c hok hcj
      have hF := fb256 (c ||| 1 * 2 ^ j) hn8
      refine lv_aload_n hx hb dX9_cut_37 rfl (lv_at hl 0 rfl) ?_
      refine gcallVi C h trivial gNo_ok (kX9_felt l D ct ad (va_up σ 5 (fun _ => nI (c ||| (1 * 2 ^ j)))) τ n (c ||| 1 * 2 ^ j) kd hok1) (cwV 0 C.2.2.2.2 (gInV q948 q950 q38 q66 q951) rfl rfl rfl hvX9_felt ⟨Nat.le_of_ble_eq_true rfl, Nat.le_of_ble_eq_true rfl⟩) 0 (wM_o ad ct (va_up σ 5 (fun _ => nI (c ||| (1 * 2 ^ j)))) τ) rfl rfl rfl hl.1 rfl (Nat.le_of_ble_eq_true rfl) dX9_cut_38 ⟨Nat.zero_le _, Nat.zero_le _⟩ (fun r9 u9 H ll hw h => ?_)
      have hw : r9 = nI (fbits (c ||| 1 * 2 ^ j) n) := hw
      subst hw
      have h : gW D ct zA zs _ _ (wM ad ct (va_up σ 5 (fun _ => nI (c ||| (1 * 2 ^ j)))) τ) := h
      refine gcallSi C h (kX9_size l D ct (fbits (c ||| 1 * 2 ^ j) n) (by omega)) (va_cwS 1 C.2.2.2.2 (gInS q905 q906 q66 q907) rfl rfl rfl hdX9_size ⟨Nat.le_of_ble_eq_true rfl, Nat.le_of_ble_eq_true rfl⟩) rfl hl.1 rfl (Nat.le_of_ble_eq_true rfl) dX9_cut_41 ⟨Nat.zero_le _, Nat.zero_le _⟩ (fun H ll h => ?_)
      have h : gW D ct zA zs _ _ (wM ad ct (va_up σ 5 (fun _ => nI (c ||| 1 * 2 ^ j))) τ) := h
      exact hret _ (va_up σ 5 (fun _ => nI (c ||| 1 * 2 ^ j)), τ) _ _ _ _ h (by rw [if_neg (fun h9 => h9 c_5), if_neg c_19]; exact ⟨rfl, rfl⟩) dX9_cut_44
    · refine lv_bipush (v := -103) hx hb dX9_cut_22 (by decide) ?_
      have h : gW D ct zA zs _ _ (wM ad ct σ τ) := h
      exact hret _ (σ, τ) _ _ _ _ h (by rw [if_neg (fun h9 => h9 c_5), if_pos c_19]; exact ⟨rfl, rfl⟩) dX9_cut_24
  · refine lv_bipush (v := -101) hx hb dX9_cut_8 (by decide) ?_
    have h : gW D ct zA zs _ _ (wM ad ct σ τ) := h
    exact hret _ (σ, τ) _ _ _ _ h (by rw [if_pos c_5]; exact ⟨rfl, rfl⟩) dX9_cut_10
set_option maxHeartbeats 1000000 in
set_option maxRecDepth 100000 in
theorem kX9_tie (l : Launch) (D : va_G) (ct : Nat → ClassId) (ad : Nat → Nat) (σ : Nat → Nat → Int32) (τ : Nat → Nat → Int64) (n c : Nat) (kd : Nat → Nat) (hok : MOK σ n c kd) (mu : Int32) : MI l yX9_tie (gWs yX9_tie cX9_tie 2 (some .int)) rmX9_tie D ct gNo [.ref (ad 0), .int mu] (wM ad ct σ τ) (fun u : (Nat → Nat → Int32) × (Nat → Nat → Int64) => wM ad ct u.1 u.2) (fun r u => if ¬ (0 ≤ mu ∧ mu ≤ nI n - 1) then (r = -101 ∧ u = (σ, τ)) else if ¬ c.testBit mu.toNatClampNeg = true then (r = -103 ∧ u = (σ, τ)) else (r = nI (pcn (fbits (c &&& (1 * 2 ^ mu.toNatClampNeg ^^^ 255)) n) 8) ∧ u = (va_up σ 5 (fun _ => nI (c &&& (1 * 2 ^ mu.toNatClampNeg ^^^ 255))), τ))) := by
  refine MI.ofI RX9 rfl (by decide) (Nat.le_of_ble_eq_true rfl) ?_
  intro zp ze zs zm za zb zt zc zA ls zQ C h hX hl hret
  have hx := C.1
  have hb := C.2.1
  have hl : lv_has ls 2 [(0, .ref (ad 0)), (1, .int mu)] := hl
  have hok0 := hok
  obtain ⟨hn, hn8, hc, hc8, hkd⟩ := hok0
  refine lv_aload_n hx hb dX9_tie_0 rfl (lv_at hl 0 rfl) ?_
  refine lv_iload_n hx hb dX9_tie_1 rfl (lv_at hl 1 rfl) ?_
  refine gcallVi C h trivial gNo_ok (kX9_isMussel l D ct ad σ τ n hn hn8 mu) (cwV 1 C.2.2.2.2 (gInV q854 q856 q22 q66 q857) rfl rfl rfl hvX9_isMussel ⟨Nat.le_of_ble_eq_true rfl, Nat.le_of_ble_eq_true rfl⟩) 0 (wM_o ad ct σ τ) rfl rfl rfl hl.1 rfl (Nat.le_of_ble_eq_true rfl) dX9_tie_2 ⟨Nat.zero_le _, Nat.zero_le _⟩ (fun r9 u9 H ll hw h => ?_)
  have hw : r9 = (if 0 ≤ mu ∧ mu ≤ nI n - 1 then 1 else 0) := hw
  subst hw
  have h : gW D ct zA zs _ _ (wM ad ct σ τ) := h
  refine bz_ne hx hb (0 ≤ mu ∧ mu ≤ nI n - 1) (tgt := 11) dX9_tie_5 (by decide) (fun c_5 => ?_) (fun c_5 => ?_)
  · obtain ⟨j, hj, rfl⟩ := isM_nat hn8 c_5
    have hcl : (nI j).toNatClampNeg = j := nI_clamp (by omega)
    rw [hcl] at hret
    have hpj := pow_lt8 j (by omega)
    have hpj2 : 2 ^ j ≤ 128 := Nat.pow_le_pow_right (n := 2) (by decide) (show j ≤ 7 by omega)
    refine lv_aload_n hx hb dX9_tie_11 rfl (lv_at hl 0 rfl) ?_
    refine mg_cutThreads C h dX9_tie_12 ?_
    refine gas hc ?_
    refine lv_iload_n hx hb dX9_tie_15 rfl (lv_at hl 1 rfl) ?_
    refine gcallSi C h (kX9_isIn l D ct c j (by omega) (by omega)) (va_cwS 2 C.2.2.2.2 (gInS q889 q890 q66 q891) rfl rfl rfl hdX9_isIn ⟨Nat.le_of_ble_eq_true rfl, Nat.le_of_ble_eq_true rfl⟩) rfl hl.1 rfl (Nat.le_of_ble_eq_true rfl) dX9_tie_16 ⟨Nat.zero_le _, Nat.zero_le _⟩ (fun H ll h => ?_)
    refine bz_ne hx hb (c.testBit j = true) (tgt := 25) dX9_tie_19 (by decide) (fun c_19 => ?_) (fun c_19 => ?_)
    · refine lv_aload_n hx hb dX9_tie_25 rfl (lv_at hl 0 rfl) ?_
      refine lv_dup hx hb dX9_tie_26 rfl ?_
      refine mg_cutThreads C h dX9_tie_27 ?_
      refine gas hc ?_
      refine lv_iconst (v := 1) hx hb dX9_tie_30 (by decide) ?_
      refine lv_iload_n hx hb dX9_tie_31 rfl (lv_at hl 1 rfl) ?_
      refine nshl hx hb 1 j (by omega) (by omega) dX9_tie_32 ?_
      refine lv_iconst (v := -1) hx hb dX9_tie_33 (by decide) ?_
      refine lv_ixor hx hb dX9_tie_34 ?_
      refine lv_iand hx hb dX9_tie_35 ?_
      refine gas (andnot hc8 (by omega)) ?_
      refine mp_cutThreads C h dX9_tie_36 (fun H ll h => ?_)
      have hcj : c &&& (1 * 2 ^ j ^^^ 255) < 256 := Nat.lt_of_le_of_lt Nat.and_le_left hc8
      have hok1 := hok_c hok hcj
      have hF := fb256 (c &&& (1 * 2 ^ j ^^^ 255)) hn8
      refine lv_aload_n hx hb dX9_tie_39 rfl (lv_at hl 0 rfl) ?_
      refine gcallVi C h trivial gNo_ok (kX9_felt l D ct ad (va_up σ 5 (fun _ => nI (c &&& (1 * 2 ^ j ^^^ 255)))) τ n (c &&& (1 * 2 ^ j ^^^ 255)) kd hok1) (cwV 0 C.2.2.2.2 (gInV q948 q950 q38 q66 q951) rfl rfl rfl hvX9_felt ⟨Nat.le_of_ble_eq_true rfl, Nat.le_of_ble_eq_true rfl⟩) 0 (wM_o ad ct (va_up σ 5 (fun _ => nI (c &&& (1 * 2 ^ j ^^^ 255)))) τ) rfl rfl rfl hl.1 rfl (Nat.le_of_ble_eq_true rfl) dX9_tie_40 ⟨Nat.zero_le _, Nat.zero_le _⟩ (fun r9 u9 H ll hw h => ?_)
      have hw : r9 = nI (fbits (c &&& (1 * 2 ^ j ^^^ 255)) n) := hw
      subst hw
      have h : gW D ct zA zs _ _ (wM ad ct (va_up σ 5 (fun _ => nI (c &&& (1 * 2 ^ j ^^^ 255)))) τ) := h
      refine gcallSi C h (kX9_size l D ct (fbits (c &&& (1 * 2 ^ j ^^^ 255)) n) (by omega)) (va_cwS 1 C.2.2.2.2 (gInS q905 q906 q66 q907) rfl rfl rfl hdX9_size ⟨Nat.le_of_ble_eq_true rfl, Nat.le_of_ble_eq_true rfl⟩) rfl hl.1 rfl (Nat.le_of_ble_eq_true rfl) dX9_tie_43 ⟨Nat.zero_le _, Nat.zero_le _⟩ (fun H ll h => ?_)
      have h : gW D ct zA zs _ _ (wM ad ct (va_up σ 5 (fun _ => nI (c &&& (1 * 2 ^ j ^^^ 255)))) τ) := h
      exact hret _ (va_up σ 5 (fun _ => nI (c &&& (1 * 2 ^ j ^^^ 255))), τ) _ _ _ _ h (by rw [if_neg (fun h9 => h9 c_5), if_neg (fun h9 => h9 c_19)]; exact ⟨rfl, rfl⟩) dX9_tie_46
    · refine lv_bipush (v := -103) hx hb dX9_tie_22 (by decide) ?_
      have h : gW D ct zA zs _ _ (wM ad ct σ τ) := h
      exact hret _ (σ, τ) _ _ _ _ h (by rw [if_neg (fun h9 => h9 c_5), if_pos c_19]; exact ⟨rfl, rfl⟩) dX9_tie_24
  · refine lv_bipush (v := -101) hx hb dX9_tie_8 (by decide) ?_
    have h : gW D ct zA zs _ _ (wM ad ct σ τ) := h
    exact hret _ (σ, τ) _ _ _ _ h (by rw [if_pos c_5]; exact ⟨rfl, rfl⟩) dX9_tie_10
set_option maxHeartbeats 1000000 in
set_option maxRecDepth 100000 in
theorem kX9_turn (l : Launch) (D : va_G) (ct : Nat → ClassId) (ad : Nat → Nat) (σ : Nat → Nat → Int32) (τ : Nat → Nat → Int64) (n c : Nat) (kd : Nat → Nat) (hok : MOK σ n c kd) (mu qu x : Int32) : MI l yX9_turn (gWs yX9_turn cX9_turn 5 (some .int)) rmX9_turn D ct gNo [.ref (ad 0), .int mu, .int qu, .int x] (wM ad ct σ τ) (fun u : (Nat → Nat → Int32) × (Nat → Nat → Int64) => wM ad ct u.1 u.2) (fun r u => if ¬ ((0 ≤ mu ∧ mu ≤ nI n - 1) ∧ (0 < n ∧ 0 ≤ qu ∧ qu ≤ 2)) then (r = -101 ∧ u = (σ, τ)) else if ¬ (-1 ≤ x ∧ x ≤ 1) then (r = -102 ∧ u = (σ, τ)) else (r = leM σ mu.toNatClampNeg qu.toNatClampNeg + 1 ∧ u = (va_up σ 4 (upd (σ 4) (3 * mu.toNatClampNeg + qu.toNatClampNeg) x), τ))) := by
  refine MI.ofI RX9 rfl (by decide) (Nat.le_of_ble_eq_true rfl) ?_
  intro zp ze zs zm za zb zt zc zA ls zQ C h hX hl hret
  have hx := C.1
  have hb := C.2.1
  have hl : lv_has ls 5 [(0, .ref (ad 0)), (1, .int mu), (2, .int qu), (3, .int x)] := hl
  have hok0 := hok
  obtain ⟨hn, hn8, hc, hc8, hkd⟩ := hok0
  refine lv_aload_n hx hb dX9_turn_0 rfl (lv_at hl 0 rfl) ?_
  refine lv_iload_n hx hb dX9_turn_1 rfl (lv_at hl 1 rfl) ?_
  refine gcallVi C h trivial gNo_ok (kX9_isMussel l D ct ad σ τ n hn hn8 mu) (cwV 1 C.2.2.2.2 (gInV q854 q856 q22 q66 q857) rfl rfl rfl hvX9_isMussel ⟨Nat.le_of_ble_eq_true rfl, Nat.le_of_ble_eq_true rfl⟩) 0 (wM_o ad ct σ τ) rfl rfl rfl hl.1 rfl (Nat.le_of_ble_eq_true rfl) dX9_turn_2 ⟨Nat.zero_le _, Nat.zero_le _⟩ (fun r9 u9 H ll hw h => ?_)
  have hw : r9 = (if 0 ≤ mu ∧ mu ≤ nI n - 1 then 1 else 0) := hw
  subst hw
  have h : gW D ct zA zs _ _ (wM ad ct σ τ) := h
  refine bz_eq hx hb (0 ≤ mu ∧ mu ≤ nI n - 1) (tgt := 16) dX9_turn_5 (by decide) (fun c_5 => ?_) (fun c_5 => ?_)
  · refine lv_bipush (v := -101) hx hb dX9_turn_16 (by decide) ?_
    have h : gW D ct zA zs _ _ (wM ad ct σ τ) := h
    exact hret _ (σ, τ) _ _ _ _ h (by rw [if_pos (fun h9 => c_5 h9.1)]; exact ⟨rfl, rfl⟩) dX9_turn_18
  · refine lv_aload_n hx hb dX9_turn_8 rfl (lv_at hl 0 rfl) ?_
    refine lv_iload_n hx hb dX9_turn_9 rfl (lv_at hl 2 rfl) ?_
    refine gcallVi C h trivial gNo_ok (kX9_isQuestion l D ct ad σ τ n hn hn8 qu) (cwV 1 C.2.2.2.2 (gInV q916 q918 q33 q66 q919) rfl rfl rfl hvX9_isQuestion ⟨Nat.le_of_ble_eq_true rfl, Nat.le_of_ble_eq_true rfl⟩) 0 (wM_o ad ct σ τ) rfl rfl rfl hl.1 rfl (Nat.le_of_ble_eq_true rfl) dX9_turn_10 ⟨Nat.zero_le _, Nat.zero_le _⟩ (fun r9 u9 H ll hw h => ?_)
    have hw : r9 = (if 0 < n ∧ 0 ≤ qu ∧ qu ≤ 2 then 1 else 0) := hw
    subst hw
    have h : gW D ct zA zs _ _ (wM ad ct σ τ) := h
    refine bz_ne hx hb (0 < n ∧ 0 ≤ qu ∧ qu ≤ 2) (tgt := 19) dX9_turn_13 (by decide) (fun c_13 => ?_) (fun c_13 => ?_)
    · refine lv_iload_n hx hb dX9_turn_19 rfl (lv_at hl 3 rfl) ?_
      refine lv_iconst (v := -1) hx hb dX9_turn_20 (by decide) ?_
      refine lv_iconst (v := 1) hx hb dX9_turn_21 (by decide) ?_
      refine gcallSi C h (kX9_within l D ct x (-1) 1) (va_cwS 3 C.2.2.2.2 (gInS q817 q818 q66 q819) rfl rfl rfl hdX9_within ⟨Nat.le_of_ble_eq_true rfl, Nat.le_of_ble_eq_true rfl⟩) rfl hl.1 rfl (Nat.le_of_ble_eq_true rfl) dX9_turn_22 ⟨Nat.zero_le _, Nat.zero_le _⟩ (fun H ll h => ?_)
      refine bz_ne hx hb ((-1) ≤ x ∧ x ≤ 1) (tgt := 31) dX9_turn_25 (by decide) (fun c_25 => ?_) (fun c_25 => ?_)
      · obtain ⟨j, hj, rfl⟩ := isM_nat hn8 c_5
        obtain ⟨q, hq, rfl⟩ := sw_nat (n := 2) (by decide) rfl c_13.2
        have hcl : (nI j).toNatClampNeg = j := nI_clamp (by omega)
        have hcq : (nI q).toNatClampNeg = q := nI_clamp (by omega)
        rw [hcl, hcq] at hret
        refine lv_aload_n hx hb dX9_turn_31 rfl (lv_at hl 0 rfl) ?_
        refine mg_leanOf C h dX9_turn_32 ?_
        refine lv_iconst (v := 3) hx hb dX9_turn_35 (by decide) ?_
        refine lv_iload_n hx hb dX9_turn_36 rfl (lv_at hl 1 rfl) ?_
        refine nmul hx hb 3 j dX9_turn_37 ?_
        refine lv_iload_n hx hb dX9_turn_38 rfl (lv_at hl 2 rfl) ?_
        refine nadd hx hb (3 * j) q dX9_turn_39 ?_
        refine ml_leanOf C h (j := (3 * j) + q) (by omega) dX9_turn_40 ?_
        refine lv_istore (lv' := [(4, .int (σ 4 ((3 * j) + q))), (0, .ref (ad 0)), (1, .int (nI j)), (2, .int (nI q)), (3, .int x)]) hx hb dX9_turn_41 hl (by decide) rfl (fun ls hl => ?_)
        refine lv_aload_n hx hb dX9_turn_43 rfl (lv_at hl 1 rfl) ?_
        refine mg_leanOf C h dX9_turn_44 ?_
        refine lv_iconst (v := 3) hx hb dX9_turn_47 (by decide) ?_
        refine lv_iload_n hx hb dX9_turn_48 rfl (lv_at hl 2 rfl) ?_
        refine nmul hx hb 3 j dX9_turn_49 ?_
        refine lv_iload_n hx hb dX9_turn_50 rfl (lv_at hl 3 rfl) ?_
        refine nadd hx hb (3 * j) q dX9_turn_51 ?_
        refine lv_iload_n hx hb dX9_turn_52 rfl (lv_at hl 4 rfl) ?_
        refine ms_leanOf C h (j := (3 * j) + q) (by omega) dX9_turn_53 (fun H ll h => ?_)
        refine lv_iload hx hb dX9_turn_54 (lv_at hl 0 rfl) ?_
        refine lv_iconst (v := 1) hx hb dX9_turn_56 (by decide) ?_
        refine lv_iadd hx hb dX9_turn_57 ?_
        have h : gW D ct zA zs _ _ (wM ad ct (va_up σ 4 (upd (σ 4) (3 * j + q) x)) τ) := h
        exact hret _ (va_up σ 4 (upd (σ 4) (3 * j + q) x), τ) _ _ _ _ h (by rw [if_neg (fun h9 => h9 ⟨c_5, c_13⟩), if_neg (fun h9 => h9 c_25)]; exact ⟨rfl, rfl⟩) dX9_turn_58
      · refine lv_bipush (v := -102) hx hb dX9_turn_28 (by decide) ?_
        have h : gW D ct zA zs _ _ (wM ad ct σ τ) := h
        exact hret _ (σ, τ) _ _ _ _ h (by rw [if_neg (fun h9 => h9 ⟨c_5, c_13⟩), if_pos c_25]; exact ⟨rfl, rfl⟩) dX9_turn_30
    · refine lv_bipush (v := -101) hx hb dX9_turn_16 (by decide) ?_
      have h : gW D ct zA zs _ _ (wM ad ct σ τ) := h
      exact hret _ (σ, τ) _ _ _ _ h (by rw [if_pos (fun h9 => c_13 h9.2)]; exact ⟨rfl, rfl⟩) dX9_turn_18
set_option maxHeartbeats 1000000 in
set_option maxRecDepth 100000 in
theorem kX9_grow (l : Launch) (D : va_G) (ct : Nat → ClassId) (ad : Nat → Nat) (σ : Nat → Nat → Int32) (τ : Nat → Nat → Int64) (n c : Nat) (kd : Nat → Nat) (hok : MOK σ n c kd) (mu x : Int32) : MI l yX9_grow (gWs yX9_grow cX9_grow 4 (some .int)) rmX9_grow D ct gNo [.ref (ad 0), .int mu, .int x] (wM ad ct σ τ) (fun u : (Nat → Nat → Int32) × (Nat → Nat → Int64) => wM ad ct u.1 u.2) (fun r u => if ¬ (0 ≤ mu ∧ mu ≤ nI n - 1) then (r = -101 ∧ u = (σ, τ)) else if ¬ (1 ≤ x ∧ x ≤ 9) then (r = -102 ∧ u = (σ, τ)) else (r = σ 3 mu.toNatClampNeg ∧ u = (va_up σ 3 (upd (σ 3) mu.toNatClampNeg x), τ))) := by
  refine MI.ofI RX9 rfl (by decide) (Nat.le_of_ble_eq_true rfl) ?_
  intro zp ze zs zm za zb zt zc zA ls zQ C h hX hl hret
  have hx := C.1
  have hb := C.2.1
  have hl : lv_has ls 4 [(0, .ref (ad 0)), (1, .int mu), (2, .int x)] := hl
  have hok0 := hok
  obtain ⟨hn, hn8, hc, hc8, hkd⟩ := hok0
  refine lv_aload_n hx hb dX9_grow_0 rfl (lv_at hl 0 rfl) ?_
  refine lv_iload_n hx hb dX9_grow_1 rfl (lv_at hl 1 rfl) ?_
  refine gcallVi C h trivial gNo_ok (kX9_isMussel l D ct ad σ τ n hn hn8 mu) (cwV 1 C.2.2.2.2 (gInV q854 q856 q22 q66 q857) rfl rfl rfl hvX9_isMussel ⟨Nat.le_of_ble_eq_true rfl, Nat.le_of_ble_eq_true rfl⟩) 0 (wM_o ad ct σ τ) rfl rfl rfl hl.1 rfl (Nat.le_of_ble_eq_true rfl) dX9_grow_2 ⟨Nat.zero_le _, Nat.zero_le _⟩ (fun r9 u9 H ll hw h => ?_)
  have hw : r9 = (if 0 ≤ mu ∧ mu ≤ nI n - 1 then 1 else 0) := hw
  subst hw
  have h : gW D ct zA zs _ _ (wM ad ct σ τ) := h
  refine bz_ne hx hb (0 ≤ mu ∧ mu ≤ nI n - 1) (tgt := 11) dX9_grow_5 (by decide) (fun c_5 => ?_) (fun c_5 => ?_)
  · refine lv_iload_n hx hb dX9_grow_11 rfl (lv_at hl 2 rfl) ?_
    refine lv_iconst (v := 1) hx hb dX9_grow_12 (by decide) ?_
    refine lv_bipush (v := 9) hx hb dX9_grow_13 (by decide) ?_
    refine gcallSi C h (kX9_within l D ct x 1 9) (va_cwS 3 C.2.2.2.2 (gInS q817 q818 q66 q819) rfl rfl rfl hdX9_within ⟨Nat.le_of_ble_eq_true rfl, Nat.le_of_ble_eq_true rfl⟩) rfl hl.1 rfl (Nat.le_of_ble_eq_true rfl) dX9_grow_15 ⟨Nat.zero_le _, Nat.zero_le _⟩ (fun H ll h => ?_)
    refine bz_ne hx hb (1 ≤ x ∧ x ≤ 9) (tgt := 24) dX9_grow_18 (by decide) (fun c_18 => ?_) (fun c_18 => ?_)
    · obtain ⟨j, hj, rfl⟩ := isM_nat hn8 c_5
      have hcl : (nI j).toNatClampNeg = j := nI_clamp (by omega)
      rw [hcl] at hret
      refine lv_aload_n hx hb dX9_grow_24 rfl (lv_at hl 0 rfl) ?_
      refine mg_weightOf C h dX9_grow_25 ?_
      refine lv_iload_n hx hb dX9_grow_28 rfl (lv_at hl 1 rfl) ?_
      refine ml_weightOf C h (j := j) (by omega) dX9_grow_29 ?_
      refine lv_istore_n (lv' := [(3, .int (σ 3 j)), (0, .ref (ad 0)), (1, .int (nI j)), (2, .int x)]) hx hb dX9_grow_30 rfl hl (by decide) rfl (fun ls hl => ?_)
      refine lv_aload_n hx hb dX9_grow_31 rfl (lv_at hl 1 rfl) ?_
      refine mg_weightOf C h dX9_grow_32 ?_
      refine lv_iload_n hx hb dX9_grow_35 rfl (lv_at hl 2 rfl) ?_
      refine lv_iload_n hx hb dX9_grow_36 rfl (lv_at hl 3 rfl) ?_
      refine ms_weightOf C h (j := j) (by omega) dX9_grow_37 (fun H ll h => ?_)
      refine lv_iload_n hx hb dX9_grow_38 rfl (lv_at hl 0 rfl) ?_
      have h : gW D ct zA zs _ _ (wM ad ct (va_up σ 3 (upd (σ 3) j x)) τ) := h
      exact hret _ (va_up σ 3 (upd (σ 3) j x), τ) _ _ _ _ h (by rw [if_neg (fun h9 => h9 c_5), if_neg (fun h9 => h9 c_18)]; exact ⟨rfl, rfl⟩) dX9_grow_39
    · refine lv_bipush (v := -102) hx hb dX9_grow_21 (by decide) ?_
      have h : gW D ct zA zs _ _ (wM ad ct σ τ) := h
      exact hret _ (σ, τ) _ _ _ _ h (by rw [if_neg (fun h9 => h9 c_5), if_pos c_18]; exact ⟨rfl, rfl⟩) dX9_grow_23
  · refine lv_bipush (v := -101) hx hb dX9_grow_8 (by decide) ?_
    have h : gW D ct zA zs _ _ (wM ad ct σ τ) := h
    exact hret _ (σ, τ) _ _ _ _ h (by rw [if_pos c_5]; exact ⟨rfl, rfl⟩) dX9_grow_10
set_option maxHeartbeats 1000000 in
set_option maxRecDepth 100000 in
theorem kX9_say (l : Launch) (D : va_G) (ct : Nat → ClassId) (ad : Nat → Nat) (σ : Nat → Nat → Int32) (τ : Nat → Nat → Int64) (n c : Nat) (kd : Nat → Nat) (hok : MOK σ n c kd) (mu qu x : Int32) : MI l yX9_say (gWs yX9_say cX9_say 4 (some .int)) rmX9_say D ct gNo [.ref (ad 0), .int mu, .int qu, .int x] (wM ad ct σ τ) (fun u : (Nat → Nat → Int32) × (Nat → Nat → Int64) => wM ad ct u.1 u.2) (fun r u => if ¬ ((0 ≤ mu ∧ mu ≤ nI n - 1) ∧ (0 < n ∧ 0 ≤ qu ∧ qu ≤ 2)) then (r = -101 ∧ u = (σ, τ)) else if ¬ (0 ≤ x ∧ x ≤ 1) then (r = -102 ∧ u = (σ, τ)) else (r = nI (sayM σ n c kd mu.toNatClampNeg qu.toNatClampNeg x.toNatClampNeg) ∧ u = (σ, τ))) := by
  refine MI.ofI RX9 rfl (by decide) (Nat.le_of_ble_eq_true rfl) ?_
  intro zp ze zs zm za zb zt zc zA ls zQ C h hX hl hret
  have hx := C.1
  have hb := C.2.1
  have hl : lv_has ls 4 [(0, .ref (ad 0)), (1, .int mu), (2, .int qu), (3, .int x)] := hl
  have hok0 := hok
  obtain ⟨hn, hn8, hc, hc8, hkd⟩ := hok0
  refine lv_aload_n hx hb dX9_say_0 rfl (lv_at hl 0 rfl) ?_
  refine lv_iload_n hx hb dX9_say_1 rfl (lv_at hl 1 rfl) ?_
  refine gcallVi C h trivial gNo_ok (kX9_isMussel l D ct ad σ τ n hn hn8 mu) (cwV 1 C.2.2.2.2 (gInV q854 q856 q22 q66 q857) rfl rfl rfl hvX9_isMussel ⟨Nat.le_of_ble_eq_true rfl, Nat.le_of_ble_eq_true rfl⟩) 0 (wM_o ad ct σ τ) rfl rfl rfl hl.1 rfl (Nat.le_of_ble_eq_true rfl) dX9_say_2 ⟨Nat.zero_le _, Nat.zero_le _⟩ (fun r9 u9 H ll hw h => ?_)
  have hw : r9 = (if 0 ≤ mu ∧ mu ≤ nI n - 1 then 1 else 0) := hw
  subst hw
  have h : gW D ct zA zs _ _ (wM ad ct σ τ) := h
  refine bz_eq hx hb (0 ≤ mu ∧ mu ≤ nI n - 1) (tgt := 16) dX9_say_5 (by decide) (fun c_5 => ?_) (fun c_5 => ?_)
  · refine lv_bipush (v := -101) hx hb dX9_say_16 (by decide) ?_
    have h : gW D ct zA zs _ _ (wM ad ct σ τ) := h
    exact hret _ (σ, τ) _ _ _ _ h (by rw [if_pos (fun h9 => c_5 h9.1)]; exact ⟨rfl, rfl⟩) dX9_say_18
  · refine lv_aload_n hx hb dX9_say_8 rfl (lv_at hl 0 rfl) ?_
    refine lv_iload_n hx hb dX9_say_9 rfl (lv_at hl 2 rfl) ?_
    refine gcallVi C h trivial gNo_ok (kX9_isQuestion l D ct ad σ τ n hn hn8 qu) (cwV 1 C.2.2.2.2 (gInV q916 q918 q33 q66 q919) rfl rfl rfl hvX9_isQuestion ⟨Nat.le_of_ble_eq_true rfl, Nat.le_of_ble_eq_true rfl⟩) 0 (wM_o ad ct σ τ) rfl rfl rfl hl.1 rfl (Nat.le_of_ble_eq_true rfl) dX9_say_10 ⟨Nat.zero_le _, Nat.zero_le _⟩ (fun r9 u9 H ll hw h => ?_)
    have hw : r9 = (if 0 < n ∧ 0 ≤ qu ∧ qu ≤ 2 then 1 else 0) := hw
    subst hw
    have h : gW D ct zA zs _ _ (wM ad ct σ τ) := h
    refine bz_ne hx hb (0 < n ∧ 0 ≤ qu ∧ qu ≤ 2) (tgt := 19) dX9_say_13 (by decide) (fun c_13 => ?_) (fun c_13 => ?_)
    · refine lv_iload_n hx hb dX9_say_19 rfl (lv_at hl 3 rfl) ?_
      refine lv_iconst (v := 0) hx hb dX9_say_20 (by decide) ?_
      refine lv_iconst (v := 1) hx hb dX9_say_21 (by decide) ?_
      refine gcallSi C h (kX9_within l D ct x 0 1) (va_cwS 3 C.2.2.2.2 (gInS q817 q818 q66 q819) rfl rfl rfl hdX9_within ⟨Nat.le_of_ble_eq_true rfl, Nat.le_of_ble_eq_true rfl⟩) rfl hl.1 rfl (Nat.le_of_ble_eq_true rfl) dX9_say_22 ⟨Nat.zero_le _, Nat.zero_le _⟩ (fun H ll h => ?_)
      refine bz_eq hx hb (0 ≤ x ∧ x ≤ 1) (tgt := 38) dX9_say_25 (by decide) (fun c_25 => ?_) (fun c_25 => ?_)
      · refine lv_bipush (v := -102) hx hb dX9_say_38 (by decide) ?_
        have h : gW D ct zA zs _ _ (wM ad ct σ τ) := h
        exact hret _ (σ, τ) _ _ _ _ h (by rw [if_neg (fun h9 => h9 ⟨c_5, c_13⟩), if_pos c_25]; exact ⟨rfl, rfl⟩) dX9_say_40
      · obtain ⟨j, hj, rfl⟩ := isM_nat hn8 c_5
        obtain ⟨q, hq, rfl⟩ := sw_nat (n := 2) (by decide) rfl c_13.2
        obtain ⟨k, hk, rfl⟩ := sw_nat (n := 1) (by decide) rfl c_25
        have hcl : (nI j).toNatClampNeg = j := nI_clamp (by omega)
        have hcq : (nI q).toNatClampNeg = q := nI_clamp (by omega)
        rw [hcl, hcq] at hret
        rw [nI_clamp (show k < 2 ^ 31 by omega)] at hret
        refine lv_aload_n hx hb dX9_say_28 rfl (lv_at hl 0 rfl) ?_
        refine lv_iload_n hx hb dX9_say_29 rfl (lv_at hl 1 rfl) ?_
        refine lv_iload_n hx hb dX9_say_30 rfl (lv_at hl 2 rfl) ?_
        refine lv_iload_n hx hb dX9_say_31 rfl (lv_at hl 3 rfl) ?_
        refine gcallVi C h trivial gNo_ok (kX9_sayNow l D ct ad σ τ n c kd hok j q k (by omega) (by omega) (by omega)) (cwV 3 C.2.2.2.2 (gInV q968 q970 q39 q66 q971) rfl rfl rfl hvX9_sayNow ⟨Nat.le_of_ble_eq_true rfl, Nat.le_of_ble_eq_true rfl⟩) 0 (wM_o ad ct σ τ) rfl rfl rfl hl.1 rfl (Nat.le_of_ble_eq_true rfl) dX9_say_32 ⟨Nat.zero_le _, Nat.zero_le _⟩ (fun r9 u9 H ll hw h => ?_)
        have hw : r9 = nI (sayM σ n c kd j q k) := hw
        subst hw
        have h : gW D ct zA zs _ _ (wM ad ct σ τ) := h
        refine lv_goto (tgt := 40) hx hb dX9_say_35 (by decide) ?_
        have h : gW D ct zA zs _ _ (wM ad ct σ τ) := h
        exact hret _ (σ, τ) _ _ _ _ h (by rw [if_neg (fun h9 => h9 ⟨c_5, c_13⟩), if_neg (fun h9 => h9 c_25)]; exact ⟨rfl, rfl⟩) dX9_say_40
    · refine lv_bipush (v := -101) hx hb dX9_say_16 (by decide) ?_
      have h : gW D ct zA zs _ _ (wM ad ct σ τ) := h
      exact hret _ (σ, τ) _ _ _ _ h (by rw [if_pos (fun h9 => c_13 h9.2)]; exact ⟨rfl, rfl⟩) dX9_say_18
set_option maxHeartbeats 1000000 in
set_option maxRecDepth 100000 in
theorem kX9_chance (l : Launch) (D : va_G) (ct : Nat → ClassId) (ad : Nat → Nat) (σ : Nat → Nat → Int32) (τ : Nat → Nat → Int64) (n c : Nat) (kd : Nat → Nat) (hok : MOK σ n c kd) (qu t x : Int32) : MI l yX9_chance (gWs yX9_chance cX9_chance 4 (some .int)) rmX9_chance D ct gNo [.ref (ad 0), .int qu, .int t, .int x] (wM ad ct σ τ) (fun u : (Nat → Nat → Int32) × (Nat → Nat → Int64) => wM ad ct u.1 u.2) (fun r u => if ¬ (0 < n ∧ 0 ≤ qu ∧ qu ≤ 2) then (r = -101 ∧ u = (σ, τ)) else if ¬ ((0 ≤ t ∧ t ≤ 10) ∧ (0 ≤ x ∧ x ≤ 1)) then (r = -102 ∧ u = (σ, τ)) else (r = nI (chM σ n c kd qu.toNatClampNeg t.toNatClampNeg x.toNatClampNeg) ∧ u = (σ, τ))) := by
  refine MI.ofI RX9 rfl (by decide) (Nat.le_of_ble_eq_true rfl) ?_
  intro zp ze zs zm za zb zt zc zA ls zQ C h hX hl hret
  have hx := C.1
  have hb := C.2.1
  have hl : lv_has ls 4 [(0, .ref (ad 0)), (1, .int qu), (2, .int t), (3, .int x)] := hl
  have hok0 := hok
  obtain ⟨hn, hn8, hc, hc8, hkd⟩ := hok0
  refine lv_aload_n hx hb dX9_chance_0 rfl (lv_at hl 0 rfl) ?_
  refine lv_iload_n hx hb dX9_chance_1 rfl (lv_at hl 1 rfl) ?_
  refine gcallVi C h trivial gNo_ok (kX9_isQuestion l D ct ad σ τ n hn hn8 qu) (cwV 1 C.2.2.2.2 (gInV q916 q918 q33 q66 q919) rfl rfl rfl hvX9_isQuestion ⟨Nat.le_of_ble_eq_true rfl, Nat.le_of_ble_eq_true rfl⟩) 0 (wM_o ad ct σ τ) rfl rfl rfl hl.1 rfl (Nat.le_of_ble_eq_true rfl) dX9_chance_2 ⟨Nat.zero_le _, Nat.zero_le _⟩ (fun r9 u9 H ll hw h => ?_)
  have hw : r9 = (if 0 < n ∧ 0 ≤ qu ∧ qu ≤ 2 then 1 else 0) := hw
  subst hw
  have h : gW D ct zA zs _ _ (wM ad ct σ τ) := h
  refine bz_ne hx hb (0 < n ∧ 0 ≤ qu ∧ qu ≤ 2) (tgt := 11) dX9_chance_5 (by decide) (fun c_5 => ?_) (fun c_5 => ?_)
  · refine lv_iload_n hx hb dX9_chance_11 rfl (lv_at hl 2 rfl) ?_
    refine lv_iconst (v := 0) hx hb dX9_chance_12 (by decide) ?_
    refine lv_bipush (v := 10) hx hb dX9_chance_13 (by decide) ?_
    refine gcallSi C h (kX9_within l D ct t 0 10) (va_cwS 3 C.2.2.2.2 (gInS q817 q818 q66 q819) rfl rfl rfl hdX9_within ⟨Nat.le_of_ble_eq_true rfl, Nat.le_of_ble_eq_true rfl⟩) rfl hl.1 rfl (Nat.le_of_ble_eq_true rfl) dX9_chance_15 ⟨Nat.zero_le _, Nat.zero_le _⟩ (fun H ll h => ?_)
    refine bz_eq hx hb (0 ≤ t ∧ t ≤ 10) (tgt := 40) dX9_chance_18 (by decide) (fun c_18 => ?_) (fun c_18 => ?_)
    · refine lv_bipush (v := -102) hx hb dX9_chance_40 (by decide) ?_
      have h : gW D ct zA zs _ _ (wM ad ct σ τ) := h
      exact hret _ (σ, τ) _ _ _ _ h (by rw [if_neg (fun h9 => h9 c_5), if_pos (fun h9 => c_18 h9.1)]; exact ⟨rfl, rfl⟩) dX9_chance_42
    · refine lv_iload_n hx hb dX9_chance_21 rfl (lv_at hl 3 rfl) ?_
      refine lv_iconst (v := 0) hx hb dX9_chance_22 (by decide) ?_
      refine lv_iconst (v := 1) hx hb dX9_chance_23 (by decide) ?_
      refine gcallSi C h (kX9_within l D ct x 0 1) (va_cwS 3 C.2.2.2.2 (gInS q817 q818 q66 q819) rfl rfl rfl hdX9_within ⟨Nat.le_of_ble_eq_true rfl, Nat.le_of_ble_eq_true rfl⟩) rfl hl.1 rfl (Nat.le_of_ble_eq_true rfl) dX9_chance_24 ⟨Nat.zero_le _, Nat.zero_le _⟩ (fun H ll h => ?_)
      refine bz_eq hx hb (0 ≤ x ∧ x ≤ 1) (tgt := 40) dX9_chance_27 (by decide) (fun c_27 => ?_) (fun c_27 => ?_)
      · refine lv_bipush (v := -102) hx hb dX9_chance_40 (by decide) ?_
        have h : gW D ct zA zs _ _ (wM ad ct σ τ) := h
        exact hret _ (σ, τ) _ _ _ _ h (by rw [if_neg (fun h9 => h9 c_5), if_pos (fun h9 => c_27 h9.2)]; exact ⟨rfl, rfl⟩) dX9_chance_42
      · obtain ⟨q, hq, rfl⟩ := sw_nat (n := 2) (by decide) rfl c_5.2
        obtain ⟨tn, htn, rfl⟩ := sw_nat (n := 10) (by decide) rfl c_18
        obtain ⟨k, hk, rfl⟩ := sw_nat (n := 1) (by decide) rfl c_27
        rw [nI_clamp (show q < 2 ^ 31 by omega), nI_clamp (show tn < 2 ^ 31 by omega), nI_clamp (show k < 2 ^ 31 by omega)] at hret
        refine lv_aload_n hx hb dX9_chance_30 rfl (lv_at hl 0 rfl) ?_
        refine lv_iload_n hx hb dX9_chance_31 rfl (lv_at hl 1 rfl) ?_
        refine lv_iload_n hx hb dX9_chance_32 rfl (lv_at hl 2 rfl) ?_
        refine lv_iload_n hx hb dX9_chance_33 rfl (lv_at hl 3 rfl) ?_
        refine gcallVi C h trivial gNo_ok (kX9_chanceNow l D ct ad σ τ n c kd hok q tn k (by omega) (by omega) (by omega)) (cwV 3 C.2.2.2.2 (gInV q989 q991 q41 q66 q992) rfl rfl rfl hvX9_chanceNow ⟨Nat.le_of_ble_eq_true rfl, Nat.le_of_ble_eq_true rfl⟩) 0 (wM_o ad ct σ τ) rfl rfl rfl hl.1 rfl (Nat.le_of_ble_eq_true rfl) dX9_chance_34 ⟨Nat.zero_le _, Nat.zero_le _⟩ (fun r9 u9 H ll hw h => ?_)
        have hw : r9 = nI (chM σ n c kd q tn k) := hw
        subst hw
        have h : gW D ct zA zs _ _ (wM ad ct σ τ) := h
        refine lv_goto (tgt := 42) hx hb dX9_chance_37 (by decide) ?_
        have h : gW D ct zA zs _ _ (wM ad ct σ τ) := h
        exact hret _ (σ, τ) _ _ _ _ h (by rw [if_neg (fun h9 => h9 c_5), if_neg (fun h9 => h9 ⟨c_18, c_27⟩)]; exact ⟨rfl, rfl⟩) dX9_chance_42
  · refine lv_bipush (v := -101) hx hb dX9_chance_8 (by decide) ?_
    have h : gW D ct zA zs _ _ (wM ad ct σ τ) := h
    exact hret _ (σ, τ) _ _ _ _ h (by rw [if_pos c_5]; exact ⟨rfl, rfl⟩) dX9_chance_10
set_option maxHeartbeats 1000000 in
set_option maxRecDepth 100000 in
theorem kX9_cuts (l : Launch) (D : va_G) (ct : Nat → ClassId) (ad : Nat → Nat) (σ : Nat → Nat → Int32) (τ : Nat → Nat → Int64) (n c : Nat) (kd : Nat → Nat) (hok : MOK σ n c kd) (qu o x : Int32) : MI l yX9_cuts (gWs yX9_cuts cX9_cuts 4 (some .int)) rmX9_cuts D ct gNo [.ref (ad 0), .int qu, .int o, .int x] (wM ad ct σ τ) (fun u : (Nat → Nat → Int32) × (Nat → Nat → Int64) => wM ad ct u.1 u.2) (fun r u => if ¬ (0 < n ∧ 0 ≤ qu ∧ qu ≤ 2) then (r = -101 ∧ u = (σ, τ)) else if ¬ ((-1 ≤ o ∧ o ≤ 1) ∧ (0 ≤ x ∧ x ≤ 1)) then (r = -102 ∧ u = (σ, τ)) else (r = toldB (cutB σ n c kd qu.toNatClampNeg o (1 * 2 ^ n)) x.toNatClampNeg ∧ u = (va_up σ 5 (fun _ => nI c), τ))) := by
  refine MI.ofI RX9 rfl (by decide) (Nat.le_of_ble_eq_true rfl) ?_
  intro zp ze zs zm za zb zt zc zA ls zQ C h hX hl hret
  have hx := C.1
  have hb := C.2.1
  have hl : lv_has ls 4 [(0, .ref (ad 0)), (1, .int qu), (2, .int o), (3, .int x)] := hl
  have hok0 := hok
  obtain ⟨hn, hn8, hc, hc8, hkd⟩ := hok0
  have hokc := hok5 hok
  refine lv_aload_n hx hb dX9_cuts_0 rfl (lv_at hl 0 rfl) ?_
  refine lv_iload_n hx hb dX9_cuts_1 rfl (lv_at hl 1 rfl) ?_
  refine gcallVi C h trivial gNo_ok (kX9_isQuestion l D ct ad σ τ n hn hn8 qu) (cwV 1 C.2.2.2.2 (gInV q916 q918 q33 q66 q919) rfl rfl rfl hvX9_isQuestion ⟨Nat.le_of_ble_eq_true rfl, Nat.le_of_ble_eq_true rfl⟩) 0 (wM_o ad ct σ τ) rfl rfl rfl hl.1 rfl (Nat.le_of_ble_eq_true rfl) dX9_cuts_2 ⟨Nat.zero_le _, Nat.zero_le _⟩ (fun r9 u9 H ll hw h => ?_)
  have hw : r9 = (if 0 < n ∧ 0 ≤ qu ∧ qu ≤ 2 then 1 else 0) := hw
  subst hw
  have h : gW D ct zA zs _ _ (wM ad ct σ τ) := h
  refine bz_ne hx hb (0 < n ∧ 0 ≤ qu ∧ qu ≤ 2) (tgt := 11) dX9_cuts_5 (by decide) (fun c_5 => ?_) (fun c_5 => ?_)
  · refine lv_iload_n hx hb dX9_cuts_11 rfl (lv_at hl 2 rfl) ?_
    refine lv_iconst (v := -1) hx hb dX9_cuts_12 (by decide) ?_
    refine lv_iconst (v := 1) hx hb dX9_cuts_13 (by decide) ?_
    refine gcallSi C h (kX9_within l D ct o (-1) 1) (va_cwS 3 C.2.2.2.2 (gInS q817 q818 q66 q819) rfl rfl rfl hdX9_within ⟨Nat.le_of_ble_eq_true rfl, Nat.le_of_ble_eq_true rfl⟩) rfl hl.1 rfl (Nat.le_of_ble_eq_true rfl) dX9_cuts_14 ⟨Nat.zero_le _, Nat.zero_le _⟩ (fun H ll h => ?_)
    refine bz_eq hx hb ((-1) ≤ o ∧ o ≤ 1) (tgt := 39) dX9_cuts_17 (by decide) (fun c_17 => ?_) (fun c_17 => ?_)
    · refine lv_bipush (v := -102) hx hb dX9_cuts_39 (by decide) ?_
      have h : gW D ct zA zs _ _ (wM ad ct σ τ) := h
      exact hret _ (σ, τ) _ _ _ _ h (by rw [if_neg (fun h9 => h9 c_5), if_pos (fun h9 => c_17 h9.1)]; exact ⟨rfl, rfl⟩) dX9_cuts_41
    · refine lv_iload_n hx hb dX9_cuts_20 rfl (lv_at hl 3 rfl) ?_
      refine lv_iconst (v := 0) hx hb dX9_cuts_21 (by decide) ?_
      refine lv_iconst (v := 1) hx hb dX9_cuts_22 (by decide) ?_
      refine gcallSi C h (kX9_within l D ct x 0 1) (va_cwS 3 C.2.2.2.2 (gInS q817 q818 q66 q819) rfl rfl rfl hdX9_within ⟨Nat.le_of_ble_eq_true rfl, Nat.le_of_ble_eq_true rfl⟩) rfl hl.1 rfl (Nat.le_of_ble_eq_true rfl) dX9_cuts_23 ⟨Nat.zero_le _, Nat.zero_le _⟩ (fun H ll h => ?_)
      refine bz_eq hx hb (0 ≤ x ∧ x ≤ 1) (tgt := 39) dX9_cuts_26 (by decide) (fun c_26 => ?_) (fun c_26 => ?_)
      · refine lv_bipush (v := -102) hx hb dX9_cuts_39 (by decide) ?_
        have h : gW D ct zA zs _ _ (wM ad ct σ τ) := h
        exact hret _ (σ, τ) _ _ _ _ h (by rw [if_neg (fun h9 => h9 c_5), if_pos (fun h9 => c_26 h9.2)]; exact ⟨rfl, rfl⟩) dX9_cuts_41
      · obtain ⟨q, hq, rfl⟩ := sw_nat (n := 2) (by decide) rfl c_5.2
        obtain ⟨k, hk, rfl⟩ := sw_nat (n := 1) (by decide) rfl c_26
        rw [nI_clamp (show q < 2 ^ 31 by omega), nI_clamp (show k < 2 ^ 31 by omega)] at hret
        refine lv_aload_n hx hb dX9_cuts_29 rfl (lv_at hl 0 rfl) ?_
        refine lv_iload_n hx hb dX9_cuts_30 rfl (lv_at hl 1 rfl) ?_
        refine lv_iload_n hx hb dX9_cuts_31 rfl (lv_at hl 2 rfl) ?_
        refine lv_iload_n hx hb dX9_cuts_32 rfl (lv_at hl 3 rfl) ?_
        refine gcallVi C h trivial gNo_ok (kX9_cutsNow l D ct ad σ τ n c kd hok q o k (by omega) (by omega)) (cwV 3 C.2.2.2.2 (gInV q997 q999 q42 q66 q1000) rfl rfl rfl hvX9_cutsNow ⟨Nat.le_of_ble_eq_true rfl, Nat.le_of_ble_eq_true rfl⟩) 0 (wM_o ad ct σ τ) rfl rfl rfl hl.1 rfl (Nat.le_of_ble_eq_true rfl) dX9_cuts_33 ⟨Nat.zero_le _, Nat.zero_le _⟩ (fun r9 u9 H ll hw h => ?_)
        obtain ⟨hw, rfl⟩ := hw
        have hw : r9 = toldB (cutB σ n c kd q o (1 * 2 ^ n)) k := hw
        subst hw
        have h : gW D ct zA zs _ _ (wM ad ct (va_up σ 5 (fun _ => nI c)) τ) := h
        refine lv_goto (tgt := 41) hx hb dX9_cuts_36 (by decide) ?_
        have h : gW D ct zA zs _ _ (wM ad ct (va_up σ 5 (fun _ => nI c)) τ) := h
        exact hret _ (va_up σ 5 (fun _ => nI c), τ) _ _ _ _ h (by rw [if_neg (fun h9 => h9 c_5), if_neg (fun h9 => h9 ⟨c_17, c_26⟩)]; exact ⟨rfl, rfl⟩) dX9_cuts_41
  · refine lv_bipush (v := -101) hx hb dX9_cuts_8 (by decide) ?_
    have h : gW D ct zA zs _ _ (wM ad ct σ τ) := h
    exact hret _ (σ, τ) _ _ _ _ h (by rw [if_pos c_5]; exact ⟨rfl, rfl⟩) dX9_cuts_10
set_option maxHeartbeats 1000000 in
set_option maxRecDepth 100000 in
theorem kX9_fewTurns (l : Launch) (D : va_G) (ct : Nat → ClassId) (ad : Nat → Nat) (σ : Nat → Nat → Int32) (τ : Nat → Nat → Int64) (n c : Nat) (kd : Nat → Nat) (hok : MOK σ n c kd) (qu o x : Int32) : MI l yX9_fewTurns (gWs yX9_fewTurns cX9_fewTurns 4 (some .int)) rmX9_fewTurns D ct gNo [.ref (ad 0), .int qu, .int o, .int x] (wM ad ct σ τ) (fun u : (Nat → Nat → Int32) × (Nat → Nat → Int64) => wM ad ct u.1 u.2) (fun r u => if ¬ (0 < n ∧ 0 ≤ qu ∧ qu ≤ 2) then (r = -101 ∧ u = (σ, τ)) else if ¬ ((-1 ≤ o ∧ o ≤ 1) ∧ (0 ≤ x ∧ x ≤ 1)) then (r = -102 ∧ u = (σ, τ)) else if σ 9 0 = 20 then (r = -103 ∧ u = (σ, τ)) else (r = toldB (turnB σ n c kd qu.toNatClampNeg o (3 ^ n)) x.toNatClampNeg ∧ u = (va_up (va_up (va_up σ 9 (fun _ => σ 9 0 + 1)) 19 (σ 4)) 4 (σ 4), τ))) := by
  refine MI.ofI RX9 rfl (by decide) (Nat.le_of_ble_eq_true rfl) ?_
  intro zp ze zs zm za zb zt zc zA ls zQ C h hX hl hret
  have hx := C.1
  have hb := C.2.1
  have hl : lv_has ls 4 [(0, .ref (ad 0)), (1, .int qu), (2, .int o), (3, .int x)] := hl
  have hok0 := hok
  obtain ⟨hn, hn8, hc, hc8, hkd⟩ := hok0
  refine lv_aload_n hx hb dX9_fewTurns_0 rfl (lv_at hl 0 rfl) ?_
  refine lv_iload_n hx hb dX9_fewTurns_1 rfl (lv_at hl 1 rfl) ?_
  refine gcallVi C h trivial gNo_ok (kX9_isQuestion l D ct ad σ τ n hn hn8 qu) (cwV 1 C.2.2.2.2 (gInV q916 q918 q33 q66 q919) rfl rfl rfl hvX9_isQuestion ⟨Nat.le_of_ble_eq_true rfl, Nat.le_of_ble_eq_true rfl⟩) 0 (wM_o ad ct σ τ) rfl rfl rfl hl.1 rfl (Nat.le_of_ble_eq_true rfl) dX9_fewTurns_2 ⟨Nat.zero_le _, Nat.zero_le _⟩ (fun r9 u9 H ll hw h => ?_)
  have hw : r9 = (if 0 < n ∧ 0 ≤ qu ∧ qu ≤ 2 then 1 else 0) := hw
  subst hw
  have h : gW D ct zA zs _ _ (wM ad ct σ τ) := h
  refine bz_ne hx hb (0 < n ∧ 0 ≤ qu ∧ qu ≤ 2) (tgt := 11) dX9_fewTurns_5 (by decide) (fun c_5 => ?_) (fun c_5 => ?_)
  · refine lv_iload_n hx hb dX9_fewTurns_11 rfl (lv_at hl 2 rfl) ?_
    refine lv_iconst (v := -1) hx hb dX9_fewTurns_12 (by decide) ?_
    refine lv_iconst (v := 1) hx hb dX9_fewTurns_13 (by decide) ?_
    refine gcallSi C h (kX9_within l D ct o (-1) 1) (va_cwS 3 C.2.2.2.2 (gInS q817 q818 q66 q819) rfl rfl rfl hdX9_within ⟨Nat.le_of_ble_eq_true rfl, Nat.le_of_ble_eq_true rfl⟩) rfl hl.1 rfl (Nat.le_of_ble_eq_true rfl) dX9_fewTurns_14 ⟨Nat.zero_le _, Nat.zero_le _⟩ (fun H ll h => ?_)
    refine bz_eq hx hb ((-1) ≤ o ∧ o ≤ 1) (tgt := 29) dX9_fewTurns_17 (by decide) (fun c_17 => ?_) (fun c_17 => ?_)
    · refine lv_bipush (v := -102) hx hb dX9_fewTurns_29 (by decide) ?_
      have h : gW D ct zA zs _ _ (wM ad ct σ τ) := h
      exact hret _ (σ, τ) _ _ _ _ h (by rw [if_neg (fun h9 => h9 c_5), if_pos (fun h9 => c_17 h9.1)]; exact ⟨rfl, rfl⟩) dX9_fewTurns_31
    · refine lv_iload_n hx hb dX9_fewTurns_20 rfl (lv_at hl 3 rfl) ?_
      refine lv_iconst (v := 0) hx hb dX9_fewTurns_21 (by decide) ?_
      refine lv_iconst (v := 1) hx hb dX9_fewTurns_22 (by decide) ?_
      refine gcallSi C h (kX9_within l D ct x 0 1) (va_cwS 3 C.2.2.2.2 (gInS q817 q818 q66 q819) rfl rfl rfl hdX9_within ⟨Nat.le_of_ble_eq_true rfl, Nat.le_of_ble_eq_true rfl⟩) rfl hl.1 rfl (Nat.le_of_ble_eq_true rfl) dX9_fewTurns_23 ⟨Nat.zero_le _, Nat.zero_le _⟩ (fun H ll h => ?_)
      refine bz_ne hx hb (0 ≤ x ∧ x ≤ 1) (tgt := 32) dX9_fewTurns_26 (by decide) (fun c_26 => ?_) (fun c_26 => ?_)
      · obtain ⟨q, hq, rfl⟩ := sw_nat (n := 2) (by decide) rfl c_5.2
        obtain ⟨k, hk, rfl⟩ := sw_nat (n := 1) (by decide) rfl c_26
        rw [nI_clamp (show q < 2 ^ 31 by omega), nI_clamp (show k < 2 ^ 31 by omega)] at hret
        refine lv_aload_n hx hb dX9_fewTurns_32 rfl (lv_at hl 0 rfl) ?_
        refine mg_asks C h dX9_fewTurns_33 ?_
        refine lv_bipush (v := 20) hx hb dX9_fewTurns_36 (by decide) ?_
        refine lv_icmp_ne (tgt := 44) hx hb dX9_fewTurns_38 (by decide) (fun c_38 => ?_) (fun c_38 => ?_)
        · refine lv_aload_n hx hb dX9_fewTurns_44 rfl (lv_at hl 0 rfl) ?_
          refine lv_dup hx hb dX9_fewTurns_45 rfl ?_
          refine mg_asks C h dX9_fewTurns_46 ?_
          refine lv_iconst (v := 1) hx hb dX9_fewTurns_49 (by decide) ?_
          refine lv_iadd hx hb dX9_fewTurns_50 ?_
          refine mp_asks C h dX9_fewTurns_51 (fun H ll h => ?_)
          refine lv_aload_n hx hb dX9_fewTurns_54 rfl (lv_at hl 0 rfl) ?_
          refine lv_iload_n hx hb dX9_fewTurns_55 rfl (lv_at hl 1 rfl) ?_
          refine lv_iload_n hx hb dX9_fewTurns_56 rfl (lv_at hl 2 rfl) ?_
          refine lv_iload_n hx hb dX9_fewTurns_57 rfl (lv_at hl 3 rfl) ?_
          refine gcallVi C h trivial gNo_ok (kX9_turnsNow l D ct ad (va_up σ 9 (fun _ => (σ 9 0) + 1)) τ n c kd hok q o k (by omega) (by omega)) (cwV 3 C.2.2.2.2 (gInV q1005 q1007 q43 q66 q1008) rfl rfl rfl hvX9_turnsNow ⟨Nat.le_of_ble_eq_true rfl, Nat.le_of_ble_eq_true rfl⟩) 0 (wM_o ad ct (va_up σ 9 (fun _ => (σ 9 0) + 1)) τ) rfl rfl rfl hl.1 rfl (Nat.le_of_ble_eq_true rfl) dX9_fewTurns_58 ⟨Nat.zero_le _, Nat.zero_le _⟩ (fun r9 u9 H ll hw h => ?_)
          obtain ⟨hw, rfl⟩ := hw
          have hw : r9 = toldB (turnB σ n c kd q o (3 ^ n)) k := hw.trans (congrArg (fun b => toldB b _) (turnB_congr (σ := σ) (ρ := va_up σ 9 (fun _ => (σ 9 0) + 1)) rfl rfl _ _ _ _ _ _))
          subst hw
          have h : gW D ct zA zs _ _ (wM ad ct (va_up (va_up (va_up σ 9 (fun _ => (σ 9 0) + 1)) 19 (σ 4)) 4 (σ 4)) τ) := h
          have h : gW D ct zA zs _ _ (wM ad ct (va_up (va_up (va_up σ 9 (fun _ => σ 9 0 + 1)) 19 (σ 4)) 4 (σ 4)) τ) := h
          exact hret _ (va_up (va_up (va_up σ 9 (fun _ => σ 9 0 + 1)) 19 (σ 4)) 4 (σ 4), τ) _ _ _ _ h (by rw [if_neg (fun h9 => h9 c_5), if_neg (fun h9 => h9 ⟨c_17, c_26⟩), if_neg c_38]; exact ⟨rfl, rfl⟩) dX9_fewTurns_61
        · refine lv_bipush (v := -103) hx hb dX9_fewTurns_41 (by decide) ?_
          have h : gW D ct zA zs _ _ (wM ad ct σ τ) := h
          exact hret _ (σ, τ) _ _ _ _ h (by rw [if_neg (fun h9 => h9 c_5), if_neg (fun h9 => h9 ⟨c_17, c_26⟩), if_pos c_38]; exact ⟨rfl, rfl⟩) dX9_fewTurns_43
      · refine lv_bipush (v := -102) hx hb dX9_fewTurns_29 (by decide) ?_
        have h : gW D ct zA zs _ _ (wM ad ct σ τ) := h
        exact hret _ (σ, τ) _ _ _ _ h (by rw [if_neg (fun h9 => h9 c_5), if_pos (fun h9 => c_26 h9.2)]; exact ⟨rfl, rfl⟩) dX9_fewTurns_31
  · refine lv_bipush (v := -101) hx hb dX9_fewTurns_8 (by decide) ?_
    have h : gW D ct zA zs _ _ (wM ad ct σ τ) := h
    exact hret _ (σ, τ) _ _ _ _ h (by rw [if_pos c_5]; exact ⟨rfl, rfl⟩) dX9_fewTurns_10
set_option maxHeartbeats 1000000 in
set_option maxRecDepth 100000 in
theorem kX9_settle (l : Launch) (D : va_G) (ct : Nat → ClassId) (ad : Nat → Nat) (σ : Nat → Nat → Int32) (τ : Nat → Nat → Int64) (n c : Nat) (kd : Nat → Nat) (hok : MOK σ n c kd) (x : Int32) : MI l yX9_settle (gWs yX9_settle cX9_settle 2 (some .int)) rmX9_settle D ct gNo [.ref (ad 0), .int x] (wM ad ct σ τ) (fun u : (Nat → Nat → Int32) × (Nat → Nat → Int64) => wM ad ct u.1 u.2) (fun r u => if ¬ (0 ≤ x ∧ x ≤ 1) then (r = -102 ∧ u = (σ, τ)) else if n = 0 then (r = -103 ∧ u = (σ, τ)) else (r = stlR (hsM σ n c kd) x.toNatClampNeg ∧ ∃ (g18 : Nat → Int32) (g20 : Nat → Int64), u = (va_up (va_up (va_up σ 18 g18) 19 (σ 4)) 4 (σ 4), va_up τ 20 g20))) := by
  refine MI.ofI RX9 rfl (by decide) (Nat.le_of_ble_eq_true rfl) ?_
  intro zp ze zs zm za zb zt zc zA ls zQ C h hX hl hret
  have hx := C.1
  have hb := C.2.1
  have hl : lv_has ls 2 [(0, .ref (ad 0)), (1, .int x)] := hl
  have hok0 := hok
  obtain ⟨hn, hn8, hc, hc8, hkd⟩ := hok0
  refine lv_iload_n hx hb dX9_settle_0 rfl (lv_at hl 1 rfl) ?_
  refine lv_iconst (v := 0) hx hb dX9_settle_1 (by decide) ?_
  refine lv_iconst (v := 1) hx hb dX9_settle_2 (by decide) ?_
  refine gcallSi C h (kX9_within l D ct x 0 1) (va_cwS 3 C.2.2.2.2 (gInS q817 q818 q66 q819) rfl rfl rfl hdX9_within ⟨Nat.le_of_ble_eq_true rfl, Nat.le_of_ble_eq_true rfl⟩) rfl hl.1 rfl (Nat.le_of_ble_eq_true rfl) dX9_settle_3 ⟨Nat.zero_le _, Nat.zero_le _⟩ (fun H ll h => ?_)
  refine bz_ne hx hb (0 ≤ x ∧ x ≤ 1) (tgt := 12) dX9_settle_6 (by decide) (fun c_6 => ?_) (fun c_6 => ?_)
  · refine lv_aload_n hx hb dX9_settle_12 rfl (lv_at hl 0 rfl) ?_
    refine mg_mussels C h dX9_settle_13 ?_
    refine gas hn ?_
    refine nz_ne hx hb n (by omega) (tgt := 24) dX9_settle_16 (by decide) (fun c_16 => ?_) (fun c_16 => ?_)
    · obtain ⟨k, hk, rfl⟩ := sw_nat (n := 1) (by decide) rfl c_6
      rw [nI_clamp (show k < 2 ^ 31 by omega)] at hret
      refine lv_aload_n hx hb dX9_settle_24 rfl (lv_at hl 0 rfl) ?_
      refine lv_iload_n hx hb dX9_settle_25 rfl (lv_at hl 1 rfl) ?_
      refine gcallVi C h trivial gNo_ok (kX9_settleNow l D ct ad σ τ n c kd hok k (by omega)) (cwV 1 C.2.2.2.2 (gInV q1025 q1027 q47 q66 q1028) rfl rfl rfl hvX9_settleNow ⟨Nat.le_of_ble_eq_true rfl, Nat.le_of_ble_eq_true rfl⟩) 0 (wM_o ad ct σ τ) rfl rfl rfl hl.1 rfl (Nat.le_of_ble_eq_true rfl) dX9_settle_26 ⟨Nat.zero_le _, Nat.zero_le _⟩ (fun r9 u9 H ll hw h => ?_)
      obtain ⟨hw, g18_1, g20_1, rfl⟩ := hw
      have hw : r9 = stlR (hsM σ n c kd) k := hw
      subst hw
      have h : gW D ct zA zs _ _ (wM ad ct (va_up (va_up (va_up σ 18 g18_1) 19 (σ 4)) 4 (σ 4)) (va_up τ 20 g20_1)) := h
      have h : gW D ct zA zs _ _ (wM ad ct (va_up (va_up (va_up σ 18 g18_1) 19 (σ 4)) 4 (σ 4)) (va_up τ 20 g20_1)) := h
      exact hret _ (va_up (va_up (va_up σ 18 g18_1) 19 (σ 4)) 4 (σ 4), va_up τ 20 g20_1) _ _ _ _ h (by rw [if_neg (fun h9 => h9 c_6), if_neg c_16]; exact ⟨rfl, g18_1, g20_1, rfl⟩) dX9_settle_29
    · refine lv_bipush (v := -103) hx hb dX9_settle_19 (by decide) ?_
      refine lv_goto (tgt := 29) hx hb dX9_settle_21 (by decide) ?_
      have h : gW D ct zA zs _ _ (wM ad ct σ τ) := h
      exact hret _ (σ, τ) _ _ _ _ h (by rw [if_neg (fun h9 => h9 c_6), if_pos c_16]; exact ⟨rfl, rfl⟩) dX9_settle_29
  · refine lv_bipush (v := -102) hx hb dX9_settle_9 (by decide) ?_
    have h : gW D ct zA zs _ _ (wM ad ct σ τ) := h
    exact hret _ (σ, τ) _ _ _ _ h (by rw [if_pos c_6]; exact ⟨rfl, rfl⟩) dX9_settle_11
set_option maxHeartbeats 1000000 in
set_option maxRecDepth 100000 in
theorem kX9_see (l : Launch) (D : va_G) (ct : Nat → ClassId) (ad : Nat → Nat) (σ : Nat → Nat → Int32) (τ : Nat → Nat → Int64) (n c : Nat) (kd : Nat → Nat) (hok : MOK σ n c kd) (sn : Nat) (hsn : σ 10 0 = nI sn) (hsn6 : sn ≤ 6) (mu qu x : Int32) : MI l yX9_see (gWs yX9_see cX9_see 4 (some .int)) rmX9_see D ct gNo [.ref (ad 0), .int mu, .int qu, .int x] (wM ad ct σ τ) (fun u : (Nat → Nat → Int32) × (Nat → Nat → Int64) => wM ad ct u.1 u.2) (fun r u => if ¬ ((0 ≤ mu ∧ mu ≤ nI n - 1) ∧ (0 < n ∧ 0 ≤ qu ∧ qu ≤ 2)) then (r = -101 ∧ u = (σ, τ)) else if ¬ (0 ≤ x ∧ x ≤ 400) then (r = -102 ∧ u = (σ, τ)) else if sn = 6 then (r = -104 ∧ u = (σ, τ)) else (r = nI (sn + 1) ∧ u = (va_up (va_up (va_up (va_up σ 11 (upd (σ 11) sn mu)) 12 (upd (σ 12) sn qu)) 13 (upd (σ 13) sn x)) 10 (fun _ => nI (sn + 1)), τ))) := by
  refine MI.ofI RX9 rfl (by decide) (Nat.le_of_ble_eq_true rfl) ?_
  intro zp ze zs zm za zb zt zc zA ls zQ C h hX hl hret
  have hx := C.1
  have hb := C.2.1
  have hl : lv_has ls 4 [(0, .ref (ad 0)), (1, .int mu), (2, .int qu), (3, .int x)] := hl
  have hok0 := hok
  obtain ⟨hn, hn8, hc, hc8, hkd⟩ := hok0
  refine lv_aload_n hx hb dX9_see_0 rfl (lv_at hl 0 rfl) ?_
  refine lv_iload_n hx hb dX9_see_1 rfl (lv_at hl 1 rfl) ?_
  refine gcallVi C h trivial gNo_ok (kX9_isMussel l D ct ad σ τ n hn hn8 mu) (cwV 1 C.2.2.2.2 (gInV q854 q856 q22 q66 q857) rfl rfl rfl hvX9_isMussel ⟨Nat.le_of_ble_eq_true rfl, Nat.le_of_ble_eq_true rfl⟩) 0 (wM_o ad ct σ τ) rfl rfl rfl hl.1 rfl (Nat.le_of_ble_eq_true rfl) dX9_see_2 ⟨Nat.zero_le _, Nat.zero_le _⟩ (fun r9 u9 H ll hw h => ?_)
  have hw : r9 = (if 0 ≤ mu ∧ mu ≤ nI n - 1 then 1 else 0) := hw
  subst hw
  have h : gW D ct zA zs _ _ (wM ad ct σ τ) := h
  refine bz_eq hx hb (0 ≤ mu ∧ mu ≤ nI n - 1) (tgt := 16) dX9_see_5 (by decide) (fun c_5 => ?_) (fun c_5 => ?_)
  · refine lv_bipush (v := -101) hx hb dX9_see_16 (by decide) ?_
    have h : gW D ct zA zs _ _ (wM ad ct σ τ) := h
    exact hret _ (σ, τ) _ _ _ _ h (by rw [if_pos (fun h9 => c_5 h9.1)]; exact ⟨rfl, rfl⟩) dX9_see_18
  · refine lv_aload_n hx hb dX9_see_8 rfl (lv_at hl 0 rfl) ?_
    refine lv_iload_n hx hb dX9_see_9 rfl (lv_at hl 2 rfl) ?_
    refine gcallVi C h trivial gNo_ok (kX9_isQuestion l D ct ad σ τ n hn hn8 qu) (cwV 1 C.2.2.2.2 (gInV q916 q918 q33 q66 q919) rfl rfl rfl hvX9_isQuestion ⟨Nat.le_of_ble_eq_true rfl, Nat.le_of_ble_eq_true rfl⟩) 0 (wM_o ad ct σ τ) rfl rfl rfl hl.1 rfl (Nat.le_of_ble_eq_true rfl) dX9_see_10 ⟨Nat.zero_le _, Nat.zero_le _⟩ (fun r9 u9 H ll hw h => ?_)
    have hw : r9 = (if 0 < n ∧ 0 ≤ qu ∧ qu ≤ 2 then 1 else 0) := hw
    subst hw
    have h : gW D ct zA zs _ _ (wM ad ct σ τ) := h
    refine bz_ne hx hb (0 < n ∧ 0 ≤ qu ∧ qu ≤ 2) (tgt := 19) dX9_see_13 (by decide) (fun c_13 => ?_) (fun c_13 => ?_)
    · refine lv_iload_n hx hb dX9_see_19 rfl (lv_at hl 3 rfl) ?_
      refine lv_iconst (v := 0) hx hb dX9_see_20 (by decide) ?_
      refine lv_sipush (v := 400) hx hb dX9_see_21 (by decide) ?_
      refine gcallSi C h (kX9_within l D ct x 0 400) (va_cwS 3 C.2.2.2.2 (gInS q817 q818 q66 q819) rfl rfl rfl hdX9_within ⟨Nat.le_of_ble_eq_true rfl, Nat.le_of_ble_eq_true rfl⟩) rfl hl.1 rfl (Nat.le_of_ble_eq_true rfl) dX9_see_24 ⟨Nat.zero_le _, Nat.zero_le _⟩ (fun H ll h => ?_)
      refine bz_ne hx hb (0 ≤ x ∧ x ≤ 400) (tgt := 33) dX9_see_27 (by decide) (fun c_27 => ?_) (fun c_27 => ?_)
      · refine lv_aload_n hx hb dX9_see_33 rfl (lv_at hl 0 rfl) ?_
        refine mg_seen C h dX9_see_34 ?_
        refine gas hsn ?_
        refine lv_bipush (v := 6) hx hb dX9_see_37 (by decide) ?_
        refine nb_ne hx hb sn 6 (by omega) (by omega) (tgt := 45) dX9_see_39 (by decide) (fun c_39 => ?_) (fun c_39 => ?_)
        · refine lv_aload_n hx hb dX9_see_45 rfl (lv_at hl 0 rfl) ?_
          refine mg_seenMussel C h dX9_see_46 ?_
          refine lv_aload_n hx hb dX9_see_49 rfl (lv_at hl 0 rfl) ?_
          refine mg_seen C h dX9_see_50 ?_
          refine gas hsn ?_
          refine lv_iload_n hx hb dX9_see_53 rfl (lv_at hl 1 rfl) ?_
          refine ms_seenMussel C h (j := sn) (by omega) dX9_see_54 (fun H ll h => ?_)
          refine lv_aload_n hx hb dX9_see_55 rfl (lv_at hl 0 rfl) ?_
          refine mg_seenQuestion C h dX9_see_56 ?_
          refine lv_aload_n hx hb dX9_see_59 rfl (lv_at hl 0 rfl) ?_
          refine mg_seen C h dX9_see_60 ?_
          refine gas hsn ?_
          refine lv_iload_n hx hb dX9_see_63 rfl (lv_at hl 2 rfl) ?_
          refine ms_seenQuestion C h (j := sn) (by omega) dX9_see_64 (fun H ll h => ?_)
          refine lv_aload_n hx hb dX9_see_65 rfl (lv_at hl 0 rfl) ?_
          refine mg_seenSum C h dX9_see_66 ?_
          refine lv_aload_n hx hb dX9_see_69 rfl (lv_at hl 0 rfl) ?_
          refine mg_seen C h dX9_see_70 ?_
          refine gas hsn ?_
          refine lv_iload_n hx hb dX9_see_73 rfl (lv_at hl 3 rfl) ?_
          refine ms_seenSum C h (j := sn) (by omega) dX9_see_74 (fun H ll h => ?_)
          refine lv_aload_n hx hb dX9_see_75 rfl (lv_at hl 0 rfl) ?_
          refine lv_dup hx hb dX9_see_76 rfl ?_
          refine mg_seen C h dX9_see_77 ?_
          refine gas hsn ?_
          refine lv_iconst (v := 1) hx hb dX9_see_80 (by decide) ?_
          refine nadd hx hb sn 1 dX9_see_81 ?_
          refine mp_seen C h dX9_see_82 (fun H ll h => ?_)
          refine lv_aload_n hx hb dX9_see_85 rfl (lv_at hl 0 rfl) ?_
          refine mg_seen C h dX9_see_86 ?_
          have h : gW D ct zA zs _ _ (wM ad ct (va_up (va_up (va_up (va_up σ 11 (upd (σ 11) sn mu)) 12 (upd (σ 12) sn qu)) 13 (upd (σ 13) sn x)) 10 (fun _ => nI (sn + 1))) τ) := h
          exact hret _ (va_up (va_up (va_up (va_up σ 11 (upd (σ 11) sn mu)) 12 (upd (σ 12) sn qu)) 13 (upd (σ 13) sn x)) 10 (fun _ => nI (sn + 1)), τ) _ _ _ _ h (by rw [if_neg (fun h9 => h9 ⟨c_5, c_13⟩), if_neg (fun h9 => h9 c_27), if_neg c_39]; exact ⟨rfl, rfl⟩) dX9_see_89
        · refine lv_bipush (v := -104) hx hb dX9_see_42 (by decide) ?_
          have h : gW D ct zA zs _ _ (wM ad ct σ τ) := h
          exact hret _ (σ, τ) _ _ _ _ h (by rw [if_neg (fun h9 => h9 ⟨c_5, c_13⟩), if_neg (fun h9 => h9 c_27), if_pos c_39]; exact ⟨rfl, rfl⟩) dX9_see_44
      · refine lv_bipush (v := -102) hx hb dX9_see_30 (by decide) ?_
        have h : gW D ct zA zs _ _ (wM ad ct σ τ) := h
        exact hret _ (σ, τ) _ _ _ _ h (by rw [if_neg (fun h9 => h9 ⟨c_5, c_13⟩), if_pos c_27]; exact ⟨rfl, rfl⟩) dX9_see_32
    · refine lv_bipush (v := -101) hx hb dX9_see_16 (by decide) ?_
      have h : gW D ct zA zs _ _ (wM ad ct σ τ) := h
      exact hret _ (σ, τ) _ _ _ _ h (by rw [if_pos (fun h9 => c_13 h9.2)]; exact ⟨rfl, rfl⟩) dX9_see_18
set_option maxHeartbeats 1000000 in
set_option maxRecDepth 100000 in
theorem kX9_forget (l : Launch) (D : va_G) (ct : Nat → ClassId) (ad : Nat → Nat) (σ : Nat → Nat → Int32) (τ : Nat → Nat → Int64) (n c : Nat) (kd : Nat → Nat) (hok : MOK σ n c kd) (sn : Nat) (hsn : σ 10 0 = nI sn) (hsn6 : sn ≤ 6)  : MI l yX9_forget (gWs yX9_forget cX9_forget 2 (some .int)) rmX9_forget D ct gNo [.ref (ad 0)] (wM ad ct σ τ) (fun u : (Nat → Nat → Int32) × (Nat → Nat → Int64) => wM ad ct u.1 u.2) (fun r u => (r = nI sn ∧ u = (va_up σ 10 (fun _ => 0), τ))) := by
  refine MI.ofI RX9 rfl (by decide) (Nat.le_of_ble_eq_true rfl) ?_
  intro zp ze zs zm za zb zt zc zA ls zQ C h hX hl hret
  have hx := C.1
  have hb := C.2.1
  have hl : lv_has ls 2 [(0, .ref (ad 0))] := hl
  have hok0 := hok
  obtain ⟨hn, hn8, hc, hc8, hkd⟩ := hok0
  refine lv_aload_n hx hb dX9_forget_0 rfl (lv_at hl 0 rfl) ?_
  refine mg_seen C h dX9_forget_1 ?_
  refine gas hsn ?_
  refine lv_istore_n (lv' := [(1, .int (nI sn)), (0, .ref (ad 0))]) hx hb dX9_forget_4 rfl hl (by decide) rfl (fun ls hl => ?_)
  refine lv_aload_n hx hb dX9_forget_5 rfl (lv_at hl 1 rfl) ?_
  refine lv_iconst (v := 0) hx hb dX9_forget_6 (by decide) ?_
  refine mp_seen C h dX9_forget_7 (fun H ll h => ?_)
  refine lv_iload_n hx hb dX9_forget_10 rfl (lv_at hl 0 rfl) ?_
  have h : gW D ct zA zs _ _ (wM ad ct (va_up σ 10 (fun _ => 0)) τ) := h
  exact hret _ (va_up σ 10 (fun _ => 0), τ) _ _ _ _ h ⟨rfl, rfl⟩ dX9_forget_11
set_option maxHeartbeats 1000000 in
set_option maxRecDepth 100000 in
theorem kX9_tides (l : Launch) (D : va_G) (ct : Nat → ClassId) (ad : Nat → Nat) (σ : Nat → Nat → Int32) (τ : Nat → Nat → Int64) (n c : Nat) (kd : Nat → Nat) (hok : MOK σ n c kd) (tm sd x : Int32) : MI l yX9_tides (gWs yX9_tides cX9_tides 4 (some .int)) rmX9_tides D ct gNo [.ref (ad 0), .int tm, .int sd, .int x] (wM ad ct σ τ) (fun u : (Nat → Nat → Int32) × (Nat → Nat → Int64) => wM ad ct u.1 u.2) (fun r u => if ¬ ((1 ≤ tm ∧ tm ≤ 60) ∧ ¬ sd < 0 ∧ (0 ≤ x ∧ x ≤ 2)) then (r = -102 ∧ u = (σ, τ)) else if n = 0 then (r = -103 ∧ u = (σ, τ)) else (r = tsR σ n c kd tm.toNatClampNeg sd.toNatClampNeg x.toNatClampNeg ∧ ∃ (g18 : Nat → Int32) (g22 : Int64), u = (va_up (va_up (va_up σ 23 (σ 4)) 18 g18) 4 (σ 4), va_up τ 22 (fun _ => g22)))) := by
  refine MI.ofI RX9 rfl (by decide) (Nat.le_of_ble_eq_true rfl) ?_
  intro zp ze zs zm za zb zt zc zA ls zQ C h hX hl hret
  have hx := C.1
  have hb := C.2.1
  have hl : lv_has ls 4 [(0, .ref (ad 0)), (1, .int tm), (2, .int sd), (3, .int x)] := hl
  have hok0 := hok
  obtain ⟨hn, hn8, hc, hc8, hkd⟩ := hok0
  refine lv_iload_n hx hb dX9_tides_0 rfl (lv_at hl 1 rfl) ?_
  refine lv_iconst (v := 1) hx hb dX9_tides_1 (by decide) ?_
  refine lv_bipush (v := 60) hx hb dX9_tides_2 (by decide) ?_
  refine gcallSi C h (kX9_within l D ct tm 1 60) (va_cwS 3 C.2.2.2.2 (gInS q817 q818 q66 q819) rfl rfl rfl hdX9_within ⟨Nat.le_of_ble_eq_true rfl, Nat.le_of_ble_eq_true rfl⟩) rfl hl.1 rfl (Nat.le_of_ble_eq_true rfl) dX9_tides_4 ⟨Nat.zero_le _, Nat.zero_le _⟩ (fun H ll h => ?_)
  refine bz_eq hx hb (1 ≤ tm ∧ tm ≤ 60) (tgt := 23) dX9_tides_7 (by decide) (fun c_7 => ?_) (fun c_7 => ?_)
  · refine lv_bipush (v := -102) hx hb dX9_tides_23 (by decide) ?_
    have h : gW D ct zA zs _ _ (wM ad ct σ τ) := h
    exact hret _ (σ, τ) _ _ _ _ h (by rw [if_pos (fun h9 => c_7 h9.1)]; exact ⟨rfl, rfl⟩) dX9_tides_25
  · refine lv_iload_n hx hb dX9_tides_10 rfl (lv_at hl 2 rfl) ?_
    refine lv_if_lt (tgt := 23) hx hb dX9_tides_11 (by decide) (fun c_11 => ?_) (fun c_11 => ?_)
    · refine lv_bipush (v := -102) hx hb dX9_tides_23 (by decide) ?_
      have h : gW D ct zA zs _ _ (wM ad ct σ τ) := h
      exact hret _ (σ, τ) _ _ _ _ h (by rw [if_pos (fun h9 => h9.2.1 c_11)]; exact ⟨rfl, rfl⟩) dX9_tides_25
    · refine lv_iload_n hx hb dX9_tides_14 rfl (lv_at hl 3 rfl) ?_
      refine lv_iconst (v := 0) hx hb dX9_tides_15 (by decide) ?_
      refine lv_iconst (v := 2) hx hb dX9_tides_16 (by decide) ?_
      refine gcallSi C h (kX9_within l D ct x 0 2) (va_cwS 3 C.2.2.2.2 (gInS q817 q818 q66 q819) rfl rfl rfl hdX9_within ⟨Nat.le_of_ble_eq_true rfl, Nat.le_of_ble_eq_true rfl⟩) rfl hl.1 rfl (Nat.le_of_ble_eq_true rfl) dX9_tides_17 ⟨Nat.zero_le _, Nat.zero_le _⟩ (fun H ll h => ?_)
      refine bz_ne hx hb (0 ≤ x ∧ x ≤ 2) (tgt := 26) dX9_tides_20 (by decide) (fun c_20 => ?_) (fun c_20 => ?_)
      · refine lv_aload_n hx hb dX9_tides_26 rfl (lv_at hl 0 rfl) ?_
        refine mg_mussels C h dX9_tides_27 ?_
        refine gas hn ?_
        refine nz_ne hx hb n (by omega) (tgt := 38) dX9_tides_30 (by decide) (fun c_30 => ?_) (fun c_30 => ?_)
        · obtain ⟨t1, ht1, rfl⟩ := nat60 c_7
          obtain ⟨t2, ht2, rfl⟩ := nI_of c_11
          obtain ⟨t3, ht3, rfl⟩ := sw_nat (n := 2) (by decide) rfl c_20
          rw [nI_clamp (show t1 < 2 ^ 31 by omega), nI_clamp (show t2 < 2 ^ 31 by omega), nI_clamp (show t3 < 2 ^ 31 by omega)] at hret
          refine lv_aload_n hx hb dX9_tides_38 rfl (lv_at hl 0 rfl) ?_
          refine lv_iload_n hx hb dX9_tides_39 rfl (lv_at hl 1 rfl) ?_
          refine lv_iload_n hx hb dX9_tides_40 rfl (lv_at hl 2 rfl) ?_
          refine lv_iload_n hx hb dX9_tides_41 rfl (lv_at hl 3 rfl) ?_
          refine gcallVi C h trivial gNo_ok (kX9_tidesNow l D ct ad σ τ n c kd hok t1 t2 t3 (by omega) (by omega) (by omega) (by omega)) (cwV 3 C.2.2.2.2 (gInV q1046 q1048 q49 q66 q1049) rfl rfl rfl hvX9_tidesNow ⟨Nat.le_of_ble_eq_true rfl, Nat.le_of_ble_eq_true rfl⟩) 0 (wM_o ad ct σ τ) rfl rfl rfl hl.1 rfl (Nat.le_of_ble_eq_true rfl) dX9_tides_42 ⟨Nat.zero_le _, Nat.zero_le _⟩ (fun r9 u9 H ll hw h => ?_)
          obtain ⟨hw, g18_1, g22_1, rfl⟩ := hw
          have hw : r9 = tsR σ n c kd t1 t2 t3 := hw
          subst hw
          have h : gW D ct zA zs _ _ (wM ad ct (va_up (va_up (va_up σ 23 (σ 4)) 18 g18_1) 4 (σ 4)) (va_up τ 22 (fun _ => g22_1))) := h
          have h : gW D ct zA zs _ _ (wM ad ct (va_up (va_up (va_up σ 23 (σ 4)) 18 g18_1) 4 (σ 4)) (va_up τ 22 (fun _ => g22_1))) := h
          exact hret _ (va_up (va_up (va_up σ 23 (σ 4)) 18 g18_1) 4 (σ 4), va_up τ 22 (fun _ => g22_1)) _ _ _ _ h (by rw [if_neg (fun h9 => h9 ⟨c_7, c_11, c_20⟩), if_neg c_30]; exact ⟨rfl, g18_1, g22_1, rfl⟩) dX9_tides_45
        · refine lv_bipush (v := -103) hx hb dX9_tides_33 (by decide) ?_
          refine lv_goto (tgt := 45) hx hb dX9_tides_35 (by decide) ?_
          have h : gW D ct zA zs _ _ (wM ad ct σ τ) := h
          exact hret _ (σ, τ) _ _ _ _ h (by rw [if_neg (fun h9 => h9 ⟨c_7, c_11, c_20⟩), if_pos c_30]; exact ⟨rfl, rfl⟩) dX9_tides_45
      · refine lv_bipush (v := -102) hx hb dX9_tides_23 (by decide) ?_
        have h : gW D ct zA zs _ _ (wM ad ct σ τ) := h
        exact hret _ (σ, τ) _ _ _ _ h (by rw [if_pos (fun h9 => c_20 h9.2.2)]; exact ⟨rfl, rfl⟩) dX9_tides_25
set_option maxHeartbeats 1000000 in
set_option maxRecDepth 100000 in
theorem kX9_count (l : Launch) (D : va_G) (ct : Nat → ClassId) (ad : Nat → Nat) (σ : Nat → Nat → Int32) (τ : Nat → Nat → Int64) (n c : Nat) (kd : Nat → Nat) (hok : MOK σ n c kd) (x : Int32) : MI l yX9_count (gWs yX9_count cX9_count 2 (some .int)) rmX9_count D ct gNo [.ref (ad 0), .int x] (wM ad ct σ τ) (fun u : (Nat → Nat → Int32) × (Nat → Nat → Int64) => wM ad ct u.1 u.2) (fun r u => (r = hmF σ n c kd x ∧ u = (σ, τ))) := by
  refine MI.ofI RX9 rfl (by decide) (Nat.le_of_ble_eq_true rfl) ?_
  intro zp ze zs zm za zb zt zc zA ls zQ C h hX hl hret
  have hx := C.1
  have hb := C.2.1
  have hl : lv_has ls 2 [(0, .ref (ad 0)), (1, .int x)] := hl
  have hok0 := hok
  obtain ⟨hn, hn8, hc, hc8, hkd⟩ := hok0
  refine lv_aload_n hx hb dX9_count_0 rfl (lv_at hl 0 rfl) ?_
  refine lv_iload_n hx hb dX9_count_1 rfl (lv_at hl 1 rfl) ?_
  refine gcallVi C h trivial gNo_ok (kX9_howMany l D ct ad σ τ n c kd hok x) (cwV 1 C.2.2.2.2 (gInV q1070 q1072 q51 q66 q1073) rfl rfl rfl hvX9_howMany ⟨Nat.le_of_ble_eq_true rfl, Nat.le_of_ble_eq_true rfl⟩) 0 (wM_o ad ct σ τ) rfl rfl rfl hl.1 rfl (Nat.le_of_ble_eq_true rfl) dX9_count_2 ⟨Nat.zero_le _, Nat.zero_le _⟩ (fun r9 u9 H ll hw h => ?_)
  have hw : r9 = hmF σ n c kd x := hw
  subst hw
  have h : gW D ct zA zs _ _ (wM ad ct σ τ) := h
  have h : gW D ct zA zs _ _ (wM ad ct σ τ) := h
  exact hret _ (σ, τ) _ _ _ _ h ⟨rfl, rfl⟩ dX9_count_5
