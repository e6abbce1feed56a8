theorem sw_nat {x M : Int32} {n : Nat} (hn : n < 2 ^ 31) (hM : M = nI n) (h : 0 ≤ x ∧ x ≤ M) : ∃ j, j ≤ n ∧ x = nI j := nI_of2 (M := M) (by rw [hM]; exact nI_toInt hn) (Int32.not_lt.mpr h.1) h.2
theorem sw_out {x M : Int32} {n : Nat} (hn : n < 2 ^ 31) (hM : M = nI n) (h : ¬ (0 ≤ x ∧ x ≤ M)) : x.toInt < 0 ∨ (n : Int) < x.toInt := by
  by_cases h0 : x.toInt < 0
  · exact Or.inl h0
  · right
    by_cases h1 : (n : Int) < x.toInt
    · exact h1
    · exfalso; apply h
      refine ⟨Int32.le_iff_toInt_le.mpr (by show (0 : Int) ≤ _; omega), Int32.le_iff_toInt_le.mpr ?_⟩
      rw [hM, nI_toInt hn]; omega
def mnF (σ : Nat → Nat → Int32) (n c : Nat) (kd : Nat → Nat) (sn m x : Nat) : Int32 := if 20 ≤ x then nI (lvB σ n c kd sn m (x - 20) 3) else if 10 ≤ x then plM σ n c kd (x - 10) m + 100 else if x = 0 then σ 2 m else if x = 1 then σ 3 m else if x ≤ 4 then leM σ m (x - 2) else if x = 5 then (if c % 2 ^ (m + 1) = 0 then 1 else 0) else if x = 6 then (if c.testBit m = true then 0 else 1) else bI (akM σ n c kd sn m 3).1
def qnF (σ : Nat → Nat → Int32) (n c : Nat) (kd : Nat → Nat) (q x : Nat) : Int32 := if x = 0 then smM σ n c kd q + 200 else if x = 1 then sgn (smM σ n c kd q) else if x = 2 then σ 7 q else if x = 3 then σ 8 q else if x = 4 then nI (cntTo (fun m => leM σ m q = 1) n) else nI (cntTo (fun m => leM σ m q = -1) n)
def hmN (σ : Nat → Nat → Int32) (n c : Nat) (kd : Nat → Nat) (x : Nat) : Int32 := if x = 0 then nI n else if x = 1 then nI (pcn (fbits c n) 8) else if x = 2 then nI (pcn c 8) else if x = 3 then bx_sum (σ 3) n else if x = 4 then σ 6 0 else if x = 5 then σ 7 0 + σ 7 1 + σ 7 2 else if x = 6 then σ 8 0 + σ 8 1 + σ 8 2 else if x = 7 then nI (cntTo (fun q => sgn (smM σ n c kd q) = 1) 3) else if x = 8 then σ 10 0 else if x = 9 then σ 14 0 else if x = 10 then σ 0 0 else σ 9 0
def hmF (σ : Nat → Nat → Int32) (n c : Nat) (kd : Nat → Nat) (x : Int32) : Int32 := if 0 ≤ x ∧ x ≤ 11 then hmN σ n c kd x.toNatClampNeg else -102
theorem hm_in {σ : Nat → Nat → Int32} {n c : Nat} {kd : Nat → Nat} {j k : Nat} {v : Int32} (hr : 0 ≤ nI j ∧ nI j ≤ 11) (hk : j = k) (h31 : k < 12) (h : v = hmN σ n c kd k) : v = hmF σ n c kd (nI j) := by
  unfold hmF; rw [if_pos hr, nI_clamp (by omega), hk]; exact h
/-- numbers mixed in, one behind the other -/
def hx31 (f : Nat → Int32) (h0 : Int64) : Nat → Int64
  | 0 => h0
  | k + 1 => 31 * hx31 f h0 k + (f k).toInt64
def told (x : Nat) : Prop := x ≤ 7 ∨ (10 ≤ x ∧ x ≤ 12) ∨ (20 ≤ x ∧ x ≤ 22)
def hxT (f : Nat → Int32) (h0 : Int64) : Nat → Int64
  | 0 => h0
  | k + 1 => if k ≤ 7 ∨ (10 ≤ k ∧ k ≤ 12) ∨ (20 ≤ k ∧ k ≤ 22) then 31 * hxT f h0 k + (f k).toInt64 else hxT f h0 k
theorem told_iff {k : Nat} (hk : k < 100) : ((0 ≤ nI k ∧ nI k ≤ 7) ∨ (10 ≤ nI k ∧ nI k ≤ 12) ∨ (20 ≤ nI k ∧ nI k ≤ 22)) ↔ (k ≤ 7 ∨ (10 ≤ k ∧ k ≤ 12) ∨ (20 ≤ k ∧ k ≤ 22)) := by
  rw [show (7 : Int32) = nI 7 from rfl, show (10 : Int32) = nI 10 from rfl, show (12 : Int32) = nI 12 from rfl, show (20 : Int32) = nI 20 from rfl, show (22 : Int32) = nI 22 from rfl, show (0 : Int32) = nI 0 from rfl]
  simp only [nI_leI (show k < 2 ^ 31 by omega) (show 7 < 2 ^ 31 by decide), nI_leI (show k < 2 ^ 31 by omega) (show 12 < 2 ^ 31 by decide), nI_leI (show k < 2 ^ 31 by omega) (show 22 < 2 ^ 31 by decide), nI_leI (show 0 < 2 ^ 31 by decide) (show k < 2 ^ 31 by omega), nI_leI (show 10 < 2 ^ 31 by decide) (show k < 2 ^ 31 by omega), nI_leI (show 20 < 2 ^ 31 by decide) (show k < 2 ^ 31 by omega)]
  omega
def mqF (σ : Nat → Nat → Int32) (n c : Nat) (kd : Nat → Nat) (q : Nat) (h0 : Int64) : Int64 :=
  31 * (31 * (31 * (31 * hx31 (fun k => nI (sayM σ n c kd (k / 2) q (k % 2))) (hx31 (qnF σ n c kd q) h0 6) (2 * n) + (nI (chM σ n c kd q 3 0)).toInt64) + (nI (chM σ n c kd q 3 1)).toInt64) + (toldB (cutB σ n c kd q 1 (1 * 2 ^ n)) 0).toInt64) + (toldB (cutB σ n c kd q 1 (1 * 2 ^ n)) 1).toInt64
theorem hok5 {σ : Nat → Nat → Int32} {n c : Nat} {kd : Nat → Nat} (h : MOK σ n c kd) : MOK (va_up σ 5 (fun _ => nI c)) n c kd := ⟨h.1, h.2.1, rfl, h.2.2.2.1, h.2.2.2.2⟩
theorem wM5 {ad : Nat → Nat} {ct : Nat → ClassId} {σ : Nat → Nat → Int32} {τ : Nat → Nat → Int64} {c : Nat} (hc : σ 5 0 = nI c) : wM ad ct σ τ = wM ad ct (va_up σ 5 (fun _ => nI c)) τ := by rw [← hc]; rfl
theorem cutB_congr {σ ρ : Nat → Nat → Int32} (h3 : ρ 3 = σ 3) (h4 : ρ 4 = σ 4) (n c : Nat) (kd : Nat → Nat) (q : Nat) (out : Int32) : ∀ i, cutB ρ n c kd q out i = cutB σ n c kd q out i
  | 0 => rfl
  | i + 1 => by simp only [cutB]; rw [cutB_congr h3 h4 n c kd q out i, smM_congr h3 h4]
theorem akM_congr {σ ρ : Nat → Nat → Int32} (h3 : ρ 3 = σ 3) (h4 : ρ 4 = σ 4) (ha : ρ 11 = σ 11) (hb : ρ 12 = σ 12) (hc : ρ 13 = σ 13) (n c : Nat) (kd : Nat → Nat) (sn m : Nat) : ∀ q, akM ρ n c kd sn m q = akM σ n c kd sn m q
  | 0 => rfl
  | q + 1 => by simp only [akM]; rw [akM_congr h3 h4 ha hb hc n c kd sn m q, lsM_congr h3 h4, lvB_congr h3 h4 ha hb hc]
set_option maxHeartbeats 1000000 in
set_option maxRecDepth 100000 in
theorem kX9_musselNow (l : Launch) (D : va_G) (ct : Nat → ClassId) (ad : Nat → Nat) (σ : Nat → Nat → Int32) (τ : Nat → Nat → Int64) (n c : Nat) (kd : Nat → Nat) (hok : MOK σ n c kd) (sn : Nat) (hsn : σ 10 0 = nI sn) (hsn6 : sn ≤ 6) (m x : Nat) (hm : m < n) (hx1 : x ≤ 7 ∨ (10 ≤ x ∧ x ≤ 12) ∨ (20 ≤ x ∧ x ≤ 22)) : MI l yX9_musselNow (gWs yX9_musselNow cX9_musselNow 3 (some .int)) rmX9_musselNow D ct gNo [.ref (ad 0), .int (nI m), .int (nI x)] (wM ad ct σ τ) (fun u : (Nat → Nat → Int32) × (Nat → Nat → Int64) => wM ad ct u.1 u.2) (fun r u => r = mnF σ n c kd sn m x ∧ ∃ (g21 : Nat → Int32), u = (va_up (va_up σ 21 g21) 4 (σ 4), τ)) := by
  refine MI.ofI RX9 rfl (by decide) (Nat.le_of_ble_eq_true rfl) ?_
  intro zp ze zs zm za zb zt zc zA ls zQ C h hX hl hret
  have hx := C.1
  have hb := C.2.1
  have hl : lv_has ls 3 [(0, .ref (ad 0)), (1, .int (nI m)), (2, .int (nI x))] := hl
  have hok0 := hok
  obtain ⟨hn, hn8, hc, hc8, hkd⟩ := hok0
  refine lv_iload_n hx hb dX9_musselNow_0 rfl (lv_at hl 2 rfl) ?_
  refine lv_bipush (v := 20) hx hb dX9_musselNow_1 (by decide) ?_
  refine nb_lt hx hb x 20 (by omega) (by omega) (tgt := 16) dX9_musselNow_3 (by decide) (fun c_3 => ?_) (fun c_3 => ?_)
  · refine lv_iload_n hx hb dX9_musselNow_16 rfl (lv_at hl 2 rfl) ?_
    refine lv_bipush (v := 10) hx hb dX9_musselNow_17 (by decide) ?_
    refine nb_lt hx hb x 10 (by omega) (by omega) (tgt := 35) dX9_musselNow_19 (by decide) (fun c_19 => ?_) (fun c_19 => ?_)
    · refine lv_iload_n hx hb dX9_musselNow_35 rfl (lv_at hl 2 rfl) ?_
      rcases (show x = 0 ∨ x = 1 ∨ x = 2 ∨ x = 3 ∨ x = 4 ∨ x = 5 ∨ x = 6 ∨ x = 7 by omega) with hk_36 | hk_36 | hk_36 | hk_36 | hk_36 | hk_36 | hk_36 | hk_36
      · refine gas (show nI x = nI 0 by rw [hk_36]) ?_
        refine lv_tableIn (tgt := 80) (off := 44) hx hb dX9_musselNow_36 (by decide) (by decide) (by decide) (by decide) ?_
        refine lv_aload_n hx hb dX9_musselNow_80 rfl (lv_at hl 0 rfl) ?_
        refine mg_kindOf C h dX9_musselNow_81 ?_
        refine lv_iload_n hx hb dX9_musselNow_84 rfl (lv_at hl 1 rfl) ?_
        refine ml_kindOf C h (j := m) (by omega) dX9_musselNow_85 ?_
        have h : gW D ct zA zs _ _ (wM ad ct (va_up (va_up σ 21 (σ 21)) 4 (σ 4)) τ) := h
        exact hret _ (va_up (va_up σ 21 (σ 21)) 4 (σ 4), τ) _ _ _ _ h ⟨(by unfold mnF; rw [if_neg (by omega), if_neg (by omega)]; subst hk_36; rfl), (σ 21), rfl⟩ dX9_musselNow_86
      · refine gas (show nI x = nI 1 by rw [hk_36]) ?_
        refine lv_tableIn (tgt := 87) (off := 51) hx hb dX9_musselNow_36 (by decide) (by decide) (by decide) (by decide) ?_
        refine lv_aload_n hx hb dX9_musselNow_87 rfl (lv_at hl 0 rfl) ?_
        refine mg_weightOf C h dX9_musselNow_88 ?_
        refine lv_iload_n hx hb dX9_musselNow_91 rfl (lv_at hl 1 rfl) ?_
        refine ml_weightOf C h (j := m) (by omega) dX9_musselNow_92 ?_
        have h : gW D ct zA zs _ _ (wM ad ct (va_up (va_up σ 21 (σ 21)) 4 (σ 4)) τ) := h
        exact hret _ (va_up (va_up σ 21 (σ 21)) 4 (σ 4), τ) _ _ _ _ h ⟨(by unfold mnF; rw [if_neg (by omega), if_neg (by omega)]; subst hk_36; rfl), (σ 21), rfl⟩ dX9_musselNow_93
      · refine gas (show nI x = nI 2 by rw [hk_36]) ?_
        refine lv_tableIn (tgt := 94) (off := 58) hx hb dX9_musselNow_36 (by decide) (by decide) (by decide) (by decide) ?_
        refine lv_aload_n hx hb dX9_musselNow_94 rfl (lv_at hl 0 rfl) ?_
        refine mg_leanOf C h dX9_musselNow_95 ?_
        refine lv_iconst (v := 3) hx hb dX9_musselNow_98 (by decide) ?_
        refine lv_iload_n hx hb dX9_musselNow_99 rfl (lv_at hl 1 rfl) ?_
        refine nmul hx hb 3 m dX9_musselNow_100 ?_
        refine lv_iload_n hx hb dX9_musselNow_101 rfl (lv_at hl 2 rfl) ?_
        refine nadd hx hb (3 * m) x dX9_musselNow_102 ?_
        refine lv_iconst (v := 2) hx hb dX9_musselNow_103 (by decide) ?_
        refine nsub hx hb ((3 * m) + x) 2 (by omega) dX9_musselNow_104 ?_
        refine ml_leanOf C h (j := ((3 * m) + x) - 2) (by omega) dX9_musselNow_105 ?_
        have h : gW D ct zA zs _ _ (wM ad ct (va_up (va_up σ 21 (σ 21)) 4 (σ 4)) τ) := h
        exact hret _ (va_up (va_up σ 21 (σ 21)) 4 (σ 4), τ) _ _ _ _ h ⟨(by unfold mnF; rw [if_neg (by omega), if_neg (by omega)]; subst hk_36; rfl), (σ 21), rfl⟩ dX9_musselNow_106
      · refine gas (show nI x = nI 3 by rw [hk_36]) ?_
        refine lv_tableIn (tgt := 94) (off := 58) hx hb dX9_musselNow_36 (by decide) (by decide) (by decide) (by decide) ?_
        refine lv_aload_n hx hb dX9_musselNow_94 rfl (lv_at hl 0 rfl) ?_
        refine mg_leanOf C h dX9_musselNow_95 ?_
        refine lv_iconst (v := 3) hx hb dX9_musselNow_98 (by decide) ?_
        refine lv_iload_n hx hb dX9_musselNow_99 rfl (lv_at hl 1 rfl) ?_
        refine nmul hx hb 3 m dX9_musselNow_100 ?_
        refine lv_iload_n hx hb dX9_musselNow_101 rfl (lv_at hl 2 rfl) ?_
        refine nadd hx hb (3 * m) x dX9_musselNow_102 ?_
        refine lv_iconst (v := 2) hx hb dX9_musselNow_103 (by decide) ?_
        refine nsub hx hb ((3 * m) + x) 2 (by omega) dX9_musselNow_104 ?_
        refine ml_leanOf C h (j := ((3 * m) + x) - 2) (by omega) dX9_musselNow_105 ?_
        have h : gW D ct zA zs _ _ (wM ad ct (va_up (va_up σ 21 (σ 21)) 4 (σ 4)) τ) := h
        exact hret _ (va_up (va_up σ 21 (σ 21)) 4 (σ 4), τ) _ _ _ _ h ⟨(by unfold mnF; rw [if_neg (by omega), if_neg (by omega)]; subst hk_36; rfl), (σ 21), rfl⟩ dX9_musselNow_106
      · refine gas (show nI x = nI 4 by rw [hk_36]) ?_
        refine lv_tableIn (tgt := 94) (off := 58) hx hb dX9_musselNow_36 (by decide) (by decide) (by decide) (by decide) ?_
        refine lv_aload_n hx hb dX9_musselNow_94 rfl (lv_at hl 0 rfl) ?_
        refine mg_leanOf C h dX9_musselNow_95 ?_
        refine lv_iconst (v := 3) hx hb dX9_musselNow_98 (by decide) ?_
        refine lv_iload_n hx hb dX9_musselNow_99 rfl (lv_at hl 1 rfl) ?_
        refine nmul hx hb 3 m dX9_musselNow_100 ?_
        refine lv_iload_n hx hb dX9_musselNow_101 rfl (lv_at hl 2 rfl) ?_
        refine nadd hx hb (3 * m) x dX9_musselNow_102 ?_
        refine lv_iconst (v := 2) hx hb dX9_musselNow_103 (by decide) ?_
        refine nsub hx hb ((3 * m) + x) 2 (by omega) dX9_musselNow_104 ?_
        refine ml_leanOf C h (j := ((3 * m) + x) - 2) (by omega) dX9_musselNow_105 ?_
        have h : gW D ct zA zs _ _ (wM ad ct (va_up (va_up σ 21 (σ 21)) 4 (σ 4)) τ) := h
        exact hret _ (va_up (va_up σ 21 (σ 21)) 4 (σ 4), τ) _ _ _ _ h ⟨(by unfold mnF; rw [if_neg (by omega), if_neg (by omega)]; subst hk_36; rfl), (σ 21), rfl⟩ dX9_musselNow_106
      · refine gas (show nI x = nI 5 by rw [hk_36]) ?_
        refine lv_tableIn (tgt := 107) (off := 71) hx hb dX9_musselNow_36 (by decide) (by decide) (by decide) (by decide) ?_
        refine lv_aload_n hx hb dX9_musselNow_107 rfl (lv_at hl 0 rfl) ?_
        refine lv_iload_n hx hb dX9_musselNow_108 rfl (lv_at hl 1 rfl) ?_
        refine gcallVi C h trivial gNo_ok (kX9_isFelt l D ct ad σ τ n c kd hok m (by omega)) (cwV 1 C.2.2.2.2 (gInV q877 q879 q27 q66 q880) rfl rfl rfl hvX9_isFelt ⟨Nat.le_of_ble_eq_true rfl, Nat.le_of_ble_eq_true rfl⟩) 0 (wM_o ad ct σ τ) rfl rfl rfl hl.1 rfl (Nat.le_of_ble_eq_true rfl) dX9_musselNow_109 ⟨Nat.zero_le _, Nat.zero_le _⟩ (fun r9 u9 H ll hw h => ?_)
        have hw : r9 = (if c % 2 ^ (m + 1) = 0 then 1 else 0) := hw
        subst hw
        have h : gW D ct zA zs _ _ (wM ad ct σ τ) := h
        refine bz_eq hx hb (c % 2 ^ (m + 1) = 0) (tgt := 119) dX9_musselNow_112 (by decide) (fun c_112 => ?_) (fun c_112 => ?_)
        · refine lv_iconst (v := 0) hx hb dX9_musselNow_119 (by decide) ?_
          have h : gW D ct zA zs _ _ (wM ad ct (va_up (va_up σ 21 (σ 21)) 4 (σ 4)) τ) := h
          exact hret _ (va_up (va_up σ 21 (σ 21)) 4 (σ 4), τ) _ _ _ _ h ⟨(by unfold mnF; rw [if_neg (by omega), if_neg (by omega)]; subst hk_36; first | exact (if_pos c_112).symm | exact (if_neg c_112).symm), (σ 21), rfl⟩ dX9_musselNow_120
        · refine lv_iconst (v := 1) hx hb dX9_musselNow_115 (by decide) ?_
          refine lv_goto (tgt := 120) hx hb dX9_musselNow_116 (by decide) ?_
          have h : gW D ct zA zs _ _ (wM ad ct (va_up (va_up σ 21 (σ 21)) 4 (σ 4)) τ) := h
          exact hret _ (va_up (va_up σ 21 (σ 21)) 4 (σ 4), τ) _ _ _ _ h ⟨(by unfold mnF; rw [if_neg (by omega), if_neg (by omega)]; subst hk_36; first | exact (if_pos c_112).symm | exact (if_neg c_112).symm), (σ 21), rfl⟩ dX9_musselNow_120
      · refine gas (show nI x = nI 6 by rw [hk_36]) ?_
        refine lv_tableIn (tgt := 121) (off := 85) hx hb dX9_musselNow_36 (by decide) (by decide) (by decide) (by decide) ?_
        refine lv_aload_n hx hb dX9_musselNow_121 rfl (lv_at hl 0 rfl) ?_
        refine mg_cutThreads C h dX9_musselNow_122 ?_
        refine gas hc ?_
        refine lv_iload_n hx hb dX9_musselNow_125 rfl (lv_at hl 1 rfl) ?_
        refine gcallSi C h (kX9_isIn l D ct c m (by omega) (by omega)) (va_cwS 2 C.2.2.2.2 (gInS q889 q890 q66 q891) rfl rfl rfl hdX9_isIn ⟨Nat.le_of_ble_eq_true rfl, Nat.le_of_ble_eq_true rfl⟩) rfl hl.1 rfl (Nat.le_of_ble_eq_true rfl) dX9_musselNow_126 ⟨Nat.zero_le _, Nat.zero_le _⟩ (fun H ll h => ?_)
        refine bz_eq hx hb (c.testBit m = true) (tgt := 136) dX9_musselNow_129 (by decide) (fun c_129 => ?_) (fun c_129 => ?_)
        · refine lv_iconst (v := 1) hx hb dX9_musselNow_136 (by decide) ?_
          have h : gW D ct zA zs _ _ (wM ad ct (va_up (va_up σ 21 (σ 21)) 4 (σ 4)) τ) := h
          exact hret _ (va_up (va_up σ 21 (σ 21)) 4 (σ 4), τ) _ _ _ _ h ⟨(by unfold mnF; rw [if_neg (by omega), if_neg (by omega)]; subst hk_36; first | exact (if_pos c_129).symm | exact (if_neg c_129).symm), (σ 21), rfl⟩ dX9_musselNow_137
        · refine lv_iconst (v := 0) hx hb dX9_musselNow_132 (by decide) ?_
          refine lv_goto (tgt := 137) hx hb dX9_musselNow_133 (by decide) ?_
          have h : gW D ct zA zs _ _ (wM ad ct (va_up (va_up σ 21 (σ 21)) 4 (σ 4)) τ) := h
          exact hret _ (va_up (va_up σ 21 (σ 21)) 4 (σ 4), τ) _ _ _ _ h ⟨(by unfold mnF; rw [if_neg (by omega), if_neg (by omega)]; subst hk_36; first | exact (if_pos c_129).symm | exact (if_neg c_129).symm), (σ 21), rfl⟩ dX9_musselNow_137
      · refine gas (show nI x = nI 7 by rw [hk_36]) ?_
        refine lv_tableOut (tgt := 138) hx hb dX9_musselNow_36 (by decide) (by decide) ?_
        refine lv_aload_n hx hb dX9_musselNow_138 rfl (lv_at hl 0 rfl) ?_
        refine lv_iload_n hx hb dX9_musselNow_139 rfl (lv_at hl 1 rfl) ?_
        refine gcallVi C h trivial gNo_ok (kX9_askOf l D ct ad σ τ n c kd hok sn hsn hsn6 m (by omega)) (cwV 1 C.2.2.2.2 (gInV q896 q898 q31 q66 q899) rfl rfl rfl hvX9_askOf ⟨Nat.le_of_ble_eq_true rfl, Nat.le_of_ble_eq_true rfl⟩) 0 (wM_o ad ct σ τ) rfl rfl rfl hl.1 rfl (Nat.le_of_ble_eq_true rfl) dX9_musselNow_140 ⟨Nat.zero_le _, Nat.zero_le _⟩ (fun r9 u9 H ll hw h => ?_)
        obtain ⟨hw, g21_1, rfl⟩ := hw
        have hw : r9 = bI (akM σ n c kd sn m 3).1 := hw
        subst hw
        have h : gW D ct zA zs _ _ (wM ad ct (va_up (va_up σ 21 g21_1) 4 (σ 4)) τ) := h
        have h : gW D ct zA zs _ _ (wM ad ct (va_up (va_up σ 21 g21_1) 4 (σ 4)) τ) := h
        exact hret _ (va_up (va_up σ 21 g21_1) 4 (σ 4), τ) _ _ _ _ h ⟨(by unfold mnF; rw [if_neg (by omega), if_neg (by omega)]; subst hk_36; rfl), g21_1, rfl⟩ dX9_musselNow_143
    · refine lv_aload_n hx hb dX9_musselNow_22 rfl (lv_at hl 0 rfl) ?_
      refine lv_iload_n hx hb dX9_musselNow_23 rfl (lv_at hl 1 rfl) ?_
      refine lv_iload_n hx hb dX9_musselNow_24 rfl (lv_at hl 2 rfl) ?_
      refine lv_bipush (v := 10) hx hb dX9_musselNow_25 (by decide) ?_
      refine nsub hx hb x 10 (by omega) dX9_musselNow_27 ?_
      refine gcallVi C h trivial gNo_ok (kX9_pulls l D ct ad σ τ n c kd hok m (x - 10) (by omega) (by omega)) (cwV 2 C.2.2.2.2 (gInV q881 q883 q28 q66 q884) rfl rfl rfl hvX9_pulls ⟨Nat.le_of_ble_eq_true rfl, Nat.le_of_ble_eq_true rfl⟩) 0 (wM_o ad ct σ τ) rfl rfl rfl hl.1 rfl (Nat.le_of_ble_eq_true rfl) dX9_musselNow_28 ⟨Nat.zero_le _, Nat.zero_le _⟩ (fun r9 u9 H ll hw h => ?_)
      have hw : r9 = plM σ n c kd (x - 10) m := hw
      subst hw
      have h : gW D ct zA zs _ _ (wM ad ct σ τ) := h
      refine lv_bipush (v := 100) hx hb dX9_musselNow_31 (by decide) ?_
      refine lv_iadd hx hb dX9_musselNow_33 ?_
      have h : gW D ct zA zs _ _ (wM ad ct (va_up (va_up σ 21 (σ 21)) 4 (σ 4)) τ) := h
      exact hret _ (va_up (va_up σ 21 (σ 21)) 4 (σ 4), τ) _ _ _ _ h ⟨(by unfold mnF; rw [if_neg (by omega), if_pos (by omega)]), (σ 21), rfl⟩ dX9_musselNow_34
  · refine lv_aload_n hx hb dX9_musselNow_6 rfl (lv_at hl 0 rfl) ?_
    refine lv_iload_n hx hb dX9_musselNow_7 rfl (lv_at hl 1 rfl) ?_
    refine lv_iload_n hx hb dX9_musselNow_8 rfl (lv_at hl 2 rfl) ?_
    refine lv_bipush (v := 20) hx hb dX9_musselNow_9 (by decide) ?_
    refine nsub hx hb x 20 (by omega) dX9_musselNow_11 ?_
    refine gcallVi C h trivial gNo_ok (kX9_leansOf l D ct ad σ τ n c kd hok sn hsn hsn6 m (x - 20) (by omega) (by omega)) (cwV 2 C.2.2.2.2 (gInV q865 q867 q24 q66 q868) rfl rfl rfl hvX9_leansOf ⟨Nat.le_of_ble_eq_true rfl, Nat.le_of_ble_eq_true rfl⟩) 0 (wM_o ad ct σ τ) rfl rfl rfl hl.1 rfl (Nat.le_of_ble_eq_true rfl) dX9_musselNow_12 ⟨Nat.zero_le _, Nat.zero_le _⟩ (fun r9 u9 H ll hw h => ?_)
    obtain ⟨hw, rfl⟩ := hw
    have hw : r9 = nI (lvB σ n c kd sn m (x - 20) 3) := hw
    subst hw
    have h : gW D ct zA zs _ _ (wM ad ct (va_up (va_up σ 21 (lsM σ n c kd m (x - 20))) 4 (σ 4)) τ) := h
    have h : gW D ct zA zs _ _ (wM ad ct (va_up (va_up σ 21 (lsM σ n c kd m (x - 20))) 4 (σ 4)) τ) := h
    exact hret _ (va_up (va_up σ 21 (lsM σ n c kd m (x - 20))) 4 (σ 4), τ) _ _ _ _ h ⟨(by unfold mnF; rw [if_pos (by omega)]), (lsM σ n c kd m (x - 20)), rfl⟩ dX9_musselNow_15
set_option maxHeartbeats 1000000 in
set_option maxRecDepth 100000 in
theorem kX9_questionNow (l : Launch) (D : va_G) (ct : Nat → ClassId) (ad : Nat → Nat) (σ : Nat → Nat → Int32) (τ : Nat → Nat → Int64) (n c : Nat) (kd : Nat → Nat) (hok : MOK σ n c kd) (q x : Nat) (hq : q < 3) (hx1 : x < 6) : MI l yX9_questionNow (gWs yX9_questionNow cX9_questionNow 3 (some .int)) rmX9_questionNow D ct gNo [.ref (ad 0), .int (nI q), .int (nI x)] (wM ad ct σ τ) (fun _ : Unit => (wM ad ct σ τ)) (fun r _ => r = qnF σ n c kd q x) := by
  refine MI.ofI RX9 rfl (by decide) (Nat.le_of_ble_eq_true rfl) ?_
  intro zp ze zs zm za zb zt zc zA ls zQ C h hX hl hret
  have hx := C.1
  have hb := C.2.1
  have hl : lv_has ls 3 [(0, .ref (ad 0)), (1, .int (nI q)), (2, .int (nI x))] := hl
  have hok0 := hok
  obtain ⟨hn, hn8, hc, hc8, hkd⟩ := hok0
  refine lv_iload_n hx hb dX9_questionNow_0 rfl (lv_at hl 2 rfl) ?_
  rcases (show x = 0 ∨ x = 1 ∨ x = 2 ∨ x = 3 ∨ x = 4 ∨ x = 5 by omega) with hk_1 | hk_1 | hk_1 | hk_1 | hk_1 | hk_1
  · refine gas (show nI x = nI 0 by rw [hk_1]) ?_
    refine lv_tableIn (tgt := 36) (off := 35) hx hb dX9_questionNow_1 (by decide) (by decide) (by decide) (by decide) ?_
    refine lv_aload_n hx hb dX9_questionNow_36 rfl (lv_at hl 0 rfl) ?_
    refine lv_iload_n hx hb dX9_questionNow_37 rfl (lv_at hl 1 rfl) ?_
    refine gcallVi C h trivial gNo_ok (kX9_sumOf l D ct ad σ τ n c kd hok q (by omega)) (cwV 1 C.2.2.2.2 (gInV q873 q875 q26 q66 q876) rfl rfl rfl hvX9_sumOf ⟨Nat.le_of_ble_eq_true rfl, Nat.le_of_ble_eq_true rfl⟩) 0 (wM_o ad ct σ τ) rfl rfl rfl hl.1 rfl (Nat.le_of_ble_eq_true rfl) dX9_questionNow_38 ⟨Nat.zero_le _, Nat.zero_le _⟩ (fun r9 u9 H ll hw h => ?_)
    have hw : r9 = smM σ n c kd q := hw
    subst hw
    have h : gW D ct zA zs _ _ (wM ad ct σ τ) := h
    refine lv_sipush (v := 200) hx hb dX9_questionNow_41 (by decide) ?_
    refine lv_iadd hx hb dX9_questionNow_44 ?_
    exact hret _ () _ _ _ _ h (by subst hk_1; rfl) dX9_questionNow_45
  · refine gas (show nI x = nI 1 by rw [hk_1]) ?_
    refine lv_tableIn (tgt := 46) (off := 45) hx hb dX9_questionNow_1 (by decide) (by decide) (by decide) (by decide) ?_
    refine lv_aload_n hx hb dX9_questionNow_46 rfl (lv_at hl 0 rfl) ?_
    refine lv_iload_n hx hb dX9_questionNow_47 rfl (lv_at hl 1 rfl) ?_
    refine gcallVi C h trivial gNo_ok (kX9_outOf l D ct ad σ τ n c kd hok q (by omega)) (cwV 1 C.2.2.2.2 (gInV q924 q926 q35 q66 q927) rfl rfl rfl hvX9_outOf ⟨Nat.le_of_ble_eq_true rfl, Nat.le_of_ble_eq_true rfl⟩) 0 (wM_o ad ct σ τ) rfl rfl rfl hl.1 rfl (Nat.le_of_ble_eq_true rfl) dX9_questionNow_48 ⟨Nat.zero_le _, Nat.zero_le _⟩ (fun r9 u9 H ll hw h => ?_)
    have hw : r9 = sgn (smM σ n c kd q) := hw
    subst hw
    have h : gW D ct zA zs _ _ (wM ad ct σ τ) := h
    exact hret _ () _ _ _ _ h (by subst hk_1; rfl) dX9_questionNow_51
  · refine gas (show nI x = nI 2 by rw [hk_1]) ?_
    refine lv_tableIn (tgt := 52) (off := 51) hx hb dX9_questionNow_1 (by decide) (by decide) (by decide) (by decide) ?_
    refine lv_aload_n hx hb dX9_questionNow_52 rfl (lv_at hl 0 rfl) ?_
    refine mg_askedOf C h dX9_questionNow_53 ?_
    refine lv_iload_n hx hb dX9_questionNow_56 rfl (lv_at hl 1 rfl) ?_
    refine ml_askedOf C h (j := q) (by omega) dX9_questionNow_57 ?_
    exact hret _ () _ _ _ _ h (by subst hk_1; rfl) dX9_questionNow_58
  · refine gas (show nI x = nI 3 by rw [hk_1]) ?_
    refine lv_tableIn (tgt := 59) (off := 58) hx hb dX9_questionNow_1 (by decide) (by decide) (by decide) (by decide) ?_
    refine lv_aload_n hx hb dX9_questionNow_59 rfl (lv_at hl 0 rfl) ?_
    refine mg_carriedOf C h dX9_questionNow_60 ?_
    refine lv_iload_n hx hb dX9_questionNow_63 rfl (lv_at hl 1 rfl) ?_
    refine ml_carriedOf C h (j := q) (by omega) dX9_questionNow_64 ?_
    exact hret _ () _ _ _ _ h (by subst hk_1; rfl) dX9_questionNow_65
  · refine gas (show nI x = nI 4 by rw [hk_1]) ?_
    refine lv_tableIn (tgt := 66) (off := 65) hx hb dX9_questionNow_1 (by decide) (by decide) (by decide) (by decide) ?_
    refine lv_aload_n hx hb dX9_questionNow_66 rfl (lv_at hl 0 rfl) ?_
    refine lv_iload_n hx hb dX9_questionNow_67 rfl (lv_at hl 1 rfl) ?_
    refine lv_iconst (v := 1) hx hb dX9_questionNow_68 (by decide) ?_
    refine gcallVi C h trivial gNo_ok (kX9_leaning l D ct ad σ τ n c kd hok q 1 (by omega)) (cwV 2 C.2.2.2.2 (gInV q928 q930 q36 q66 q931) rfl rfl rfl hvX9_leaning ⟨Nat.le_of_ble_eq_true rfl, Nat.le_of_ble_eq_true rfl⟩) 0 (wM_o ad ct σ τ) rfl rfl rfl hl.1 rfl (Nat.le_of_ble_eq_true rfl) dX9_questionNow_69 ⟨Nat.zero_le _, Nat.zero_le _⟩ (fun r9 u9 H ll hw h => ?_)
    have hw : r9 = nI (cntTo (fun m => leM σ m q = 1) n) := hw
    subst hw
    have h : gW D ct zA zs _ _ (wM ad ct σ τ) := h
    exact hret _ () _ _ _ _ h (by subst hk_1; rfl) dX9_questionNow_72
  · refine gas (show nI x = nI 5 by rw [hk_1]) ?_
    refine lv_tableOut (tgt := 73) hx hb dX9_questionNow_1 (by decide) (by decide) ?_
    refine lv_aload_n hx hb dX9_questionNow_73 rfl (lv_at hl 0 rfl) ?_
    refine lv_iload_n hx hb dX9_questionNow_74 rfl (lv_at hl 1 rfl) ?_
    refine lv_iconst (v := -1) hx hb dX9_questionNow_75 (by decide) ?_
    refine gcallVi C h trivial gNo_ok (kX9_leaning l D ct ad σ τ n c kd hok q (-1) (by omega)) (cwV 2 C.2.2.2.2 (gInV q928 q930 q36 q66 q931) rfl rfl rfl hvX9_leaning ⟨Nat.le_of_ble_eq_true rfl, Nat.le_of_ble_eq_true rfl⟩) 0 (wM_o ad ct σ τ) rfl rfl rfl hl.1 rfl (Nat.le_of_ble_eq_true rfl) dX9_questionNow_76 ⟨Nat.zero_le _, Nat.zero_le _⟩ (fun r9 u9 H ll hw h => ?_)
    have hw : r9 = nI (cntTo (fun m => leM σ m q = (-1)) n) := hw
    subst hw
    have h : gW D ct zA zs _ _ (wM ad ct σ τ) := h
    exact hret _ () _ _ _ _ h (by subst hk_1; rfl) dX9_questionNow_79
set_option maxHeartbeats 1000000 in
set_option maxRecDepth 100000 in
theorem kX9_howMany (l : Launch) (D : va_G) (ct : Nat → ClassId) (ad : Nat → Nat) (σ : Nat → Nat → Int32) (τ : Nat → Nat → Int64) (n c : Nat) (kd : Nat → Nat) (hok : MOK σ n c kd) (x : Int32) : MI l yX9_howMany (gWs yX9_howMany cX9_howMany 2 (some .int)) rmX9_howMany D ct gNo [.ref (ad 0), .int x] (wM ad ct σ τ) (fun _ : Unit => (wM ad ct σ τ)) (fun r _ => r = hmF σ n c kd x) := by
  refine MI.ofI RX9 rfl (by decide) (Nat.le_of_ble_eq_true rfl) ?_
  intro zp ze zs zm za zb zt zc zA ls zQ C h hX hl hret
  have hx := C.1
  have hb := C.2.1
  have hl : lv_has ls 2 [(0, .ref (ad 0)), (1, .int x)] := hl
  have hok0 := hok
  obtain ⟨hn, hn8, hc, hc8, hkd⟩ := hok0
  have hF := fb256 c hn8
  refine lv_iload_n hx hb dX9_howMany_0 rfl (lv_at hl 1 rfl) ?_
  by_cases hr_1 : 0 ≤ x ∧ x ≤ 11
  · obtain ⟨j, hj_1, rfl⟩ := sw_nat (n := 11) (by decide) rfl hr_1
    rcases (show j = 0 ∨ j = 1 ∨ j = 2 ∨ j = 3 ∨ j = 4 ∨ j = 5 ∨ j = 6 ∨ j = 7 ∨ j = 8 ∨ j = 9 ∨ j = 10 ∨ j = 11 by omega) with hk_1 | hk_1 | hk_1 | hk_1 | hk_1 | hk_1 | hk_1 | hk_1 | hk_1 | hk_1 | hk_1 | hk_1
    · refine gas (show nI j = nI 0 by rw [hk_1]) ?_
      refine lv_tableIn (tgt := 64) (off := 63) hx hb dX9_howMany_1 (by decide) (by decide) (by decide) (by decide) ?_
      refine lv_aload_n hx hb dX9_howMany_64 rfl (lv_at hl 0 rfl) ?_
      refine mg_mussels C h dX9_howMany_65 ?_
      refine gas hn ?_
      exact hret _ () _ _ _ _ h (hm_in hr_1 hk_1 (by decide) (by first | rfl | exact hn)) dX9_howMany_68
    · refine gas (show nI j = nI 1 by rw [hk_1]) ?_
      refine lv_tableIn (tgt := 69) (off := 68) hx hb dX9_howMany_1 (by decide) (by decide) (by decide) (by decide) ?_
      refine lv_aload_n hx hb dX9_howMany_69 rfl (lv_at hl 0 rfl) ?_
      refine gcallVi C h trivial gNo_ok (kX9_felt l D ct ad σ τ n c kd hok) (cwV 0 C.2.2.2.2 (gInV q948 q950 q38 q66 q951) rfl rfl rfl hvX9_felt ⟨Nat.le_of_ble_eq_true rfl, Nat.le_of_ble_eq_true rfl⟩) 0 (wM_o ad ct σ τ) rfl rfl rfl hl.1 rfl (Nat.le_of_ble_eq_true rfl) dX9_howMany_70 ⟨Nat.zero_le _, Nat.zero_le _⟩ (fun r9 u9 H ll hw h => ?_)
      have hw : r9 = nI (fbits c n) := hw
      subst hw
      have h : gW D ct zA zs _ _ (wM ad ct σ τ) := h
      refine gcallSi C h (kX9_size l D ct (fbits c n) (by omega)) (va_cwS 1 C.2.2.2.2 (gInS q905 q906 q66 q907) rfl rfl rfl hdX9_size ⟨Nat.le_of_ble_eq_true rfl, Nat.le_of_ble_eq_true rfl⟩) rfl hl.1 rfl (Nat.le_of_ble_eq_true rfl) dX9_howMany_73 ⟨Nat.zero_le _, Nat.zero_le _⟩ (fun H ll h => ?_)
      exact hret _ () _ _ _ _ h (hm_in hr_1 hk_1 (by decide) rfl) dX9_howMany_76
    · refine gas (show nI j = nI 2 by rw [hk_1]) ?_
      refine lv_tableIn (tgt := 77) (off := 76) hx hb dX9_howMany_1 (by decide) (by decide) (by decide) (by decide) ?_
      refine lv_aload_n hx hb dX9_howMany_77 rfl (lv_at hl 0 rfl) ?_
      refine mg_cutThreads C h dX9_howMany_78 ?_
      refine gas hc ?_
      refine gcallSi C h (kX9_size l D ct c (by omega)) (va_cwS 1 C.2.2.2.2 (gInS q905 q906 q66 q907) rfl rfl rfl hdX9_size ⟨Nat.le_of_ble_eq_true rfl, Nat.le_of_ble_eq_true rfl⟩) rfl hl.1 rfl (Nat.le_of_ble_eq_true rfl) dX9_howMany_81 ⟨Nat.zero_le _, Nat.zero_le _⟩ (fun H ll h => ?_)
      exact hret _ () _ _ _ _ h (hm_in hr_1 hk_1 (by decide) rfl) dX9_howMany_84
    · refine gas (show nI j = nI 3 by rw [hk_1]) ?_
      refine lv_tableIn (tgt := 85) (off := 84) hx hb dX9_howMany_1 (by decide) (by decide) (by decide) (by decide) ?_
      refine lv_aload_n hx hb dX9_howMany_85 rfl (lv_at hl 0 rfl) ?_
      refine gcallVi C h trivial gNo_ok (kX9_weights l D ct ad σ τ n c kd hok) (cwV 0 C.2.2.2.2 (gInV q1074 q1076 q52 q66 q1077) rfl rfl rfl hvX9_weights ⟨Nat.le_of_ble_eq_true rfl, Nat.le_of_ble_eq_true rfl⟩) 0 (wM_o ad ct σ τ) rfl rfl rfl hl.1 rfl (Nat.le_of_ble_eq_true rfl) dX9_howMany_86 ⟨Nat.zero_le _, Nat.zero_le _⟩ (fun r9 u9 H ll hw h => ?_)
      have hw : r9 = bx_sum (σ 3) n := hw
      subst hw
      have h : gW D ct zA zs _ _ (wM ad ct σ τ) := h
      exact hret _ () _ _ _ _ h (hm_in hr_1 hk_1 (by decide) rfl) dX9_howMany_89
    · refine gas (show nI j = nI 4 by rw [hk_1]) ?_
      refine lv_tableIn (tgt := 90) (off := 89) hx hb dX9_howMany_1 (by decide) (by decide) (by decide) (by decide) ?_
      refine lv_aload_n hx hb dX9_howMany_90 rfl (lv_at hl 0 rfl) ?_
      refine mg_tides C h dX9_howMany_91 ?_
      exact hret _ () _ _ _ _ h (hm_in hr_1 hk_1 (by decide) rfl) dX9_howMany_94
    · refine gas (show nI j = nI 5 by rw [hk_1]) ?_
      refine lv_tableIn (tgt := 95) (off := 94) hx hb dX9_howMany_1 (by decide) (by decide) (by decide) (by decide) ?_
      refine lv_aload_n hx hb dX9_howMany_95 rfl (lv_at hl 0 rfl) ?_
      refine mg_askedOf C h dX9_howMany_96 ?_
      refine lv_iconst (v := 0) hx hb dX9_howMany_99 (by decide) ?_
      refine ml_askedOf C h (j := 0) (by omega) dX9_howMany_100 ?_
      refine lv_aload_n hx hb dX9_howMany_101 rfl (lv_at hl 0 rfl) ?_
      refine mg_askedOf C h dX9_howMany_102 ?_
      refine lv_iconst (v := 1) hx hb dX9_howMany_105 (by decide) ?_
      refine ml_askedOf C h (j := 1) (by omega) dX9_howMany_106 ?_
      refine lv_iadd hx hb dX9_howMany_107 ?_
      refine lv_aload_n hx hb dX9_howMany_108 rfl (lv_at hl 0 rfl) ?_
      refine mg_askedOf C h dX9_howMany_109 ?_
      refine lv_iconst (v := 2) hx hb dX9_howMany_112 (by decide) ?_
      refine ml_askedOf C h (j := 2) (by omega) dX9_howMany_113 ?_
      refine lv_iadd hx hb dX9_howMany_114 ?_
      exact hret _ () _ _ _ _ h (hm_in hr_1 hk_1 (by decide) rfl) dX9_howMany_115
    · refine gas (show nI j = nI 6 by rw [hk_1]) ?_
      refine lv_tableIn (tgt := 116) (off := 115) hx hb dX9_howMany_1 (by decide) (by decide) (by decide) (by decide) ?_
      refine lv_aload_n hx hb dX9_howMany_116 rfl (lv_at hl 0 rfl) ?_
      refine mg_carriedOf C h dX9_howMany_117 ?_
      refine lv_iconst (v := 0) hx hb dX9_howMany_120 (by decide) ?_
      refine ml_carriedOf C h (j := 0) (by omega) dX9_howMany_121 ?_
      refine lv_aload_n hx hb dX9_howMany_122 rfl (lv_at hl 0 rfl) ?_
      refine mg_carriedOf C h dX9_howMany_123 ?_
      refine lv_iconst (v := 1) hx hb dX9_howMany_126 (by decide) ?_
      refine ml_carriedOf C h (j := 1) (by omega) dX9_howMany_127 ?_
      refine lv_iadd hx hb dX9_howMany_128 ?_
      refine lv_aload_n hx hb dX9_howMany_129 rfl (lv_at hl 0 rfl) ?_
      refine mg_carriedOf C h dX9_howMany_130 ?_
      refine lv_iconst (v := 2) hx hb dX9_howMany_133 (by decide) ?_
      refine ml_carriedOf C h (j := 2) (by omega) dX9_howMany_134 ?_
      refine lv_iadd hx hb dX9_howMany_135 ?_
      exact hret _ () _ _ _ _ h (hm_in hr_1 hk_1 (by decide) rfl) dX9_howMany_136
    · refine gas (show nI j = nI 7 by rw [hk_1]) ?_
      refine lv_tableIn (tgt := 137) (off := 136) hx hb dX9_howMany_1 (by decide) (by decide) (by decide) (by decide) ?_
      refine lv_aload_n hx hb dX9_howMany_137 rfl (lv_at hl 0 rfl) ?_
      refine gcallVi C h trivial gNo_ok (kX9_carriedNow l D ct ad σ τ n c kd hok) (cwV 0 C.2.2.2.2 (gInV q1078 q1080 q53 q66 q1081) rfl rfl rfl hvX9_carriedNow ⟨Nat.le_of_ble_eq_true rfl, Nat.le_of_ble_eq_true rfl⟩) 0 (wM_o ad ct σ τ) rfl rfl rfl hl.1 rfl (Nat.le_of_ble_eq_true rfl) dX9_howMany_138 ⟨Nat.zero_le _, Nat.zero_le _⟩ (fun r9 u9 H ll hw h => ?_)
      have hw : r9 = nI (cntTo (fun q => sgn (smM σ n c kd q) = 1) 3) := hw
      subst hw
      have h : gW D ct zA zs _ _ (wM ad ct σ τ) := h
      exact hret _ () _ _ _ _ h (hm_in hr_1 hk_1 (by decide) rfl) dX9_howMany_141
    · refine gas (show nI j = nI 8 by rw [hk_1]) ?_
      refine lv_tableIn (tgt := 142) (off := 141) hx hb dX9_howMany_1 (by decide) (by decide) (by decide) (by decide) ?_
      refine lv_aload_n hx hb dX9_howMany_142 rfl (lv_at hl 0 rfl) ?_
      refine mg_seen C h dX9_howMany_143 ?_
      exact hret _ () _ _ _ _ h (hm_in hr_1 hk_1 (by decide) rfl) dX9_howMany_146
    · refine gas (show nI j = nI 9 by rw [hk_1]) ?_
      refine lv_tableIn (tgt := 147) (off := 146) hx hb dX9_howMany_1 (by decide) (by decide) (by decide) (by decide) ?_
      refine lv_aload_n hx hb dX9_howMany_147 rfl (lv_at hl 0 rfl) ?_
      refine mg_pageLength C h dX9_howMany_148 ?_
      exact hret _ () _ _ _ _ h (hm_in hr_1 hk_1 (by decide) rfl) dX9_howMany_151
    · refine gas (show nI j = nI 10 by rw [hk_1]) ?_
      refine lv_tableIn (tgt := 152) (off := 151) hx hb dX9_howMany_1 (by decide) (by decide) (by decide) (by decide) ?_
      refine lv_aload_n hx hb dX9_howMany_152 rfl (lv_at hl 0 rfl) ?_
      refine mg_ropes C h dX9_howMany_153 ?_
      exact hret _ () _ _ _ _ h (hm_in hr_1 hk_1 (by decide) rfl) dX9_howMany_156
    · refine gas (show nI j = nI 11 by rw [hk_1]) ?_
      refine lv_tableIn (tgt := 157) (off := 156) hx hb dX9_howMany_1 (by decide) (by decide) (by decide) (by decide) ?_
      refine lv_aload_n hx hb dX9_howMany_157 rfl (lv_at hl 0 rfl) ?_
      refine mg_asks C h dX9_howMany_158 ?_
      exact hret _ () _ _ _ _ h (hm_in hr_1 hk_1 (by decide) rfl) dX9_howMany_161
  · refine lv_tableOut (tgt := 162) hx hb dX9_howMany_1 (sw_out (n := 11) (by decide) rfl hr_1) (by decide) ?_
    refine lv_bipush (v := -102) hx hb dX9_howMany_162 (by decide) ?_
    exact hret _ () _ _ _ _ h (by unfold hmF; rw [if_neg hr_1]) dX9_howMany_164
set_option maxHeartbeats 1000000 in
set_option maxRecDepth 100000 in
theorem kX9_isTold (l : Launch) (D : va_G) (ct : Nat → ClassId) (x : Int32) : MI l yX9_isTold (gWs yX9_isTold cX9_isTold 1 (some .boolean)) rmX9_isTold D ct gNo [.int x] [] (fun _ : Unit => []) (fun r _ => r = (if (0 ≤ x ∧ x ≤ 7) ∨ (10 ≤ x ∧ x ≤ 12) ∨ (20 ≤ x ∧ x ≤ 22) then 1 else 0)) := by
  refine MI.ofZ RX9 rfl (by decide) (Nat.le_of_ble_eq_true rfl) ?_
  intro zp ze zs zm za zb zt zc zA ls zQ C h hX hl hret
  have hx := C.1
  have hb := C.2.1
  have hl : lv_has ls 1 [(0, .int x)] := hl
  refine lv_iload_n hx hb dX9_isTold_0 rfl (lv_at hl 0 rfl) ?_
  refine lv_iconst (v := 0) hx hb dX9_isTold_1 (by decide) ?_
  refine lv_bipush (v := 7) hx hb dX9_isTold_2 (by decide) ?_
  refine gcallSi C h (kX9_within l D ct x 0 7) (va_cwS 3 C.2.2.2.2 (gInS q817 q818 q66 q819) rfl rfl rfl hdX9_within ⟨Nat.le_of_ble_eq_true rfl, Nat.le_of_ble_eq_true rfl⟩) rfl hl.1 rfl (Nat.le_of_ble_eq_true rfl) dX9_isTold_4 ⟨Nat.zero_le _, Nat.zero_le _⟩ (fun H ll h => ?_)
  refine bz_ne hx hb (0 ≤ x ∧ x ≤ 7) (tgt := 32) dX9_isTold_7 (by decide) (fun c_7 => ?_) (fun c_7 => ?_)
  · refine lv_iconst (v := 1) hx hb dX9_isTold_32 (by decide) ?_
    refine lv_goto (tgt := 37) hx hb dX9_isTold_33 (by decide) ?_
    exact hret _ () _ _ _ _ h (by first | exact (if_pos (Or.inl c_7)).symm | exact (if_pos (Or.inr (Or.inl c_18))).symm | exact (if_pos (Or.inr (Or.inr c_29))).symm | exact (if_neg (fun h9 => h9.elim c_7 (fun h9 => h9.elim c_18 c_29))).symm) dX9_isTold_37 (by decide)
  · refine lv_iload_n hx hb dX9_isTold_10 rfl (lv_at hl 0 rfl) ?_
    refine lv_bipush (v := 10) hx hb dX9_isTold_11 (by decide) ?_
    refine lv_bipush (v := 12) hx hb dX9_isTold_13 (by decide) ?_
    refine gcallSi C h (kX9_within l D ct x 10 12) (va_cwS 3 C.2.2.2.2 (gInS q817 q818 q66 q819) rfl rfl rfl hdX9_within ⟨Nat.le_of_ble_eq_true rfl, Nat.le_of_ble_eq_true rfl⟩) rfl hl.1 rfl (Nat.le_of_ble_eq_true rfl) dX9_isTold_15 ⟨Nat.zero_le _, Nat.zero_le _⟩ (fun H ll h => ?_)
    refine bz_ne hx hb (10 ≤ x ∧ x ≤ 12) (tgt := 32) dX9_isTold_18 (by decide) (fun c_18 => ?_) (fun c_18 => ?_)
    · refine lv_iconst (v := 1) hx hb dX9_isTold_32 (by decide) ?_
      refine lv_goto (tgt := 37) hx hb dX9_isTold_33 (by decide) ?_
      exact hret _ () _ _ _ _ h (by first | exact (if_pos (Or.inl c_7)).symm | exact (if_pos (Or.inr (Or.inl c_18))).symm | exact (if_pos (Or.inr (Or.inr c_29))).symm | exact (if_neg (fun h9 => h9.elim c_7 (fun h9 => h9.elim c_18 c_29))).symm) dX9_isTold_37 (by decide)
    · refine lv_iload_n hx hb dX9_isTold_21 rfl (lv_at hl 0 rfl) ?_
      refine lv_bipush (v := 20) hx hb dX9_isTold_22 (by decide) ?_
      refine lv_bipush (v := 22) hx hb dX9_isTold_24 (by decide) ?_
      refine gcallSi C h (kX9_within l D ct x 20 22) (va_cwS 3 C.2.2.2.2 (gInS q817 q818 q66 q819) rfl rfl rfl hdX9_within ⟨Nat.le_of_ble_eq_true rfl, Nat.le_of_ble_eq_true rfl⟩) rfl hl.1 rfl (Nat.le_of_ble_eq_true rfl) dX9_isTold_26 ⟨Nat.zero_le _, Nat.zero_le _⟩ (fun H ll h => ?_)
      refine bz_eq hx hb (20 ≤ x ∧ x ≤ 22) (tgt := 36) dX9_isTold_29 (by decide) (fun c_29 => ?_) (fun c_29 => ?_)
      · refine lv_iconst (v := 0) hx hb dX9_isTold_36 (by decide) ?_
        exact hret _ () _ _ _ _ h (by first | exact (if_pos (Or.inl c_7)).symm | exact (if_pos (Or.inr (Or.inl c_18))).symm | exact (if_pos (Or.inr (Or.inr c_29))).symm | exact (if_neg (fun h9 => h9.elim c_7 (fun h9 => h9.elim c_18 c_29))).symm) dX9_isTold_37 (by decide)
      · refine lv_iconst (v := 1) hx hb dX9_isTold_32 (by decide) ?_
        refine lv_goto (tgt := 37) hx hb dX9_isTold_33 (by decide) ?_
        exact hret _ () _ _ _ _ h (by first | exact (if_pos (Or.inl c_7)).symm | exact (if_pos (Or.inr (Or.inl c_18))).symm | exact (if_pos (Or.inr (Or.inr c_29))).symm | exact (if_neg (fun h9 => h9.elim c_7 (fun h9 => h9.elim c_18 c_29))).symm) dX9_isTold_37 (by decide)
set_option maxHeartbeats 1000000 in
set_option maxRecDepth 100000 in
theorem kX9_mix (l : Launch) (D : va_G) (ct : Nat → ClassId) (ad : Nat → Nat) (σ : Nat → Nat → Int32) (τ : Nat → Nat → Int64) (v : Int64) : MV l yX9_mix (gWs yX9_mix cX9_mix 3 none) rmX9_mix D ct gNo [.ref (ad 0), .long v] (wM ad ct σ τ) (fun u : (Nat → Nat → Int32) × (Nat → Nat → Int64) => wM ad ct u.1 u.2) (fun u => u = (σ, va_up τ 36 (fun _ => 31 * τ 36 0 + v))) := by
  refine MV.of RX9 rfl (by decide) (Nat.le_of_ble_eq_true rfl) ?_
  intro zp ze zs zm za zb zt zc zA ls zQ C h hX hl hret
  have hx := C.1
  have hb := C.2.1
  have hl : lv_has ls 3 [(0, .ref (ad 0)), (1, .long v)] := hl
  refine lv_aload_n hx hb dX9_mix_0 rfl (lv_at hl 0 rfl) ?_
  refine lv_ldc2 (v := 31) hx hb C.2.2.2.1 (C.2.2.2.2 _ (gWs_in q1091)) dX9_mix_1 ?_
  refine lv_aload_n hx hb dX9_mix_4 rfl (lv_at hl 0 rfl) ?_
  refine mg_h C h dX9_mix_5 ?_
  refine lv_lmul hx hb dX9_mix_8 ?_
  refine lv_lload_n hx hb dX9_mix_9 rfl (lv_at hl 1 rfl) ?_
  refine lv_ladd hx hb dX9_mix_10 ?_
  refine mp_h C h dX9_mix_11 (fun H ll h => ?_)
  have h : gW D ct zA zs _ _ (wM ad ct σ (va_up τ 36 (fun _ => 31 * τ 36 0 + v))) := h
  exact hret (σ, va_up τ 36 (fun _ => 31 * τ 36 0 + v)) _ _ _ _ h rfl dX9_mix_14
set_option maxHeartbeats 1000000 in
set_option maxRecDepth 100000 in
theorem kX9_mixQuestion (l : Launch) (D : va_G) (ct : Nat → ClassId) (ad : Nat → Nat) (σ : Nat → Nat → Int32) (τ : Nat → Nat → Int64) (n c : Nat) (kd : Nat → Nat) (hok : MOK σ n c kd) (q : Nat) (hq : q < 3) : MV l yX9_mixQuestion (gWs yX9_mixQuestion cX9_mixQuestion 3 none) rmX9_mixQuestion D ct gNo [.ref (ad 0), .int (nI q)] (wM ad ct σ τ) (fun u : (Nat → Nat → Int32) × (Nat → Nat → Int64) => wM ad ct u.1 u.2) (fun u => u = (va_up σ 5 (fun _ => nI c), va_up τ 36 (fun _ => mqF σ n c kd q (τ 36 0)))) := by
  refine MV.of RX9 rfl (by decide) (Nat.le_of_ble_eq_true rfl) ?_
  intro zp ze zs zm za zb zt zc zA ls zQ C h hX hl hret
  have hx := C.1
  have hb := C.2.1
  have hl : lv_has ls 3 [(0, .ref (ad 0)), (1, .int (nI q))] := hl
  have hok0 := hok
  obtain ⟨hn, hn8, hc, hc8, hkd⟩ := hok0
  have hokc := hok5 hok
  refine lv_iconst (v := 0) hx hb dX9_mixQuestion_0 (by decide) ?_
  refine lv_istore_n (lv' := [(2, .int 0), (0, .ref (ad 0)), (1, .int (nI q))]) hx hb dX9_mixQuestion_1 rfl hl (by decide) rfl (fun ls hl => ?_)
  have L2_0 : ∀ (kk : Nat) (i : Nat) (H : Heap) (ll : List Loc) (ls : Array Slot), 6 - i = kk → (i ≤ 6) → gW D ct zA zs H ll (wM ad ct σ (va_up τ 36 (fun _ => hx31 (qnF σ n c kd q) (τ 36 0) i))) → lv_has ls 3 [(2, .int (nI i)), (0, .ref (ad 0)), (1, .int (nI q))] → W zp l ze rmX9_mixQuestion zs zm za zb zt zc H ll 0 0 zQ (F0 zm 2 ls []) := by
    intro kk2
    induction kk2 using Nat.strongRecOn with
    | _ kk2 ih2 =>
    intro i H ll ls hk2 hi h hl
    refine lv_iload_n hx hb dX9_mixQuestion_2 rfl (lv_at hl 0 rfl) ?_
    refine lv_bipush (v := 6) hx hb dX9_mixQuestion_3 (by decide) ?_
    refine nb_ge hx hb i 6 (by omega) (by omega) (tgt := 25) dX9_mixQuestion_5 (by decide) (fun c_5 => ?_) (fun c_5 => ?_)
    · have e8 : i = 6 := by omega
      rw [e8] at h
      refine lv_iconst (v := 0) hx hb dX9_mixQuestion_25 (by decide) ?_
      refine lv_istore_n (lv' := [(2, .int 0), (0, .ref (ad 0)), (1, .int (nI q))]) hx hb dX9_mixQuestion_26 rfl hl (by decide) rfl (fun ls hl => ?_)
      have L27_1 : ∀ (kk : Nat) (m : Nat) (H : Heap) (ll : List Loc) (ls : Array Slot), n - m = kk → (m ≤ n) → gW D ct zA zs H ll (wM ad ct σ (va_up τ 36 (fun _ => hx31 (fun k => nI (sayM σ n c kd (k / 2) q (k % 2))) (hx31 (qnF σ n c kd q) (τ 36 0) 6) (2 * m)))) → lv_has ls 3 [(2, .int (nI m)), (0, .ref (ad 0)), (1, .int (nI q))] → W zp l ze rmX9_mixQuestion zs zm za zb zt zc H ll 0 0 zQ (F0 zm 27 ls []) := by
        intro kk27
        induction kk27 using Nat.strongRecOn with
        | _ kk27 ih27 =>
        intro m H ll ls hk27 hm h hl
        refine lv_iload_n hx hb dX9_mixQuestion_27 rfl (lv_at hl 0 rfl) ?_
        refine lv_aload_n hx hb dX9_mixQuestion_28 rfl (lv_at hl 1 rfl) ?_
        refine mg_mussels C h dX9_mixQuestion_29 ?_
        refine gas hn ?_
        refine nb_ge hx hb m n (by omega) (by omega) (tgt := 65) dX9_mixQuestion_32 (by decide) (fun c_32 => ?_) (fun c_32 => ?_)
        · have e8 : m = n := by omega
          rw [e8] at h
          refine lv_aload_n hx hb dX9_mixQuestion_65 rfl (lv_at hl 1 rfl) ?_
          refine lv_aload_n hx hb dX9_mixQuestion_66 rfl (lv_at hl 1 rfl) ?_
          refine lv_iload_n hx hb dX9_mixQuestion_67 rfl (lv_at hl 2 rfl) ?_
          refine lv_iconst (v := 3) hx hb dX9_mixQuestion_68 (by decide) ?_
          refine lv_iconst (v := 0) hx hb dX9_mixQuestion_69 (by decide) ?_
          refine gcallVi C h trivial gNo_ok (kX9_chanceNow l D ct ad σ (va_up τ 36 (fun _ => hx31 (fun k => nI (sayM σ n c kd (k / 2) q (k % 2))) (hx31 (qnF σ n c kd q) (τ 36 0) 6) (2 * n))) n c kd hok q 3 0 (by omega) (by omega) (by omega)) (cwV 3 C.2.2.2.2 (gInV q989 q991 q41 q66 q992) rfl rfl rfl hvX9_chanceNow ⟨Nat.le_of_ble_eq_true rfl, Nat.le_of_ble_eq_true rfl⟩) 0 (wM_o ad ct σ (va_up τ 36 (fun _ => hx31 (fun k => nI (sayM σ n c kd (k / 2) q (k % 2))) (hx31 (qnF σ n c kd q) (τ 36 0) 6) (2 * n)))) rfl rfl rfl hl.1 rfl (Nat.le_of_ble_eq_true rfl) dX9_mixQuestion_70 ⟨Nat.zero_le _, Nat.zero_le _⟩ (fun r9 u9 H ll hw h => ?_)
          have hw : r9 = nI (chM σ n c kd q 3 0) := hw
          subst hw
          have h : gW D ct zA zs _ _ (wM ad ct σ (va_up τ 36 (fun _ => hx31 (fun k => nI (sayM σ n c kd (k / 2) q (k % 2))) (hx31 (qnF σ n c kd q) (τ 36 0) 6) (2 * n)))) := h
          refine lv_i2l (v := (nI (chM σ n c kd q 3 0)).toInt64) hx hb dX9_mixQuestion_73 rfl ?_
          refine gcallVv C h trivial gNo_ok (kX9_mix l D ct ad σ (va_up τ 36 (fun _ => hx31 (fun k => nI (sayM σ n c kd (k / 2) q (k % 2))) (hx31 (qnF σ n c kd q) (τ 36 0) 6) (2 * n))) ((nI (chM σ n c kd q 3 0)).toInt64)) (cwV 1 C.2.2.2.2 (gInV q1087 q1089 q54 q66 q1090) rfl rfl rfl hvX9_mix ⟨Nat.le_of_ble_eq_true rfl, Nat.le_of_ble_eq_true rfl⟩) 0 (wM_o ad ct σ (va_up τ 36 (fun _ => hx31 (fun k => nI (sayM σ n c kd (k / 2) q (k % 2))) (hx31 (qnF σ n c kd q) (τ 36 0) 6) (2 * n)))) rfl rfl rfl hl.1 rfl (Nat.le_of_ble_eq_true rfl) dX9_mixQuestion_74 ⟨Nat.zero_le _, Nat.zero_le _⟩ (fun u9 H ll hw h => ?_)
          subst hw
          have h : gW D ct zA zs _ _ (wM ad ct σ (va_up τ 36 (fun _ => 31 * (hx31 (fun k => nI (sayM σ n c kd (k / 2) q (k % 2))) (hx31 (qnF σ n c kd q) (τ 36 0) 6) (2 * n)) + ((nI (chM σ n c kd q 3 0)).toInt64)))) := h
          refine lv_aload_n hx hb dX9_mixQuestion_77 rfl (lv_at hl 1 rfl) ?_
          refine lv_aload_n hx hb dX9_mixQuestion_78 rfl (lv_at hl 1 rfl) ?_
          refine lv_iload_n hx hb dX9_mixQuestion_79 rfl (lv_at hl 2 rfl) ?_
          refine lv_iconst (v := 3) hx hb dX9_mixQuestion_80 (by decide) ?_
          refine lv_iconst (v := 1) hx hb dX9_mixQuestion_81 (by decide) ?_
          refine gcallVi C h trivial gNo_ok (kX9_chanceNow l D ct ad σ (va_up τ 36 (fun _ => 31 * (hx31 (fun k => nI (sayM σ n c kd (k / 2) q (k % 2))) (hx31 (qnF σ n c kd q) (τ 36 0) 6) (2 * n)) + ((nI (chM σ n c kd q 3 0)).toInt64))) n c kd hok q 3 1 (by omega) (by omega) (by omega)) (cwV 3 C.2.2.2.2 (gInV q989 q991 q41 q66 q992) rfl rfl rfl hvX9_chanceNow ⟨Nat.le_of_ble_eq_true rfl, Nat.le_of_ble_eq_true rfl⟩) 0 (wM_o ad ct σ (va_up τ 36 (fun _ => 31 * (hx31 (fun k => nI (sayM σ n c kd (k / 2) q (k % 2))) (hx31 (qnF σ n c kd q) (τ 36 0) 6) (2 * n)) + ((nI (chM σ n c kd q 3 0)).toInt64)))) rfl rfl rfl hl.1 rfl (Nat.le_of_ble_eq_true rfl) dX9_mixQuestion_82 ⟨Nat.zero_le _, Nat.zero_le _⟩ (fun r9 u9 H ll hw h => ?_)
          have hw : r9 = nI (chM σ n c kd q 3 1) := hw
          subst hw
          have h : gW D ct zA zs _ _ (wM ad ct σ (va_up τ 36 (fun _ => 31 * (hx31 (fun k => nI (sayM σ n c kd (k / 2) q (k % 2))) (hx31 (qnF σ n c kd q) (τ 36 0) 6) (2 * n)) + ((nI (chM σ n c kd q 3 0)).toInt64)))) := h
          refine lv_i2l (v := (nI (chM σ n c kd q 3 1)).toInt64) hx hb dX9_mixQuestion_85 rfl ?_
          refine gcallVv C h trivial gNo_ok (kX9_mix l D ct ad σ (va_up τ 36 (fun _ => 31 * (hx31 (fun k => nI (sayM σ n c kd (k / 2) q (k % 2))) (hx31 (qnF σ n c kd q) (τ 36 0) 6) (2 * n)) + ((nI (chM σ n c kd q 3 0)).toInt64))) ((nI (chM σ n c kd q 3 1)).toInt64)) (cwV 1 C.2.2.2.2 (gInV q1087 q1089 q54 q66 q1090) rfl rfl rfl hvX9_mix ⟨Nat.le_of_ble_eq_true rfl, Nat.le_of_ble_eq_true rfl⟩) 0 (wM_o ad ct σ (va_up τ 36 (fun _ => 31 * (hx31 (fun k => nI (sayM σ n c kd (k / 2) q (k % 2))) (hx31 (qnF σ n c kd q) (τ 36 0) 6) (2 * n)) + ((nI (chM σ n c kd q 3 0)).toInt64)))) rfl rfl rfl hl.1 rfl (Nat.le_of_ble_eq_true rfl) dX9_mixQuestion_86 ⟨Nat.zero_le _, Nat.zero_le _⟩ (fun u9 H ll hw h => ?_)
          subst hw
          have h : gW D ct zA zs _ _ (wM ad ct σ (va_up τ 36 (fun _ => 31 * (31 * (hx31 (fun k => nI (sayM σ n c kd (k / 2) q (k % 2))) (hx31 (qnF σ n c kd q) (τ 36 0) 6) (2 * n)) + ((nI (chM σ n c kd q 3 0)).toInt64)) + ((nI (chM σ n c kd q 3 1)).toInt64)))) := h
          refine lv_aload_n hx hb dX9_mixQuestion_89 rfl (lv_at hl 1 rfl) ?_
          refine lv_aload_n hx hb dX9_mixQuestion_90 rfl (lv_at hl 1 rfl) ?_
          refine lv_iload_n hx hb dX9_mixQuestion_91 rfl (lv_at hl 2 rfl) ?_
          refine lv_iconst (v := 1) hx hb dX9_mixQuestion_92 (by decide) ?_
          refine lv_iconst (v := 0) hx hb dX9_mixQuestion_93 (by decide) ?_
          refine gcallVi C h trivial gNo_ok (kX9_cutsNow l D ct ad σ (va_up τ 36 (fun _ => 31 * (31 * (hx31 (fun k => nI (sayM σ n c kd (k / 2) q (k % 2))) (hx31 (qnF σ n c kd q) (τ 36 0) 6) (2 * n)) + ((nI (chM σ n c kd q 3 0)).toInt64)) + ((nI (chM σ n c kd q 3 1)).toInt64))) n c kd hok q 1 0 (by omega) (by omega)) (cwV 3 C.2.2.2.2 (gInV q997 q999 q42 q66 q1000) rfl rfl rfl hvX9_cutsNow ⟨Nat.le_of_ble_eq_true rfl, Nat.le_of_ble_eq_true rfl⟩) 0 (wM_o ad ct σ (va_up τ 36 (fun _ => 31 * (31 * (hx31 (fun k => nI (sayM σ n c kd (k / 2) q (k % 2))) (hx31 (qnF σ n c kd q) (τ 36 0) 6) (2 * n)) + ((nI (chM σ n c kd q 3 0)).toInt64)) + ((nI (chM σ n c kd q 3 1)).toInt64)))) rfl rfl rfl hl.1 rfl (Nat.le_of_ble_eq_true rfl) dX9_mixQuestion_94 ⟨Nat.zero_le _, Nat.zero_le _⟩ (fun r9 u9 H ll hw h => ?_)
          obtain ⟨hw, rfl⟩ := hw
          have hw : r9 = toldB (cutB σ n c kd q 1 (1 * 2 ^ n)) 0 := hw
          subst hw
          have h : gW D ct zA zs _ _ (wM ad ct (va_up σ 5 (fun _ => nI c)) (va_up τ 36 (fun _ => 31 * (31 * (hx31 (fun k => nI (sayM σ n c kd (k / 2) q (k % 2))) (hx31 (qnF σ n c kd q) (τ 36 0) 6) (2 * n)) + ((nI (chM σ n c kd q 3 0)).toInt64)) + ((nI (chM σ n c kd q 3 1)).toInt64)))) := h
          refine lv_i2l (v := (toldB (cutB σ n c kd q 1 (1 * 2 ^ n)) 0).toInt64) hx hb dX9_mixQuestion_97 rfl ?_
          refine gcallVv C h trivial gNo_ok (kX9_mix l D ct ad (va_up σ 5 (fun _ => nI c)) (va_up τ 36 (fun _ => 31 * (31 * (hx31 (fun k => nI (sayM σ n c kd (k / 2) q (k % 2))) (hx31 (qnF σ n c kd q) (τ 36 0) 6) (2 * n)) + ((nI (chM σ n c kd q 3 0)).toInt64)) + ((nI (chM σ n c kd q 3 1)).toInt64))) ((toldB (cutB σ n c kd q 1 (1 * 2 ^ n)) 0).toInt64)) (cwV 1 C.2.2.2.2 (gInV q1087 q1089 q54 q66 q1090) rfl rfl rfl hvX9_mix ⟨Nat.le_of_ble_eq_true rfl, Nat.le_of_ble_eq_true rfl⟩) 0 (wM_o ad ct (va_up σ 5 (fun _ => nI c)) (va_up τ 36 (fun _ => 31 * (31 * (hx31 (fun k => nI (sayM σ n c kd (k / 2) q (k % 2))) (hx31 (qnF σ n c kd q) (τ 36 0) 6) (2 * n)) + ((nI (chM σ n c kd q 3 0)).toInt64)) + ((nI (chM σ n c kd q 3 1)).toInt64)))) rfl rfl rfl hl.1 rfl (Nat.le_of_ble_eq_true rfl) dX9_mixQuestion_98 ⟨Nat.zero_le _, Nat.zero_le _⟩ (fun u9 H ll hw h => ?_)
          subst hw
          have h : gW D ct zA zs _ _ (wM ad ct (va_up σ 5 (fun _ => nI c)) (va_up τ 36 (fun _ => 31 * (31 * (31 * (hx31 (fun k => nI (sayM σ n c kd (k / 2) q (k % 2))) (hx31 (qnF σ n c kd q) (τ 36 0) 6) (2 * n)) + ((nI (chM σ n c kd q 3 0)).toInt64)) + ((nI (chM σ n c kd q 3 1)).toInt64)) + ((toldB (cutB σ n c kd q 1 (1 * 2 ^ n)) 0).toInt64)))) := h
          refine lv_aload_n hx hb dX9_mixQuestion_101 rfl (lv_at hl 1 rfl) ?_
          refine lv_aload_n hx hb dX9_mixQuestion_102 rfl (lv_at hl 1 rfl) ?_
          refine lv_iload_n hx hb dX9_mixQuestion_103 rfl (lv_at hl 2 rfl) ?_
          refine lv_iconst (v := 1) hx hb dX9_mixQuestion_104 (by decide) ?_
          refine lv_iconst (v := 1) hx hb dX9_mixQuestion_105 (by decide) ?_
          refine gcallVi C h trivial gNo_ok (kX9_cutsNow l D ct ad (va_up σ 5 (fun _ => nI c)) (va_up τ 36 (fun _ => 31 * (31 * (31 * (hx31 (fun k => nI (sayM σ n c kd (k / 2) q (k % 2))) (hx31 (qnF σ n c kd q) (τ 36 0) 6) (2 * n)) + ((nI (chM σ n c kd q 3 0)).toInt64)) + ((nI (chM σ n c kd q 3 1)).toInt64)) + ((toldB (cutB σ n c kd q 1 (1 * 2 ^ n)) 0).toInt64))) n c kd hokc q 1 1 (by omega) (by omega)) (cwV 3 C.2.2.2.2 (gInV q997 q999 q42 q66 q1000) rfl rfl rfl hvX9_cutsNow ⟨Nat.le_of_ble_eq_true rfl, Nat.le_of_ble_eq_true rfl⟩) 0 (wM_o ad ct (va_up σ 5 (fun _ => nI c)) (va_up τ 36 (fun _ => 31 * (31 * (31 * (hx31 (fun k => nI (sayM σ n c kd (k / 2) q (k % 2))) (hx31 (qnF σ n c kd q) (τ 36 0) 6) (2 * n)) + ((nI (chM σ n c kd q 3 0)).toInt64)) + ((nI (chM σ n c kd q 3 1)).toInt64)) + ((toldB (cutB σ n c kd q 1 (1 * 2 ^ n)) 0).toInt64)))) rfl rfl rfl hl.1 rfl (Nat.le_of_ble_eq_true rfl) dX9_mixQuestion_106 ⟨Nat.zero_le _, Nat.zero_le _⟩ (fun r9 u9 H ll hw h => ?_)
          obtain ⟨hw, rfl⟩ := hw
          have hw : r9 = toldB (cutB σ n c kd q 1 (1 * 2 ^ n)) 1 := hw.trans (congrArg (fun b => toldB b _) (cutB_congr (σ := σ) (ρ := va_up σ 5 (fun _ => nI c)) rfl rfl _ _ _ _ _ _))
          subst hw
          have h : gW D ct zA zs _ _ (wM ad ct (va_up σ 5 (fun _ => nI c)) (va_up τ 36 (fun _ => 31 * (31 * (31 * (hx31 (fun k => nI (sayM σ n c kd (k / 2) q (k % 2))) (hx31 (qnF σ n c kd q) (τ 36 0) 6) (2 * n)) + ((nI (chM σ n c kd q 3 0)).toInt64)) + ((nI (chM σ n c kd q 3 1)).toInt64)) + ((toldB (cutB σ n c kd q 1 (1 * 2 ^ n)) 0).toInt64)))) := h
          refine lv_i2l (v := (toldB (cutB σ n c kd q 1 (1 * 2 ^ n)) 1).toInt64) hx hb dX9_mixQuestion_109 rfl ?_
          refine gcallVv C h trivial gNo_ok (kX9_mix l D ct ad (va_up σ 5 (fun _ => nI c)) (va_up τ 36 (fun _ => 31 * (31 * (31 * (hx31 (fun k => nI (sayM σ n c kd (k / 2) q (k % 2))) (hx31 (qnF σ n c kd q) (τ 36 0) 6) (2 * n)) + ((nI (chM σ n c kd q 3 0)).toInt64)) + ((nI (chM σ n c kd q 3 1)).toInt64)) + ((toldB (cutB σ n c kd q 1 (1 * 2 ^ n)) 0).toInt64))) ((toldB (cutB σ n c kd q 1 (1 * 2 ^ n)) 1).toInt64)) (cwV 1 C.2.2.2.2 (gInV q1087 q1089 q54 q66 q1090) rfl rfl rfl hvX9_mix ⟨Nat.le_of_ble_eq_true rfl, Nat.le_of_ble_eq_true rfl⟩) 0 (wM_o ad ct (va_up σ 5 (fun _ => nI c)) (va_up τ 36 (fun _ => 31 * (31 * (31 * (hx31 (fun k => nI (sayM σ n c kd (k / 2) q (k % 2))) (hx31 (qnF σ n c kd q) (τ 36 0) 6) (2 * n)) + ((nI (chM σ n c kd q 3 0)).toInt64)) + ((nI (chM σ n c kd q 3 1)).toInt64)) + ((toldB (cutB σ n c kd q 1 (1 * 2 ^ n)) 0).toInt64)))) rfl rfl rfl hl.1 rfl (Nat.le_of_ble_eq_true rfl) dX9_mixQuestion_110 ⟨Nat.zero_le _, Nat.zero_le _⟩ (fun u9 H ll hw h => ?_)
          subst hw
          have h : gW D ct zA zs _ _ (wM ad ct (va_up σ 5 (fun _ => nI c)) (va_up τ 36 (fun _ => 31 * (31 * (31 * (31 * (hx31 (fun k => nI (sayM σ n c kd (k / 2) q (k % 2))) (hx31 (qnF σ n c kd q) (τ 36 0) 6) (2 * n)) + ((nI (chM σ n c kd q 3 0)).toInt64)) + ((nI (chM σ n c kd q 3 1)).toInt64)) + ((toldB (cutB σ n c kd q 1 (1 * 2 ^ n)) 0).toInt64)) + ((toldB (cutB σ n c kd q 1 (1 * 2 ^ n)) 1).toInt64)))) := h
          have h : gW D ct zA zs _ _ (wM ad ct (va_up σ 5 (fun _ => nI c)) (va_up τ 36 (fun _ => mqF σ n c kd q (τ 36 0)))) := h
          exact hret (va_up σ 5 (fun _ => nI c), va_up τ 36 (fun _ => mqF σ n c kd q (τ 36 0))) _ _ _ _ h rfl dX9_mixQuestion_113
        · refine lv_aload_n hx hb dX9_mixQuestion_35 rfl (lv_at hl 1 rfl) ?_
          refine lv_aload_n hx hb dX9_mixQuestion_36 rfl (lv_at hl 1 rfl) ?_
          refine lv_iload_n hx hb dX9_mixQuestion_37 rfl (lv_at hl 0 rfl) ?_
          refine lv_iload_n hx hb dX9_mixQuestion_38 rfl (lv_at hl 2 rfl) ?_
          refine lv_iconst (v := 0) hx hb dX9_mixQuestion_39 (by decide) ?_
          refine gcallVi C h trivial gNo_ok (kX9_sayNow l D ct ad σ (va_up τ 36 (fun _ => hx31 (fun k => nI (sayM σ n c kd (k / 2) q (k % 2))) (hx31 (qnF σ n c kd q) (τ 36 0) 6) (2 * m))) n c kd hok m q 0 (by omega) (by omega) (by omega)) (cwV 3 C.2.2.2.2 (gInV q968 q970 q39 q66 q971) rfl rfl rfl hvX9_sayNow ⟨Nat.le_of_ble_eq_true rfl, Nat.le_of_ble_eq_true rfl⟩) 0 (wM_o ad ct σ (va_up τ 36 (fun _ => hx31 (fun k => nI (sayM σ n c kd (k / 2) q (k % 2))) (hx31 (qnF σ n c kd q) (τ 36 0) 6) (2 * m)))) rfl rfl rfl hl.1 rfl (Nat.le_of_ble_eq_true rfl) dX9_mixQuestion_40 ⟨Nat.zero_le _, Nat.zero_le _⟩ (fun r9 u9 H ll hw h => ?_)
          have hw : r9 = nI (sayM σ n c kd m q 0) := hw
          subst hw
          have h : gW D ct zA zs _ _ (wM ad ct σ (va_up τ 36 (fun _ => hx31 (fun k => nI (sayM σ n c kd (k / 2) q (k % 2))) (hx31 (qnF σ n c kd q) (τ 36 0) 6) (2 * m)))) := h
          refine lv_i2l (v := (nI (sayM σ n c kd m q 0)).toInt64) hx hb dX9_mixQuestion_43 rfl ?_
          refine gcallVv C h trivial gNo_ok (kX9_mix l D ct ad σ (va_up τ 36 (fun _ => hx31 (fun k => nI (sayM σ n c kd (k / 2) q (k % 2))) (hx31 (qnF σ n c kd q) (τ 36 0) 6) (2 * m))) ((nI (sayM σ n c kd m q 0)).toInt64)) (cwV 1 C.2.2.2.2 (gInV q1087 q1089 q54 q66 q1090) rfl rfl rfl hvX9_mix ⟨Nat.le_of_ble_eq_true rfl, Nat.le_of_ble_eq_true rfl⟩) 0 (wM_o ad ct σ (va_up τ 36 (fun _ => hx31 (fun k => nI (sayM σ n c kd (k / 2) q (k % 2))) (hx31 (qnF σ n c kd q) (τ 36 0) 6) (2 * m)))) rfl rfl rfl hl.1 rfl (Nat.le_of_ble_eq_true rfl) dX9_mixQuestion_44 ⟨Nat.zero_le _, Nat.zero_le _⟩ (fun u9 H ll hw h => ?_)
          subst hw
          have h : gW D ct zA zs _ _ (wM ad ct σ (va_up τ 36 (fun _ => 31 * (hx31 (fun k => nI (sayM σ n c kd (k / 2) q (k % 2))) (hx31 (qnF σ n c kd q) (τ 36 0) 6) (2 * m)) + ((nI (sayM σ n c kd m q 0)).toInt64)))) := h
          refine lv_aload_n hx hb dX9_mixQuestion_47 rfl (lv_at hl 1 rfl) ?_
          refine lv_aload_n hx hb dX9_mixQuestion_48 rfl (lv_at hl 1 rfl) ?_
          refine lv_iload_n hx hb dX9_mixQuestion_49 rfl (lv_at hl 0 rfl) ?_
          refine lv_iload_n hx hb dX9_mixQuestion_50 rfl (lv_at hl 2 rfl) ?_
          refine lv_iconst (v := 1) hx hb dX9_mixQuestion_51 (by decide) ?_
          refine gcallVi C h trivial gNo_ok (kX9_sayNow l D ct ad σ (va_up τ 36 (fun _ => 31 * (hx31 (fun k => nI (sayM σ n c kd (k / 2) q (k % 2))) (hx31 (qnF σ n c kd q) (τ 36 0) 6) (2 * m)) + ((nI (sayM σ n c kd m q 0)).toInt64))) n c kd hok m q 1 (by omega) (by omega) (by omega)) (cwV 3 C.2.2.2.2 (gInV q968 q970 q39 q66 q971) rfl rfl rfl hvX9_sayNow ⟨Nat.le_of_ble_eq_true rfl, Nat.le_of_ble_eq_true rfl⟩) 0 (wM_o ad ct σ (va_up τ 36 (fun _ => 31 * (hx31 (fun k => nI (sayM σ n c kd (k / 2) q (k % 2))) (hx31 (qnF σ n c kd q) (τ 36 0) 6) (2 * m)) + ((nI (sayM σ n c kd m q 0)).toInt64)))) rfl rfl rfl hl.1 rfl (Nat.le_of_ble_eq_true rfl) dX9_mixQuestion_52 ⟨Nat.zero_le _, Nat.zero_le _⟩ (fun r9 u9 H ll hw h => ?_)
          have hw : r9 = nI (sayM σ n c kd m q 1) := hw
          subst hw
          have h : gW D ct zA zs _ _ (wM ad ct σ (va_up τ 36 (fun _ => 31 * (hx31 (fun k => nI (sayM σ n c kd (k / 2) q (k % 2))) (hx31 (qnF σ n c kd q) (τ 36 0) 6) (2 * m)) + ((nI (sayM σ n c kd m q 0)).toInt64)))) := h
          refine lv_i2l (v := (nI (sayM σ n c kd m q 1)).toInt64) hx hb dX9_mixQuestion_55 rfl ?_
          refine gcallVv C h trivial gNo_ok (kX9_mix l D ct ad σ (va_up τ 36 (fun _ => 31 * (hx31 (fun k => nI (sayM σ n c kd (k / 2) q (k % 2))) (hx31 (qnF σ n c kd q) (τ 36 0) 6) (2 * m)) + ((nI (sayM σ n c kd m q 0)).toInt64))) ((nI (sayM σ n c kd m q 1)).toInt64)) (cwV 1 C.2.2.2.2 (gInV q1087 q1089 q54 q66 q1090) rfl rfl rfl hvX9_mix ⟨Nat.le_of_ble_eq_true rfl, Nat.le_of_ble_eq_true rfl⟩) 0 (wM_o ad ct σ (va_up τ 36 (fun _ => 31 * (hx31 (fun k => nI (sayM σ n c kd (k / 2) q (k % 2))) (hx31 (qnF σ n c kd q) (τ 36 0) 6) (2 * m)) + ((nI (sayM σ n c kd m q 0)).toInt64)))) rfl rfl rfl hl.1 rfl (Nat.le_of_ble_eq_true rfl) dX9_mixQuestion_56 ⟨Nat.zero_le _, Nat.zero_le _⟩ (fun u9 H ll hw h => ?_)
          subst hw
          have h : gW D ct zA zs _ _ (wM ad ct σ (va_up τ 36 (fun _ => 31 * (31 * (hx31 (fun k => nI (sayM σ n c kd (k / 2) q (k % 2))) (hx31 (qnF σ n c kd q) (τ 36 0) 6) (2 * m)) + ((nI (sayM σ n c kd m q 0)).toInt64)) + ((nI (sayM σ n c kd m q 1)).toInt64)))) := h
          refine ninc (lv' := [(2, .int (nI (m + 1))), (0, .ref (ad 0)), (1, .int (nI q))]) hx hb m 1 dX9_mixQuestion_59 hl (k := 0) rfl (by decide) rfl (fun ls hl => ?_)
          refine lv_goto (tgt := 27) hx hb dX9_mixQuestion_62 (by decide) ?_
          have e9 : hx31 (fun k => nI (sayM σ n c kd (k / 2) q (k % 2))) (hx31 (qnF σ n c kd q) (τ 36 0) 6) (2 * (m + 1)) = 31 * (31 * (hx31 (fun k => nI (sayM σ n c kd (k / 2) q (k % 2))) (hx31 (qnF σ n c kd q) (τ 36 0) 6) (2 * m)) + ((nI (sayM σ n c kd m q 0)).toInt64)) + ((nI (sayM σ n c kd m q 1)).toInt64) := by rw [show 2 * (m + 1) = 2 * m + 1 + 1 by omega]; simp only [hx31]; rw [show (2 * m + 1) / 2 = m by omega, show (2 * m + 1) % 2 = 1 by omega, show 2 * m / 2 = m by omega, show 2 * m % 2 = 0 by omega]
          rw [← e9] at h
          exact ih27 _ (by omega) (m + 1) _ _ _ rfl (by omega) h (lv_sub hl [0, 1, 2] rfl)
      exact L27_1 _ 0 _ _ _ rfl (by omega) h (lv_sub hl [0, 1, 2] rfl)
    · refine lv_aload_n hx hb dX9_mixQuestion_8 rfl (lv_at hl 1 rfl) ?_
      refine lv_aload_n hx hb dX9_mixQuestion_9 rfl (lv_at hl 1 rfl) ?_
      refine lv_iload_n hx hb dX9_mixQuestion_10 rfl (lv_at hl 2 rfl) ?_
      refine lv_iload_n hx hb dX9_mixQuestion_11 rfl (lv_at hl 0 rfl) ?_
      refine gcallVi C h trivial gNo_ok (kX9_questionNow l D ct ad σ (va_up τ 36 (fun _ => hx31 (qnF σ n c kd q) (τ 36 0) i)) n c kd hok q i (by omega) (by omega)) (cwV 2 C.2.2.2.2 (gInV q920 q922 q34 q66 q923) rfl rfl rfl hvX9_questionNow ⟨Nat.le_of_ble_eq_true rfl, Nat.le_of_ble_eq_true rfl⟩) 0 (wM_o ad ct σ (va_up τ 36 (fun _ => hx31 (qnF σ n c kd q) (τ 36 0) i))) rfl rfl rfl hl.1 rfl (Nat.le_of_ble_eq_true rfl) dX9_mixQuestion_12 ⟨Nat.zero_le _, Nat.zero_le _⟩ (fun r9 u9 H ll hw h => ?_)
      have hw : r9 = qnF σ n c kd q i := hw
      subst hw
      have h : gW D ct zA zs _ _ (wM ad ct σ (va_up τ 36 (fun _ => hx31 (qnF σ n c kd q) (τ 36 0) i))) := h
      refine lv_i2l (v := (qnF σ n c kd q i).toInt64) hx hb dX9_mixQuestion_15 rfl ?_
      refine gcallVv C h trivial gNo_ok (kX9_mix l D ct ad σ (va_up τ 36 (fun _ => hx31 (qnF σ n c kd q) (τ 36 0) i)) ((qnF σ n c kd q i).toInt64)) (cwV 1 C.2.2.2.2 (gInV q1087 q1089 q54 q66 q1090) rfl rfl rfl hvX9_mix ⟨Nat.le_of_ble_eq_true rfl, Nat.le_of_ble_eq_true rfl⟩) 0 (wM_o ad ct σ (va_up τ 36 (fun _ => hx31 (qnF σ n c kd q) (τ 36 0) i))) rfl rfl rfl hl.1 rfl (Nat.le_of_ble_eq_true rfl) dX9_mixQuestion_16 ⟨Nat.zero_le _, Nat.zero_le _⟩ (fun u9 H ll hw h => ?_)
      subst hw
      have h : gW D ct zA zs _ _ (wM ad ct σ (va_up τ 36 (fun _ => 31 * (hx31 (qnF σ n c kd q) (τ 36 0) i) + ((qnF σ n c kd q i).toInt64)))) := h
      refine ninc (lv' := [(2, .int (nI (i + 1))), (0, .ref (ad 0)), (1, .int (nI q))]) hx hb i 1 dX9_mixQuestion_19 hl (k := 0) rfl (by decide) rfl (fun ls hl => ?_)
      refine lv_goto (tgt := 2) hx hb dX9_mixQuestion_22 (by decide) ?_
      exact ih2 _ (by omega) (i + 1) _ _ _ rfl (by omega) h (lv_sub hl [0, 1, 2] rfl)
  exact L2_0 _ 0 _ _ _ rfl (by omega) h (lv_sub hl [0, 1, 2] rfl)
