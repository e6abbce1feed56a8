theorem td4_congr {σ ρ : Nat → Nat → Int32} (h4 : ρ 4 = σ 4) (n c : Nat) (kd : Nat → Nat) : td4 ρ n c kd = td4 σ n c kd := by
  funext j; unfold td4 tdM; rw [leM_congr h4, h4]
theorem itM_congr {σ ρ : Nat → Nat → Int32} (h4 : ρ 4 = σ 4) (n c : Nat) (kd : Nat → Nat) : ∀ i, itM ρ n c kd i = itM σ n c kd i
  | 0 => h4
  | i + 1 => by simp only [itM]; rw [itM_congr h4 n c kd i]; exact td4_congr (σ := va_up σ 4 (itM σ n c kd i)) (ρ := va_up ρ 4 (itM σ n c kd i)) rfl n c kd
theorem hsM_congr {σ ρ : Nat → Nat → Int32} (h4 : ρ 4 = σ 4) (n c : Nat) (kd : Nat → Nat) : hsM ρ n c kd = hsM σ n c kd := by
  funext i; unfold hsM; rw [itM_congr h4]
theorem mnF_congr {σ ρ : Nat → Nat → Int32} (h2 : ρ 2 = σ 2) (h3 : ρ 3 = σ 3) (h4 : ρ 4 = σ 4) (ha : ρ 11 = σ 11) (hb : ρ 12 = σ 12) (hc : ρ 13 = σ 13) (n c : Nat) (kd : Nat → Nat) (sn m x : Nat) : mnF ρ n c kd sn m x = mnF σ n c kd sn m x := by
  unfold mnF; rw [lvB_congr h3 h4 ha hb hc, plM_congr h3 h4, h2, h3, leM_congr h4, akM_congr h3 h4 ha hb hc]
theorem qnF_congr {σ ρ : Nat → Nat → Int32} (h3 : ρ 3 = σ 3) (h4 : ρ 4 = σ 4) (h7 : ρ 7 = σ 7) (h8 : ρ 8 = σ 8) (n c : Nat) (kd : Nat → Nat) (q : Nat) : qnF ρ n c kd q = qnF σ n c kd q := by
  funext x; unfold qnF; rw [smM_congr h3 h4, h7, h8, leM_congr h4]
theorem frM_congr {σ ρ : Nat → Nat → Int32} (h3 : ρ 3 = σ 3) (h4 : ρ 4 = σ 4) (n c : Nat) (kd : Nat → Nat) (q : Nat) : frM ρ n c kd q = frM σ n c kd q := by
  funext x; unfold frM; rw [show plM ρ n c kd q = plM σ n c kd q from funext (fun m => plM_congr h3 h4 n c kd q m)]
theorem sayM_congr {σ ρ : Nat → Nat → Int32} (h3 : ρ 3 = σ 3) (h4 : ρ 4 = σ 4) (n c : Nat) (kd : Nat → Nat) (m q t : Nat) : sayM ρ n c kd m q t = sayM σ n c kd m q t := by
  have e : sayT ρ n c kd m q = sayT σ n c kd m q := by funext x; unfold sayT; rw [frM_congr h3 h4]
  unfold sayM sayA; rw [frM_congr h3 h4, e]
theorem chM_congr {σ ρ : Nat → Nat → Int32} (h3 : ρ 3 = σ 3) (h4 : ρ 4 = σ 4) (n c : Nat) (kd : Nat → Nat) (q t w : Nat) : chM ρ n c kd q t w = chM σ n c kd q t w := by
  have e : chT ρ n c kd q t = chT σ n c kd q t := by
    funext x; unfold chT csM; rw [show plM ρ n c kd q = plM σ n c kd q from funext (fun m => plM_congr h3 h4 n c kd q m)]
  unfold chM chA; rw [e]
theorem mqF_congr {σ ρ : Nat → Nat → Int32} (h3 : ρ 3 = σ 3) (h4 : ρ 4 = σ 4) (h7 : ρ 7 = σ 7) (h8 : ρ 8 = σ 8) (n c : Nat) (kd : Nat → Nat) (q : Nat) (h0 : Int64) : mqF ρ n c kd q h0 = mqF σ n c kd q h0 := by
  have e : (fun k => nI (sayM ρ n c kd (k / 2) q (k % 2))) = (fun k => nI (sayM σ n c kd (k / 2) q (k % 2))) := by funext k; rw [sayM_congr h3 h4]
  unfold mqF; rw [e, qnF_congr h3 h4 h7 h8, chM_congr h3 h4, chM_congr h3 h4, cutB_congr h3 h4]
theorem hmF_congr {σ ρ : Nat → Nat → Int32} (h0 : ρ 0 = σ 0) (h3 : ρ 3 = σ 3) (h4 : ρ 4 = σ 4) (h6 : ρ 6 = σ 6) (h7 : ρ 7 = σ 7) (h8 : ρ 8 = σ 8) (h9 : ρ 9 = σ 9) (h10 : ρ 10 = σ 10) (h14 : ρ 14 = σ 14) (n c : Nat) (kd : Nat → Nat) (x : Int32) : hmF ρ n c kd x = hmF σ n c kd x := by
  have e : smM ρ n c kd = smM σ n c kd := funext (fun q => smM_congr h3 h4 n c kd q)
  unfold hmF hmN; rw [h0, h3, h6, h7, h8, h9, h10, h14, e]
def dmF (σ : Nat → Nat → Int32) (n c : Nat) (kd : Nat → Nat) (sn : Nat) : Nat → Int64
  | 0 => 1171
  | m + 1 => hxT (mnF σ n c kd sn m) (dmF σ n c kd sn m) 23
def dqF (σ : Nat → Nat → Int32) (n c : Nat) (kd : Nat → Nat) (h0 : Int64) : Nat → Int64
  | 0 => h0
  | q + 1 => mqF σ n c kd q (dqF σ n c kd h0 q)
def dsF (σ : Nat → Nat → Int32) (n c : Nat) (kd : Nat → Nat) (sn : Nat) : Int64 := if 0 < n then 31 * (31 * dqF σ n c kd (dmF σ n c kd sn n) 3 + (stlR (hsM σ n c kd) 0).toInt64) + (stlR (hsM σ n c kd) 1).toInt64 else dmF σ n c kd sn n
def dgF (σ : Nat → Nat → Int32) (n c : Nat) (kd : Nat → Nat) (sn pg : Nat) : Int64 := hx31 (fun k => hmF σ n c kd (nI k)) (hx31 (σ 15) (dsF σ n c kd sn) pg) 12
set_option maxHeartbeats 1000000 in
set_option maxRecDepth 100000 in
theorem kX9_digest (l : Launch) (D : va_G) (ct : Nat → ClassId) (ad : Nat → Nat) (σ : Nat → Nat → Int32) (τ : Nat → Nat → Int64) (n c : Nat) (kd : Nat → Nat) (hok : MOK σ n c kd) (sn : Nat) (hsn : σ 10 0 = nI sn) (hsn6 : sn ≤ 6) (pg : Nat) (hpg : σ 14 0 = nI pg) (hpg50 : pg ≤ 50) : ML l yX9_digest (gWs yX9_digest cX9_digest 3 (some .long)) rmX9_digest D ct gNo [.ref (ad 0)] (wM ad ct σ τ) (fun u : (Nat → Nat → Int32) × (Nat → Nat → Int64) => wM ad ct u.1 u.2) (fun r u => r = dgF σ n c kd sn pg ∧ ∃ (g21 : Nat → Int32) (g18 : Nat → Int32) (g19 : Nat → Int32) (g36 : Int64) (g20 : Nat → Int64), u = (va_up (va_up (va_up (va_up (va_up σ 5 (fun _ => nI c)) 21 g21) 4 (σ 4)) 18 g18) 19 g19, va_up (va_up τ 36 (fun _ => g36)) 20 g20)) := by
  refine ML.of RX9 rfl (by decide) (Nat.le_of_ble_eq_true rfl) ?_
  intro zp ze zs zm za zb zt zc zA ls zQ C h hX hl hret
  have hx := C.1
  have hb := C.2.1
  have hl : lv_has ls 3 [(0, .ref (ad 0))] := hl
  have hok0 := hok
  obtain ⟨hn, hn8, hc, hc8, hkd⟩ := hok0
  have h := h.to (wM5 hc)
  have hF := fb256 c hn8
  have hokc := hok5 hok
  refine lv_aload_n hx hb dX9_digest_0 rfl (lv_at hl 0 rfl) ?_
  refine lv_ldc2 (v := 1171) hx hb C.2.2.2.1 (C.2.2.2.2 _ (gWs_in q1086)) dX9_digest_1 ?_
  refine mp_h C h dX9_digest_4 (fun H ll h => ?_)
  have J100 : ∀ (ga : Nat → Int32) (gb : Nat → Int32) (gd : Nat → Int32) (hy : Nat → Int64) (hs2 : Int64) (H : Heap) (ll : List Loc) (ls : Array Slot), (hs2 = dsF σ n c kd sn) → gW D ct zA zs H ll (wM ad ct (va_up (va_up (va_up (va_up (va_up σ 5 (fun _ => nI c)) 21 ga) 4 (σ 4)) 18 gb) 19 gd) (va_up (va_up τ 36 (fun _ => hs2)) 20 hy)) → lv_has ls 3 [(0, .ref (ad 0))] → W zp l ze rmX9_digest zs zm za zb zt zc H ll 0 0 zQ (F0 zm 100 ls []) := by
    intro ga gb gd hy hs2 H ll ls hhs h hl
    refine lv_iconst (v := 0) hx hb dX9_digest_100 (by decide) ?_
    refine lv_istore_n (lv' := [(1, .int 0), (0, .ref (ad 0))]) hx hb dX9_digest_101 rfl hl (by decide) rfl (fun ls hl => ?_)
    have L102_0 : ∀ (kk : Nat) (k : Nat) (hp2 : Int64) (H : Heap) (ll : List Loc) (ls : Array Slot), pg - k = kk → (k ≤ pg) → (hp2 = hx31 (σ 15) hs2 k) → gW D ct zA zs H ll (wM ad ct (va_up (va_up (va_up (va_up (va_up σ 5 (fun _ => nI c)) 21 ga) 4 (σ 4)) 18 gb) 19 gd) (va_up (va_up τ 36 (fun _ => hp2)) 20 hy)) → lv_has ls 3 [(1, .int (nI k)), (0, .ref (ad 0))] → W zp l ze rmX9_digest zs zm za zb zt zc H ll 0 0 zQ (F0 zm 102 ls []) := by
      intro kk102
      induction kk102 using Nat.strongRecOn with
      | _ kk102 ih102 =>
      intro k hp2 H ll ls hk102 hk hhp h hl
      refine lv_iload_n hx hb dX9_digest_102 rfl (lv_at hl 0 rfl) ?_
      refine lv_aload_n hx hb dX9_digest_103 rfl (lv_at hl 1 rfl) ?_
      refine mg_pageLength C h dX9_digest_104 ?_
      refine gas hpg ?_
      refine nb_ge hx hb k pg (by omega) (by omega) (tgt := 127) dX9_digest_107 (by decide) (fun c_107 => ?_) (fun c_107 => ?_)
      · refine lv_iconst (v := 0) hx hb dX9_digest_127 (by decide) ?_
        refine lv_istore_n (lv' := [(1, .int 0), (0, .ref (ad 0))]) hx hb dX9_digest_128 rfl hl (by decide) rfl (fun ls hl => ?_)
        have L129_1 : ∀ (kk : Nat) (k2 : Nat) (hc2 : Int64) (H : Heap) (ll : List Loc) (ls : Array Slot), 12 - k2 = kk → (k2 ≤ 12) → (hc2 = hx31 (fun k => hmF σ n c kd (nI k)) hp2 k2) → gW D ct zA zs H ll (wM ad ct (va_up (va_up (va_up (va_up (va_up σ 5 (fun _ => nI c)) 21 ga) 4 (σ 4)) 18 gb) 19 gd) (va_up (va_up τ 36 (fun _ => hc2)) 20 hy)) → lv_has ls 3 [(1, .int (nI k2)), (0, .ref (ad 0))] → W zp l ze rmX9_digest zs zm za zb zt zc H ll 0 0 zQ (F0 zm 129 ls []) := by
          intro kk129
          induction kk129 using Nat.strongRecOn with
          | _ kk129 ih129 =>
          intro k2 hc2 H ll ls hk129 hk2 hhc h hl
          refine lv_iload_n hx hb dX9_digest_129 rfl (lv_at hl 0 rfl) ?_
          refine lv_bipush (v := 12) hx hb dX9_digest_130 (by decide) ?_
          refine nb_ge hx hb k2 12 (by omega) (by omega) (tgt := 151) dX9_digest_132 (by decide) (fun c_132 => ?_) (fun c_132 => ?_)
          · refine lv_aload_n hx hb dX9_digest_151 rfl (lv_at hl 1 rfl) ?_
            refine mg_h C h dX9_digest_152 ?_
            have h : gW D ct zA zs _ _ (wM ad ct (va_up (va_up (va_up (va_up (va_up σ 5 (fun _ => nI c)) 21 ga) 4 (σ 4)) 18 gb) 19 gd) (va_up (va_up τ 36 (fun _ => hc2)) 20 hy)) := h
            exact hret _ (va_up (va_up (va_up (va_up (va_up σ 5 (fun _ => nI c)) 21 ga) 4 (σ 4)) 18 gb) 19 gd, va_up (va_up τ 36 (fun _ => hc2)) 20 hy) _ _ _ _ h ⟨(by rw [hhc, hhp, hhs, show k2 = 12 by omega, show k = pg by omega]; rfl), ga, gb, gd, hc2, hy, rfl⟩ dX9_digest_155
          · refine lv_aload_n hx hb dX9_digest_135 rfl (lv_at hl 1 rfl) ?_
            refine lv_aload_n hx hb dX9_digest_136 rfl (lv_at hl 1 rfl) ?_
            refine lv_iload_n hx hb dX9_digest_137 rfl (lv_at hl 0 rfl) ?_
            refine gcallVi C h trivial gNo_ok (kX9_howMany l D ct ad (va_up (va_up (va_up (va_up (va_up σ 5 (fun _ => nI c)) 21 ga) 4 (σ 4)) 18 gb) 19 gd) (va_up (va_up τ 36 (fun _ => hc2)) 20 hy) n c kd hokc (nI k2)) (cwV 1 C.2.2.2.2 (gInV q1070 q1072 q51 q66 q1073) rfl rfl rfl hvX9_howMany ⟨Nat.le_of_ble_eq_true rfl, Nat.le_of_ble_eq_true rfl⟩) 0 (wM_o ad ct (va_up (va_up (va_up (va_up (va_up σ 5 (fun _ => nI c)) 21 ga) 4 (σ 4)) 18 gb) 19 gd) (va_up (va_up τ 36 (fun _ => hc2)) 20 hy)) rfl rfl rfl hl.1 rfl (Nat.le_of_ble_eq_true rfl) dX9_digest_138 ⟨Nat.zero_le _, Nat.zero_le _⟩ (fun r9 u9 H ll hw h => ?_)
            have hw : r9 = hmF σ n c kd (nI k2) := hw.trans (hmF_congr (σ := σ) (ρ := va_up (va_up (va_up (va_up (va_up σ 5 (fun _ => nI c)) 21 ga) 4 (σ 4)) 18 gb) 19 gd) rfl rfl rfl rfl rfl rfl rfl rfl rfl _ _ _ _)
            subst hw
            have h : gW D ct zA zs _ _ (wM ad ct (va_up (va_up (va_up (va_up (va_up σ 5 (fun _ => nI c)) 21 ga) 4 (σ 4)) 18 gb) 19 gd) (va_up (va_up τ 36 (fun _ => hc2)) 20 hy)) := h
            refine lv_i2l (v := (hmF σ n c kd (nI k2)).toInt64) hx hb dX9_digest_141 rfl ?_
            refine gcallVv C h trivial gNo_ok (kX9_mix l D ct ad (va_up (va_up (va_up (va_up (va_up σ 5 (fun _ => nI c)) 21 ga) 4 (σ 4)) 18 gb) 19 gd) (va_up (va_up τ 36 (fun _ => hc2)) 20 hy) ((hmF σ n c kd (nI k2)).toInt64)) (cwV 1 C.2.2.2.2 (gInV q1087 q1089 q54 q66 q1090) rfl rfl rfl hvX9_mix ⟨Nat.le_of_ble_eq_true rfl, Nat.le_of_ble_eq_true rfl⟩) 0 (wM_o ad ct (va_up (va_up (va_up (va_up (va_up σ 5 (fun _ => nI c)) 21 ga) 4 (σ 4)) 18 gb) 19 gd) (va_up (va_up τ 36 (fun _ => hc2)) 20 hy)) rfl rfl rfl hl.1 rfl (Nat.le_of_ble_eq_true rfl) dX9_digest_142 ⟨Nat.zero_le _, Nat.zero_le _⟩ (fun u9 H ll hw h => ?_)
            subst hw
            have h : gW D ct zA zs _ _ (wM ad ct (va_up (va_up (va_up (va_up (va_up σ 5 (fun _ => nI c)) 21 ga) 4 (σ 4)) 18 gb) 19 gd) (va_up (va_up τ 36 (fun _ => 31 * hc2 + ((hmF σ n c kd (nI k2)).toInt64))) 20 hy)) := h
            obtain ⟨hv4, ehv4⟩ : ∃ z : Int64, z = 31 * hc2 + ((hmF σ n c kd (nI k2)).toInt64) := ⟨_, rfl⟩
            rw [← ehv4] at h
            refine ninc (lv' := [(1, .int (nI (k2 + 1))), (0, .ref (ad 0))]) hx hb k2 1 dX9_digest_145 hl (k := 0) rfl (by decide) rfl (fun ls hl => ?_)
            refine lv_goto (tgt := 129) hx hb dX9_digest_148 (by decide) ?_
            exact ih129 _ (by omega) (k2 + 1) hv4 _ _ _ rfl (by omega) (by rw [ehv4, hhc]; rfl) h (lv_sub hl [0, 1] rfl)
        exact L129_1 _ 0 hp2 _ _ _ rfl (by omega) rfl h (lv_sub hl [0, 1] rfl)
      · refine lv_aload_n hx hb dX9_digest_110 rfl (lv_at hl 1 rfl) ?_
        refine lv_aload_n hx hb dX9_digest_111 rfl (lv_at hl 1 rfl) ?_
        refine mg_page C h dX9_digest_112 ?_
        refine lv_iload_n hx hb dX9_digest_115 rfl (lv_at hl 0 rfl) ?_
        refine ml_page C h (j := k) (by omega) dX9_digest_116 ?_
        refine gas (z := σ 15 k) rfl ?_
        refine lv_i2l (v := (σ 15 k).toInt64) hx hb dX9_digest_117 rfl ?_
        refine gcallVv C h trivial gNo_ok (kX9_mix l D ct ad (va_up (va_up (va_up (va_up (va_up σ 5 (fun _ => nI c)) 21 ga) 4 (σ 4)) 18 gb) 19 gd) (va_up (va_up τ 36 (fun _ => hp2)) 20 hy) ((σ 15 k).toInt64)) (cwV 1 C.2.2.2.2 (gInV q1087 q1089 q54 q66 q1090) rfl rfl rfl hvX9_mix ⟨Nat.le_of_ble_eq_true rfl, Nat.le_of_ble_eq_true rfl⟩) 0 (wM_o ad ct (va_up (va_up (va_up (va_up (va_up σ 5 (fun _ => nI c)) 21 ga) 4 (σ 4)) 18 gb) 19 gd) (va_up (va_up τ 36 (fun _ => hp2)) 20 hy)) rfl rfl rfl hl.1 rfl (Nat.le_of_ble_eq_true rfl) dX9_digest_118 ⟨Nat.zero_le _, Nat.zero_le _⟩ (fun u9 H ll hw h => ?_)
        subst hw
        have h : gW D ct zA zs _ _ (wM ad ct (va_up (va_up (va_up (va_up (va_up σ 5 (fun _ => nI c)) 21 ga) 4 (σ 4)) 18 gb) 19 gd) (va_up (va_up τ 36 (fun _ => 31 * hp2 + ((σ 15 k).toInt64))) 20 hy)) := h
        obtain ⟨hv6, ehv6⟩ : ∃ z : Int64, z = 31 * hp2 + ((σ 15 k).toInt64) := ⟨_, rfl⟩
        rw [← ehv6] at h
        refine ninc (lv' := [(1, .int (nI (k + 1))), (0, .ref (ad 0))]) hx hb k 1 dX9_digest_121 hl (k := 0) rfl (by decide) rfl (fun ls hl => ?_)
        refine lv_goto (tgt := 102) hx hb dX9_digest_124 (by decide) ?_
        exact ih102 _ (by omega) (k + 1) hv6 _ _ _ rfl (by omega) (by rw [ehv6, hhp]; rfl) h (lv_sub hl [0, 1] rfl)
    exact L102_0 _ 0 hs2 _ _ _ rfl (by omega) rfl h (lv_sub hl [0, 1] rfl)
  refine lv_iconst (v := 0) hx hb dX9_digest_7 (by decide) ?_
  refine lv_istore_n (lv' := [(1, .int 0), (0, .ref (ad 0))]) hx hb dX9_digest_8 rfl hl (by decide) rfl (fun ls hl => ?_)
  have L9_6 : ∀ (kk : Nat) (m : Nat) (g : Nat → Int32) (hv : Int64) (H : Heap) (ll : List Loc) (ls : Array Slot), n - m = kk → (m ≤ n) → (hv = dmF σ n c kd sn m) → gW D ct zA zs H ll (wM ad ct (va_up (va_up (va_up σ 5 (fun _ => nI c)) 21 g) 4 (σ 4)) (va_up τ 36 (fun _ => hv))) → lv_has ls 3 [(1, .int (nI m)), (0, .ref (ad 0))] → W zp l ze rmX9_digest zs zm za zb zt zc H ll 0 0 zQ (F0 zm 9 ls []) := by
    intro kk9
    induction kk9 using Nat.strongRecOn with
    | _ kk9 ih9 =>
    intro m g hv H ll ls hk9 hm hhv h hl
    refine lv_iload_n hx hb dX9_digest_9 rfl (lv_at hl 0 rfl) ?_
    refine lv_aload_n hx hb dX9_digest_10 rfl (lv_at hl 1 rfl) ?_
    refine mg_mussels C h dX9_digest_11 ?_
    refine gas hn ?_
    refine nb_ge hx hb m n (by omega) (by omega) (tgt := 55) dX9_digest_14 (by decide) (fun c_14 => ?_) (fun c_14 => ?_)
    · have hhv9 : hv = dmF σ n c kd sn n := by rw [hhv, show m = n by omega]
      refine lv_aload_n hx hb dX9_digest_55 rfl (lv_at hl 1 rfl) ?_
      refine mg_mussels C h dX9_digest_56 ?_
      refine gas hn ?_
      refine nz_le hx hb n (by omega) (tgt := 100) dX9_digest_59 (by decide) (fun c_59 => ?_) (fun c_59 => ?_)
      · have h : gW D ct zA zs _ _ (wM ad ct (va_up (va_up (va_up (va_up (va_up σ 5 (fun _ => nI c)) 21 g) 4 (σ 4)) 18 (σ 18)) 19 (σ 19)) (va_up (va_up τ 36 (fun _ => hv)) 20 (τ 20))) := h
        exact J100 g (σ 18) (σ 19) (τ 20) hv _ _ _ (by unfold dsF; rw [if_neg (by omega), ← hhv9]) h (lv_sub hl [1] rfl)
      · refine lv_iconst (v := 0) hx hb dX9_digest_62 (by decide) ?_
        refine lv_istore_n (lv' := [(1, .int 0), (0, .ref (ad 0))]) hx hb dX9_digest_63 rfl hl (by decide) rfl (fun ls hl => ?_)
        have L64_7 : ∀ (kk : Nat) (q : Nat) (hq2 : Int64) (H : Heap) (ll : List Loc) (ls : Array Slot), 3 - q = kk → (q ≤ 3) → (hq2 = dqF σ n c kd hv q) → gW D ct zA zs H ll (wM ad ct (va_up (va_up (va_up σ 5 (fun _ => nI c)) 21 g) 4 (σ 4)) (va_up τ 36 (fun _ => hq2))) → lv_has ls 3 [(1, .int (nI q)), (0, .ref (ad 0))] → W zp l ze rmX9_digest zs zm za zb zt zc H ll 0 0 zQ (F0 zm 64 ls []) := by
          intro kk64
          induction kk64 using Nat.strongRecOn with
          | _ kk64 ih64 =>
          intro q hq2 H ll ls hk64 hq hhq h hl
          refine lv_iload_n hx hb dX9_digest_64 rfl (lv_at hl 0 rfl) ?_
          refine lv_iconst (v := 3) hx hb dX9_digest_65 (by decide) ?_
          refine nb_ge hx hb q 3 (by omega) (by omega) (tgt := 80) dX9_digest_66 (by decide) (fun c_66 => ?_) (fun c_66 => ?_)
          · have hhq9 : hq2 = dqF σ n c kd hv 3 := by rw [hhq, show q = 3 by omega]
            refine lv_aload_n hx hb dX9_digest_80 rfl (lv_at hl 1 rfl) ?_
            refine lv_aload_n hx hb dX9_digest_81 rfl (lv_at hl 1 rfl) ?_
            refine lv_iconst (v := 0) hx hb dX9_digest_82 (by decide) ?_
            refine gcallVi C h trivial gNo_ok (kX9_settleNow l D ct ad (va_up (va_up (va_up σ 5 (fun _ => nI c)) 21 g) 4 (σ 4)) (va_up τ 36 (fun _ => hq2)) n c kd hokc 0 (by omega)) (cwV 1 C.2.2.2.2 (gInV q1025 q1027 q47 q66 q1028) rfl rfl rfl hvX9_settleNow ⟨Nat.le_of_ble_eq_true rfl, Nat.le_of_ble_eq_true rfl⟩) 0 (wM_o ad ct (va_up (va_up (va_up σ 5 (fun _ => nI c)) 21 g) 4 (σ 4)) (va_up τ 36 (fun _ => hq2))) rfl rfl rfl hl.1 rfl (Nat.le_of_ble_eq_true rfl) dX9_digest_83 ⟨Nat.zero_le _, Nat.zero_le _⟩ (fun r9 u9 H ll hw h => ?_)
            obtain ⟨hw, g18_9, g20_9, rfl⟩ := hw
            have hw : r9 = stlR (hsM σ n c kd) 0 := hw.trans (congrArg (fun f => stlR f _) (hsM_congr (σ := σ) (ρ := va_up (va_up (va_up σ 5 (fun _ => nI c)) 21 g) 4 (σ 4)) rfl _ _ _))
            subst hw
            have h : gW D ct zA zs _ _ (wM ad ct (va_up (va_up (va_up (va_up (va_up σ 5 (fun _ => nI c)) 21 g) 4 (σ 4)) 18 g18_9) 19 (σ 4)) (va_up (va_up τ 36 (fun _ => hq2)) 20 g20_9)) := h
            refine lv_i2l (v := (stlR (hsM σ n c kd) 0).toInt64) hx hb dX9_digest_86 rfl ?_
            refine gcallVv C h trivial gNo_ok (kX9_mix l D ct ad (va_up (va_up (va_up (va_up (va_up σ 5 (fun _ => nI c)) 21 g) 4 (σ 4)) 18 g18_9) 19 (σ 4)) (va_up (va_up τ 36 (fun _ => hq2)) 20 g20_9) ((stlR (hsM σ n c kd) 0).toInt64)) (cwV 1 C.2.2.2.2 (gInV q1087 q1089 q54 q66 q1090) rfl rfl rfl hvX9_mix ⟨Nat.le_of_ble_eq_true rfl, Nat.le_of_ble_eq_true rfl⟩) 0 (wM_o ad ct (va_up (va_up (va_up (va_up (va_up σ 5 (fun _ => nI c)) 21 g) 4 (σ 4)) 18 g18_9) 19 (σ 4)) (va_up (va_up τ 36 (fun _ => hq2)) 20 g20_9)) rfl rfl rfl hl.1 rfl (Nat.le_of_ble_eq_true rfl) dX9_digest_87 ⟨Nat.zero_le _, Nat.zero_le _⟩ (fun u9 H ll hw h => ?_)
            subst hw
            have h : gW D ct zA zs _ _ (wM ad ct (va_up (va_up (va_up (va_up (va_up σ 5 (fun _ => nI c)) 21 g) 4 (σ 4)) 18 g18_9) 19 (σ 4)) (va_up (va_up τ 36 (fun _ => 31 * hq2 + ((stlR (hsM σ n c kd) 0).toInt64))) 20 g20_9)) := h
            obtain ⟨hv11, ehv11⟩ : ∃ z : Int64, z = 31 * hq2 + ((stlR (hsM σ n c kd) 0).toInt64) := ⟨_, rfl⟩
            rw [← ehv11] at h
            refine lv_aload_n hx hb dX9_digest_90 rfl (lv_at hl 1 rfl) ?_
            refine lv_aload_n hx hb dX9_digest_91 rfl (lv_at hl 1 rfl) ?_
            refine lv_iconst (v := 1) hx hb dX9_digest_92 (by decide) ?_
            refine gcallVi C h trivial gNo_ok (kX9_settleNow l D ct ad (va_up (va_up (va_up (va_up (va_up σ 5 (fun _ => nI c)) 21 g) 4 (σ 4)) 18 g18_9) 19 (σ 4)) (va_up (va_up τ 36 (fun _ => hv11)) 20 g20_9) n c kd hokc 1 (by omega)) (cwV 1 C.2.2.2.2 (gInV q1025 q1027 q47 q66 q1028) rfl rfl rfl hvX9_settleNow ⟨Nat.le_of_ble_eq_true rfl, Nat.le_of_ble_eq_true rfl⟩) 0 (wM_o ad ct (va_up (va_up (va_up (va_up (va_up σ 5 (fun _ => nI c)) 21 g) 4 (σ 4)) 18 g18_9) 19 (σ 4)) (va_up (va_up τ 36 (fun _ => hv11)) 20 g20_9)) rfl rfl rfl hl.1 rfl (Nat.le_of_ble_eq_true rfl) dX9_digest_93 ⟨Nat.zero_le _, Nat.zero_le _⟩ (fun r9 u9 H ll hw h => ?_)
            obtain ⟨hw, g18_12, g20_12, rfl⟩ := hw
            have hw : r9 = stlR (hsM σ n c kd) 1 := hw.trans (congrArg (fun f => stlR f _) (hsM_congr (σ := σ) (ρ := va_up (va_up (va_up (va_up (va_up σ 5 (fun _ => nI c)) 21 g) 4 (σ 4)) 18 g18_9) 19 (σ 4)) rfl _ _ _))
            subst hw
            have h : gW D ct zA zs _ _ (wM ad ct (va_up (va_up (va_up (va_up (va_up σ 5 (fun _ => nI c)) 21 g) 4 (σ 4)) 18 g18_12) 19 (σ 4)) (va_up (va_up τ 36 (fun _ => hv11)) 20 g20_12)) := h
            refine lv_i2l (v := (stlR (hsM σ n c kd) 1).toInt64) hx hb dX9_digest_96 rfl ?_
            refine gcallVv C h trivial gNo_ok (kX9_mix l D ct ad (va_up (va_up (va_up (va_up (va_up σ 5 (fun _ => nI c)) 21 g) 4 (σ 4)) 18 g18_12) 19 (σ 4)) (va_up (va_up τ 36 (fun _ => hv11)) 20 g20_12) ((stlR (hsM σ n c kd) 1).toInt64)) (cwV 1 C.2.2.2.2 (gInV q1087 q1089 q54 q66 q1090) rfl rfl rfl hvX9_mix ⟨Nat.le_of_ble_eq_true rfl, Nat.le_of_ble_eq_true rfl⟩) 0 (wM_o ad ct (va_up (va_up (va_up (va_up (va_up σ 5 (fun _ => nI c)) 21 g) 4 (σ 4)) 18 g18_12) 19 (σ 4)) (va_up (va_up τ 36 (fun _ => hv11)) 20 g20_12)) rfl rfl rfl hl.1 rfl (Nat.le_of_ble_eq_true rfl) dX9_digest_97 ⟨Nat.zero_le _, Nat.zero_le _⟩ (fun u9 H ll hw h => ?_)
            subst hw
            have h : gW D ct zA zs _ _ (wM ad ct (va_up (va_up (va_up (va_up (va_up σ 5 (fun _ => nI c)) 21 g) 4 (σ 4)) 18 g18_12) 19 (σ 4)) (va_up (va_up τ 36 (fun _ => 31 * hv11 + ((stlR (hsM σ n c kd) 1).toInt64))) 20 g20_12)) := h
            obtain ⟨hv14, ehv14⟩ : ∃ z : Int64, z = 31 * hv11 + ((stlR (hsM σ n c kd) 1).toInt64) := ⟨_, rfl⟩
            rw [← ehv14] at h
            have h : gW D ct zA zs _ _ (wM ad ct (va_up (va_up (va_up (va_up (va_up σ 5 (fun _ => nI c)) 21 g) 4 (σ 4)) 18 g18_12) 19 (σ 4)) (va_up (va_up τ 36 (fun _ => hv14)) 20 g20_12)) := h
            exact J100 g g18_12 (σ 4) g20_12 hv14 _ _ _ (by unfold dsF; rw [if_pos c_59, ← hhv9, ← hhq9, ← ehv11, ← ehv14]) h (lv_sub hl [1] rfl)
          · refine lv_aload_n hx hb dX9_digest_69 rfl (lv_at hl 1 rfl) ?_
            refine lv_iload_n hx hb dX9_digest_70 rfl (lv_at hl 0 rfl) ?_
            refine gcallVv C h trivial gNo_ok (kX9_mixQuestion l D ct ad (va_up (va_up (va_up σ 5 (fun _ => nI c)) 21 g) 4 (σ 4)) (va_up τ 36 (fun _ => hq2)) n c kd hokc q (by omega)) (cwV 1 C.2.2.2.2 (gInV q1092 q1094 q55 q66 q1095) rfl rfl rfl hvX9_mixQuestion ⟨Nat.le_of_ble_eq_true rfl, Nat.le_of_ble_eq_true rfl⟩) 0 (wM_o ad ct (va_up (va_up (va_up σ 5 (fun _ => nI c)) 21 g) 4 (σ 4)) (va_up τ 36 (fun _ => hq2))) rfl rfl rfl hl.1 rfl (Nat.le_of_ble_eq_true rfl) dX9_digest_71 ⟨Nat.zero_le _, Nat.zero_le _⟩ (fun u9 H ll hw h => ?_)
            subst hw
            have h : gW D ct zA zs _ _ (wM ad ct (va_up (va_up (va_up (va_up σ 5 (fun _ => nI c)) 21 g) 4 (σ 4)) 5 (fun _ => nI c)) (va_up (va_up τ 36 (fun _ => hq2)) 36 (fun _ => mqF (va_up (va_up (va_up σ 5 (fun _ => nI c)) 21 g) 4 (σ 4)) n c kd q hq2))) := h
            rw [mqF_congr (σ := σ) (ρ := va_up (va_up (va_up σ 5 (fun _ => nI c)) 21 g) 4 (σ 4)) rfl rfl rfl rfl] at h
            have h : gW D ct zA zs _ _ (wM ad ct (va_up (va_up (va_up σ 5 (fun _ => nI c)) 21 g) 4 (σ 4)) (va_up τ 36 (fun _ => mqF σ n c kd q hq2))) := h
            obtain ⟨hv15, ehv15⟩ : ∃ z : Int64, z = mqF σ n c kd q hq2 := ⟨_, rfl⟩
            rw [← ehv15] at h
            refine ninc (lv' := [(1, .int (nI (q + 1))), (0, .ref (ad 0))]) hx hb q 1 dX9_digest_74 hl (k := 0) rfl (by decide) rfl (fun ls hl => ?_)
            refine lv_goto (tgt := 64) hx hb dX9_digest_77 (by decide) ?_
            exact ih64 _ (by omega) (q + 1) hv15 _ _ _ rfl (by omega) (by rw [ehv15, hhq]; rfl) h (lv_sub hl [0, 1] rfl)
        exact L64_7 _ 0 hv _ _ _ rfl (by omega) rfl h (lv_sub hl [0, 1] rfl)
    · refine lv_iconst (v := 0) hx hb dX9_digest_17 (by decide) ?_
      refine lv_istore_n (lv' := [(2, .int 0), (1, .int (nI m)), (0, .ref (ad 0))]) hx hb dX9_digest_18 rfl hl (by decide) rfl (fun ls hl => ?_)
      have L19_15 : ∀ (kk : Nat) (x : Nat) (g : Nat → Int32) (hw2 : Int64) (H : Heap) (ll : List Loc) (ls : Array Slot), 23 - x = kk → (x ≤ 23) → (hw2 = hxT (mnF σ n c kd sn m) hv x) → gW D ct zA zs H ll (wM ad ct (va_up (va_up (va_up σ 5 (fun _ => nI c)) 21 g) 4 (σ 4)) (va_up τ 36 (fun _ => hw2))) → lv_has ls 3 [(2, .int (nI x)), (1, .int (nI m)), (0, .ref (ad 0))] → W zp l ze rmX9_digest zs zm za zb zt zc H ll 0 0 zQ (F0 zm 19 ls []) := by
        intro kk19
        induction kk19 using Nat.strongRecOn with
        | _ kk19 ih19 =>
        intro x g hw2 H ll ls hk19 hx1 hhw2 h hl
        refine lv_iload_n hx hb dX9_digest_19 rfl (lv_at hl 0 rfl) ?_
        refine lv_bipush (v := 23) hx hb dX9_digest_20 (by decide) ?_
        refine nb_ge hx hb x 23 (by omega) (by omega) (tgt := 49) dX9_digest_22 (by decide) (fun c_22 => ?_) (fun c_22 => ?_)
        · have hhw9 : hw2 = hxT (mnF σ n c kd sn m) hv 23 := by rw [hhw2, show x = 23 by omega]
          refine ninc (lv' := [(1, .int (nI (m + 1))), (2, .int (nI x)), (0, .ref (ad 0))]) hx hb m 1 dX9_digest_49 hl (k := 1) rfl (by decide) rfl (fun ls hl => ?_)
          refine lv_goto (tgt := 9) hx hb dX9_digest_52 (by decide) ?_
          exact ih9 _ (by omega) (m + 1) g hw2 _ _ _ rfl (by omega) (by rw [hhw9, hhv]; rfl) h (lv_sub hl [0, 2] rfl)
        · refine lv_iload_n hx hb dX9_digest_25 rfl (lv_at hl 0 rfl) ?_
          refine gcallSi C h (kX9_isTold l D ct (nI x)) (va_cwS 1 C.2.2.2.2 (gInS q858 q859 q66 q860) rfl rfl rfl hdX9_isTold ⟨Nat.le_of_ble_eq_true rfl, Nat.le_of_ble_eq_true rfl⟩) rfl hl.1 rfl (Nat.le_of_ble_eq_true rfl) dX9_digest_26 ⟨Nat.zero_le _, Nat.zero_le _⟩ (fun H ll h => ?_)
          refine bz_eq hx hb ((0 ≤ (nI x) ∧ (nI x) ≤ 7) ∨ (10 ≤ (nI x) ∧ (nI x) ≤ 12) ∨ (20 ≤ (nI x) ∧ (nI x) ≤ 22)) (tgt := 43) dX9_digest_29 (by decide) (fun c_29 => ?_) (fun c_29 => ?_)
          · refine ninc (lv' := [(2, .int (nI (x + 1))), (1, .int (nI m)), (0, .ref (ad 0))]) hx hb x 1 dX9_digest_43 hl (k := 0) rfl (by decide) rfl (fun ls hl => ?_)
            refine lv_goto (tgt := 19) hx hb dX9_digest_46 (by decide) ?_
            exact ih19 _ (by omega) (x + 1) g hw2 _ _ _ rfl (by omega) (by rw [hhw2]; exact (if_neg (fun h9 => c_29 ((told_iff (by omega)).mpr h9))).symm) h (lv_sub hl [0, 1, 2] rfl)
          · refine lv_aload_n hx hb dX9_digest_32 rfl (lv_at hl 2 rfl) ?_
            refine lv_aload_n hx hb dX9_digest_33 rfl (lv_at hl 2 rfl) ?_
            refine lv_iload_n hx hb dX9_digest_34 rfl (lv_at hl 1 rfl) ?_
            refine lv_iload_n hx hb dX9_digest_35 rfl (lv_at hl 0 rfl) ?_
            refine gcallVi C h trivial gNo_ok (kX9_musselNow l D ct ad (va_up (va_up (va_up σ 5 (fun _ => nI c)) 21 g) 4 (σ 4)) (va_up τ 36 (fun _ => hw2)) n c kd hokc sn hsn hsn6 m x (by omega) ((told_iff (by omega)).mp c_29)) (cwV 2 C.2.2.2.2 (gInV q861 q863 q23 q66 q864) rfl rfl rfl hvX9_musselNow ⟨Nat.le_of_ble_eq_true rfl, Nat.le_of_ble_eq_true rfl⟩) 0 (wM_o ad ct (va_up (va_up (va_up σ 5 (fun _ => nI c)) 21 g) 4 (σ 4)) (va_up τ 36 (fun _ => hw2))) rfl rfl rfl hl.1 rfl (Nat.le_of_ble_eq_true rfl) dX9_digest_36 ⟨Nat.zero_le _, Nat.zero_le _⟩ (fun r9 u9 H ll hw h => ?_)
            obtain ⟨hw, g21_17, rfl⟩ := hw
            have hw : r9 = mnF σ n c kd sn m x := hw.trans (mnF_congr (σ := σ) (ρ := va_up (va_up (va_up σ 5 (fun _ => nI c)) 21 g) 4 (σ 4)) rfl rfl rfl rfl rfl rfl _ _ _ _ _ _)
            subst hw
            have h : gW D ct zA zs _ _ (wM ad ct (va_up (va_up (va_up σ 5 (fun _ => nI c)) 21 g21_17) 4 (σ 4)) (va_up τ 36 (fun _ => hw2))) := h
            refine lv_i2l (v := (mnF σ n c kd sn m x).toInt64) hx hb dX9_digest_39 rfl ?_
            refine gcallVv C h trivial gNo_ok (kX9_mix l D ct ad (va_up (va_up (va_up σ 5 (fun _ => nI c)) 21 g21_17) 4 (σ 4)) (va_up τ 36 (fun _ => hw2)) ((mnF σ n c kd sn m x).toInt64)) (cwV 1 C.2.2.2.2 (gInV q1087 q1089 q54 q66 q1090) rfl rfl rfl hvX9_mix ⟨Nat.le_of_ble_eq_true rfl, Nat.le_of_ble_eq_true rfl⟩) 0 (wM_o ad ct (va_up (va_up (va_up σ 5 (fun _ => nI c)) 21 g21_17) 4 (σ 4)) (va_up τ 36 (fun _ => hw2))) rfl rfl rfl hl.1 rfl (Nat.le_of_ble_eq_true rfl) dX9_digest_40 ⟨Nat.zero_le _, Nat.zero_le _⟩ (fun u9 H ll hw h => ?_)
            subst hw
            have h : gW D ct zA zs _ _ (wM ad ct (va_up (va_up (va_up σ 5 (fun _ => nI c)) 21 g21_17) 4 (σ 4)) (va_up τ 36 (fun _ => 31 * hw2 + ((mnF σ n c kd sn m x).toInt64)))) := h
            obtain ⟨hv19, ehv19⟩ : ∃ z : Int64, z = 31 * hw2 + ((mnF σ n c kd sn m x).toInt64) := ⟨_, rfl⟩
            rw [← ehv19] at h
            refine ninc (lv' := [(2, .int (nI (x + 1))), (1, .int (nI m)), (0, .ref (ad 0))]) hx hb x 1 dX9_digest_43 hl (k := 0) rfl (by decide) rfl (fun ls hl => ?_)
            refine lv_goto (tgt := 19) hx hb dX9_digest_46 (by decide) ?_
            exact ih19 _ (by omega) (x + 1) g21_17 hv19 _ _ _ rfl (by omega) (by rw [ehv19, hhw2]; exact (if_pos ((told_iff (by omega)).mp c_29)).symm) h (lv_sub hl [0, 1, 2] rfl)
      exact L19_15 _ 0 g hv _ _ _ rfl (by omega) rfl h (lv_sub hl [0, 1, 2] rfl)
  exact L9_6 _ 0 (σ 21) 1171 _ _ _ rfl (by omega) rfl h (lv_sub hl [0, 1] rfl)
