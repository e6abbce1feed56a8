theorem updk2 {f g v : Nat → Int32} {i : Nat} {x : Int32} (h : ∀ j, f j = if j < i then v j else g j) (hx : x = v i) : ∀ j, upd f i x j = if j < i + 1 then v j else g j := fun j => by
  by_cases e : j = i
  · subst e; rw [pk_us, if_pos (by omega)]; exact hx
  · rw [pk_un e, h j]
    by_cases q : j < i
    · rw [if_pos q, if_pos (by omega)]
    · rw [if_neg q, if_neg (by omega)]
theorem rdF_nm (a : Nat → Int32) (pg : Nat) : ∀ f nm wh, (rdF a pg f nm wh).2.1 ≤ nm + f
  | 0, nm, wh => Nat.le_refl _
  | f + 1, nm, wh => by
    simp only [rdF]
    split
    · split
      · show nm + 1 ≤ nm + (f + 1); omega
      · have := rdF_nm a pg f (nm + 1) (decide (6 * nm + 5 = pg ∧ 1 < nm + 1)); omega
    · show nm ≤ nm + (f + 1); omega
theorem rdM_nm (σ : Nat → Nat → Int32) (pg : Nat) : (rdM σ pg).2.1 ≤ 8 := by have := rdF_nm (atM σ pg) pg 8 0 false; omega
def rk2 (σ : Nat → Nat → Int32) (k : Nat) : Nat → Int32 := fun j => if j < k then kindC (σ 15 (6 * j)) else σ 2 j
def rk3 (σ : Nat → Nat → Int32) (k : Nat) : Nat → Int32 := fun j => if j < k then σ 15 (6 * j + 1) - 48 else σ 3 j
def rk4 (σ : Nat → Nat → Int32) (k : Nat) : Nat → Int32 := fun j => if j < 3 * k then lnC (σ 15 (6 * (j / 3) + 2 + j % 3)) else σ 4 j
set_option maxHeartbeats 1000000 in
set_option maxRecDepth 100000 in
theorem kX9_image (l : Launch) (D : va_G) (ct : Nat → ClassId) (ad : Nat → Nat) (σ : Nat → Nat → Int32) (τ : Nat → Nat → Int64) (n c : Nat) (kd : Nat → Nat) (hok : MOK σ n c kd)  : MI l yX9_image (gWs yX9_image cX9_image 2 (some .int)) rmX9_image D ct gNo [.ref (ad 0)] (wM ad ct σ τ) (fun u : (Nat → Nat → Int32) × (Nat → Nat → Int64) => wM ad ct u.1 u.2) (fun r u => if n = 0 then (r = -103 ∧ u = (σ, τ)) else (r = σ 6 0 ∧ u = (va_up (va_up (va_up (va_up (va_up (va_up (va_up (va_up (va_up (va_up (va_up (va_up σ 24 (fun _ => 1)) 25 (fun _ => σ 0 0)) 26 (fun _ => σ 5 0)) 27 (fun _ => σ 6 0)) 28 (fun _ => σ 10 0)) 29 (σ 3)) 30 (σ 4)) 31 (σ 7)) 32 (σ 8)) 33 (σ 11)) 34 (σ 12)) 35 (σ 13), τ))) := by
  refine MI.ofI RX9 rfl (by decide) (Nat.le_of_ble_eq_true rfl) ?_
  intro zp ze zs zm za zb zt zc zA ls zQ C h hX hl hret
  have hx := C.1
  have hb := C.2.1
  have hl : lv_has ls 2 [(0, .ref (ad 0))] := hl
  have hok0 := hok
  obtain ⟨hn, hn8, hc, hc8, hkd⟩ := hok0
  refine lv_aload_n hx hb dX9_image_0 rfl (lv_at hl 0 rfl) ?_
  refine mg_mussels C h dX9_image_1 ?_
  refine gas hn ?_
  refine nz_ne hx hb n (by omega) (tgt := 10) dX9_image_4 (by decide) (fun c_4 => ?_) (fun c_4 => ?_)
  · refine lv_aload_n hx hb dX9_image_10 rfl (lv_at hl 0 rfl) ?_
    refine lv_iconst (v := 1) hx hb dX9_image_11 (by decide) ?_
    refine mp_isKept C h (by decide) dX9_image_12 (fun H ll h => ?_)
    refine lv_aload_n hx hb dX9_image_15 rfl (lv_at hl 0 rfl) ?_
    refine lv_aload_n hx hb dX9_image_16 rfl (lv_at hl 0 rfl) ?_
    refine mg_ropes C h dX9_image_17 ?_
    refine mp_keptRope C h dX9_image_20 (fun H ll h => ?_)
    refine lv_aload_n hx hb dX9_image_23 rfl (lv_at hl 0 rfl) ?_
    refine lv_aload_n hx hb dX9_image_24 rfl (lv_at hl 0 rfl) ?_
    refine mg_cutThreads C h dX9_image_25 ?_
    refine mp_keptCut C h dX9_image_28 (fun H ll h => ?_)
    refine lv_aload_n hx hb dX9_image_31 rfl (lv_at hl 0 rfl) ?_
    refine lv_aload_n hx hb dX9_image_32 rfl (lv_at hl 0 rfl) ?_
    refine mg_tides C h dX9_image_33 ?_
    refine mp_keptTides C h dX9_image_36 (fun H ll h => ?_)
    refine lv_aload_n hx hb dX9_image_39 rfl (lv_at hl 0 rfl) ?_
    refine lv_aload_n hx hb dX9_image_40 rfl (lv_at hl 0 rfl) ?_
    refine mg_seen C h dX9_image_41 ?_
    refine mp_keptSeen C h dX9_image_44 (fun H ll h => ?_)
    refine lv_iconst (v := 0) hx hb dX9_image_47 (by decide) ?_
    refine lv_istore_n (lv' := [(1, .int 0), (0, .ref (ad 0))]) hx hb dX9_image_48 rfl hl (by decide) rfl (fun ls hl => ?_)
    have L49_0 : ∀ (kk : Nat) (i : Nat) (y29 : Nat → Int32) (H : Heap) (ll : List Loc) (ls : Array Slot), 8 - i = kk → (i ≤ 8) → (∀ j, j < i → y29 j = (σ 3) j) → gW D ct zA zs H ll (wM ad ct (va_up (va_up (va_up (va_up (va_up (va_up σ 24 (fun _ => 1)) 25 (fun _ => σ 0 0)) 26 (fun _ => σ 5 0)) 27 (fun _ => σ 6 0)) 28 (fun _ => σ 10 0)) 29 y29) τ) → lv_has ls 2 [(1, .int (nI i)), (0, .ref (ad 0))] → W zp l ze rmX9_image zs zm za zb zt zc H ll 0 0 zQ (F0 zm 49 ls []) := by
      intro kk49
      induction kk49 using Nat.strongRecOn with
      | _ kk49 ih49 =>
      intro i y29 H ll ls hk49 hi hy29 h hl
      refine lv_iload_n hx hb dX9_image_49 rfl (lv_at hl 0 rfl) ?_
      refine lv_bipush (v := 8) hx hb dX9_image_50 (by decide) ?_
      refine nb_ge hx hb i 8 (by omega) (by omega) (tgt := 73) dX9_image_52 (by decide) (fun c_52 => ?_) (fun c_52 => ?_)
      · have h := mc_keptWeight h (σ 3) (fun j hj => hy29 j (by omega))
        have h : gW D ct zA zs _ _ (wM ad ct (va_up (va_up (va_up (va_up (va_up (va_up σ 24 (fun _ => 1)) 25 (fun _ => σ 0 0)) 26 (fun _ => σ 5 0)) 27 (fun _ => σ 6 0)) 28 (fun _ => σ 10 0)) 29 (σ 3)) τ) := h
        refine lv_iconst (v := 0) hx hb dX9_image_73 (by decide) ?_
        refine lv_istore_n (lv' := [(1, .int 0), (0, .ref (ad 0))]) hx hb dX9_image_74 rfl hl (by decide) rfl (fun ls hl => ?_)
        have L75_1 : ∀ (kk : Nat) (i : Nat) (y30 : Nat → Int32) (H : Heap) (ll : List Loc) (ls : Array Slot), 24 - i = kk → (i ≤ 24) → (∀ j, j < i → y30 j = (σ 4) j) → gW D ct zA zs H ll (wM ad ct (va_up (va_up (va_up (va_up (va_up (va_up (va_up σ 24 (fun _ => 1)) 25 (fun _ => σ 0 0)) 26 (fun _ => σ 5 0)) 27 (fun _ => σ 6 0)) 28 (fun _ => σ 10 0)) 29 (σ 3)) 30 y30) τ) → lv_has ls 2 [(1, .int (nI i)), (0, .ref (ad 0))] → W zp l ze rmX9_image zs zm za zb zt zc H ll 0 0 zQ (F0 zm 75 ls []) := by
          intro kk75
          induction kk75 using Nat.strongRecOn with
          | _ kk75 ih75 =>
          intro i y30 H ll ls hk75 hi hy30 h hl
          refine lv_iload_n hx hb dX9_image_75 rfl (lv_at hl 0 rfl) ?_
          refine lv_bipush (v := 24) hx hb dX9_image_76 (by decide) ?_
          refine nb_ge hx hb i 24 (by omega) (by omega) (tgt := 99) dX9_image_78 (by decide) (fun c_78 => ?_) (fun c_78 => ?_)
          · have h := mc_keptLean h (σ 4) (fun j hj => hy30 j (by omega))
            have h : gW D ct zA zs _ _ (wM ad ct (va_up (va_up (va_up (va_up (va_up (va_up (va_up σ 24 (fun _ => 1)) 25 (fun _ => σ 0 0)) 26 (fun _ => σ 5 0)) 27 (fun _ => σ 6 0)) 28 (fun _ => σ 10 0)) 29 (σ 3)) 30 (σ 4)) τ) := h
            refine lv_iconst (v := 0) hx hb dX9_image_99 (by decide) ?_
            refine lv_istore_n (lv' := [(1, .int 0), (0, .ref (ad 0))]) hx hb dX9_image_100 rfl hl (by decide) rfl (fun ls hl => ?_)
            have L101_2 : ∀ (kk : Nat) (i : Nat) (y31 : Nat → Int32) (y32 : Nat → Int32) (H : Heap) (ll : List Loc) (ls : Array Slot), 3 - i = kk → (i ≤ 3) → (∀ j, j < i → y31 j = (σ 7) j) → (∀ j, j < i → y32 j = (σ 8) j) → gW D ct zA zs H ll (wM ad ct (va_up (va_up (va_up (va_up (va_up (va_up (va_up (va_up (va_up σ 24 (fun _ => 1)) 25 (fun _ => σ 0 0)) 26 (fun _ => σ 5 0)) 27 (fun _ => σ 6 0)) 28 (fun _ => σ 10 0)) 29 (σ 3)) 30 (σ 4)) 31 y31) 32 y32) τ) → lv_has ls 2 [(1, .int (nI i)), (0, .ref (ad 0))] → W zp l ze rmX9_image zs zm za zb zt zc H ll 0 0 zQ (F0 zm 101 ls []) := by
              intro kk101
              induction kk101 using Nat.strongRecOn with
              | _ kk101 ih101 =>
              intro i y31 y32 H ll ls hk101 hi hy31 hy32 h hl
              refine lv_iload_n hx hb dX9_image_101 rfl (lv_at hl 0 rfl) ?_
              refine lv_iconst (v := 3) hx hb dX9_image_102 (by decide) ?_
              refine nb_ge hx hb i 3 (by omega) (by omega) (tgt := 136) dX9_image_103 (by decide) (fun c_103 => ?_) (fun c_103 => ?_)
              · have h := mc_keptAsked h (σ 7) (fun j hj => hy31 j (by omega))
                have h := mc_keptCarried h (σ 8) (fun j hj => hy32 j (by omega))
                have h : gW D ct zA zs _ _ (wM ad ct (va_up (va_up (va_up (va_up (va_up (va_up (va_up (va_up (va_up σ 24 (fun _ => 1)) 25 (fun _ => σ 0 0)) 26 (fun _ => σ 5 0)) 27 (fun _ => σ 6 0)) 28 (fun _ => σ 10 0)) 29 (σ 3)) 30 (σ 4)) 31 (σ 7)) 32 (σ 8)) τ) := h
                refine lv_iconst (v := 0) hx hb dX9_image_136 (by decide) ?_
                refine lv_istore_n (lv' := [(1, .int 0), (0, .ref (ad 0))]) hx hb dX9_image_137 rfl hl (by decide) rfl (fun ls hl => ?_)
                have L138_3 : ∀ (kk : Nat) (i : Nat) (y33 : Nat → Int32) (y34 : Nat → Int32) (y35 : Nat → Int32) (H : Heap) (ll : List Loc) (ls : Array Slot), 6 - i = kk → (i ≤ 6) → (∀ j, j < i → y33 j = (σ 11) j) → (∀ j, j < i → y34 j = (σ 12) j) → (∀ j, j < i → y35 j = (σ 13) j) → gW D ct zA zs H ll (wM ad ct (va_up (va_up (va_up (va_up (va_up (va_up (va_up (va_up (va_up (va_up (va_up (va_up σ 24 (fun _ => 1)) 25 (fun _ => σ 0 0)) 26 (fun _ => σ 5 0)) 27 (fun _ => σ 6 0)) 28 (fun _ => σ 10 0)) 29 (σ 3)) 30 (σ 4)) 31 (σ 7)) 32 (σ 8)) 33 y33) 34 y34) 35 y35) τ) → lv_has ls 2 [(1, .int (nI i)), (0, .ref (ad 0))] → W zp l ze rmX9_image zs zm za zb zt zc H ll 0 0 zQ (F0 zm 138 ls []) := by
                  intro kk138
                  induction kk138 using Nat.strongRecOn with
                  | _ kk138 ih138 =>
                  intro i y33 y34 y35 H ll ls hk138 hi hy33 hy34 hy35 h hl
                  refine lv_iload_n hx hb dX9_image_138 rfl (lv_at hl 0 rfl) ?_
                  refine lv_bipush (v := 6) hx hb dX9_image_139 (by decide) ?_
                  refine nb_ge hx hb i 6 (by omega) (by omega) (tgt := 186) dX9_image_141 (by decide) (fun c_141 => ?_) (fun c_141 => ?_)
                  · have h := mc_keptMussel h (σ 11) (fun j hj => hy33 j (by omega))
                    have h := mc_keptQuestion h (σ 12) (fun j hj => hy34 j (by omega))
                    have h := mc_keptSum h (σ 13) (fun j hj => hy35 j (by omega))
                    have h : gW D ct zA zs _ _ (wM ad ct (va_up (va_up (va_up (va_up (va_up (va_up (va_up (va_up (va_up (va_up (va_up (va_up σ 24 (fun _ => 1)) 25 (fun _ => σ 0 0)) 26 (fun _ => σ 5 0)) 27 (fun _ => σ 6 0)) 28 (fun _ => σ 10 0)) 29 (σ 3)) 30 (σ 4)) 31 (σ 7)) 32 (σ 8)) 33 (σ 11)) 34 (σ 12)) 35 (σ 13)) τ) := h
                    refine lv_aload_n hx hb dX9_image_186 rfl (lv_at hl 1 rfl) ?_
                    refine mg_tides C h dX9_image_187 ?_
                    have h : gW D ct zA zs _ _ (wM ad ct (va_up (va_up (va_up (va_up (va_up (va_up (va_up (va_up (va_up (va_up (va_up (va_up σ 24 (fun _ => 1)) 25 (fun _ => σ 0 0)) 26 (fun _ => σ 5 0)) 27 (fun _ => σ 6 0)) 28 (fun _ => σ 10 0)) 29 (σ 3)) 30 (σ 4)) 31 (σ 7)) 32 (σ 8)) 33 (σ 11)) 34 (σ 12)) 35 (σ 13)) τ) := h
                    exact hret _ (va_up (va_up (va_up (va_up (va_up (va_up (va_up (va_up (va_up (va_up (va_up (va_up σ 24 (fun _ => 1)) 25 (fun _ => σ 0 0)) 26 (fun _ => σ 5 0)) 27 (fun _ => σ 6 0)) 28 (fun _ => σ 10 0)) 29 (σ 3)) 30 (σ 4)) 31 (σ 7)) 32 (σ 8)) 33 (σ 11)) 34 (σ 12)) 35 (σ 13), τ) _ _ _ _ h (by rw [if_neg c_4]; exact ⟨rfl, rfl⟩) dX9_image_190
                  · refine lv_aload_n hx hb dX9_image_144 rfl (lv_at hl 1 rfl) ?_
                    refine mg_keptMussel C h dX9_image_145 ?_
                    refine lv_iload_n hx hb dX9_image_148 rfl (lv_at hl 0 rfl) ?_
                    refine lv_aload_n hx hb dX9_image_149 rfl (lv_at hl 1 rfl) ?_
                    refine mg_seenMussel C h dX9_image_150 ?_
                    refine lv_iload_n hx hb dX9_image_153 rfl (lv_at hl 0 rfl) ?_
                    refine ml_seenMussel C h (j := i) (by omega) dX9_image_154 ?_
                    refine gas (z := σ 11 i) rfl ?_
                    refine ms_keptMussel C h (j := i) (by omega) dX9_image_155 (fun H ll h => ?_)
                    have h : gW D ct zA zs _ _ (wM ad ct (va_up (va_up (va_up (va_up (va_up (va_up (va_up (va_up (va_up (va_up (va_up (va_up σ 24 (fun _ => 1)) 25 (fun _ => σ 0 0)) 26 (fun _ => σ 5 0)) 27 (fun _ => σ 6 0)) 28 (fun _ => σ 10 0)) 29 (σ 3)) 30 (σ 4)) 31 (σ 7)) 32 (σ 8)) 33 (upd y33 i (σ 11 i))) 34 y34) 35 y35) τ) := h
                    refine lv_aload_n hx hb dX9_image_156 rfl (lv_at hl 1 rfl) ?_
                    refine mg_keptQuestion C h dX9_image_157 ?_
                    refine lv_iload_n hx hb dX9_image_160 rfl (lv_at hl 0 rfl) ?_
                    refine lv_aload_n hx hb dX9_image_161 rfl (lv_at hl 1 rfl) ?_
                    refine mg_seenQuestion C h dX9_image_162 ?_
                    refine lv_iload_n hx hb dX9_image_165 rfl (lv_at hl 0 rfl) ?_
                    refine ml_seenQuestion C h (j := i) (by omega) dX9_image_166 ?_
                    refine gas (z := σ 12 i) rfl ?_
                    refine ms_keptQuestion C h (j := i) (by omega) dX9_image_167 (fun H ll h => ?_)
                    have h : gW D ct zA zs _ _ (wM ad ct (va_up (va_up (va_up (va_up (va_up (va_up (va_up (va_up (va_up (va_up (va_up (va_up σ 24 (fun _ => 1)) 25 (fun _ => σ 0 0)) 26 (fun _ => σ 5 0)) 27 (fun _ => σ 6 0)) 28 (fun _ => σ 10 0)) 29 (σ 3)) 30 (σ 4)) 31 (σ 7)) 32 (σ 8)) 33 (upd y33 i (σ 11 i))) 34 (upd y34 i (σ 12 i))) 35 y35) τ) := h
                    refine lv_aload_n hx hb dX9_image_168 rfl (lv_at hl 1 rfl) ?_
                    refine mg_keptSum C h dX9_image_169 ?_
                    refine lv_iload_n hx hb dX9_image_172 rfl (lv_at hl 0 rfl) ?_
                    refine lv_aload_n hx hb dX9_image_173 rfl (lv_at hl 1 rfl) ?_
                    refine mg_seenSum C h dX9_image_174 ?_
                    refine lv_iload_n hx hb dX9_image_177 rfl (lv_at hl 0 rfl) ?_
                    refine ml_seenSum C h (j := i) (by omega) dX9_image_178 ?_
                    refine gas (z := σ 13 i) rfl ?_
                    refine ms_keptSum C h (j := i) (by omega) dX9_image_179 (fun H ll h => ?_)
                    have h : gW D ct zA zs _ _ (wM ad ct (va_up (va_up (va_up (va_up (va_up (va_up (va_up (va_up (va_up (va_up (va_up (va_up σ 24 (fun _ => 1)) 25 (fun _ => σ 0 0)) 26 (fun _ => σ 5 0)) 27 (fun _ => σ 6 0)) 28 (fun _ => σ 10 0)) 29 (σ 3)) 30 (σ 4)) 31 (σ 7)) 32 (σ 8)) 33 (upd y33 i (σ 11 i))) 34 (upd y34 i (σ 12 i))) 35 (upd y35 i (σ 13 i))) τ) := h
                    refine ninc (lv' := [(1, .int (nI (i + 1))), (0, .ref (ad 0))]) hx hb i 1 dX9_image_180 hl (k := 0) rfl (by decide) rfl (fun ls hl => ?_)
                    refine lv_goto (tgt := 138) hx hb dX9_image_183 (by decide) ?_
                    exact ih138 _ (by omega) (i + 1) (upd y33 i (σ 11 i)) (upd y34 i (σ 12 i)) (upd y35 i (σ 13 i)) _ _ _ rfl (by omega) (updk hy33 rfl) (updk hy34 rfl) (updk hy35 rfl) h (lv_sub hl [0, 1] rfl)
                exact L138_3 _ 0 (σ 33) (σ 34) (σ 35) _ _ _ rfl (by omega) (fun j hj => absurd hj (by omega)) (fun j hj => absurd hj (by omega)) (fun j hj => absurd hj (by omega)) h (lv_sub hl [0, 1] rfl)
              · refine lv_aload_n hx hb dX9_image_106 rfl (lv_at hl 1 rfl) ?_
                refine mg_keptAsked C h dX9_image_107 ?_
                refine lv_iload_n hx hb dX9_image_110 rfl (lv_at hl 0 rfl) ?_
                refine lv_aload_n hx hb dX9_image_111 rfl (lv_at hl 1 rfl) ?_
                refine mg_askedOf C h dX9_image_112 ?_
                refine lv_iload_n hx hb dX9_image_115 rfl (lv_at hl 0 rfl) ?_
                refine ml_askedOf C h (j := i) (by omega) dX9_image_116 ?_
                refine gas (z := σ 7 i) rfl ?_
                refine ms_keptAsked C h (j := i) (by omega) dX9_image_117 (fun H ll h => ?_)
                have h : gW D ct zA zs _ _ (wM ad ct (va_up (va_up (va_up (va_up (va_up (va_up (va_up (va_up (va_up σ 24 (fun _ => 1)) 25 (fun _ => σ 0 0)) 26 (fun _ => σ 5 0)) 27 (fun _ => σ 6 0)) 28 (fun _ => σ 10 0)) 29 (σ 3)) 30 (σ 4)) 31 (upd y31 i (σ 7 i))) 32 y32) τ) := h
                refine lv_aload_n hx hb dX9_image_118 rfl (lv_at hl 1 rfl) ?_
                refine mg_keptCarried C h dX9_image_119 ?_
                refine lv_iload_n hx hb dX9_image_122 rfl (lv_at hl 0 rfl) ?_
                refine lv_aload_n hx hb dX9_image_123 rfl (lv_at hl 1 rfl) ?_
                refine mg_carriedOf C h dX9_image_124 ?_
                refine lv_iload_n hx hb dX9_image_127 rfl (lv_at hl 0 rfl) ?_
                refine ml_carriedOf C h (j := i) (by omega) dX9_image_128 ?_
                refine gas (z := σ 8 i) rfl ?_
                refine ms_keptCarried C h (j := i) (by omega) dX9_image_129 (fun H ll h => ?_)
                have h : gW D ct zA zs _ _ (wM ad ct (va_up (va_up (va_up (va_up (va_up (va_up (va_up (va_up (va_up σ 24 (fun _ => 1)) 25 (fun _ => σ 0 0)) 26 (fun _ => σ 5 0)) 27 (fun _ => σ 6 0)) 28 (fun _ => σ 10 0)) 29 (σ 3)) 30 (σ 4)) 31 (upd y31 i (σ 7 i))) 32 (upd y32 i (σ 8 i))) τ) := h
                refine ninc (lv' := [(1, .int (nI (i + 1))), (0, .ref (ad 0))]) hx hb i 1 dX9_image_130 hl (k := 0) rfl (by decide) rfl (fun ls hl => ?_)
                refine lv_goto (tgt := 101) hx hb dX9_image_133 (by decide) ?_
                exact ih101 _ (by omega) (i + 1) (upd y31 i (σ 7 i)) (upd y32 i (σ 8 i)) _ _ _ rfl (by omega) (updk hy31 rfl) (updk hy32 rfl) h (lv_sub hl [0, 1] rfl)
            exact L101_2 _ 0 (σ 31) (σ 32) _ _ _ rfl (by omega) (fun j hj => absurd hj (by omega)) (fun j hj => absurd hj (by omega)) h (lv_sub hl [0, 1] rfl)
          · refine lv_aload_n hx hb dX9_image_81 rfl (lv_at hl 1 rfl) ?_
            refine mg_keptLean C h dX9_image_82 ?_
            refine lv_iload_n hx hb dX9_image_85 rfl (lv_at hl 0 rfl) ?_
            refine lv_aload_n hx hb dX9_image_86 rfl (lv_at hl 1 rfl) ?_
            refine mg_leanOf C h dX9_image_87 ?_
            refine lv_iload_n hx hb dX9_image_90 rfl (lv_at hl 0 rfl) ?_
            refine ml_leanOf C h (j := i) (by omega) dX9_image_91 ?_
            refine gas (z := σ 4 i) rfl ?_
            refine ms_keptLean C h (j := i) (by omega) dX9_image_92 (fun H ll h => ?_)
            have h : gW D ct zA zs _ _ (wM ad ct (va_up (va_up (va_up (va_up (va_up (va_up (va_up σ 24 (fun _ => 1)) 25 (fun _ => σ 0 0)) 26 (fun _ => σ 5 0)) 27 (fun _ => σ 6 0)) 28 (fun _ => σ 10 0)) 29 (σ 3)) 30 (upd y30 i (σ 4 i))) τ) := h
            refine ninc (lv' := [(1, .int (nI (i + 1))), (0, .ref (ad 0))]) hx hb i 1 dX9_image_93 hl (k := 0) rfl (by decide) rfl (fun ls hl => ?_)
            refine lv_goto (tgt := 75) hx hb dX9_image_96 (by decide) ?_
            exact ih75 _ (by omega) (i + 1) (upd y30 i (σ 4 i)) _ _ _ rfl (by omega) (updk hy30 rfl) h (lv_sub hl [0, 1] rfl)
        exact L75_1 _ 0 (σ 30) _ _ _ rfl (by omega) (fun j hj => absurd hj (by omega)) h (lv_sub hl [0, 1] rfl)
      · refine lv_aload_n hx hb dX9_image_55 rfl (lv_at hl 1 rfl) ?_
        refine mg_keptWeight C h dX9_image_56 ?_
        refine lv_iload_n hx hb dX9_image_59 rfl (lv_at hl 0 rfl) ?_
        refine lv_aload_n hx hb dX9_image_60 rfl (lv_at hl 1 rfl) ?_
        refine mg_weightOf C h dX9_image_61 ?_
        refine lv_iload_n hx hb dX9_image_64 rfl (lv_at hl 0 rfl) ?_
        refine ml_weightOf C h (j := i) (by omega) dX9_image_65 ?_
        refine gas (z := σ 3 i) rfl ?_
        refine ms_keptWeight C h (j := i) (by omega) dX9_image_66 (fun H ll h => ?_)
        have h : gW D ct zA zs _ _ (wM ad ct (va_up (va_up (va_up (va_up (va_up (va_up σ 24 (fun _ => 1)) 25 (fun _ => σ 0 0)) 26 (fun _ => σ 5 0)) 27 (fun _ => σ 6 0)) 28 (fun _ => σ 10 0)) 29 (upd y29 i (σ 3 i))) τ) := h
        refine ninc (lv' := [(1, .int (nI (i + 1))), (0, .ref (ad 0))]) hx hb i 1 dX9_image_67 hl (k := 0) rfl (by decide) rfl (fun ls hl => ?_)
        refine lv_goto (tgt := 49) hx hb dX9_image_70 (by decide) ?_
        exact ih49 _ (by omega) (i + 1) (upd y29 i (σ 3 i)) _ _ _ rfl (by omega) (updk hy29 rfl) h (lv_sub hl [0, 1] rfl)
    exact L49_0 _ 0 (σ 29) _ _ _ rfl (by omega) (fun j hj => absurd hj (by omega)) h (lv_sub hl [0, 1] rfl)
  · refine lv_bipush (v := -103) hx hb dX9_image_7 (by decide) ?_
    have h : gW D ct zA zs _ _ (wM ad ct σ τ) := h
    exact hret _ (σ, τ) _ _ _ _ h (by rw [if_pos c_4]; exact ⟨rfl, rfl⟩) dX9_image_9
set_option maxHeartbeats 1000000 in
set_option maxRecDepth 100000 in
theorem kX9_restore (l : Launch) (D : va_G) (ct : Nat → ClassId) (ad : Nat → Nat) (σ : Nat → Nat → Int32) (τ : Nat → Nat → Int64)  : MI l yX9_restore (gWs yX9_restore cX9_restore 2 (some .int)) rmX9_restore D ct gNo [.ref (ad 0)] (wM ad ct σ τ) (fun u : (Nat → Nat → Int32) × (Nat → Nat → Int64) => wM ad ct u.1 u.2) (fun r u => if ¬ (¬ σ 24 0 = 0 ∧ σ 25 0 = σ 0 0) then (r = -103 ∧ u = (σ, τ)) else (r = σ 27 0 ∧ u = (va_up (va_up (va_up (va_up (va_up (va_up (va_up (va_up (va_up (va_up σ 5 (fun _ => σ 26 0)) 6 (fun _ => σ 27 0)) 10 (fun _ => σ 28 0)) 3 (σ 29)) 4 (σ 30)) 7 (σ 31)) 8 (σ 32)) 11 (σ 33)) 12 (σ 34)) 13 (σ 35), τ))) := by
  refine MI.ofI RX9 rfl (by decide) (Nat.le_of_ble_eq_true rfl) ?_
  intro zp ze zs zm za zb zt zc zA ls zQ C h hX hl hret
  have hx := C.1
  have hb := C.2.1
  have hl : lv_has ls 2 [(0, .ref (ad 0))] := hl
  refine lv_aload_n hx hb dX9_restore_0 rfl (lv_at hl 0 rfl) ?_
  refine mg_isKept C h dX9_restore_1 ?_
  refine lv_if_eq (tgt := 18) hx hb dX9_restore_4 (by decide) (fun c_4 => ?_) (fun c_4 => ?_)
  · refine lv_bipush (v := -103) hx hb dX9_restore_18 (by decide) ?_
    have h : gW D ct zA zs _ _ (wM ad ct σ τ) := h
    exact hret _ (σ, τ) _ _ _ _ h (by rw [if_pos (fun h9 => h9.1 c_4)]; exact ⟨rfl, rfl⟩) dX9_restore_20
  · refine lv_aload_n hx hb dX9_restore_7 rfl (lv_at hl 0 rfl) ?_
    refine mg_keptRope C h dX9_restore_8 ?_
    refine lv_aload_n hx hb dX9_restore_11 rfl (lv_at hl 0 rfl) ?_
    refine mg_ropes C h dX9_restore_12 ?_
    refine lv_icmp_eq (tgt := 21) hx hb dX9_restore_15 (by decide) (fun c_15 => ?_) (fun c_15 => ?_)
    · refine lv_aload_n hx hb dX9_restore_21 rfl (lv_at hl 0 rfl) ?_
      refine lv_aload_n hx hb dX9_restore_22 rfl (lv_at hl 0 rfl) ?_
      refine mg_keptCut C h dX9_restore_23 ?_
      refine mp_cutThreads C h dX9_restore_26 (fun H ll h => ?_)
      refine lv_aload_n hx hb dX9_restore_29 rfl (lv_at hl 0 rfl) ?_
      refine lv_aload_n hx hb dX9_restore_30 rfl (lv_at hl 0 rfl) ?_
      refine mg_keptTides C h dX9_restore_31 ?_
      refine mp_tides C h dX9_restore_34 (fun H ll h => ?_)
      refine lv_aload_n hx hb dX9_restore_37 rfl (lv_at hl 0 rfl) ?_
      refine lv_aload_n hx hb dX9_restore_38 rfl (lv_at hl 0 rfl) ?_
      refine mg_keptSeen C h dX9_restore_39 ?_
      refine mp_seen C h dX9_restore_42 (fun H ll h => ?_)
      refine lv_iconst (v := 0) hx hb dX9_restore_45 (by decide) ?_
      refine lv_istore_n (lv' := [(1, .int 0), (0, .ref (ad 0))]) hx hb dX9_restore_46 rfl hl (by decide) rfl (fun ls hl => ?_)
      have L47_0 : ∀ (kk : Nat) (i : Nat) (y3 : Nat → Int32) (H : Heap) (ll : List Loc) (ls : Array Slot), 8 - i = kk → (i ≤ 8) → (∀ j, j < i → y3 j = (σ 29) j) → gW D ct zA zs H ll (wM ad ct (va_up (va_up (va_up (va_up σ 5 (fun _ => σ 26 0)) 6 (fun _ => σ 27 0)) 10 (fun _ => σ 28 0)) 3 y3) τ) → lv_has ls 2 [(1, .int (nI i)), (0, .ref (ad 0))] → W zp l ze rmX9_restore zs zm za zb zt zc H ll 0 0 zQ (F0 zm 47 ls []) := by
        intro kk47
        induction kk47 using Nat.strongRecOn with
        | _ kk47 ih47 =>
        intro i y3 H ll ls hk47 hi hy3 h hl
        refine lv_iload_n hx hb dX9_restore_47 rfl (lv_at hl 0 rfl) ?_
        refine lv_bipush (v := 8) hx hb dX9_restore_48 (by decide) ?_
        refine nb_ge hx hb i 8 (by omega) (by omega) (tgt := 71) dX9_restore_50 (by decide) (fun c_50 => ?_) (fun c_50 => ?_)
        · have h := mc_weightOf h (σ 29) (fun j hj => hy3 j (by omega))
          have h : gW D ct zA zs _ _ (wM ad ct (va_up (va_up (va_up (va_up σ 5 (fun _ => σ 26 0)) 6 (fun _ => σ 27 0)) 10 (fun _ => σ 28 0)) 3 (σ 29)) τ) := h
          refine lv_iconst (v := 0) hx hb dX9_restore_71 (by decide) ?_
          refine lv_istore_n (lv' := [(1, .int 0), (0, .ref (ad 0))]) hx hb dX9_restore_72 rfl hl (by decide) rfl (fun ls hl => ?_)
          have L73_1 : ∀ (kk : Nat) (i : Nat) (y4 : Nat → Int32) (H : Heap) (ll : List Loc) (ls : Array Slot), 24 - i = kk → (i ≤ 24) → (∀ j, j < i → y4 j = (σ 30) j) → gW D ct zA zs H ll (wM ad ct (va_up (va_up (va_up (va_up (va_up σ 5 (fun _ => σ 26 0)) 6 (fun _ => σ 27 0)) 10 (fun _ => σ 28 0)) 3 (σ 29)) 4 y4) τ) → lv_has ls 2 [(1, .int (nI i)), (0, .ref (ad 0))] → W zp l ze rmX9_restore zs zm za zb zt zc H ll 0 0 zQ (F0 zm 73 ls []) := by
            intro kk73
            induction kk73 using Nat.strongRecOn with
            | _ kk73 ih73 =>
            intro i y4 H ll ls hk73 hi hy4 h hl
            refine lv_iload_n hx hb dX9_restore_73 rfl (lv_at hl 0 rfl) ?_
            refine lv_bipush (v := 24) hx hb dX9_restore_74 (by decide) ?_
            refine nb_ge hx hb i 24 (by omega) (by omega) (tgt := 97) dX9_restore_76 (by decide) (fun c_76 => ?_) (fun c_76 => ?_)
            · have h := mc_leanOf h (σ 30) (fun j hj => hy4 j (by omega))
              have h : gW D ct zA zs _ _ (wM ad ct (va_up (va_up (va_up (va_up (va_up σ 5 (fun _ => σ 26 0)) 6 (fun _ => σ 27 0)) 10 (fun _ => σ 28 0)) 3 (σ 29)) 4 (σ 30)) τ) := h
              refine lv_iconst (v := 0) hx hb dX9_restore_97 (by decide) ?_
              refine lv_istore_n (lv' := [(1, .int 0), (0, .ref (ad 0))]) hx hb dX9_restore_98 rfl hl (by decide) rfl (fun ls hl => ?_)
              have L99_2 : ∀ (kk : Nat) (i : Nat) (y7 : Nat → Int32) (y8 : Nat → Int32) (H : Heap) (ll : List Loc) (ls : Array Slot), 3 - i = kk → (i ≤ 3) → (∀ j, j < i → y7 j = (σ 31) j) → (∀ j, j < i → y8 j = (σ 32) j) → gW D ct zA zs H ll (wM ad ct (va_up (va_up (va_up (va_up (va_up (va_up (va_up σ 5 (fun _ => σ 26 0)) 6 (fun _ => σ 27 0)) 10 (fun _ => σ 28 0)) 3 (σ 29)) 4 (σ 30)) 7 y7) 8 y8) τ) → lv_has ls 2 [(1, .int (nI i)), (0, .ref (ad 0))] → W zp l ze rmX9_restore zs zm za zb zt zc H ll 0 0 zQ (F0 zm 99 ls []) := by
                intro kk99
                induction kk99 using Nat.strongRecOn with
                | _ kk99 ih99 =>
                intro i y7 y8 H ll ls hk99 hi hy7 hy8 h hl
                refine lv_iload_n hx hb dX9_restore_99 rfl (lv_at hl 0 rfl) ?_
                refine lv_iconst (v := 3) hx hb dX9_restore_100 (by decide) ?_
                refine nb_ge hx hb i 3 (by omega) (by omega) (tgt := 134) dX9_restore_101 (by decide) (fun c_101 => ?_) (fun c_101 => ?_)
                · have h := mc_askedOf h (σ 31) (fun j hj => hy7 j (by omega))
                  have h := mc_carriedOf h (σ 32) (fun j hj => hy8 j (by omega))
                  have h : gW D ct zA zs _ _ (wM ad ct (va_up (va_up (va_up (va_up (va_up (va_up (va_up σ 5 (fun _ => σ 26 0)) 6 (fun _ => σ 27 0)) 10 (fun _ => σ 28 0)) 3 (σ 29)) 4 (σ 30)) 7 (σ 31)) 8 (σ 32)) τ) := h
                  refine lv_iconst (v := 0) hx hb dX9_restore_134 (by decide) ?_
                  refine lv_istore_n (lv' := [(1, .int 0), (0, .ref (ad 0))]) hx hb dX9_restore_135 rfl hl (by decide) rfl (fun ls hl => ?_)
                  have L136_3 : ∀ (kk : Nat) (i : Nat) (y11 : Nat → Int32) (y12 : Nat → Int32) (y13 : Nat → Int32) (H : Heap) (ll : List Loc) (ls : Array Slot), 6 - i = kk → (i ≤ 6) → (∀ j, j < i → y11 j = (σ 33) j) → (∀ j, j < i → y12 j = (σ 34) j) → (∀ j, j < i → y13 j = (σ 35) j) → gW D ct zA zs H ll (wM ad ct (va_up (va_up (va_up (va_up (va_up (va_up (va_up (va_up (va_up (va_up σ 5 (fun _ => σ 26 0)) 6 (fun _ => σ 27 0)) 10 (fun _ => σ 28 0)) 3 (σ 29)) 4 (σ 30)) 7 (σ 31)) 8 (σ 32)) 11 y11) 12 y12) 13 y13) τ) → lv_has ls 2 [(1, .int (nI i)), (0, .ref (ad 0))] → W zp l ze rmX9_restore zs zm za zb zt zc H ll 0 0 zQ (F0 zm 136 ls []) := by
                    intro kk136
                    induction kk136 using Nat.strongRecOn with
                    | _ kk136 ih136 =>
                    intro i y11 y12 y13 H ll ls hk136 hi hy11 hy12 hy13 h hl
                    refine lv_iload_n hx hb dX9_restore_136 rfl (lv_at hl 0 rfl) ?_
                    refine lv_bipush (v := 6) hx hb dX9_restore_137 (by decide) ?_
                    refine nb_ge hx hb i 6 (by omega) (by omega) (tgt := 184) dX9_restore_139 (by decide) (fun c_139 => ?_) (fun c_139 => ?_)
                    · have h := mc_seenMussel h (σ 33) (fun j hj => hy11 j (by omega))
                      have h := mc_seenQuestion h (σ 34) (fun j hj => hy12 j (by omega))
                      have h := mc_seenSum h (σ 35) (fun j hj => hy13 j (by omega))
                      have h : gW D ct zA zs _ _ (wM ad ct (va_up (va_up (va_up (va_up (va_up (va_up (va_up (va_up (va_up (va_up σ 5 (fun _ => σ 26 0)) 6 (fun _ => σ 27 0)) 10 (fun _ => σ 28 0)) 3 (σ 29)) 4 (σ 30)) 7 (σ 31)) 8 (σ 32)) 11 (σ 33)) 12 (σ 34)) 13 (σ 35)) τ) := h
                      refine lv_aload_n hx hb dX9_restore_184 rfl (lv_at hl 1 rfl) ?_
                      refine mg_tides C h dX9_restore_185 ?_
                      have h : gW D ct zA zs _ _ (wM ad ct (va_up (va_up (va_up (va_up (va_up (va_up (va_up (va_up (va_up (va_up σ 5 (fun _ => σ 26 0)) 6 (fun _ => σ 27 0)) 10 (fun _ => σ 28 0)) 3 (σ 29)) 4 (σ 30)) 7 (σ 31)) 8 (σ 32)) 11 (σ 33)) 12 (σ 34)) 13 (σ 35)) τ) := h
                      exact hret _ (va_up (va_up (va_up (va_up (va_up (va_up (va_up (va_up (va_up (va_up σ 5 (fun _ => σ 26 0)) 6 (fun _ => σ 27 0)) 10 (fun _ => σ 28 0)) 3 (σ 29)) 4 (σ 30)) 7 (σ 31)) 8 (σ 32)) 11 (σ 33)) 12 (σ 34)) 13 (σ 35), τ) _ _ _ _ h (by rw [if_neg (fun h9 => h9 ⟨c_4, c_15⟩)]; exact ⟨rfl, rfl⟩) dX9_restore_188
                    · refine lv_aload_n hx hb dX9_restore_142 rfl (lv_at hl 1 rfl) ?_
                      refine mg_seenMussel C h dX9_restore_143 ?_
                      refine lv_iload_n hx hb dX9_restore_146 rfl (lv_at hl 0 rfl) ?_
                      refine lv_aload_n hx hb dX9_restore_147 rfl (lv_at hl 1 rfl) ?_
                      refine mg_keptMussel C h dX9_restore_148 ?_
                      refine lv_iload_n hx hb dX9_restore_151 rfl (lv_at hl 0 rfl) ?_
                      refine ml_keptMussel C h (j := i) (by omega) dX9_restore_152 ?_
                      refine gas (z := σ 33 i) rfl ?_
                      refine ms_seenMussel C h (j := i) (by omega) dX9_restore_153 (fun H ll h => ?_)
                      have h : gW D ct zA zs _ _ (wM ad ct (va_up (va_up (va_up (va_up (va_up (va_up (va_up (va_up (va_up (va_up σ 5 (fun _ => σ 26 0)) 6 (fun _ => σ 27 0)) 10 (fun _ => σ 28 0)) 3 (σ 29)) 4 (σ 30)) 7 (σ 31)) 8 (σ 32)) 11 (upd y11 i (σ 33 i))) 12 y12) 13 y13) τ) := h
                      refine lv_aload_n hx hb dX9_restore_154 rfl (lv_at hl 1 rfl) ?_
                      refine mg_seenQuestion C h dX9_restore_155 ?_
                      refine lv_iload_n hx hb dX9_restore_158 rfl (lv_at hl 0 rfl) ?_
                      refine lv_aload_n hx hb dX9_restore_159 rfl (lv_at hl 1 rfl) ?_
                      refine mg_keptQuestion C h dX9_restore_160 ?_
                      refine lv_iload_n hx hb dX9_restore_163 rfl (lv_at hl 0 rfl) ?_
                      refine ml_keptQuestion C h (j := i) (by omega) dX9_restore_164 ?_
                      refine gas (z := σ 34 i) rfl ?_
                      refine ms_seenQuestion C h (j := i) (by omega) dX9_restore_165 (fun H ll h => ?_)
                      have h : gW D ct zA zs _ _ (wM ad ct (va_up (va_up (va_up (va_up (va_up (va_up (va_up (va_up (va_up (va_up σ 5 (fun _ => σ 26 0)) 6 (fun _ => σ 27 0)) 10 (fun _ => σ 28 0)) 3 (σ 29)) 4 (σ 30)) 7 (σ 31)) 8 (σ 32)) 11 (upd y11 i (σ 33 i))) 12 (upd y12 i (σ 34 i))) 13 y13) τ) := h
                      refine lv_aload_n hx hb dX9_restore_166 rfl (lv_at hl 1 rfl) ?_
                      refine mg_seenSum C h dX9_restore_167 ?_
                      refine lv_iload_n hx hb dX9_restore_170 rfl (lv_at hl 0 rfl) ?_
                      refine lv_aload_n hx hb dX9_restore_171 rfl (lv_at hl 1 rfl) ?_
                      refine mg_keptSum C h dX9_restore_172 ?_
                      refine lv_iload_n hx hb dX9_restore_175 rfl (lv_at hl 0 rfl) ?_
                      refine ml_keptSum C h (j := i) (by omega) dX9_restore_176 ?_
                      refine gas (z := σ 35 i) rfl ?_
                      refine ms_seenSum C h (j := i) (by omega) dX9_restore_177 (fun H ll h => ?_)
                      have h : gW D ct zA zs _ _ (wM ad ct (va_up (va_up (va_up (va_up (va_up (va_up (va_up (va_up (va_up (va_up σ 5 (fun _ => σ 26 0)) 6 (fun _ => σ 27 0)) 10 (fun _ => σ 28 0)) 3 (σ 29)) 4 (σ 30)) 7 (σ 31)) 8 (σ 32)) 11 (upd y11 i (σ 33 i))) 12 (upd y12 i (σ 34 i))) 13 (upd y13 i (σ 35 i))) τ) := h
                      refine ninc (lv' := [(1, .int (nI (i + 1))), (0, .ref (ad 0))]) hx hb i 1 dX9_restore_178 hl (k := 0) rfl (by decide) rfl (fun ls hl => ?_)
                      refine lv_goto (tgt := 136) hx hb dX9_restore_181 (by decide) ?_
                      exact ih136 _ (by omega) (i + 1) (upd y11 i (σ 33 i)) (upd y12 i (σ 34 i)) (upd y13 i (σ 35 i)) _ _ _ rfl (by omega) (updk hy11 rfl) (updk hy12 rfl) (updk hy13 rfl) h (lv_sub hl [0, 1] rfl)
                  exact L136_3 _ 0 (σ 11) (σ 12) (σ 13) _ _ _ rfl (by omega) (fun j hj => absurd hj (by omega)) (fun j hj => absurd hj (by omega)) (fun j hj => absurd hj (by omega)) h (lv_sub hl [0, 1] rfl)
                · refine lv_aload_n hx hb dX9_restore_104 rfl (lv_at hl 1 rfl) ?_
                  refine mg_askedOf C h dX9_restore_105 ?_
                  refine lv_iload_n hx hb dX9_restore_108 rfl (lv_at hl 0 rfl) ?_
                  refine lv_aload_n hx hb dX9_restore_109 rfl (lv_at hl 1 rfl) ?_
                  refine mg_keptAsked C h dX9_restore_110 ?_
                  refine lv_iload_n hx hb dX9_restore_113 rfl (lv_at hl 0 rfl) ?_
                  refine ml_keptAsked C h (j := i) (by omega) dX9_restore_114 ?_
                  refine gas (z := σ 31 i) rfl ?_
                  refine ms_askedOf C h (j := i) (by omega) dX9_restore_115 (fun H ll h => ?_)
                  have h : gW D ct zA zs _ _ (wM ad ct (va_up (va_up (va_up (va_up (va_up (va_up (va_up σ 5 (fun _ => σ 26 0)) 6 (fun _ => σ 27 0)) 10 (fun _ => σ 28 0)) 3 (σ 29)) 4 (σ 30)) 7 (upd y7 i (σ 31 i))) 8 y8) τ) := h
                  refine lv_aload_n hx hb dX9_restore_116 rfl (lv_at hl 1 rfl) ?_
                  refine mg_carriedOf C h dX9_restore_117 ?_
                  refine lv_iload_n hx hb dX9_restore_120 rfl (lv_at hl 0 rfl) ?_
                  refine lv_aload_n hx hb dX9_restore_121 rfl (lv_at hl 1 rfl) ?_
                  refine mg_keptCarried C h dX9_restore_122 ?_
                  refine lv_iload_n hx hb dX9_restore_125 rfl (lv_at hl 0 rfl) ?_
                  refine ml_keptCarried C h (j := i) (by omega) dX9_restore_126 ?_
                  refine gas (z := σ 32 i) rfl ?_
                  refine ms_carriedOf C h (j := i) (by omega) dX9_restore_127 (fun H ll h => ?_)
                  have h : gW D ct zA zs _ _ (wM ad ct (va_up (va_up (va_up (va_up (va_up (va_up (va_up σ 5 (fun _ => σ 26 0)) 6 (fun _ => σ 27 0)) 10 (fun _ => σ 28 0)) 3 (σ 29)) 4 (σ 30)) 7 (upd y7 i (σ 31 i))) 8 (upd y8 i (σ 32 i))) τ) := h
                  refine ninc (lv' := [(1, .int (nI (i + 1))), (0, .ref (ad 0))]) hx hb i 1 dX9_restore_128 hl (k := 0) rfl (by decide) rfl (fun ls hl => ?_)
                  refine lv_goto (tgt := 99) hx hb dX9_restore_131 (by decide) ?_
                  exact ih99 _ (by omega) (i + 1) (upd y7 i (σ 31 i)) (upd y8 i (σ 32 i)) _ _ _ rfl (by omega) (updk hy7 rfl) (updk hy8 rfl) h (lv_sub hl [0, 1] rfl)
              exact L99_2 _ 0 (σ 7) (σ 8) _ _ _ rfl (by omega) (fun j hj => absurd hj (by omega)) (fun j hj => absurd hj (by omega)) h (lv_sub hl [0, 1] rfl)
            · refine lv_aload_n hx hb dX9_restore_79 rfl (lv_at hl 1 rfl) ?_
              refine mg_leanOf C h dX9_restore_80 ?_
              refine lv_iload_n hx hb dX9_restore_83 rfl (lv_at hl 0 rfl) ?_
              refine lv_aload_n hx hb dX9_restore_84 rfl (lv_at hl 1 rfl) ?_
              refine mg_keptLean C h dX9_restore_85 ?_
              refine lv_iload_n hx hb dX9_restore_88 rfl (lv_at hl 0 rfl) ?_
              refine ml_keptLean C h (j := i) (by omega) dX9_restore_89 ?_
              refine gas (z := σ 30 i) rfl ?_
              refine ms_leanOf C h (j := i) (by omega) dX9_restore_90 (fun H ll h => ?_)
              have h : gW D ct zA zs _ _ (wM ad ct (va_up (va_up (va_up (va_up (va_up σ 5 (fun _ => σ 26 0)) 6 (fun _ => σ 27 0)) 10 (fun _ => σ 28 0)) 3 (σ 29)) 4 (upd y4 i (σ 30 i))) τ) := h
              refine ninc (lv' := [(1, .int (nI (i + 1))), (0, .ref (ad 0))]) hx hb i 1 dX9_restore_91 hl (k := 0) rfl (by decide) rfl (fun ls hl => ?_)
              refine lv_goto (tgt := 73) hx hb dX9_restore_94 (by decide) ?_
              exact ih73 _ (by omega) (i + 1) (upd y4 i (σ 30 i)) _ _ _ rfl (by omega) (updk hy4 rfl) h (lv_sub hl [0, 1] rfl)
          exact L73_1 _ 0 (σ 4) _ _ _ rfl (by omega) (fun j hj => absurd hj (by omega)) h (lv_sub hl [0, 1] rfl)
        · refine lv_aload_n hx hb dX9_restore_53 rfl (lv_at hl 1 rfl) ?_
          refine mg_weightOf C h dX9_restore_54 ?_
          refine lv_iload_n hx hb dX9_restore_57 rfl (lv_at hl 0 rfl) ?_
          refine lv_aload_n hx hb dX9_restore_58 rfl (lv_at hl 1 rfl) ?_
          refine mg_keptWeight C h dX9_restore_59 ?_
          refine lv_iload_n hx hb dX9_restore_62 rfl (lv_at hl 0 rfl) ?_
          refine ml_keptWeight C h (j := i) (by omega) dX9_restore_63 ?_
          refine gas (z := σ 29 i) rfl ?_
          refine ms_weightOf C h (j := i) (by omega) dX9_restore_64 (fun H ll h => ?_)
          have h : gW D ct zA zs _ _ (wM ad ct (va_up (va_up (va_up (va_up σ 5 (fun _ => σ 26 0)) 6 (fun _ => σ 27 0)) 10 (fun _ => σ 28 0)) 3 (upd y3 i (σ 29 i))) τ) := h
          refine ninc (lv' := [(1, .int (nI (i + 1))), (0, .ref (ad 0))]) hx hb i 1 dX9_restore_65 hl (k := 0) rfl (by decide) rfl (fun ls hl => ?_)
          refine lv_goto (tgt := 47) hx hb dX9_restore_68 (by decide) ?_
          exact ih47 _ (by omega) (i + 1) (upd y3 i (σ 29 i)) _ _ _ rfl (by omega) (updk hy3 rfl) h (lv_sub hl [0, 1] rfl)
      exact L47_0 _ 0 (σ 3) _ _ _ rfl (by omega) (fun j hj => absurd hj (by omega)) h (lv_sub hl [0, 1] rfl)
    · refine lv_bipush (v := -103) hx hb dX9_restore_18 (by decide) ?_
      have h : gW D ct zA zs _ _ (wM ad ct σ τ) := h
      exact hret _ (σ, τ) _ _ _ _ h (by rw [if_pos (fun h9 => c_15 h9.2)]; exact ⟨rfl, rfl⟩) dX9_restore_20
set_option maxHeartbeats 1000000 in
set_option maxRecDepth 100000 in
theorem kX9_rope (l : Launch) (D : va_G) (ct : Nat → ClassId) (ad : Nat → Nat) (σ : Nat → Nat → Int32) (τ : Nat → Nat → Int64) (pg : Nat) (hpg : σ 14 0 = nI pg) (hpg50 : pg ≤ 50) : MI l yX9_rope (gWs yX9_rope cX9_rope 4 (some .int)) rmX9_rope D ct gNo [.ref (ad 0)] (wM ad ct σ τ) (fun u : (Nat → Nat → Int32) × (Nat → Nat → Int64) => wM ad ct u.1 u.2) (fun r u => if ¬ (rdM σ pg).2.2 = true then (r = -103 ∧ ∃ (g16 : Int32) (g17 : Int32), u = (va_up (va_up σ 16 (fun _ => g16)) 17 (fun _ => g17), τ)) else (r = nI ((rdM σ pg).2.1) ∧ ∃ (g16 : Int32) (g17 : Int32), u = (va_up (va_up (va_up (va_up (va_up (va_up (va_up (va_up (va_up (va_up (va_up (va_up (va_up σ 16 (fun _ => g16)) 17 (fun _ => g17)) 1 (fun _ => nI (rdM σ pg).2.1)) 2 (rk2 σ (rdM σ pg).2.1)) 3 (rk3 σ (rdM σ pg).2.1)) 4 (rk4 σ (rdM σ pg).2.1)) 5 (fun _ => 0)) 6 (fun _ => 0)) 7 (fun _ => 0)) 8 (fun _ => 0)) 0 (fun _ => σ 0 0 + 1)) 10 (fun _ => 0)) 14 (fun _ => 0), τ))) := by
  refine MI.ofI RX9 rfl (by decide) (Nat.le_of_ble_eq_true rfl) ?_
  intro zp ze zs zm za zb zt zc zA ls zQ C h hX hl hret
  have hx := C.1
  have hb := C.2.1
  have hl : lv_has ls 4 [(0, .ref (ad 0))] := hl
  refine lv_aload_n hx hb dX9_rope_0 rfl (lv_at hl 0 rfl) ?_
  refine gcallVi C h trivial gNo_ok (kX9_read l D ct ad σ τ pg hpg hpg50) (cwV 0 C.2.2.2.2 (gInV q828 q830 q19 q66 q831) rfl rfl rfl hvX9_read ⟨Nat.le_of_ble_eq_true rfl, Nat.le_of_ble_eq_true rfl⟩) 0 (wM_o ad ct σ τ) rfl rfl rfl hl.1 rfl (Nat.le_of_ble_eq_true rfl) dX9_rope_1 ⟨Nat.zero_le _, Nat.zero_le _⟩ (fun r9 u9 H ll hw h => ?_)
  obtain ⟨hw, rfl⟩ := hw
  have hw : r9 = nI ((rdM σ pg).1) := hw
  subst hw
  have h : gW D ct zA zs _ _ (wM ad ct (va_up (va_up σ 16 (fun _ => (if (rdM σ pg).2.2 = true then 1 else 0))) 17 (fun _ => nI ((rdM σ pg).2.1))) τ) := h
  refine lv_pop hx hb dX9_rope_4 rfl ?_
  refine lv_aload_n hx hb dX9_rope_5 rfl (lv_at hl 0 rfl) ?_
  refine mg_isWhole C h dX9_rope_6 ?_
  refine bz_ne hx hb ((rdM σ pg).2.2 = true) (tgt := 15) dX9_rope_9 (by decide) (fun c_9 => ?_) (fun c_9 => ?_)
  · obtain ⟨nm, hnm⟩ : ∃ z, z = (rdM σ pg).2.1 := ⟨_, rfl⟩
    have hnm8 : nm ≤ 8 := by rw [hnm]; exact rdM_nm σ pg
    rw [← hnm] at h hret
    have h : gW D ct zA zs _ _ (wM ad ct (va_up (va_up σ 16 (fun _ => (if (rdM σ pg).2.2 = true then 1 else 0))) 17 (fun _ => nI nm)) τ) := h
    refine lv_aload_n hx hb dX9_rope_15 rfl (lv_at hl 0 rfl) ?_
    refine lv_aload_n hx hb dX9_rope_16 rfl (lv_at hl 0 rfl) ?_
    refine mg_newMussels C h dX9_rope_17 ?_
    refine mp_mussels C h dX9_rope_20 (fun H ll h => ?_)
    refine lv_iconst (v := 0) hx hb dX9_rope_23 (by decide) ?_
    refine lv_istore_n (lv' := [(1, .int 0), (0, .ref (ad 0))]) hx hb dX9_rope_24 rfl hl (by decide) rfl (fun ls hl => ?_)
    have L25_1 : ∀ (kk : Nat) (i : Nat) (f2 : Nat → Int32) (f3 : Nat → Int32) (f4 : Nat → Int32) (H : Heap) (ll : List Loc) (ls : Array Slot), nm - i = kk → (i ≤ nm) → (∀ j, f2 j = if j < i then kindC (σ 15 (6 * j)) else σ 2 j) → (∀ j, f3 j = if j < i then σ 15 (6 * j + 1) - 48 else σ 3 j) → (∀ j, f4 j = if j < 3 * i then lnC (σ 15 (6 * (j / 3) + 2 + j % 3)) else σ 4 j) → gW D ct zA zs H ll (wM ad ct (va_up (va_up (va_up (va_up (va_up (va_up σ 16 (fun _ => (if (rdM σ pg).2.2 = true then 1 else 0))) 17 (fun _ => nI nm)) 1 (fun _ => nI nm)) 2 f2) 3 f3) 4 f4) τ) → lv_has ls 4 [(1, .int (nI i)), (0, .ref (ad 0))] → W zp l ze rmX9_rope zs zm za zb zt zc H ll 0 0 zQ (F0 zm 25 ls []) := by
      intro kk25
      induction kk25 using Nat.strongRecOn with
      | _ kk25 ih25 =>
      intro i f2 f3 f4 H ll ls hk25 hi h2 h3 h4 h hl
      refine lv_iload_n hx hb dX9_rope_25 rfl (lv_at hl 0 rfl) ?_
      refine lv_aload_n hx hb dX9_rope_26 rfl (lv_at hl 1 rfl) ?_
      refine mg_mussels C h dX9_rope_27 ?_
      refine nb_ge hx hb i nm (by omega) (by omega) (tgt := 135) dX9_rope_30 (by decide) (fun c_30 => ?_) (fun c_30 => ?_)
      · have e6 : i = nm := by omega
        rw [e6] at h2 h3 h4
        obtain rfl : f2 = rk2 σ nm := funext h2
        obtain rfl : f3 = rk3 σ nm := funext h3
        obtain rfl : f4 = rk4 σ nm := funext h4
        refine lv_aload_n hx hb dX9_rope_135 rfl (lv_at hl 1 rfl) ?_
        refine lv_iconst (v := 0) hx hb dX9_rope_136 (by decide) ?_
        refine mp_cutThreads C h dX9_rope_137 (fun H ll h => ?_)
        refine lv_aload_n hx hb dX9_rope_140 rfl (lv_at hl 1 rfl) ?_
        refine lv_iconst (v := 0) hx hb dX9_rope_141 (by decide) ?_
        refine mp_tides C h dX9_rope_142 (fun H ll h => ?_)
        refine lv_iconst (v := 0) hx hb dX9_rope_145 (by decide) ?_
        refine lv_istore_n (lv' := [(1, .int 0), (0, .ref (ad 0))]) hx hb dX9_rope_146 rfl hl (by decide) rfl (fun ls hl => ?_)
        have L147_2 : ∀ (kk : Nat) (k : Nat) (y7 : Nat → Int32) (y8 : Nat → Int32) (H : Heap) (ll : List Loc) (ls : Array Slot), 3 - k = kk → (k ≤ 3) → (∀ j, j < k → y7 j = (fun _ => (0 : Int32)) j) → (∀ j, j < k → y8 j = (fun _ => (0 : Int32)) j) → gW D ct zA zs H ll (wM ad ct (va_up (va_up (va_up (va_up (va_up (va_up (va_up (va_up (va_up (va_up σ 16 (fun _ => (if (rdM σ pg).2.2 = true then 1 else 0))) 17 (fun _ => nI nm)) 1 (fun _ => nI nm)) 2 (rk2 σ nm)) 3 (rk3 σ nm)) 4 (rk4 σ nm)) 5 (fun _ => 0)) 6 (fun _ => 0)) 7 y7) 8 y8) τ) → lv_has ls 4 [(1, .int (nI k)), (0, .ref (ad 0))] → W zp l ze rmX9_rope zs zm za zb zt zc H ll 0 0 zQ (F0 zm 147 ls []) := by
          intro kk147
          induction kk147 using Nat.strongRecOn with
          | _ kk147 ih147 =>
          intro k y7 y8 H ll ls hk147 hk hy7 hy8 h hl
          refine lv_iload_n hx hb dX9_rope_147 rfl (lv_at hl 0 rfl) ?_
          refine lv_iconst (v := 3) hx hb dX9_rope_148 (by decide) ?_
          refine nb_ge hx hb k 3 (by omega) (by omega) (tgt := 172) dX9_rope_149 (by decide) (fun c_149 => ?_) (fun c_149 => ?_)
          · have h := mc_askedOf h (fun _ => 0) (fun j hj => hy7 j (by omega))
            have h := mc_carriedOf h (fun _ => 0) (fun j hj => hy8 j (by omega))
            have h : gW D ct zA zs _ _ (wM ad ct (va_up (va_up (va_up (va_up (va_up (va_up (va_up (va_up (va_up (va_up σ 16 (fun _ => (if (rdM σ pg).2.2 = true then 1 else 0))) 17 (fun _ => nI nm)) 1 (fun _ => nI nm)) 2 (rk2 σ nm)) 3 (rk3 σ nm)) 4 (rk4 σ nm)) 5 (fun _ => 0)) 6 (fun _ => 0)) 7 (fun _ => 0)) 8 (fun _ => 0)) τ) := h
            refine lv_aload_n hx hb dX9_rope_172 rfl (lv_at hl 1 rfl) ?_
            refine lv_dup hx hb dX9_rope_173 rfl ?_
            refine mg_ropes C h dX9_rope_174 ?_
            refine lv_iconst (v := 1) hx hb dX9_rope_177 (by decide) ?_
            refine lv_iadd hx hb dX9_rope_178 ?_
            refine mp_ropes C h dX9_rope_179 (fun H ll h => ?_)
            refine lv_aload_n hx hb dX9_rope_182 rfl (lv_at hl 1 rfl) ?_
            refine lv_iconst (v := 0) hx hb dX9_rope_183 (by decide) ?_
            refine mp_seen C h dX9_rope_184 (fun H ll h => ?_)
            refine lv_aload_n hx hb dX9_rope_187 rfl (lv_at hl 1 rfl) ?_
            refine lv_iconst (v := 0) hx hb dX9_rope_188 (by decide) ?_
            refine mp_pageLength C h dX9_rope_189 (fun H ll h => ?_)
            refine lv_aload_n hx hb dX9_rope_192 rfl (lv_at hl 1 rfl) ?_
            refine mg_mussels C h dX9_rope_193 ?_
            have h : gW D ct zA zs _ _ (wM ad ct (va_up (va_up (va_up (va_up (va_up (va_up (va_up (va_up (va_up (va_up (va_up (va_up (va_up σ 16 (fun _ => (if (rdM σ pg).2.2 = true then 1 else 0))) 17 (fun _ => nI nm)) 1 (fun _ => nI nm)) 2 (rk2 σ nm)) 3 (rk3 σ nm)) 4 (rk4 σ nm)) 5 (fun _ => 0)) 6 (fun _ => 0)) 7 (fun _ => 0)) 8 (fun _ => 0)) 0 (fun _ => σ 0 0 + 1)) 10 (fun _ => 0)) 14 (fun _ => 0)) τ) := h
            exact hret _ (va_up (va_up (va_up (va_up (va_up (va_up (va_up (va_up (va_up (va_up (va_up (va_up (va_up σ 16 (fun _ => (if (rdM σ pg).2.2 = true then 1 else 0))) 17 (fun _ => nI nm)) 1 (fun _ => nI nm)) 2 (rk2 σ nm)) 3 (rk3 σ nm)) 4 (rk4 σ nm)) 5 (fun _ => 0)) 6 (fun _ => 0)) 7 (fun _ => 0)) 8 (fun _ => 0)) 0 (fun _ => σ 0 0 + 1)) 10 (fun _ => 0)) 14 (fun _ => 0), τ) _ _ _ _ h (by rw [if_neg (fun h9 => h9 c_9)]; exact ⟨rfl, (if (rdM σ pg).2.2 = true then 1 else 0), (nI nm), rfl⟩) dX9_rope_196
          · refine lv_aload_n hx hb dX9_rope_152 rfl (lv_at hl 1 rfl) ?_
            refine mg_askedOf C h dX9_rope_153 ?_
            refine lv_iload_n hx hb dX9_rope_156 rfl (lv_at hl 0 rfl) ?_
            refine lv_iconst (v := 0) hx hb dX9_rope_157 (by decide) ?_
            refine ms_askedOf C h (j := k) (by omega) dX9_rope_158 (fun H ll h => ?_)
            have h : gW D ct zA zs _ _ (wM ad ct (va_up (va_up (va_up (va_up (va_up (va_up (va_up (va_up (va_up (va_up σ 16 (fun _ => (if (rdM σ pg).2.2 = true then 1 else 0))) 17 (fun _ => nI nm)) 1 (fun _ => nI nm)) 2 (rk2 σ nm)) 3 (rk3 σ nm)) 4 (rk4 σ nm)) 5 (fun _ => 0)) 6 (fun _ => 0)) 7 (upd y7 k 0)) 8 y8) τ) := h
            refine lv_aload_n hx hb dX9_rope_159 rfl (lv_at hl 1 rfl) ?_
            refine mg_carriedOf C h dX9_rope_160 ?_
            refine lv_iload_n hx hb dX9_rope_163 rfl (lv_at hl 0 rfl) ?_
            refine lv_iconst (v := 0) hx hb dX9_rope_164 (by decide) ?_
            refine ms_carriedOf C h (j := k) (by omega) dX9_rope_165 (fun H ll h => ?_)
            have h : gW D ct zA zs _ _ (wM ad ct (va_up (va_up (va_up (va_up (va_up (va_up (va_up (va_up (va_up (va_up σ 16 (fun _ => (if (rdM σ pg).2.2 = true then 1 else 0))) 17 (fun _ => nI nm)) 1 (fun _ => nI nm)) 2 (rk2 σ nm)) 3 (rk3 σ nm)) 4 (rk4 σ nm)) 5 (fun _ => 0)) 6 (fun _ => 0)) 7 (upd y7 k 0)) 8 (upd y8 k 0)) τ) := h
            refine ninc (lv' := [(1, .int (nI (k + 1))), (0, .ref (ad 0))]) hx hb k 1 dX9_rope_166 hl (k := 0) rfl (by decide) rfl (fun ls hl => ?_)
            refine lv_goto (tgt := 147) hx hb dX9_rope_169 (by decide) ?_
            exact ih147 _ (by omega) (k + 1) (upd y7 k 0) (upd y8 k 0) _ _ _ rfl (by omega) (updk hy7 rfl) (updk hy8 rfl) h (lv_sub hl [0, 1] rfl)
        exact L147_2 _ 0 (σ 7) (σ 8) _ _ _ rfl (by omega) (fun j hj => absurd hj (by omega)) (fun j hj => absurd hj (by omega)) h (lv_sub hl [0, 1] rfl)
      · refine lv_aload_n hx hb dX9_rope_33 rfl (lv_at hl 1 rfl) ?_
        refine mg_kindOf C h dX9_rope_34 ?_
        refine lv_iload_n hx hb dX9_rope_37 rfl (lv_at hl 0 rfl) ?_
        refine lv_aload_n hx hb dX9_rope_38 rfl (lv_at hl 1 rfl) ?_
        refine mg_page C h dX9_rope_39 ?_
        refine lv_bipush (v := 6) hx hb dX9_rope_42 (by decide) ?_
        refine lv_iload_n hx hb dX9_rope_44 rfl (lv_at hl 0 rfl) ?_
        refine nmul hx hb 6 i dX9_rope_45 ?_
        refine ml_page C h (j := 6 * i) (by omega) dX9_rope_46 ?_
        refine gas (z := σ 15 (6 * i)) rfl ?_
        refine gcallSi C h (kX9_kindBy l D ct (σ 15 (6 * i))) (va_cwS 1 C.2.2.2.2 (gInS q840 q841 q66 q842) rfl rfl rfl hdX9_kindBy ⟨Nat.le_of_ble_eq_true rfl, Nat.le_of_ble_eq_true rfl⟩) rfl hl.1 rfl (Nat.le_of_ble_eq_true rfl) dX9_rope_47 ⟨Nat.zero_le _, Nat.zero_le _⟩ (fun H ll h => ?_)
        refine ms_kindOf C h (j := i) (by omega) dX9_rope_50 (fun H ll h => ?_)
        have h : gW D ct zA zs _ _ (wM ad ct (va_up (va_up (va_up (va_up (va_up (va_up σ 16 (fun _ => (if (rdM σ pg).2.2 = true then 1 else 0))) 17 (fun _ => nI nm)) 1 (fun _ => nI nm)) 2 (upd f2 i (kindC (σ 15 (6 * i))))) 3 f3) 4 f4) τ) := h
        refine lv_aload_n hx hb dX9_rope_51 rfl (lv_at hl 1 rfl) ?_
        refine mg_weightOf C h dX9_rope_52 ?_
        refine lv_iload_n hx hb dX9_rope_55 rfl (lv_at hl 0 rfl) ?_
        refine lv_aload_n hx hb dX9_rope_56 rfl (lv_at hl 1 rfl) ?_
        refine mg_page C h dX9_rope_57 ?_
        refine lv_bipush (v := 6) hx hb dX9_rope_60 (by decide) ?_
        refine lv_iload_n hx hb dX9_rope_62 rfl (lv_at hl 0 rfl) ?_
        refine nmul hx hb 6 i dX9_rope_63 ?_
        refine lv_iconst (v := 1) hx hb dX9_rope_64 (by decide) ?_
        refine nadd hx hb (6 * i) 1 dX9_rope_65 ?_
        refine ml_page C h (j := (6 * i) + 1) (by omega) dX9_rope_66 ?_
        refine gas (z := σ 15 ((6 * i) + 1)) rfl ?_
        refine lv_bipush (v := 48) hx hb dX9_rope_67 (by decide) ?_
        refine lv_isub hx hb dX9_rope_69 ?_
        refine ms_weightOf C h (j := i) (by omega) dX9_rope_70 (fun H ll h => ?_)
        have h : gW D ct zA zs _ _ (wM ad ct (va_up (va_up (va_up (va_up (va_up (va_up σ 16 (fun _ => (if (rdM σ pg).2.2 = true then 1 else 0))) 17 (fun _ => nI nm)) 1 (fun _ => nI nm)) 2 (upd f2 i (kindC (σ 15 (6 * i))))) 3 (upd f3 i ((σ 15 ((6 * i) + 1)) - 48))) 4 f4) τ) := h
        refine lv_iconst (v := 0) hx hb dX9_rope_71 (by decide) ?_
        refine lv_istore_n (lv' := [(2, .int 0), (1, .int (nI i)), (0, .ref (ad 0))]) hx hb dX9_rope_72 rfl hl (by decide) rfl (fun ls hl => ?_)
        have L73_3 : ∀ (kk : Nat) (q : Nat) (f4 : Nat → Int32) (H : Heap) (ll : List Loc) (ls : Array Slot), 3 - q = kk → (q ≤ 3) → (∀ j, f4 j = if j < 3 * i + q then lnC (σ 15 (6 * (j / 3) + 2 + j % 3)) else σ 4 j) → gW D ct zA zs H ll (wM ad ct (va_up (va_up (va_up (va_up (va_up (va_up σ 16 (fun _ => (if (rdM σ pg).2.2 = true then 1 else 0))) 17 (fun _ => nI nm)) 1 (fun _ => nI nm)) 2 (upd f2 i (kindC (σ 15 (6 * i))))) 3 (upd f3 i ((σ 15 ((6 * i) + 1)) - 48))) 4 f4) τ) → lv_has ls 4 [(2, .int (nI q)), (1, .int (nI i)), (0, .ref (ad 0))] → W zp l ze rmX9_rope zs zm za zb zt zc H ll 0 0 zQ (F0 zm 73 ls []) := by
          intro kk73
          induction kk73 using Nat.strongRecOn with
          | _ kk73 ih73 =>
          intro q f4 H ll ls hk73 hq h4 h hl
          refine lv_iload_n hx hb dX9_rope_73 rfl (lv_at hl 0 rfl) ?_
          refine lv_iconst (v := 3) hx hb dX9_rope_74 (by decide) ?_
          refine nb_ge hx hb q 3 (by omega) (by omega) (tgt := 129) dX9_rope_75 (by decide) (fun c_75 => ?_) (fun c_75 => ?_)
          · refine ninc (lv' := [(1, .int (nI (i + 1))), (2, .int (nI q)), (0, .ref (ad 0))]) hx hb i 1 dX9_rope_129 hl (k := 1) rfl (by decide) rfl (fun ls hl => ?_)
            refine lv_goto (tgt := 25) hx hb dX9_rope_132 (by decide) ?_
            exact ih25 _ (by omega) (i + 1) (upd f2 i (kindC (σ 15 (6 * i)))) (upd f3 i ((σ 15 ((6 * i) + 1)) - 48)) f4 _ _ _ rfl (by omega) (updk2 (v := fun j => kindC (σ 15 (6 * j))) h2 rfl) (updk2 (v := fun j => σ 15 (6 * j + 1) - 48) h3 rfl) (fun j => by rw [h4 j, show 3 * i + q = 3 * (i + 1) by omega]) h (lv_sub hl [0, 2] rfl)
          · refine lv_aload_n hx hb dX9_rope_78 rfl (lv_at hl 2 rfl) ?_
            refine mg_page C h dX9_rope_79 ?_
            refine lv_bipush (v := 6) hx hb dX9_rope_82 (by decide) ?_
            refine lv_iload_n hx hb dX9_rope_84 rfl (lv_at hl 1 rfl) ?_
            refine nmul hx hb 6 i dX9_rope_85 ?_
            refine lv_iconst (v := 2) hx hb dX9_rope_86 (by decide) ?_
            refine nadd hx hb (6 * i) 2 dX9_rope_87 ?_
            refine lv_iload_n hx hb dX9_rope_88 rfl (lv_at hl 0 rfl) ?_
            refine nadd hx hb ((6 * i) + 2) q dX9_rope_89 ?_
            refine ml_page C h (j := ((6 * i) + 2) + q) (by omega) dX9_rope_90 ?_
            refine gas (z := σ 15 (((6 * i) + 2) + q)) rfl ?_
            refine lv_istore_n (lv' := [(3, .int (σ 15 (((6 * i) + 2) + q))), (2, .int (nI q)), (1, .int (nI i)), (0, .ref (ad 0))]) hx hb dX9_rope_91 rfl hl (by decide) rfl (fun ls hl => ?_)
            refine lv_aload_n hx hb dX9_rope_92 rfl (lv_at hl 3 rfl) ?_
            refine mg_leanOf C h dX9_rope_93 ?_
            refine lv_iconst (v := 3) hx hb dX9_rope_96 (by decide) ?_
            refine lv_iload_n hx hb dX9_rope_97 rfl (lv_at hl 2 rfl) ?_
            refine nmul hx hb 3 i dX9_rope_98 ?_
            refine lv_iload_n hx hb dX9_rope_99 rfl (lv_at hl 1 rfl) ?_
            refine nadd hx hb (3 * i) q dX9_rope_100 ?_
            refine lv_iload_n hx hb dX9_rope_101 rfl (lv_at hl 0 rfl) ?_
            refine lv_bipush (v := 43) hx hb dX9_rope_102 (by decide) ?_
            refine lv_icmp_ne (tgt := 111) hx hb dX9_rope_104 (by decide) (fun c_104 => ?_) (fun c_104 => ?_)
            · refine lv_iload_n hx hb dX9_rope_111 rfl (lv_at hl 0 rfl) ?_
              refine lv_bipush (v := 45) hx hb dX9_rope_112 (by decide) ?_
              refine lv_icmp_ne (tgt := 121) hx hb dX9_rope_114 (by decide) (fun c_114 => ?_) (fun c_114 => ?_)
              · refine lv_iconst (v := 0) hx hb dX9_rope_121 (by decide) ?_
                refine ms_leanOf C h (j := (3 * i) + q) (by omega) dX9_rope_122 (fun H ll h => ?_)
                have h : gW D ct zA zs _ _ (wM ad ct (va_up (va_up (va_up (va_up (va_up (va_up σ 16 (fun _ => (if (rdM σ pg).2.2 = true then 1 else 0))) 17 (fun _ => nI nm)) 1 (fun _ => nI nm)) 2 (upd f2 i (kindC (σ 15 (6 * i))))) 3 (upd f3 i ((σ 15 ((6 * i) + 1)) - 48))) 4 (upd f4 ((3 * i) + q) 0)) τ) := h
                refine ninc (lv' := [(2, .int (nI (q + 1))), (3, .int (σ 15 (((6 * i) + 2) + q))), (1, .int (nI i)), (0, .ref (ad 0))]) hx hb q 1 dX9_rope_123 hl (k := 1) rfl (by decide) rfl (fun ls hl => ?_)
                refine lv_goto (tgt := 73) hx hb dX9_rope_126 (by decide) ?_
                exact ih73 _ (by omega) (q + 1) (upd f4 ((3 * i) + q) 0) _ _ _ rfl (by omega) (updk2 (v := fun j => lnC (σ 15 (6 * (j / 3) + 2 + j % 3))) (i := 3 * i + q) h4 (by show _ = lnC (σ 15 (6 * ((3 * i + q) / 3) + 2 + (3 * i + q) % 3)); rw [show (3 * i + q) / 3 = i by omega, show (3 * i + q) % 3 = q by omega]; unfold lnC; rw [if_neg c_104, if_neg c_114])) h (lv_sub hl [0, 2, 3] rfl)
              · refine lv_iconst (v := -1) hx hb dX9_rope_117 (by decide) ?_
                refine lv_goto (tgt := 122) hx hb dX9_rope_118 (by decide) ?_
                refine ms_leanOf C h (j := (3 * i) + q) (by omega) dX9_rope_122 (fun H ll h => ?_)
                have h : gW D ct zA zs _ _ (wM ad ct (va_up (va_up (va_up (va_up (va_up (va_up σ 16 (fun _ => (if (rdM σ pg).2.2 = true then 1 else 0))) 17 (fun _ => nI nm)) 1 (fun _ => nI nm)) 2 (upd f2 i (kindC (σ 15 (6 * i))))) 3 (upd f3 i ((σ 15 ((6 * i) + 1)) - 48))) 4 (upd f4 ((3 * i) + q) (-1))) τ) := h
                refine ninc (lv' := [(2, .int (nI (q + 1))), (3, .int (σ 15 (((6 * i) + 2) + q))), (1, .int (nI i)), (0, .ref (ad 0))]) hx hb q 1 dX9_rope_123 hl (k := 1) rfl (by decide) rfl (fun ls hl => ?_)
                refine lv_goto (tgt := 73) hx hb dX9_rope_126 (by decide) ?_
                exact ih73 _ (by omega) (q + 1) (upd f4 ((3 * i) + q) (-1)) _ _ _ rfl (by omega) (updk2 (v := fun j => lnC (σ 15 (6 * (j / 3) + 2 + j % 3))) (i := 3 * i + q) h4 (by show _ = lnC (σ 15 (6 * ((3 * i + q) / 3) + 2 + (3 * i + q) % 3)); rw [show (3 * i + q) / 3 = i by omega, show (3 * i + q) % 3 = q by omega]; unfold lnC; rw [if_neg c_104, if_pos c_114])) h (lv_sub hl [0, 2, 3] rfl)
            · refine lv_iconst (v := 1) hx hb dX9_rope_107 (by decide) ?_
              refine lv_goto (tgt := 122) hx hb dX9_rope_108 (by decide) ?_
              refine ms_leanOf C h (j := (3 * i) + q) (by omega) dX9_rope_122 (fun H ll h => ?_)
              have h : gW D ct zA zs _ _ (wM ad ct (va_up (va_up (va_up (va_up (va_up (va_up σ 16 (fun _ => (if (rdM σ pg).2.2 = true then 1 else 0))) 17 (fun _ => nI nm)) 1 (fun _ => nI nm)) 2 (upd f2 i (kindC (σ 15 (6 * i))))) 3 (upd f3 i ((σ 15 ((6 * i) + 1)) - 48))) 4 (upd f4 ((3 * i) + q) 1)) τ) := h
              refine ninc (lv' := [(2, .int (nI (q + 1))), (3, .int (σ 15 (((6 * i) + 2) + q))), (1, .int (nI i)), (0, .ref (ad 0))]) hx hb q 1 dX9_rope_123 hl (k := 1) rfl (by decide) rfl (fun ls hl => ?_)
              refine lv_goto (tgt := 73) hx hb dX9_rope_126 (by decide) ?_
              exact ih73 _ (by omega) (q + 1) (upd f4 ((3 * i) + q) 1) _ _ _ rfl (by omega) (updk2 (v := fun j => lnC (σ 15 (6 * (j / 3) + 2 + j % 3))) (i := 3 * i + q) h4 (by show _ = lnC (σ 15 (6 * ((3 * i + q) / 3) + 2 + (3 * i + q) % 3)); rw [show (3 * i + q) / 3 = i by omega, show (3 * i + q) % 3 = q by omega]; unfold lnC; rw [if_pos c_104])) h (lv_sub hl [0, 2, 3] rfl)
        exact L73_3 _ 0 f4 _ _ _ rfl (by omega) h4 h (lv_sub hl [0, 1, 2] rfl)
    exact L25_1 _ 0 (σ 2) (σ 3) (σ 4) _ _ _ rfl (by omega) (fun j => by rw [if_neg (by omega)]) (fun j => by rw [if_neg (by omega)]) (fun j => by rw [if_neg (by omega)]) h (lv_sub hl [0, 1] rfl)
  · refine lv_bipush (v := -103) hx hb dX9_rope_12 (by decide) ?_
    have h : gW D ct zA zs _ _ (wM ad ct (va_up (va_up σ 16 (fun _ => (if (rdM σ pg).2.2 = true then 1 else 0))) 17 (fun _ => nI ((rdM σ pg).2.1))) τ) := h
    exact hret _ (va_up (va_up σ 16 (fun _ => (if (rdM σ pg).2.2 = true then 1 else 0))) 17 (fun _ => nI ((rdM σ pg).2.1)), τ) _ _ _ _ h (by rw [if_pos c_9]; exact ⟨rfl, (if (rdM σ pg).2.2 = true then 1 else 0), (nI ((rdM σ pg).2.1)), rfl⟩) dX9_rope_14
