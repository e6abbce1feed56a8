abbrev rmX5_init : Room := { frames := 4, cells := 7, slots := 13, locals := 72 }
set_option maxHeartbeats 400000 in
set_option maxRecDepth 20000 in
theorem kX5_init (l : Launch) (D : va_G) (ct : Nat → ClassId) (a0 : Nat) : MN l yX5_init (gWs yX5_init cX5_init 1 none) rmX5_init D ct nwX [.ref a0] [(a0, .inr (5, [.null, .null, .int 0]))] (fun b : Nat → Nat => wR b ct cz2) (fun b : Nat → Nat => b 0 = a0) 7 13 := by
  refine MN.of RX5 rfl (by decide +kernel) rfl (Nat.le_of_ble_eq_true rfl) ?_
  intro zp ze zs zm za zb zt zc zA ls zQ hin C h hX hl Jr
  have hx := C.1
  have hb := C.2.1
  have hl : lv_has ls 1 [(0, .ref a0)] := hl
  have hG : ∀ w ∈ gG, w ∈ gWs yX5_init cX5_init 1 none := fun w hw => gWs_in hw
  refine lv_aload_n hx hb dX5_init_0 rfl (lv_at hl 0 rfl) ?_
  refine W.objInit hx hb C.2.2.2.1 (C.2.2.2.2 _ (gWs_in q104)) (C.2.2.2.2 _ (gWs_in q81)) (C.2.2.2.2 _ (gWs_in q82)) rfl (by rw [C.2.2.1]; exact hl.1) rfl dX5_init_1 (Nat.le_of_ble_eq_true rfl) (Nat.le_of_ble_eq_true rfl) ?_
  refine W.eq (g2 := F0 zm 4 ls []) rfl ?_
  refine lv_aload_n hx hb dX5_init_4 rfl (lv_at hl 0 rfl) ?_
  refine lv_iconst (v := 5) hx hb dX5_init_5 (by decide) ?_
  refine hnewQ C hG h hX.2.2.2.1.1 q105 5 1 5 (by decide) (by decide) (by decide) rfl rfl (by decide) (by decide) dX5_init_6 (fun q6 H h => ?_)
  have h : gW D ct zA zs _ _ [(a0, .inr (5, [.null, .null, .int 0])), (q6, .inl (ct 3, 5, .inr (.inr (.inr (.inr (fun _ => none))))))] := h
  refine lv_dup hx hb dX5_init_9 rfl ?_
  refine lv_iconst (v := 0) hx hb dX5_init_10 (by decide) ?_
  refine hnewC C hG h 0 3 2 5 igX3 tyX3 tyX3_ok q105 q107 q60 rfl [] (by decide +kernel) rfl rfl (by decide) (by decide) dX5_init_11 (fun q11 H h => ?_)
  refine lv_dup hx hb dX5_init_14 rfl ?_
  refine hIN (ws := [(a0, .inr (5, [.null, .null, .int 0])), (q6, .inl (ct 3, 5, .inr (.inr (.inr (.inr (fun _ => none))))))]) (rest := [.ref q11, .int 0, .ref q6, .ref q6, .ref a0]) C h hX nwX_ok (kX3_init l D ct q11 [(q11, .inr (3, []))]) ⟨va_cnB 0 C.2.2.2.2 (hgc q110 hG) rfl rfl rfl hX.2.1.1 (C.2.2.2.2 _ (gWs_in q60)) (by decide +kernel) ⟨by decide, by decide⟩, rfl, C.2.2.2.2 _ (gWs_in q109)⟩ 2 5 rfl rfl (by decide) (by decide) hl.1 (Nat.le_of_ble_eq_true rfl) dX5_init_15 (fun b15 H ll hp h1 => ?_)
  have h := h1
  have h : gW D ct zA zs _ _ [(a0, .inr (5, [.null, .null, .int 0])), (q6, .inl (ct 3, 5, .inr (.inr (.inr (.inr (fun _ => none)))))), (q11, .inr (3, []))] := h
  refine hastM C h 1 2 3 rfl (Or.inl rfl) rfl rfl 0 (by decide) (by decide) dX5_init_18 (fun H ll h => ?_)
  have h : gW D ct zA zs _ _ [(a0, .inr (5, [.null, .null, .int 0])), (q6, .inl (ct 3, 5, .inr (.inr (.inr (.inr (va_up (fun _ => none) 0 (some q11))))))), (q11, .inr (3, []))] := h
  refine lv_dup hx hb dX5_init_19 rfl ?_
  refine lv_iconst (v := 1) hx hb dX5_init_20 (by decide) ?_
  refine hnewC C hG h 0 1 3 5 igX1 tyX1 tyX1_ok q113 q114 q61 rfl [] (by decide +kernel) rfl rfl (by decide) (by decide) dX5_init_21 (fun q21 H h => ?_)
  refine lv_dup hx hb dX5_init_24 rfl ?_
  refine hIN (ws := [(a0, .inr (5, [.null, .null, .int 0])), (q6, .inl (ct 3, 5, .inr (.inr (.inr (.inr (va_up (fun _ => none) 0 (some q11))))))), (q11, .inr (3, []))]) (rest := [.ref q21, .int 1, .ref q6, .ref q6, .ref a0]) C h hX nwX_ok (kX1_init l D ct q21 [(q21, .inr (1, []))]) ⟨va_cnB 0 C.2.2.2.2 (hgc q117 hG) rfl rfl rfl hX.2.1.2.1 (C.2.2.2.2 _ (gWs_in q61)) (by decide +kernel) ⟨by decide, by decide⟩, rfl, C.2.2.2.2 _ (gWs_in q116)⟩ 3 5 rfl rfl (by decide) (by decide) hl.1 (Nat.le_of_ble_eq_true rfl) dX5_init_25 (fun b25 H ll hp h1 => ?_)
  have h := h1
  have h : gW D ct zA zs _ _ [(a0, .inr (5, [.null, .null, .int 0])), (q6, .inl (ct 3, 5, .inr (.inr (.inr (.inr (va_up (fun _ => none) 0 (some q11))))))), (q11, .inr (3, [])), (q21, .inr (1, []))] := h
  refine hastM C h 1 3 1 rfl (Or.inr hX.2.2.2.2.1) rfl rfl 1 (by decide) (by decide) dX5_init_28 (fun H ll h => ?_)
  have h : gW D ct zA zs _ _ [(a0, .inr (5, [.null, .null, .int 0])), (q6, .inl (ct 3, 5, .inr (.inr (.inr (.inr (va_up (va_up (fun _ => none) 0 (some q11)) 1 (some q21))))))), (q11, .inr (3, [])), (q21, .inr (1, []))] := h
  refine lv_dup hx hb dX5_init_29 rfl ?_
  refine lv_iconst (v := 2) hx hb dX5_init_30 (by decide) ?_
  refine hnewC C hG h 0 0 4 5 igX0 tyX0 tyX0_ok q120 q121 q62 rfl [] (by decide +kernel) rfl rfl (by decide) (by decide) dX5_init_31 (fun q31 H h => ?_)
  refine lv_dup hx hb dX5_init_34 rfl ?_
  refine hIN (ws := [(a0, .inr (5, [.null, .null, .int 0])), (q6, .inl (ct 3, 5, .inr (.inr (.inr (.inr (va_up (va_up (fun _ => none) 0 (some q11)) 1 (some q21))))))), (q11, .inr (3, [])), (q21, .inr (1, []))]) (rest := [.ref q31, .int 2, .ref q6, .ref q6, .ref a0]) C h hX nwX_ok (kX0_init l D ct q31 [(q31, .inr (0, []))]) ⟨va_cnB 0 C.2.2.2.2 (hgc q124 hG) rfl rfl rfl hX.2.1.2.2.1 (C.2.2.2.2 _ (gWs_in q62)) (by decide +kernel) ⟨by decide, by decide⟩, rfl, C.2.2.2.2 _ (gWs_in q123)⟩ 4 5 rfl rfl (by decide) (by decide) hl.1 (Nat.le_of_ble_eq_true rfl) dX5_init_35 (fun b35 H ll hp h1 => ?_)
  have h := h1
  have h : gW D ct zA zs _ _ [(a0, .inr (5, [.null, .null, .int 0])), (q6, .inl (ct 3, 5, .inr (.inr (.inr (.inr (va_up (va_up (fun _ => none) 0 (some q11)) 1 (some q21))))))), (q11, .inr (3, [])), (q21, .inr (1, [])), (q31, .inr (0, []))] := h
  refine hastM C h 1 4 0 rfl (Or.inr hX.2.2.2.2.2.1) rfl rfl 2 (by decide) (by decide) dX5_init_38 (fun H ll h => ?_)
  have h : gW D ct zA zs _ _ [(a0, .inr (5, [.null, .null, .int 0])), (q6, .inl (ct 3, 5, .inr (.inr (.inr (.inr (va_up (va_up (va_up (fun _ => none) 0 (some q11)) 1 (some q21)) 2 (some q31))))))), (q11, .inr (3, [])), (q21, .inr (1, [])), (q31, .inr (0, []))] := h
  refine lv_dup hx hb dX5_init_39 rfl ?_
  refine lv_iconst (v := 3) hx hb dX5_init_40 (by decide) ?_
  refine hnewC C hG h 0 2 5 5 igX2 tyX2 tyX2_ok q127 q128 q63 rfl [] (by decide +kernel) rfl rfl (by decide) (by decide) dX5_init_41 (fun q41 H h => ?_)
  refine lv_dup hx hb dX5_init_44 rfl ?_
  refine hIN (ws := [(a0, .inr (5, [.null, .null, .int 0])), (q6, .inl (ct 3, 5, .inr (.inr (.inr (.inr (va_up (va_up (va_up (fun _ => none) 0 (some q11)) 1 (some q21)) 2 (some q31))))))), (q11, .inr (3, [])), (q21, .inr (1, [])), (q31, .inr (0, []))]) (rest := [.ref q41, .int 3, .ref q6, .ref q6, .ref a0]) C h hX nwX_ok (kX2_init l D ct q41 [(q41, .inr (2, []))]) ⟨va_cnB 0 C.2.2.2.2 (hgc q131 hG) rfl rfl rfl hX.2.1.2.2.2.1 (C.2.2.2.2 _ (gWs_in q63)) (by decide +kernel) ⟨by decide, by decide⟩, rfl, C.2.2.2.2 _ (gWs_in q130)⟩ 5 5 rfl rfl (by decide) (by decide) hl.1 (Nat.le_of_ble_eq_true rfl) dX5_init_45 (fun b45 H ll hp h1 => ?_)
  have h := h1
  have h : gW D ct zA zs _ _ [(a0, .inr (5, [.null, .null, .int 0])), (q6, .inl (ct 3, 5, .inr (.inr (.inr (.inr (va_up (va_up (va_up (fun _ => none) 0 (some q11)) 1 (some q21)) 2 (some q31))))))), (q11, .inr (3, [])), (q21, .inr (1, [])), (q31, .inr (0, [])), (q41, .inr (2, []))] := h
  refine hastM C h 1 5 2 rfl (Or.inr hX.2.2.2.2.2.2.1) rfl rfl 3 (by decide) (by decide) dX5_init_48 (fun H ll h => ?_)
  have h : gW D ct zA zs _ _ [(a0, .inr (5, [.null, .null, .int 0])), (q6, .inl (ct 3, 5, .inr (.inr (.inr (.inr (va_up (va_up (va_up (va_up (fun _ => none) 0 (some q11)) 1 (some q21)) 2 (some q31)) 3 (some q41))))))), (q11, .inr (3, [])), (q21, .inr (1, [])), (q31, .inr (0, [])), (q41, .inr (2, []))] := h
  refine lv_dup hx hb dX5_init_49 rfl ?_
  refine lv_iconst (v := 4) hx hb dX5_init_50 (by decide) ?_
  refine hnewC C hG h 0 7 6 5 igX7 tyX7 tyX7_ok q134 q135 q64 rfl [] (by decide +kernel) rfl rfl (by decide) (by decide) dX5_init_51 (fun q51 H h => ?_)
  refine lv_dup hx hb dX5_init_54 rfl ?_
  refine hIN (ws := [(a0, .inr (5, [.null, .null, .int 0])), (q6, .inl (ct 3, 5, .inr (.inr (.inr (.inr (va_up (va_up (va_up (va_up (fun _ => none) 0 (some q11)) 1 (some q21)) 2 (some q31)) 3 (some q41))))))), (q11, .inr (3, [])), (q21, .inr (1, [])), (q31, .inr (0, [])), (q41, .inr (2, []))]) (rest := [.ref q51, .int 4, .ref q6, .ref q6, .ref a0]) C h hX nwX_ok (kX7_init l D ct q51 [(q51, .inr (7, []))]) ⟨va_cnB 0 C.2.2.2.2 (hgc q138 hG) rfl rfl rfl hX.2.1.2.2.2.2 (C.2.2.2.2 _ (gWs_in q64)) (by decide +kernel) ⟨by decide, by decide⟩, rfl, C.2.2.2.2 _ (gWs_in q137)⟩ 6 5 rfl rfl (by decide) (by decide) hl.1 (Nat.le_of_ble_eq_true rfl) dX5_init_55 (fun b55 H ll hp h1 => ?_)
  have h := h1
  have h : gW D ct zA zs _ _ [(a0, .inr (5, [.null, .null, .int 0])), (q6, .inl (ct 3, 5, .inr (.inr (.inr (.inr (va_up (va_up (va_up (va_up (fun _ => none) 0 (some q11)) 1 (some q21)) 2 (some q31)) 3 (some q41))))))), (q11, .inr (3, [])), (q21, .inr (1, [])), (q31, .inr (0, [])), (q41, .inr (2, [])), (q51, .inr (7, []))] := h
  refine hastM C h 1 6 7 rfl (Or.inr hX.2.2.2.2.2.2.2) rfl rfl 4 (by decide) (by decide) dX5_init_58 (fun H ll h => ?_)
  have h : gW D ct zA zs _ _ [(a0, .inr (5, [.null, .null, .int 0])), (q6, .inl (ct 3, 5, .inr (.inr (.inr (.inr (va_up (va_up (va_up (va_up (va_up (fun _ => none) 0 (some q11)) 1 (some q21)) 2 (some q31)) 3 (some q41)) 4 (some q51))))))), (q11, .inr (3, [])), (q21, .inr (1, [])), (q31, .inr (0, [])), (q41, .inr (2, [])), (q51, .inr (7, []))] := h
  refine hputF (v := .ref q6) (ty := .array (.object "RopeVote$Mussel")) C hG hin h igX5 tyX5 tyX5_ok nmX5 0 rfl rfl 0 (by decide) q141 rfl rfl rfl (by decide +kernel) rfl rfl (Nat.le_of_ble_eq_true rfl) dX5_init_59 (fun H ll h => ?_)
  have h : gW D ct zA zs _ _ [(a0, .inr (5, [.ref q6, .null, .int 0])), (q6, .inl (ct 3, 5, .inr (.inr (.inr (.inr (va_up (va_up (va_up (va_up (va_up (fun _ => none) 0 (some q11)) 1 (some q21)) 2 (some q31)) 3 (some q41)) 4 (some q51))))))), (q11, .inr (3, [])), (q21, .inr (1, [])), (q31, .inr (0, [])), (q41, .inr (2, [])), (q51, .inr (7, []))] := h
  refine lv_aload_n hx hb dX5_init_62 rfl (lv_at hl 0 rfl) ?_
  refine lv_bipush (v := 8) hx hb dX5_init_63 (by decide) ?_
  refine hnewI C hG h 8 7 13 (by decide) (by decide) (by decide) rfl rfl (by decide) (by decide) dX5_init_65 (fun q65 H h => ?_)
  have h : gW D ct zA zs _ _ [(a0, .inr (5, [.ref q6, .null, .int 0])), (q6, .inl (ct 3, 5, .inr (.inr (.inr (.inr (va_up (va_up (va_up (va_up (va_up (fun _ => none) 0 (some q11)) 1 (some q21)) 2 (some q31)) 3 (some q41)) 4 (some q51))))))), (q11, .inr (3, [])), (q21, .inr (1, [])), (q31, .inr (0, [])), (q41, .inr (2, [])), (q51, .inr (7, [])), (q65, .inl (ct 0, 8, .inl (fun _ => 0)))] := h
  refine hputF (v := .ref q65) (ty := .array .int) C hG hin h igX5 tyX5 tyX5_ok nmX5 0 rfl rfl 1 (by decide) q142 rfl rfl rfl (by decide +kernel) rfl rfl (Nat.le_of_ble_eq_true rfl) dX5_init_67 (fun H ll h => ?_)
  have h : gW D ct zA zs _ _ [(a0, .inr (5, [.ref q6, .ref q65, .int 0])), (q6, .inl (ct 3, 5, .inr (.inr (.inr (.inr (va_up (va_up (va_up (va_up (va_up (fun _ => none) 0 (some q11)) 1 (some q21)) 2 (some q31)) 3 (some q41)) 4 (some q51))))))), (q11, .inr (3, [])), (q21, .inr (1, [])), (q31, .inr (0, [])), (q41, .inr (2, [])), (q51, .inr (7, [])), (q65, .inl (ct 0, 8, .inl (fun _ => 0)))] := h
  have h := h.perm (ws' := wR_l ct a0 q6 q65 q11 q21 q31 q41 q51 (va_up (va_up (va_up (va_up (va_up (fun _ => none) 0 (some q11)) 1 (some q21)) 2 (some q31)) 3 (some q41)) 4 (some q51))) [0, 1, 7, 2, 3, 4, 5, 6] (by decide) rfl
  exact Jr (adR a0 q6 q65 q11 q21 q31 q41 q51) _ _ _ _ (h.to (wR_of ct a0 q6 q65 q11 q21 q31 q41 q51 _ (adR_k a0 q6 q65 q11 q21 q31 q41 q51))) rfl dX5_init_70
