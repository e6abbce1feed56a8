abbrev rmX8_init : Room := { frames := 5, cells := 50, slots := 631, locals := 92 }
set_option maxHeartbeats 400000 in
set_option maxRecDepth 20000 in
theorem kX8_init (l : Launch) (D : va_G) (ct : Nat → ClassId) (a0 : Nat) : MN l yX8_init (gWs yX8_init cX8_init 1 none) rmX8_init D ct nwX [.ref a0] [(a0, .inr (8, [.null, .null, .null, .null, .null, .null, .null, .null, .null, .int 0, .int 0, .int 0]))] (fun b : Nat → Nat → Nat => wX b ct cz3 cz3 czt) (fun b : Nat → Nat → Nat => b 0 0 = a0) 50 631 := by
  refine MN.of RX8 rfl (by decide +kernel) rfl (Nat.le_of_ble_eq_true rfl) ?_
  intro zp ze zs zm za zb zt zc zA ls zQ hin C h hX hl Jr
  have hx := C.1
  have hb := C.2.1
  have hl : lv_has ls 1 [(0, .ref a0)] := hl
  have hG : ∀ w ∈ gG, w ∈ gWs yX8_init cX8_init 1 none := fun w hw => gWs_in hw
  refine lv_aload_n hx hb dX8_init_0 rfl (lv_at hl 0 rfl) ?_
  refine W.objInit hx hb C.2.2.2.1 (C.2.2.2.2 _ (gWs_in q80)) (C.2.2.2.2 _ (gWs_in q81)) (C.2.2.2.2 _ (gWs_in q82)) rfl (by rw [C.2.2.1]; exact hl.1) rfl dX8_init_1 (Nat.le_of_ble_eq_true rfl) (Nat.le_of_ble_eq_true rfl) ?_
  refine W.eq (g2 := F0 zm 4 ls []) rfl ?_
  refine lv_aload_n hx hb dX8_init_4 rfl (lv_at hl 0 rfl) ?_
  refine hnewC C hG h 2 4 1 2 igX4 tyX4 tyX4_ok q83 q84 q58 rfl [.null, .int 0] (by decide +kernel) rfl rfl (by decide) (by decide) dX8_init_5 (fun q5 H h => ?_)
  refine lv_dup hx hb dX8_init_8 rfl ?_
  refine hIN (ws := [(a0, .inr (8, [.null, .null, .null, .null, .null, .null, .null, .null, .null, .int 0, .int 0, .int 0]))]) (rest := [.ref q5, .ref a0]) C h hX nwX_ok (kX4_init l D ct q5) ⟨va_cnB 0 C.2.2.2.2 (hgc q87 hG) rfl rfl rfl hX.1.1 (C.2.2.2.2 _ (gWs_in q58)) (by decide +kernel) ⟨by decide, by decide⟩, rfl, C.2.2.2.2 _ (gWs_in q86)⟩ 2 52 rfl rfl (by decide) (by decide) hl.1 (Nat.le_of_ble_eq_true rfl) dX8_init_9 (fun b9 H ll hp h1 => ?_)
  subst hp
  have h := h1
  have h : gW D ct zA zs _ _ ((a0, .inr (8, [.null, .null, .null, .null, .null, .null, .null, .null, .null, .int 0, .int 0, .int 0])) :: (wP b9 ct cz2)) := h
  refine hputF (v := .ref (b9 0)) (ty := .object "RopeVote$Page") C hG hin h igX8 tyX8 tyX8_ok nmX8 0 rfl rfl 0 (by decide) q201 rfl rfl rfl (by decide +kernel) rfl rfl (Nat.le_of_ble_eq_true rfl) dX8_init_12 (fun H ll h => ?_)
  have h : gW D ct zA zs _ _ ((a0, .inr (8, [.ref (b9 0), .null, .null, .null, .null, .null, .null, .null, .null, .int 0, .int 0, .int 0])) :: (wP b9 ct cz2)) := h
  refine lv_aload_n hx hb dX8_init_15 rfl (lv_at hl 0 rfl) ?_
  refine hnewC C hG h 3 5 3 55 igX5 tyX5 tyX5_ok q99 q100 q59 rfl [.null, .null, .int 0] (by decide +kernel) rfl rfl (by decide) (by decide) dX8_init_16 (fun q16 H h => ?_)
  refine lv_dup hx hb dX8_init_19 rfl ?_
  refine hIN (ws := ((a0, .inr (8, [.ref (b9 0), .null, .null, .null, .null, .null, .null, .null, .null, .int 0, .int 0, .int 0])) :: (wP b9 ct cz2))) (rest := [.ref q16, .ref a0]) C h hX nwX_ok (kX5_init l D ct q16) ⟨va_cnB 0 C.2.2.2.2 (hgc q103 hG) rfl rfl rfl hX.1.2.1 (C.2.2.2.2 _ (gWs_in q59)) (by decide +kernel) ⟨by decide, by decide⟩, rfl, C.2.2.2.2 _ (gWs_in q102)⟩ 10 68 rfl rfl (by decide) (by decide) hl.1 (Nat.le_of_ble_eq_true rfl) dX8_init_20 (fun b20 H ll hp h1 => ?_)
  subst hp
  have h := h1
  have h : gW D ct zA zs _ _ ((a0, .inr (8, [.ref (b9 0), .null, .null, .null, .null, .null, .null, .null, .null, .int 0, .int 0, .int 0])) :: (wP b9 ct cz2 ++ wR b20 ct cz2)) := h
  refine hputF (v := .ref (b20 0)) (ty := .object "RopeVote$Rope") C hG hin h igX8 tyX8 tyX8_ok nmX8 0 rfl rfl 1 (by decide) q202 rfl rfl rfl (by decide +kernel) rfl rfl (Nat.le_of_ble_eq_true rfl) dX8_init_23 (fun H ll h => ?_)
  have h : gW D ct zA zs _ _ ((a0, .inr (8, [.ref (b9 0), .ref (b20 0), .null, .null, .null, .null, .null, .null, .null, .int 0, .int 0, .int 0])) :: (wP b9 ct cz2 ++ wR b20 ct cz2)) := h
  refine lv_aload_n hx hb dX8_init_26 rfl (lv_at hl 0 rfl) ?_
  refine hnewC C hG h 10 6 11 78 igX6 tyX6 tyX6_ok q152 q153 q65 rfl [.null, .null, .null, .null, .null, .null, .null, .null, .int 0, .int 0] (by decide +kernel) rfl rfl (by decide) (by decide) dX8_init_27 (fun q27 H h => ?_)
  refine lv_dup hx hb dX8_init_30 rfl ?_
  refine hIN (ws := ((a0, .inr (8, [.ref (b9 0), .ref (b20 0), .null, .null, .null, .null, .null, .null, .null, .int 0, .int 0, .int 0])) :: (wP b9 ct cz2 ++ wR b20 ct cz2))) (rest := [.ref q27, .ref a0]) C h hX nwX_ok (kX6_init l D ct q27) ⟨va_cnB 0 C.2.2.2.2 (hgc q156 hG) rfl rfl rfl hX.1.2.2 (C.2.2.2.2 _ (gWs_in q65)) (by decide +kernel) ⟨by decide, by decide⟩, rfl, C.2.2.2.2 _ (gWs_in q155)⟩ 22 145 rfl rfl (by decide) (by decide) hl.1 (Nat.le_of_ble_eq_true rfl) dX8_init_31 (fun b31 H ll hp h1 => ?_)
  subst hp
  have h := h1
  have h : gW D ct zA zs _ _ ((a0, .inr (8, [.ref (b9 0), .ref (b20 0), .null, .null, .null, .null, .null, .null, .null, .int 0, .int 0, .int 0])) :: ((wP b9 ct cz2 ++ wR b20 ct cz2) ++ wS b31 ct cz2 cz2)) := h
  refine hputF (v := .ref (b31 0)) (ty := .object "RopeVote$Standing") C hG hin h igX8 tyX8 tyX8_ok nmX8 0 rfl rfl 2 (by decide) q203 rfl rfl rfl (by decide +kernel) rfl rfl (Nat.le_of_ble_eq_true rfl) dX8_init_34 (fun H ll h => ?_)
  have h : gW D ct zA zs _ _ ((a0, .inr (8, [.ref (b9 0), .ref (b20 0), .ref (b31 0), .null, .null, .null, .null, .null, .null, .int 0, .int 0, .int 0])) :: ((wP b9 ct cz2 ++ wR b20 ct cz2) ++ wS b31 ct cz2 cz2)) := h
  refine lv_aload_n hx hb dX8_init_37 rfl (lv_at hl 0 rfl) ?_
  refine hnewC C hG h 10 6 23 155 igX6 tyX6 tyX6_ok q152 q153 q65 rfl [.null, .null, .null, .null, .null, .null, .null, .null, .int 0, .int 0] (by decide +kernel) rfl rfl (by decide) (by decide) dX8_init_38 (fun q38 H h => ?_)
  refine lv_dup hx hb dX8_init_41 rfl ?_
  refine hIN (ws := ((a0, .inr (8, [.ref (b9 0), .ref (b20 0), .ref (b31 0), .null, .null, .null, .null, .null, .null, .int 0, .int 0, .int 0])) :: ((wP b9 ct cz2 ++ wR b20 ct cz2) ++ wS b31 ct cz2 cz2))) (rest := [.ref q38, .ref a0]) C h hX nwX_ok (kX6_init l D ct q38) ⟨va_cnB 0 C.2.2.2.2 (hgc q156 hG) rfl rfl rfl hX.1.2.2 (C.2.2.2.2 _ (gWs_in q65)) (by decide +kernel) ⟨by decide, by decide⟩, rfl, C.2.2.2.2 _ (gWs_in q155)⟩ 34 222 rfl rfl (by decide) (by decide) hl.1 (Nat.le_of_ble_eq_true rfl) dX8_init_42 (fun b42 H ll hp h1 => ?_)
  subst hp
  have h := h1
  have h : gW D ct zA zs _ _ ((a0, .inr (8, [.ref (b9 0), .ref (b20 0), .ref (b31 0), .null, .null, .null, .null, .null, .null, .int 0, .int 0, .int 0])) :: (((wP b9 ct cz2 ++ wR b20 ct cz2) ++ wS b31 ct cz2 cz2) ++ wS b42 ct cz2 cz2)) := h
  refine hputF (v := .ref (b42 0)) (ty := .object "RopeVote$Standing") C hG hin h igX8 tyX8 tyX8_ok nmX8 0 rfl rfl 3 (by decide) q204 rfl rfl rfl (by decide +kernel) rfl rfl (Nat.le_of_ble_eq_true rfl) dX8_init_45 (fun H ll h => ?_)
  have h : gW D ct zA zs _ _ ((a0, .inr (8, [.ref (b9 0), .ref (b20 0), .ref (b31 0), .ref (b42 0), .null, .null, .null, .null, .null, .int 0, .int 0, .int 0])) :: (((wP b9 ct cz2 ++ wR b20 ct cz2) ++ wS b31 ct cz2 cz2) ++ wS b42 ct cz2 cz2)) := h
  refine lv_aload_n hx hb dX8_init_48 rfl (lv_at hl 0 rfl) ?_
  refine hnewC C hG h 10 6 35 232 igX6 tyX6 tyX6_ok q152 q153 q65 rfl [.null, .null, .null, .null, .null, .null, .null, .null, .int 0, .int 0] (by decide +kernel) rfl rfl (by decide) (by decide) dX8_init_49 (fun q49 H h => ?_)
  refine lv_dup hx hb dX8_init_52 rfl ?_
  refine hIN (ws := ((a0, .inr (8, [.ref (b9 0), .ref (b20 0), .ref (b31 0), .ref (b42 0), .null, .null, .null, .null, .null, .int 0, .int 0, .int 0])) :: (((wP b9 ct cz2 ++ wR b20 ct cz2) ++ wS b31 ct cz2 cz2) ++ wS b42 ct cz2 cz2))) (rest := [.ref q49, .ref a0]) C h hX nwX_ok (kX6_init l D ct q49) ⟨va_cnB 0 C.2.2.2.2 (hgc q156 hG) rfl rfl rfl hX.1.2.2 (C.2.2.2.2 _ (gWs_in q65)) (by decide +kernel) ⟨by decide, by decide⟩, rfl, C.2.2.2.2 _ (gWs_in q155)⟩ 46 299 rfl rfl (by decide) (by decide) hl.1 (Nat.le_of_ble_eq_true rfl) dX8_init_53 (fun b53 H ll hp h1 => ?_)
  subst hp
  have h := h1
  have h : gW D ct zA zs _ _ ((a0, .inr (8, [.ref (b9 0), .ref (b20 0), .ref (b31 0), .ref (b42 0), .null, .null, .null, .null, .null, .int 0, .int 0, .int 0])) :: ((((wP b9 ct cz2 ++ wR b20 ct cz2) ++ wS b31 ct cz2 cz2) ++ wS b42 ct cz2 cz2) ++ wS b53 ct cz2 cz2)) := h
  refine hputF (v := .ref (b53 0)) (ty := .object "RopeVote$Standing") C hG hin h igX8 tyX8 tyX8_ok nmX8 0 rfl rfl 4 (by decide) q205 rfl rfl rfl (by decide +kernel) rfl rfl (Nat.le_of_ble_eq_true rfl) dX8_init_56 (fun H ll h => ?_)
  have h : gW D ct zA zs _ _ ((a0, .inr (8, [.ref (b9 0), .ref (b20 0), .ref (b31 0), .ref (b42 0), .ref (b53 0), .null, .null, .null, .null, .int 0, .int 0, .int 0])) :: ((((wP b9 ct cz2 ++ wR b20 ct cz2) ++ wS b31 ct cz2 cz2) ++ wS b42 ct cz2 cz2) ++ wS b53 ct cz2 cz2)) := h
  refine lv_aload_n hx hb dX8_init_59 rfl (lv_at hl 0 rfl) ?_
  refine lv_sipush (v := 256) hx hb dX8_init_60 (by decide) ?_
  refine hnewI C hG h 256 47 555 (by decide) (by decide) (by decide) rfl rfl (by decide) (by decide) dX8_init_63 (fun q63 H h => ?_)
  have h : gW D ct zA zs _ _ ((a0, .inr (8, [.ref (b9 0), .ref (b20 0), .ref (b31 0), .ref (b42 0), .ref (b53 0), .null, .null, .null, .null, .int 0, .int 0, .int 0])) :: (((((wP b9 ct cz2 ++ wR b20 ct cz2) ++ wS b31 ct cz2 cz2) ++ wS b42 ct cz2 cz2) ++ wS b53 ct cz2 cz2) ++ [(q63, .inl (ct 0, 256, .inl (fun _ => 0)))])) := h
  refine hputF (v := .ref q63) (ty := .array .int) C hG hin h igX8 tyX8 tyX8_ok nmX8 0 rfl rfl 5 (by decide) q206 rfl rfl rfl (by decide +kernel) rfl rfl (Nat.le_of_ble_eq_true rfl) dX8_init_65 (fun H ll h => ?_)
  have h : gW D ct zA zs _ _ ((a0, .inr (8, [.ref (b9 0), .ref (b20 0), .ref (b31 0), .ref (b42 0), .ref (b53 0), .ref q63, .null, .null, .null, .int 0, .int 0, .int 0])) :: (((((wP b9 ct cz2 ++ wR b20 ct cz2) ++ wS b31 ct cz2 cz2) ++ wS b42 ct cz2 cz2) ++ wS b53 ct cz2 cz2) ++ [(q63, .inl (ct 0, 256, .inl (fun _ => 0)))])) := h
  refine lv_aload_n hx hb dX8_init_68 rfl (lv_at hl 0 rfl) ?_
  refine lv_bipush (v := 9) hx hb dX8_init_69 (by decide) ?_
  refine hnewI C hG h 9 48 564 (by decide) (by decide) (by decide) rfl rfl (by decide) (by decide) dX8_init_71 (fun q71 H h => ?_)
  have h : gW D ct zA zs _ _ ((a0, .inr (8, [.ref (b9 0), .ref (b20 0), .ref (b31 0), .ref (b42 0), .ref (b53 0), .ref q63, .null, .null, .null, .int 0, .int 0, .int 0])) :: ((((((wP b9 ct cz2 ++ wR b20 ct cz2) ++ wS b31 ct cz2 cz2) ++ wS b42 ct cz2 cz2) ++ wS b53 ct cz2 cz2) ++ [(q63, .inl (ct 0, 256, .inl (fun _ => 0)))]) ++ [(q71, .inl (ct 0, 9, .inl (fun _ => 0)))])) := h
  refine hputF (v := .ref q71) (ty := .array .int) C hG hin h igX8 tyX8 tyX8_ok nmX8 0 rfl rfl 6 (by decide) q207 rfl rfl rfl (by decide +kernel) rfl rfl (Nat.le_of_ble_eq_true rfl) dX8_init_73 (fun H ll h => ?_)
  have h : gW D ct zA zs _ _ ((a0, .inr (8, [.ref (b9 0), .ref (b20 0), .ref (b31 0), .ref (b42 0), .ref (b53 0), .ref q63, .ref q71, .null, .null, .int 0, .int 0, .int 0])) :: ((((((wP b9 ct cz2 ++ wR b20 ct cz2) ++ wS b31 ct cz2 cz2) ++ wS b42 ct cz2 cz2) ++ wS b53 ct cz2 cz2) ++ [(q63, .inl (ct 0, 256, .inl (fun _ => 0)))]) ++ [(q71, .inl (ct 0, 9, .inl (fun _ => 0)))])) := h
  refine lv_aload_n hx hb dX8_init_76 rfl (lv_at hl 0 rfl) ?_
  refine lv_iconst (v := 3) hx hb dX8_init_77 (by decide) ?_
  refine hnewI C hG h 3 49 567 (by decide) (by decide) (by decide) rfl rfl (by decide) (by decide) dX8_init_78 (fun q78 H h => ?_)
  have h : gW D ct zA zs _ _ ((a0, .inr (8, [.ref (b9 0), .ref (b20 0), .ref (b31 0), .ref (b42 0), .ref (b53 0), .ref q63, .ref q71, .null, .null, .int 0, .int 0, .int 0])) :: (((((((wP b9 ct cz2 ++ wR b20 ct cz2) ++ wS b31 ct cz2 cz2) ++ wS b42 ct cz2 cz2) ++ wS b53 ct cz2 cz2) ++ [(q63, .inl (ct 0, 256, .inl (fun _ => 0)))]) ++ [(q71, .inl (ct 0, 9, .inl (fun _ => 0)))]) ++ [(q78, .inl (ct 0, 3, .inl (fun _ => 0)))])) := h
  refine hputF (v := .ref q78) (ty := .array .int) C hG hin h igX8 tyX8 tyX8_ok nmX8 0 rfl rfl 7 (by decide) q208 rfl rfl rfl (by decide +kernel) rfl rfl (Nat.le_of_ble_eq_true rfl) dX8_init_80 (fun H ll h => ?_)
  have h : gW D ct zA zs _ _ ((a0, .inr (8, [.ref (b9 0), .ref (b20 0), .ref (b31 0), .ref (b42 0), .ref (b53 0), .ref q63, .ref q71, .ref q78, .null, .int 0, .int 0, .int 0])) :: (((((((wP b9 ct cz2 ++ wR b20 ct cz2) ++ wS b31 ct cz2 cz2) ++ wS b42 ct cz2 cz2) ++ wS b53 ct cz2 cz2) ++ [(q63, .inl (ct 0, 256, .inl (fun _ => 0)))]) ++ [(q71, .inl (ct 0, 9, .inl (fun _ => 0)))]) ++ [(q78, .inl (ct 0, 3, .inl (fun _ => 0)))])) := h
  refine lv_aload_n hx hb dX8_init_83 rfl (lv_at hl 0 rfl) ?_
  refine lv_bipush (v := 64) hx hb dX8_init_84 (by decide) ?_
  refine hnewL C hG h 64 50 631 (by decide) (by decide) (by decide) rfl rfl (by decide) (by decide) dX8_init_86 (fun q86 H h => ?_)
  have h : gW D ct zA zs _ _ ((a0, .inr (8, [.ref (b9 0), .ref (b20 0), .ref (b31 0), .ref (b42 0), .ref (b53 0), .ref q63, .ref q71, .ref q78, .null, .int 0, .int 0, .int 0])) :: ((((((((wP b9 ct cz2 ++ wR b20 ct cz2) ++ wS b31 ct cz2 cz2) ++ wS b42 ct cz2 cz2) ++ wS b53 ct cz2 cz2) ++ [(q63, .inl (ct 0, 256, .inl (fun _ => 0)))]) ++ [(q71, .inl (ct 0, 9, .inl (fun _ => 0)))]) ++ [(q78, .inl (ct 0, 3, .inl (fun _ => 0)))]) ++ [(q86, .inl (ct 1, 64, .inr (.inl (fun _ => 0))))])) := h
  refine hputF (v := .ref q86) (ty := .array .long) C hG hin h igX8 tyX8 tyX8_ok nmX8 0 rfl rfl 8 (by decide) q209 rfl rfl rfl (by decide +kernel) rfl rfl (Nat.le_of_ble_eq_true rfl) dX8_init_88 (fun H ll h => ?_)
  have h : gW D ct zA zs _ _ ((a0, .inr (8, [.ref (b9 0), .ref (b20 0), .ref (b31 0), .ref (b42 0), .ref (b53 0), .ref q63, .ref q71, .ref q78, .ref q86, .int 0, .int 0, .int 0])) :: ((((((((wP b9 ct cz2 ++ wR b20 ct cz2) ++ wS b31 ct cz2 cz2) ++ wS b42 ct cz2 cz2) ++ wS b53 ct cz2 cz2) ++ [(q63, .inl (ct 0, 256, .inl (fun _ => 0)))]) ++ [(q71, .inl (ct 0, 9, .inl (fun _ => 0)))]) ++ [(q78, .inl (ct 0, 3, .inl (fun _ => 0)))]) ++ [(q86, .inl (ct 1, 64, .inr (.inl (fun _ => 0))))])) := h
  have h : gW D ct zA zs _ _ (wX (adF a0 q63 q71 q78 q86 b9 b20 b31 b42 b53) ct cz3 cz3 czt) := h
  exact Jr (adF a0 q63 q71 q78 q86 b9 b20 b31 b42 b53) _ _ _ _ h rfl dX8_init_91
