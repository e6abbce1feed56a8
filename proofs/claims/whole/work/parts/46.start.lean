/-! ===== both objects, as they are made; what the law's start gives ===== -/
theorem Rel.zero : Rel 0 cz3 cz3 cz2 := by
  refine ⟨0, fun _ => 0, ⟨by decide, rfl, rfl, fun m _ => ⟨rfl, Nat.zero_le 4, rfl⟩⟩, ⟨0, 0, 0, rfl, rfl, rfl, ⟨by decide, by decide, by decide⟩, ⟨rfl, rfl⟩, fun m _ => ?_, fun m hm => absurd hm (Nat.not_lt_zero m), fun m _ _ => rfl, fun q _ m _ => Or.inr (Or.inl rfl), fun q _ m hm => absurd hm (Nat.not_lt_zero m), fun q _ => ⟨rfl, rfl, 0, by decide, rfl⟩, fun e he => absurd he (Nat.not_lt_zero e)⟩, ⟨0, fun _ => 0, ⟨rfl, by decide, fun j _ => ⟨rfl, Nat.lt_of_le_of_lt (Nat.zero_le 0) (by decide : 0 < 127)⟩⟩, rfl, fun j hj => absurd hj (Nat.not_lt_zero j)⟩, ⟨0, by decide, rfl, rfl⟩, 0, Nat.le_refl 0, rfl, rfl, Or.inr ⟨rfl, Or.inl rfl⟩⟩
  rw [if_neg (by rw [Nat.zero_testBit]; decide)]; rfl
theorem arrOver_A {args : Array Value} {s : State} {t : FieldType} (h : (Cond.arrayOver (.array t)).before args s = true) : ∃ (comp c : ClassId) (k : Class), s.vm.classes[c]? = some k ∧ k.kind = .array comp (.array t) ∧ s.vm.findClass ("[" ++ (FieldType.array t).toString) = some c := by
  simp only [Cond.before, Cond.holds, Cond.value, beq_iff_eq] at h
  cases hc : s.vm.findClass (FieldType.array t).toString with
  | none => simp [hc] at h
  | some comp =>
    simp only [hc, Option.bind_some, Option.bind_eq_some_iff, Option.map_eq_some_iff] at h
    obtain ⟨c, hi, k, hk, hb⟩ := h
    cases hkind : k.kind with
    | array component ty =>
      rw [hkind] at hb
      simp at hb
      exact ⟨component, c, k, hk, by rw [hkind, hb.1], hb.2⟩
    | _ => rw [hkind] at hb; simp at hb
theorem kn_cls {C : String} {T : u_T} {N n : Nat} {args : Array Value} {s : State} (hts : ∀ w ∈ lw_tbl, w.before args s = true) (hin : ∀ w ∈ u_ws C T N, w ∈ gG) (hi : Cond.instantiable C n ∈ gG) : ∃ q : ClassId × (Nat → Nat), u_Kn s C T N q.1 q.2 := by
  obtain ⟨c, i, h⟩ := u_known hts (fun w hw => gG_tbl w (hin w hw)) (hts _ (gG_tbl _ hi))
  exact ⟨(c, i), h⟩
theorem arr_cls {args : Array Value} {s : State} {t : FieldType} (h : (Cond.arrayClass t).before args s = true) : ∃ c : ClassId, ArrOfT s c t ∧ s.vm.findClass ("[" ++ t.toString) = some c := by
  obtain ⟨c, k, comp, h1, h2, h3⟩ := Cond.arrayClass_spec h
  exact ⟨c, fun n z => ⟨fun k h => (by cases h), k, h2, comp, h3⟩, h1⟩
theorem tb {w : Cond} (i : Nat) (h : lw_tbl[i]? = some w) : w ∈ lw_tbl := List.mem_of_getElem? h
theorem kn_all {args : Array Value} {s : State} (hts : ∀ w ∈ lw_tbl, w.before args s = true) : ∃ (D : va_G) (ct : Nat → ClassId), va_K D vwCl (gT ct) s := by
  obtain ⟨z0, h0⟩ := kn_cls hts igX0 q121
  obtain ⟨z1, h1⟩ := kn_cls hts igX1 q114
  obtain ⟨z2, h2⟩ := kn_cls hts igX2 q128
  obtain ⟨z3, h3⟩ := kn_cls hts igX3 q107
  obtain ⟨z4, h4⟩ := kn_cls hts igX4 q84
  obtain ⟨z5, h5⟩ := kn_cls hts igX5 q100
  obtain ⟨z6, h6⟩ := kn_cls hts igX6 q153
  obtain ⟨z7, h7⟩ := kn_cls hts igX7 q135
  obtain ⟨z8, h8⟩ := kn_cls hts igX8 q76
  obtain ⟨z9, h9⟩ := kn_cls hts igX9 q696
  obtain ⟨a0, i0, n0⟩ := arr_cls (hts _ (gG_tbl _ q98))
  obtain ⟨a1, i1, n1⟩ := arr_cls (hts _ (gG_tbl _ q238))
  obtain ⟨a2, i2, n2⟩ := arr_cls (hts _ (gG_tbl _ q346))
  obtain ⟨c3, a3, k3, f3, -, g3, e3, m3⟩ := Cond.arrayOver_spec (hts (Cond.arrayOver (.object RX3)) (tb 106 (by decide +kernel)))
  obtain ⟨c4, a4, k4, g4, e4, m4⟩ := arrOver_A (hts (Cond.arrayOver (.array .int)) (tb 159 (by decide +kernel)))
  refine ⟨(fun k => ([z0, z1, z2, z3, z4, z5, z6, z7, z8, z9].getD k z0).1, fun k => ([z0, z1, z2, z3, z4, z5, z6, z7, z8, z9].getD k z0).2), fun k => [a0, a1, a2, a3, a4].getD k a0, fun k q hq => ?_, fun k q hq => ?_⟩
  · match k, hq with
    | 0, hq => cases hq; exact h0
    | 1, hq => cases hq; exact h1
    | 2, hq => cases hq; exact h2
    | 3, hq => cases hq; exact h3
    | 4, hq => cases hq; exact h4
    | 5, hq => cases hq; exact h5
    | 6, hq => cases hq; exact h6
    | 7, hq => cases hq; exact h7
    | 8, hq => cases hq; exact h8
    | 9, hq => cases hq; exact h9
    | k + 10, hq => simp at hq
  · match k, hq with
    | 0, hq => cases hq; exact ⟨i0, n0⟩
    | 1, hq => cases hq; exact ⟨i1, n1⟩
    | 2, hq => cases hq; exact ⟨i2, n2⟩
    | 3, hq => cases hq; exact ⟨fun n z => ⟨fun k h => (by cases h), k3, g3, c3, e3⟩, k3, c3, g3, e3, f3, m3⟩
    | 4, hq => cases hq; exact ⟨fun n z => ⟨fun k h => (by cases h), k4, g4, c4, e4⟩, m4⟩
    | k + 5, hq => simp [gT] at hq
theorem nwX_start {args : Array Value} {s : State} (hts : ∀ w ∈ lw_tbl, w.before args s = true) (A : Nat → Prop) : nwX A s :=
  ⟨⟨va_Nw.of rfl (hts _ (tb 85 (by decide +kernel))), va_Nw.of rfl (hts _ (tb 101 (by decide +kernel))), va_Nw.of rfl (hts _ (tb 154 (by decide +kernel)))⟩, ⟨va_Nw.of rfl (hts _ (tb 108 (by decide +kernel))), va_Nw.of rfl (hts _ (tb 115 (by decide +kernel))), va_Nw.of rfl (hts _ (tb 122 (by decide +kernel))), va_Nw.of rfl (hts _ (tb 129 (by decide +kernel))), va_Nw.of rfl (hts _ (tb 136 (by decide +kernel)))⟩, ⟨va_Nw.of rfl (hts _ (tb 118 (by decide +kernel))), va_Nw.of rfl (hts _ (tb 125 (by decide +kernel))), va_Nw.of rfl (hts _ (tb 132 (by decide +kernel))), va_Nw.of rfl (hts _ (tb 139 (by decide +kernel)))⟩, ⟨hts (Cond.arrayOver (.object RX3)) (tb 106 (by decide +kernel)), hts (Cond.arrayOver (.array .int)) (tb 159 (by decide +kernel))⟩, ⟨va_Nw.of rfl (hts _ (tb 1097 (by decide +kernel))), va_Nw.of rfl (hts _ (tb 1098 (by decide +kernel))), va_Nw.of rfl (hts _ (tb 1099 (by decide +kernel))), va_Nw.of rfl (hts _ (tb 1100 (by decide +kernel)))⟩⟩
abbrev gvF : List Cond := flatC (Jvm.Cond.and given_1 narrow_1)
theorem mF_arr : Cond.arrayOf (.static RX8 "FACTORIALS" "[I") .int ∈ gvF := by decide +kernel
theorem mF_len : Cond.eq (.length (.static RX8 "FACTORIALS" "[I")) (.int (Int32.ofNat 9)) ∈ gvF := by decide +kernel
theorem mF_el : ∀ j : Fin 9, Cond.eq (.elem (.static RX8 "FACTORIALS" "[I") (.int (Int32.ofNat j.val))) (.int (facA j.val)) ∈ gvF := by decide +kernel
theorem mD_arr : Cond.arrayOf (.static RX8 "DIGESTED_OF_MUSSEL" "[I") .int ∈ gvF := by decide +kernel
theorem mD_len : Cond.eq (.length (.static RX8 "DIGESTED_OF_MUSSEL" "[I")) (.int (Int32.ofNat 14)) ∈ gvF := by decide +kernel
theorem mD_el : ∀ j : Fin 14, Cond.eq (.elem (.static RX8 "DIGESTED_OF_MUSSEL" "[I") (.int (Int32.ofNat j.val))) (.int (digA j.val)) ∈ gvF := by decide +kernel
theorem mS_ex : Cond.exactly (.string RX4 23) "java/lang/String" ∈ gvF := by decide +kernel
theorem mS_co : Cond.eq (.field (.string RX4 23) "java/lang/String" "coder" "B") (.int 0) ∈ gvF := by decide +kernel
theorem mS_ar : Cond.arrayOf (.field (.string RX4 23) "java/lang/String" "value" "[B") .byte ∈ gvF := by decide +kernel
theorem mS_le : Cond.eq (.length (.field (.string RX4 23) "java/lang/String" "value" "[B")) (.int (Int32.ofNat 5)) ∈ gvF := by decide +kernel
theorem mS_el : ∀ j : Fin 5, Cond.eq (.elem (.field (.string RX4 23) "java/lang/String" "value" "[B") (.int (Int32.ofNat j.val))) (.int (mck.getD j.val 0)) ∈ gvF := by decide +kernel
theorem mS_eq : Cond.eq (.string RX4 23) (.string RX8 130) ∈ gvF := by decide +kernel
theorem mS_cs : Cond.eq (.static RJ0 "COMPACT_STRINGS" "Z") (.int 1) ∈ gvF := by decide +kernel
theorem mN_0 : Cond.not (.castable RX3 RX1) ∈ gvF := by decide +kernel
theorem mN_1 : Cond.not (.castable RX0 RX1) ∈ gvF := by decide +kernel
theorem mN_2 : Cond.not (.castable RX2 RX1) ∈ gvF := by decide +kernel
theorem mN_3 : Cond.not (.castable RX7 RX1) ∈ gvF := by decide +kernel
theorem mN_4 : Cond.not (.castable RX3 RX0) ∈ gvF := by decide +kernel
theorem mN_5 : Cond.not (.castable RX1 RX0) ∈ gvF := by decide +kernel
theorem mN_6 : Cond.not (.castable RX2 RX0) ∈ gvF := by decide +kernel
theorem mN_7 : Cond.not (.castable RX7 RX0) ∈ gvF := by decide +kernel
theorem mN_8 : Cond.not (.castable RX3 RX2) ∈ gvF := by decide +kernel
theorem mN_9 : Cond.not (.castable RX1 RX2) ∈ gvF := by decide +kernel
theorem mN_10 : Cond.not (.castable RX0 RX2) ∈ gvF := by decide +kernel
theorem mN_11 : Cond.not (.castable RX3 RX7) ∈ gvF := by decide +kernel
theorem mN_12 : Cond.not (.castable RX1 RX7) ∈ gvF := by decide +kernel
theorem mN_13 : Cond.not (.castable RX0 RX7) ∈ gvF := by decide +kernel
theorem mN_14 : Cond.not (.castable RX2 RX7) ∈ gvF := by decide +kernel
theorem stX_start {b : Nat} {s : State} (hts : ∀ w ∈ lw_tbl, w.before #[Value.ref b] s = true) (hg : (Jvm.Cond.and given_1 narrow_1).before #[Value.ref b] s = true) : ∃ dt : Nat → Nat, stX dt (fun q => s.heap.size ≤ q) s := by
  have hs : ∀ w ∈ gvF, w.before #[Value.ref b] s = true := flat_of_before _ hg
  have hA : ∀ a : Nat, a < s.heap.size → ¬ (fun q : Nat => s.heap.size ≤ q) a := fun a h => Nat.not_le.mpr h
  obtain ⟨t0, e0, T0⟩ := va_Tof (tm := .static RX8 "FACTORIALS" "[I") (ty := .int) (N := 9) (f := fun j => .int (facA j)) (A := fun q => s.heap.size ≤ q) (by decide) (hs _ mF_arr) (va_eqt (hs _ mF_len)) (fun j hj => va_eqt (hs _ (mF_el ⟨j, hj⟩))) hA
  obtain ⟨t1, e1, T1⟩ := va_Tof (tm := .static RX8 "DIGESTED_OF_MUSSEL" "[I") (ty := .int) (N := 14) (f := fun j => .int (digA j)) (A := fun q => s.heap.size ≤ q) (by decide) (hs _ mD_arr) (va_eqt (hs _ mD_len)) (fun j hj => va_eqt (hs _ (mD_el ⟨j, hj⟩))) hA
  obtain ⟨aK, aV, hS, hK⟩ := vk_Sof (N := 1) (tm := fun _ => .string RX4 23) (len := [5]) (byt := [mck]) (A := fun q => s.heap.size ≤ q) (fun i hi => by rw [show i = 0 by omega]; decide) (fun _ _ => hs _ mS_ex) (fun _ _ => hs _ mS_co) (fun _ _ => hs _ mS_ar) (fun i hi => by rw [show i = 0 by omega]; exact hs _ mS_le) (fun i hi j hj => by
    have e : i = 0 := by omega
    subst e
    exact hs _ (mS_el ⟨j, hj⟩)) (fun i j hi hj q => absurd (show i = j by omega) q) hA
  have r4 := hK 0 (by decide)
  have r8 := va_eqR (hs _ mS_eq) r4
  refine ⟨fun k => [t0, t1, aK 0, aV 0].getD k 0, va_Nw.of rfl (hts _ (tb 526 (by decide +kernel))), ⟨va_Zof (hts _ (tb 562 (by decide +kernel))) (hts _ (gG_tbl _ q57)) e0 hA, T0⟩, ⟨va_Zof (hts _ (tb 679 (by decide +kernel))) (hts _ (gG_tbl _ q57)) e1 hA, T1⟩, ⟨vk_R.of (hts _ (tb 259 (by decide +kernel))) r4, vk_R.of (hts _ (tb 479 (by decide +kernel))) r8, ⟨fun i hi => ?_, fun i j hi hj _ => by omega⟩, va_Zof (hts _ (tb 273 (by decide +kernel))) (hts _ (gG_tbl _ q67)) (va_eqi (hs _ mS_cs)) hA⟩, va_Nw.of rfl (hts _ (tb 1096 (by decide +kernel))), va_Nc.of (hs _ mN_0), va_Nc.of (hs _ mN_1), va_Nc.of (hs _ mN_2), va_Nc.of (hs _ mN_3), va_Nc.of (hs _ mN_4), va_Nc.of (hs _ mN_5), va_Nc.of (hs _ mN_6), va_Nc.of (hs _ mN_7), va_Nc.of (hs _ mN_8), va_Nc.of (hs _ mN_9), va_Nc.of (hs _ mN_10), va_Nc.of (hs _ mN_11), va_Nc.of (hs _ mN_12), va_Nc.of (hs _ mN_13), va_Nc.of (hs _ mN_14)⟩
  have e : i = 0 := by omega
  subst e
  exact hS.1 0 (by decide)
