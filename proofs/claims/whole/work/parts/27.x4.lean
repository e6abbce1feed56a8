theorem stX_fac {dt : Nat → Nat} {A : Nat → Prop} {U : State} (h : stX dt A U) : va_Z RX8 "FACTORIALS" "[I" (.ref (dt 0)) A U U.heap := h.2.1.1
theorem stX_facT {dt : Nat → Nat} {A : Nat → Prop} {U : State} (h : stX dt A U) : va_T .int (dt 0) 9 (fun j => .int (facA j)) A U U.heap := h.2.1.2
theorem stX_dig {dt : Nat → Nat} {A : Nat → Prop} {U : State} (h : stX dt A U) : va_Z RX8 "DIGESTED_OF_MUSSEL" "[I" (.ref (dt 1)) A U U.heap := h.2.2.1.1
theorem stX_digT {dt : Nat → Nat} {A : Nat → Prop} {U : State} (h : stX dt A U) : va_T .int (dt 1) 14 (fun j => .int (digA j)) A U U.heap := h.2.2.1.2
theorem stX_r4 {dt : Nat → Nat} {A : Nat → Prop} {U : State} (h : stX dt A U) : vk_R RX4 23 "mecks" (dt 2) U := h.2.2.2.1.1
theorem stX_r8 {dt : Nat → Nat} {A : Nat → Prop} {U : State} (h : stX dt A U) : vk_R RX8 130 "mecks" (dt 2) U := h.2.2.2.1.2.1
theorem stX_S {dt : Nat → Nat} {A : Nat → Prop} {U : State} (h : stX dt A U) : vk_S 1 [5] [mck] (fun _ => dt 2) (fun _ => dt 3) A U U.heap := h.2.2.2.1.2.2.1
theorem stX_cs {dt : Nat → Nat} {A : Nat → Prop} {U : State} (h : stX dt A U) : va_Z RJ0 "COMPACT_STRINGS" "Z" (.int 1) A U U.heap := h.2.2.2.1.2.2.2
theorem stX_co {dt : Nat → Nat} {A : Nat → Prop} {U : State} (h : stX dt A U) : va_OF "java/lang/String" "coder" "B" (.int 0) (dt 2) A U U.heap := ((stX_S h).1 0 (by decide)).2.1
theorem stX_va {dt : Nat → Nat} {A : Nat → Prop} {U : State} (h : stX dt A U) : va_OF "java/lang/String" "value" "[B" (.ref (dt 3)) (dt 2) A U U.heap := ((stX_S h).1 0 (by decide)).2.2.1
theorem stX_T {dt : Nat → Nat} {A : Nat → Prop} {U : State} (h : stX dt A U) : va_T .byte (dt 3) 5 (fun j => .int (mck.getD j 0)) A U U.heap := ((stX_S h).1 0 (by decide)).2.2.2
theorem stX_rc {dt : Nat → Nat} {A : Nat → Prop} {s : State} {H : Heap} {locs : List Loc} (h : stX dt A s) (hS : va_S A s.heap H locs) : ∃ cell : Cell, H[dt 2]? = some cell ∧ cell.vm.isStatics = false ∧ s.vm.findClass "java/lang/String" = some cell.cls := vk_recv (i := 0) (stX_S h) (by decide) hS
theorem MI.ofB {l : Launch} {y : MethodName} {cc : ByteArray} {nL : Nat} {rm : Room} {D : va_G} {ct : Nat → ClassId} {X : gX} {av : List Value} {wi : va_W} {S : Type} {wo : S → va_W} {post : Int32 → S → Prop} (own : String) (ho : y.cls = own) (hy : plainName y.cls = true) (hlen : (lg_sl av).length ≤ nL)
    (body : ∀ (p : Program) (e : Env) (s : State) (m : MethodId) (args : Array Value) (below : List Frame) (meth : Method) (c : Code) (A : Nat → Prop) (ls : Array Slot) (Q : State → Prop), CallFix p m c cc nL s args (gWs y cc nL (some .byte)) own → gW D ct A s s.heap [] wi → X A s → lv_has ls nL (lv_args 0 av) →
      (∀ (v : Int32) (u : S) (H : Heap) (ll : List Loc) (pc : Nat) (ls : Array Slot), gW D ct A s H ll (wo u) → post v u → decode cc pc = .ok (.ireturn, 1) → narrow .byte (.int v) = .int v → W p l e rm s m args below meth c H ll 0 0 Q (F0 m pc ls [.int v])) → W p l e rm s m args below meth c s.heap [] 0 0 Q (F0 m 0 ls [])) : MI l y (gWs y cc nL (some .byte)) rm D ct X av wi wo post := by
  intro sz
  refine Met.ofW (cc := cc) (maxL := nL) (ret := (some .byte)) hy rfl ?_
  intro p e s m args below meth c s₁ B hml hv
  obtain ⟨rfl, hsz, hP, hK, hD0, hX⟩ := hv
  subst hsz
  have hts := atoms_spec (ws := gWs y cc nL (some .byte)) B.pre
  have hown : s.vm.findClass own = some m.cls := ho ▸ findClass_of_methodNamed B.named
  have hl := lv_entry av (n := nL) hlen
  rw [lg_entry_eq]
  generalize (lg_sl av ++ List.replicate (nL - (lg_sl av).length) Slot.unset).toArray = ls at hl ⊢
  exact body p e s m av.toArray below meth c (va_A wi s.heap.size) ls _ ⟨B.exec, B.bytes, hml, hown, hts⟩ ⟨hK, hP, hD0.self, va_S.rf, fun q h => Or.inr h⟩ hX hl (fun v u H ll pc ls h hp hd hn => gW.zret u h hp B.exec B.bytes B.returns B.notSynchronized hd hn)
section JRows
variable {p : Program} {l : Launch} {e : Env} {R : Room} {s : State} {m : MethodId} {args : Array Value} {below : List Frame} {meth : Method} {c : Code} {H : Heap} {ll : List Loc} {cells slots : Nat} {Q : State → Prop}
variable {cc : ByteArray} {pc nL : Nat} {ls : Array Slot} {rest : List Value} {D : va_G} {ct : Nat → ClassId} {A : Nat → Prop} {a : Nat} {ws : va_W} {y0 : MethodName} {ret0 : Option FieldType} {own : String}
/-- a virtual call on a constant object, without a world -/
theorem gJV {X : gX} {y : MethodName} {bytes : ByteArray} {maxL n idx : Nat} {ret : Option FieldType} {rm : Room} {b : Nat} {As : List Value} {f : Int32} {Cn : String} (C : CallFix p m c cc nL s args (gWs y0 cc nL ret0) own) (h : gW D ct A s H ll ws) (hX : X A s) (hXo : gXok X) (hM : MI l y (gWs y bytes maxL ret) rm D ct X (.ref b :: As) [] (fun _ : Unit => []) (fun r _ => r = f)) (cw : CallW R s args own Cn idx y bytes maxL ret (gWs y bytes maxL ret) rm 0 0 n) (hr : ∃ cell : Cell, H[b]? = some cell ∧ cell.vm.isStatics = false ∧ s.vm.findClass Cn = some cell.cls) (hn : As.length = n) (hsz : ls.size = nL) {st : List Value} (hst : st = As.reverse ++ .ref b :: rest) (hw : (rest.map fun v => v.category).sum ≤ 8) (hdg : decode cc pc = .ok (.invokevirtual idx, 3)) (hcs : cells ≤ R.cells ∧ slots ≤ R.slots)
    (kk : ∀ (H : Heap) (ll : List Loc), gW D ct A s H ll ws → W p l e R s m args below meth c H ll cells slots Q (F0 m (pc + 3) ls (.int f :: rest))) : W p l e R s m args below meth c H ll cells slots Q (F0 m pc ls st) := by
  obtain ⟨hPc, hDc, hF⟩ := gFr.wi h gFr0
  refine va_calli (va_runV C (hM H.size) cw ⟨gBlind hXo, hr, fun U hU hW => ⟨rfl, by rw [hU], by rw [hU]; exact hPc, va_K.moved hW.alike h.1, hDc.weaken (fun _ _ _ _ => trivial), hXo.2 A _ s U hX hW (fun q h1 h2 => by rw [hU]; exact h.2.2.2.1.2.1 q h1 h2) hF⟩⟩ rfl hn hsz hst (lv_room hw) hdg hcs) h.2.2.2.1 (fun q _ hq => hF q hq) hF (fun r u t H1 l1 ht hvm hw1 hB hz1 hk1 hS => ?_)
  have hP1 := hB.1
  rw [ht] at hP1
  rw [hw1]
  exact kk H1 l1 (gFr.back h gFr0 hk1 hP1 hB.2.2 hS)
end JRows
theorem kix_eq {i : Nat} (hi : i < 5) {x : Int32} (h : mck.getD i 0 = x) : nI i = kindC x := by
  subst h
  rcases (show i = 0 ∨ i = 1 ∨ i = 2 ∨ i = 3 ∨ i = 4 by omega) with rfl | rfl | rfl | rfl | rfl <;> decide
theorem kix_no {x : Int32} (h : ∀ j, j < 5 → ¬ mck.getD j 0 = x) : (-1 : Int32) = kindC x := by
  unfold kindC
  rw [if_neg (fun q => h 0 (by decide) q.symm), if_neg (fun q => h 1 (by decide) q.symm), if_neg (fun q => h 2 (by decide) q.symm), if_neg (fun q => h 3 (by decide) q.symm), if_neg (fun q => h 4 (by decide) q.symm)]
set_option maxRecDepth 100000 in
theorem i2bN {c : Nat} (h : c < 128) : (nI c).toInt8.toInt32 = nI c := by
  have key : ∀ c : Fin 128, (nI c.val).toInt8.toInt32 = nI c.val := by decide +kernel
  exact key ⟨c, h⟩
set_option maxRecDepth 100000 in
theorem i2cN {c : Nat} (h : c < 128) : ((nI c).toUInt32 % 65536).toInt32 = nI c := by
  have key : ∀ c : Fin 128, ((nI c.val).toUInt32 % 65536).toInt32 = nI c.val := by decide +kernel
  exact key ⟨c, h⟩
/-- what is known of the page: n letters, all of them codes -/
def POK (P : Nat → Nat → Int32) (n : Nat) (pg : Nat → Nat) : Prop := P 0 0 = nI n ∧ n ≤ 50 ∧ ∀ j, j < 50 → P 1 j = nI (pg j) ∧ pg j < 127
/-- whether a letter may stand at its place -/
def fitX (a : Nat → Int32) (j : Nat) : Bool := decide (j < 47) && (if j % 6 = 0 then decide (¬ kindC (a j) < 0) else if j % 6 = 1 then decide (¬ a j < 49 ∧ ¬ 57 < a j) else if j % 6 = 5 then decide (a j = 44) else decide (a j = 43 ∨ a j = 45 ∨ a j = 48))
theorem nI6 {x k : Nat} (hx : x < 6) (hk : k < 6) (h : nI x = nI k) : x = k := by
  have h1 := congrArg Int32.toNatClampNeg h
  rw [nI_clamp (by omega), nI_clamp (by omega)] at h1
  exact h1
def z0 : Nat → Int32 := fun _ => 0
def zz : Nat → Nat → Int32 := fun _ _ => 0
/-- a standing with nothing in it but what was seen before, uncounted -/
def clS (S : Nat → Nat → Int32) : Nat → Nat → Int32 := va_up (va_up (va_up (va_up (va_up (va_up S 1 z0) 6 z0) 7 z0) 8 z0) 0 z0) 12 z0
theorem gcd_end {x y a b i : Nat} (ha : a < 2 ^ 31) (hb : b < 2 ^ 31) (hg : Nat.gcd x y = Nat.gcd a b) (hp : (i = 0 ∧ x = a ∧ y = b) ∨ (y ≤ x ∧ 0 < i ∧ x * y * 2 ^ (i - 1) ≤ a * b)) (he : i = 64 ∨ y = 0) : nI x = nI (Nat.gcd a b) := by
  have hy : y = 0 := by
    rcases he with rfl | he
    · rcases hp with ⟨h, _⟩ | ⟨h1, h2, h3⟩
      · omega
      · have h4 : a * b < 2 ^ 31 * 2 ^ 31 := Nat.mul_lt_mul'' ha hb
        by_cases hy : y = 0
        · exact hy
        · exfalso
          have h5 : 1 ≤ x * y := Nat.mul_pos (by omega) (by omega)
          have h6 : 1 * 2 ^ 63 ≤ x * y * 2 ^ 63 := Nat.mul_le_mul_right _ h5
          have h7 : x * y * 2 ^ (64 - 1) ≤ a * b := h3
          have h8 : (2 : Nat) ^ 31 * 2 ^ 31 < 2 ^ 63 := by decide
          omega
    · exact he
  subst hy
  rw [Nat.gcd_zero_right] at hg
  rw [hg]
theorem gcd_step {x y a b i : Nat} (hy : 0 < y) (hp : (i = 0 ∧ x = a ∧ y = b) ∨ (y ≤ x ∧ 0 < i ∧ x * y * 2 ^ (i - 1) ≤ a * b)) : x % y ≤ y ∧ 0 < i + 1 ∧ y * (x % y) * 2 ^ (i + 1 - 1) ≤ a * b := by
  refine ⟨Nat.le_of_lt (Nat.mod_lt _ hy), by omega, ?_⟩
  rcases hp with ⟨rfl, rfl, rfl⟩ | ⟨h1, h2, h3⟩
  · show y * (x % y) * 2 ^ 0 ≤ x * y
    rw [Nat.pow_zero, Nat.mul_one, Nat.mul_comm]
    exact Nat.mul_le_mul_right _ (Nat.mod_le x y)
  · have h4 : 2 * (x % y) ≤ x := by
      have h5 := Nat.div_add_mod x y
      have h6 : 1 ≤ x / y := (Nat.le_div_iff_mul_le hy).mpr (by omega)
      have h7 : y * 1 ≤ y * (x / y) := Nat.mul_le_mul_left _ h6
      have h8 := Nat.mod_lt x hy
      omega
    refine Nat.le_trans ?_ h3
    rw [show i + 1 - 1 = (i - 1) + 1 by omega, Nat.pow_succ]
    calc y * (x % y) * (2 ^ (i - 1) * 2) = (2 * (x % y)) * y * 2 ^ (i - 1) := by
          rw [Nat.mul_comm y, Nat.mul_comm (2 ^ (i - 1)) 2, ← Nat.mul_assoc]; congr 1; rw [Nat.mul_comm, ← Nat.mul_assoc]
      _ ≤ x * y * 2 ^ (i - 1) := Nat.mul_le_mul_right _ (Nat.mul_le_mul_right _ h4)
def bcX (x : Int32) : Int32 := ((((((((x) - ((((x : Int32).toUInt32 >>> ((1 : Int32).toUInt32 &&& Int32.toUInt32 31)).toInt32) &&& 1431655765)) &&& 858993459) + (((((x) - ((((x : Int32).toUInt32 >>> ((1 : Int32).toUInt32 &&& Int32.toUInt32 31)).toInt32) &&& 1431655765) : Int32).toUInt32 >>> ((2 : Int32).toUInt32 &&& Int32.toUInt32 31)).toInt32) &&& 858993459)) + ((((((x) - ((((x : Int32).toUInt32 >>> ((1 : Int32).toUInt32 &&& Int32.toUInt32 31)).toInt32) &&& 1431655765)) &&& 858993459) + (((((x) - ((((x : Int32).toUInt32 >>> ((1 : Int32).toUInt32 &&& Int32.toUInt32 31)).toInt32) &&& 1431655765) : Int32).toUInt32 >>> ((2 : Int32).toUInt32 &&& Int32.toUInt32 31)).toInt32) &&& 858993459) : Int32).toUInt32 >>> ((4 : Int32).toUInt32 &&& Int32.toUInt32 31)).toInt32)) &&& 252645135) + ((((((((x) - ((((x : Int32).toUInt32 >>> ((1 : Int32).toUInt32 &&& Int32.toUInt32 31)).toInt32) &&& 1431655765)) &&& 858993459) + (((((x) - ((((x : Int32).toUInt32 >>> ((1 : Int32).toUInt32 &&& Int32.toUInt32 31)).toInt32) &&& 1431655765) : Int32).toUInt32 >>> ((2 : Int32).toUInt32 &&& Int32.toUInt32 31)).toInt32) &&& 858993459)) + ((((((x) - ((((x : Int32).toUInt32 >>> ((1 : Int32).toUInt32 &&& Int32.toUInt32 31)).toInt32) &&& 1431655765)) &&& 858993459) + (((((x) - ((((x : Int32).toUInt32 >>> ((1 : Int32).toUInt32 &&& Int32.toUInt32 31)).toInt32) &&& 1431655765) : Int32).toUInt32 >>> ((2 : Int32).toUInt32 &&& Int32.toUInt32 31)).toInt32) &&& 858993459) : Int32).toUInt32 >>> ((4 : Int32).toUInt32 &&& Int32.toUInt32 31)).toInt32)) &&& 252645135 : Int32).toUInt32 >>> ((8 : Int32).toUInt32 &&& Int32.toUInt32 31)).toInt32)) + (((((((((x) - ((((x : Int32).toUInt32 >>> ((1 : Int32).toUInt32 &&& Int32.toUInt32 31)).toInt32) &&& 1431655765)) &&& 858993459) + (((((x) - ((((x : Int32).toUInt32 >>> ((1 : Int32).toUInt32 &&& Int32.toUInt32 31)).toInt32) &&& 1431655765) : Int32).toUInt32 >>> ((2 : Int32).toUInt32 &&& Int32.toUInt32 31)).toInt32) &&& 858993459)) + ((((((x) - ((((x : Int32).toUInt32 >>> ((1 : Int32).toUInt32 &&& Int32.toUInt32 31)).toInt32) &&& 1431655765)) &&& 858993459) + (((((x) - ((((x : Int32).toUInt32 >>> ((1 : Int32).toUInt32 &&& Int32.toUInt32 31)).toInt32) &&& 1431655765) : Int32).toUInt32 >>> ((2 : Int32).toUInt32 &&& Int32.toUInt32 31)).toInt32) &&& 858993459) : Int32).toUInt32 >>> ((4 : Int32).toUInt32 &&& Int32.toUInt32 31)).toInt32)) &&& 252645135) + ((((((((x) - ((((x : Int32).toUInt32 >>> ((1 : Int32).toUInt32 &&& Int32.toUInt32 31)).toInt32) &&& 1431655765)) &&& 858993459) + (((((x) - ((((x : Int32).toUInt32 >>> ((1 : Int32).toUInt32 &&& Int32.toUInt32 31)).toInt32) &&& 1431655765) : Int32).toUInt32 >>> ((2 : Int32).toUInt32 &&& Int32.toUInt32 31)).toInt32) &&& 858993459)) + ((((((x) - ((((x : Int32).toUInt32 >>> ((1 : Int32).toUInt32 &&& Int32.toUInt32 31)).toInt32) &&& 1431655765)) &&& 858993459) + (((((x) - ((((x : Int32).toUInt32 >>> ((1 : Int32).toUInt32 &&& Int32.toUInt32 31)).toInt32) &&& 1431655765) : Int32).toUInt32 >>> ((2 : Int32).toUInt32 &&& Int32.toUInt32 31)).toInt32) &&& 858993459) : Int32).toUInt32 >>> ((4 : Int32).toUInt32 &&& Int32.toUInt32 31)).toInt32)) &&& 252645135 : Int32).toUInt32 >>> ((8 : Int32).toUInt32 &&& Int32.toUInt32 31)).toInt32) : Int32).toUInt32 >>> ((16 : Int32).toUInt32 &&& Int32.toUInt32 31)).toInt32)) &&& 63
theorem bc_all {b : Nat} (hb8 : b < 256) : bcX (nI b) = nI (pcn b 8) := by
  have key : ∀ b : Fin 256, bcX (nI b.val) = nI (pcn b.val 8) := by decide +kernel
  exact key ⟨b, hb8⟩
theorem ffx {b : Bool} (h : ¬ b = true → False) : b = true := by cases b <;> simp_all
theorem ffy {b : Bool} (h : ¬ b = true) : b = false := by cases b <;> simp_all
set_option maxHeartbeats 1000000 in
set_option maxRecDepth 100000 in
theorem kJ0_isLatin1_aae02 (l : Launch) (D : va_G) (ct : Nat → ClassId)  (dt : Nat → Nat)  : MI l yJ0_isLatin1_aae02 (gWs yJ0_isLatin1_aae02 cJ0_isLatin1_aae02 1 (some .boolean)) rmJ0_isLatin1_aae02 D ct (stX dt) [.ref (dt 2)] [] (fun _ : Unit => []) (fun r _ => r = 1) := by
  refine MI.ofZ RJ0 rfl (by decide) (Nat.le_of_ble_eq_true rfl) ?_
  intro zp ze zs zm za zb zt zc zA ls zQ C h hX hl hret
  have hx := C.1
  have hb := C.2.1
  have hl : lv_has ls 1 [(0, .ref (dt 2))] := hl
  refine va_gets C.1 C.2.1 (stX_cs hX) h.2.2.2.1 C.2.2.2.1 (C.2.2.2.2 _ (gWs_in q272)) (fun _ h9 => h9) dJ0_isLatin1_aae02_0 ?_
  refine lv_if_eq (tgt := 17) hx hb dJ0_isLatin1_aae02_3 (by decide) (fun q => absurd q (by decide)) (fun _ => ?_)
  refine lv_aload_n hx hb dJ0_isLatin1_aae02_6 rfl (lv_at hl 0 rfl) ?_
  refine vk_getf C.1 C.2.1 (stX_co hX) h.2.2.2.1 C.2.2.2.1 (C.2.2.2.2 _ (gWs_in q1101)) (fun _ h9 => h9) dJ0_isLatin1_aae02_7 ?_
  refine lv_if_ne (tgt := 17) hx hb dJ0_isLatin1_aae02_10 (by decide) (fun q => absurd rfl q) (fun _ => ?_)
  refine lv_iconst (v := 1) hx hb dJ0_isLatin1_aae02_13 (by decide) ?_
  refine lv_goto (tgt := 18) hx hb dJ0_isLatin1_aae02_14 (by decide) ?_
  exact hret _ () _ _ _ _ h rfl dJ0_isLatin1_aae02_18 (by decide)
set_option maxHeartbeats 1000000 in
set_option maxRecDepth 100000 in
theorem kJ0_coder_7d493 (l : Launch) (D : va_G) (ct : Nat → ClassId)  (dt : Nat → Nat)  : MI l yJ0_coder_7d493 (gWs yJ0_coder_7d493 cJ0_coder_7d493 1 (some .byte)) rmJ0_coder_7d493 D ct (stX dt) [.ref (dt 2)] [] (fun _ : Unit => []) (fun r _ => r = 0) := by
  refine MI.ofB RJ0 rfl (by decide) (Nat.le_of_ble_eq_true rfl) ?_
  intro zp ze zs zm za zb zt zc zA ls zQ C h hX hl hret
  have hx := C.1
  have hb := C.2.1
  have hl : lv_has ls 1 [(0, .ref (dt 2))] := hl
  refine va_gets C.1 C.2.1 (stX_cs hX) h.2.2.2.1 C.2.2.2.1 (C.2.2.2.2 _ (gWs_in q272)) (fun _ h9 => h9) dJ0_coder_7d493_0 ?_
  refine lv_if_eq (tgt := 13) hx hb dJ0_coder_7d493_3 (by decide) (fun q => absurd q (by decide)) (fun _ => ?_)
  refine lv_aload_n hx hb dJ0_coder_7d493_6 rfl (lv_at hl 0 rfl) ?_
  refine vk_getf C.1 C.2.1 (stX_co hX) h.2.2.2.1 C.2.2.2.1 (C.2.2.2.2 _ (gWs_in q1101)) (fun _ h9 => h9) dJ0_coder_7d493_7 ?_
  refine lv_goto (tgt := 14) hx hb dJ0_coder_7d493_10 (by decide) ?_
  exact hret _ () _ _ _ _ h rfl dJ0_coder_7d493_14 (by decide)
set_option maxHeartbeats 1000000 in
set_option maxRecDepth 100000 in
theorem kJ0_length_8abf5 (l : Launch) (D : va_G) (ct : Nat → ClassId)  (dt : Nat → Nat)  : MI l yJ0_length_8abf5 (gWs yJ0_length_8abf5 cJ0_length_8abf5 1 (some .int)) rmJ0_length_8abf5 D ct (stX dt) [.ref (dt 2)] [] (fun _ : Unit => []) (fun r _ => r = nI 5) := by
  refine MI.ofI RJ0 rfl (by decide) (Nat.le_of_ble_eq_true rfl) ?_
  intro zp ze zs zm za zb zt zc zA ls zQ C h hX hl hret
  have hx := C.1
  have hb := C.2.1
  have hl : lv_has ls 1 [(0, .ref (dt 2))] := hl
  refine lv_aload_n hx hb dJ0_length_8abf5_0 rfl (lv_at hl 0 rfl) ?_
  refine vk_getf C.1 C.2.1 (stX_va hX) h.2.2.2.1 C.2.2.2.1 (C.2.2.2.2 _ (gWs_in q1102)) (fun _ h9 => h9) dJ0_length_8abf5_1 ?_
  refine va_tlen C.1 C.2.1 (stX_T hX) h.2.2.2.1 (v := nI 5) rfl dJ0_length_8abf5_4 ?_
  refine lv_aload_n hx hb dJ0_length_8abf5_5 rfl (lv_at hl 0 rfl) ?_
  refine gJV C h hX (stX_ok dt) (kJ0_coder_7d493 l D ct dt ) (cwV 0 C.2.2.2.2 (gInV q278 q279 q280 q67 q281) rfl rfl rfl hvJ0_coder_7d493 ⟨Nat.le_of_ble_eq_true rfl, Nat.le_of_ble_eq_true rfl⟩) (stX_rc hX h.2.2.2.1) rfl hl.1 rfl (Nat.le_of_ble_eq_true rfl) dJ0_length_8abf5_6 ⟨Nat.zero_le _, Nat.zero_le _⟩ (fun H ll h => ?_)
  have h : gW D ct zA zs _ _ ([]) := h
  refine nshr hx hb 5 0 (by omega) (by omega) dJ0_length_8abf5_9 ?_
  exact hret _ () _ _ _ _ h rfl dJ0_length_8abf5_10
set_option maxHeartbeats 1000000 in
set_option maxRecDepth 100000 in
theorem kJ1_canEncode_9a6ad (l : Launch) (D : va_G) (ct : Nat → ClassId)  (c : Nat) (hc : c < 128) : MI l yJ1_canEncode_9a6ad (gWs yJ1_canEncode_9a6ad cJ1_canEncode_9a6ad 1 (some .boolean)) rmJ1_canEncode_9a6ad D ct gNo [.int (nI c)] [] (fun _ : Unit => []) (fun r _ => r = 1) := by
  refine MI.ofZ RJ1 rfl (by decide) (Nat.le_of_ble_eq_true rfl) ?_
  intro zp ze zs zm za zb zt zc zA ls zQ C h hX hl hret
  have hx := C.1
  have hb := C.2.1
  have hl : lv_has ls 1 [(0, .int (nI c))] := hl
  refine lv_iload_n hx hb dJ1_canEncode_9a6ad_0 rfl (lv_at hl 0 rfl) ?_
  refine lv_if_lt (tgt := 15) hx hb dJ1_canEncode_9a6ad_1 (by decide) (fun q => absurd q (nI_pos (by omega))) (fun _ => ?_)
  refine lv_iload_n hx hb dJ1_canEncode_9a6ad_4 rfl (lv_at hl 0 rfl) ?_
  refine lv_sipush (v := 255) hx hb dJ1_canEncode_9a6ad_5 (by decide) ?_
  refine nb_gt hx hb c 255 (by omega) (by omega) (tgt := 15) dJ1_canEncode_9a6ad_8 (by decide) (fun c_8 => absurd c_8 (by omega)) (fun c_8 => ?_)
  refine lv_iconst (v := 1) hx hb dJ1_canEncode_9a6ad_11 (by decide) ?_
  refine lv_goto (tgt := 16) hx hb dJ1_canEncode_9a6ad_12 (by decide) ?_
  exact hret _ () _ _ _ _ h rfl dJ1_canEncode_9a6ad_16 (by decide)
set_option maxHeartbeats 1000000 in
set_option maxRecDepth 100000 in
theorem kJ1_indexOfChar_4cfef (l : Launch) (D : va_G) (ct : Nat → ClassId)  (dt : Nat → Nat) (c : Nat) (hc : c < 128) : MI l yJ1_indexOfChar_4cfef (gWs yJ1_indexOfChar_4cfef cJ1_indexOfChar_4cfef 6 (some .int)) rmJ1_indexOfChar_4cfef D ct (stX dt) [.ref (dt 3), .int (nI c), .int 0, .int (nI 5)] [] (fun _ : Unit => []) (fun r _ => r = kindC (nI c)) := by
  refine MI.ofI RJ1 rfl (by decide) (Nat.le_of_ble_eq_true rfl) ?_
  intro zp ze zs zm za zb zt zc zA ls zQ C h hX hl hret
  have hx := C.1
  have hb := C.2.1
  have hl : lv_has ls 6 [(0, .ref (dt 3)), (1, .int (nI c)), (2, .int 0), (3, .int (nI 5))] := hl
  refine lv_iload_n hx hb dJ1_indexOfChar_4cfef_0 rfl (lv_at hl 1 rfl) ?_
  refine lv_i2b (v := nI c) hx hb dJ1_indexOfChar_4cfef_1 (i2bN hc) ?_
  refine lv_istore (lv' := [(4, .int (nI c)), (0, .ref (dt 3)), (1, .int (nI c)), (2, .int 0), (3, .int (nI 5))]) hx hb dJ1_indexOfChar_4cfef_2 hl (by decide) rfl (fun ls hl => ?_)
  refine lv_iload_n hx hb dJ1_indexOfChar_4cfef_4 rfl (lv_at hl 3 rfl) ?_
  refine lv_istore (lv' := [(5, .int 0), (4, .int (nI c)), (0, .ref (dt 3)), (1, .int (nI c)), (2, .int 0), (3, .int (nI 5))]) hx hb dJ1_indexOfChar_4cfef_5 hl (by decide) rfl (fun ls hl => ?_)
  have L7_0 : ∀ (kk : Nat) (i : Nat) (H : Heap) (ll : List Loc) (ls : Array Slot), 5 - i = kk → (i ≤ 5) → (∀ j, j < i → ¬ mck.getD j 0 = nI c) → gW D ct zA zs H ll ([]) → lv_has ls 6 [(5, .int (nI i)), (4, .int (nI c)), (0, .ref (dt 3)), (1, .int (nI c)), (2, .int 0), (3, .int (nI 5))] → W zp l ze rmJ1_indexOfChar_4cfef zs zm za zb zt zc H ll 0 0 zQ (F0 zm 7 ls []) := by
    intro kk7
    induction kk7 using Nat.strongRecOn with
    | _ kk7 ih7 =>
    intro i H ll ls hk7 hi hn h hl
    refine lv_iload hx hb dJ1_indexOfChar_4cfef_7 (lv_at hl 0 rfl) ?_
    refine lv_iload_n hx hb dJ1_indexOfChar_4cfef_9 rfl (lv_at hl 5 rfl) ?_
    refine nb_ge hx hb i 5 (by omega) (by omega) (tgt := 31) dJ1_indexOfChar_4cfef_10 (by decide) (fun c_10 => ?_) (fun c_10 => ?_)
    · refine lv_iconst (v := -1) hx hb dJ1_indexOfChar_4cfef_31 (by decide) ?_
      exact hret _ () _ _ _ _ h (kix_no (fun j hj => hn j (by omega))) dJ1_indexOfChar_4cfef_32
    · refine lv_aload_n hx hb dJ1_indexOfChar_4cfef_13 rfl (lv_at hl 2 rfl) ?_
      refine lv_iload hx hb dJ1_indexOfChar_4cfef_14 (lv_at hl 0 rfl) ?_
      refine va_tb C.1 C.2.1 (stX_T hX) h.2.2.2.1 (vp_in_nI (by omega) (by decide)) (v := .int (mck.getD i 0)) (by rw [nI_clamp (by omega)]) dJ1_indexOfChar_4cfef_16 ?_
      refine lv_iload hx hb dJ1_indexOfChar_4cfef_17 (lv_at hl 1 rfl) ?_
      refine lv_icmp_ne (tgt := 25) hx hb dJ1_indexOfChar_4cfef_19 (by decide) (fun c_19 => ?_) (fun c_19 => ?_)
      · refine ninc (lv' := [(5, .int (nI (i + 1))), (4, .int (nI c)), (0, .ref (dt 3)), (1, .int (nI c)), (2, .int 0), (3, .int (nI 5))]) hx hb i 1 dJ1_indexOfChar_4cfef_25 hl (k := 0) rfl (by decide) rfl (fun ls hl => ?_)
        refine lv_goto (tgt := 7) hx hb dJ1_indexOfChar_4cfef_28 (by decide) ?_
        exact ih7 _ (by omega) (i + 1) _ _ _ rfl (by omega) (fun j hj => by rcases (show j < i ∨ j = i by omega) with q9 | rfl; exact hn j q9; exact c_19) h (lv_sub hl [0, 1, 2, 3, 4, 5] rfl)
      · refine lv_iload hx hb dJ1_indexOfChar_4cfef_22 (lv_at hl 0 rfl) ?_
        exact hret _ () _ _ _ _ h (kix_eq (by omega) c_19) dJ1_indexOfChar_4cfef_24
  exact L7_0 _ 0 _ _ _ rfl (by omega) (fun j hj => absurd hj (by omega)) h (lv_sub hl [0, 1, 2, 3, 4, 5] rfl)
set_option maxHeartbeats 1000000 in
set_option maxRecDepth 100000 in
theorem kJ1_indexOf_4cfef (l : Launch) (D : va_G) (ct : Nat → ClassId)  (dt : Nat → Nat) (c : Nat) (hc : c < 128) : MI l yJ1_indexOf_4cfef (gWs yJ1_indexOf_4cfef cJ1_indexOf_4cfef 4 (some .int)) rmJ1_indexOf_4cfef D ct (stX dt) [.ref (dt 3), .int (nI c), .int 0, .int (nI 5)] [] (fun _ : Unit => []) (fun r _ => r = kindC (nI c)) := by
  refine MI.ofI RJ1 rfl (by decide) (Nat.le_of_ble_eq_true rfl) ?_
  intro zp ze zs zm za zb zt zc zA ls zQ C h hX hl hret
  have hx := C.1
  have hb := C.2.1
  have hl : lv_has ls 4 [(0, .ref (dt 3)), (1, .int (nI c)), (2, .int 0), (3, .int (nI 5))] := hl
  refine lv_iload_n hx hb dJ1_indexOf_4cfef_0 rfl (lv_at hl 1 rfl) ?_
  refine gcallSi C h (kJ1_canEncode_9a6ad l D ct c hc) (va_cwS 1 C.2.2.2.2 (gInS q285 q286 q68 q287) rfl rfl rfl hdJ1_canEncode_9a6ad ⟨Nat.le_of_ble_eq_true rfl, Nat.le_of_ble_eq_true rfl⟩) rfl hl.1 rfl (Nat.le_of_ble_eq_true rfl) dJ1_indexOf_4cfef_1 ⟨Nat.zero_le _, Nat.zero_le _⟩ (fun H ll h => ?_)
  refine lv_if_ne (tgt := 9) hx hb dJ1_indexOf_4cfef_4 (by decide) (fun _ => ?_) (fun q => absurd q (by decide))
  refine lv_iload_n hx hb dJ1_indexOf_4cfef_9 rfl (lv_at hl 2 rfl) ?_
  refine lv_iconst (v := 0) hx hb dJ1_indexOf_4cfef_10 (by decide) ?_
  refine va_mmax C.1 C.2.1 (by rw [C.2.2.1, hl.1]) C.2.2.2.1 (C.2.2.2.2 _ (gWs_in q288)) (C.2.2.2.2 _ (gWs_in q289)) (C.2.2.2.2 _ (gWs_in q69)) (C.2.2.2.2 _ (gWs_in q290)) (Nat.le_of_ble_eq_true rfl) (Nat.le_of_ble_eq_true rfl) (Nat.zero_le _) (Nat.zero_le _) dJ1_indexOf_4cfef_11 ?_
  refine gas (z := 0) (by decide) ?_
  refine lv_istore_n (lv' := [(2, .int 0), (0, .ref (dt 3)), (1, .int (nI c)), (3, .int (nI 5))]) hx hb dJ1_indexOf_4cfef_14 rfl hl (by decide) rfl (fun ls hl => ?_)
  refine lv_iload_n hx hb dJ1_indexOf_4cfef_15 rfl (lv_at hl 3 rfl) ?_
  refine lv_aload_n hx hb dJ1_indexOf_4cfef_16 rfl (lv_at hl 1 rfl) ?_
  refine va_tlen C.1 C.2.1 (stX_T hX) h.2.2.2.1 (v := nI 5) rfl dJ1_indexOf_4cfef_17 ?_
  refine va_mmin C.1 C.2.1 (by rw [C.2.2.1, hl.1]) C.2.2.2.1 (C.2.2.2.2 _ (gWs_in q291)) (C.2.2.2.2 _ (gWs_in q292)) (C.2.2.2.2 _ (gWs_in q69)) (C.2.2.2.2 _ (gWs_in q293)) (Nat.le_of_ble_eq_true rfl) (Nat.le_of_ble_eq_true rfl) (Nat.zero_le _) (Nat.zero_le _) dJ1_indexOf_4cfef_18 ?_
  refine gas (z := nI 5) (by decide) ?_
  refine lv_istore_n (lv' := [(3, .int (nI 5)), (2, .int 0), (0, .ref (dt 3)), (1, .int (nI c))]) hx hb dJ1_indexOf_4cfef_21 rfl hl (by decide) rfl (fun ls hl => ?_)
  refine lv_iload_n hx hb dJ1_indexOf_4cfef_22 rfl (lv_at hl 1 rfl) ?_
  refine lv_iload_n hx hb dJ1_indexOf_4cfef_23 rfl (lv_at hl 0 rfl) ?_
  refine nb_lt hx hb 0 5 (by omega) (by omega) (tgt := 29) dJ1_indexOf_4cfef_24 (by decide) (fun c_24 => ?_) (fun c_24 => absurd c_24 (by omega))
  refine lv_aload_n hx hb dJ1_indexOf_4cfef_29 rfl (lv_at hl 2 rfl) ?_
  refine lv_iload_n hx hb dJ1_indexOf_4cfef_30 rfl (lv_at hl 3 rfl) ?_
  refine lv_iload_n hx hb dJ1_indexOf_4cfef_31 rfl (lv_at hl 1 rfl) ?_
  refine lv_iload_n hx hb dJ1_indexOf_4cfef_32 rfl (lv_at hl 0 rfl) ?_
  refine gSFi C h hX (stX_ok dt) (kJ1_indexOfChar_4cfef l D ct dt c hc) (va_cwS 4 C.2.2.2.2 (gInS q294 q295 q68 q296) rfl rfl rfl hdJ1_indexOfChar_4cfef ⟨Nat.le_of_ble_eq_true rfl, Nat.le_of_ble_eq_true rfl⟩) gFr0 rfl hl.1 rfl (Nat.le_of_ble_eq_true rfl) dJ1_indexOf_4cfef_33 ⟨Nat.zero_le _, Nat.zero_le _⟩ (fun H ll h => ?_)
  have h : gW D ct zA zs _ _ ([]) := h
  exact hret _ () _ _ _ _ h rfl dJ1_indexOf_4cfef_36
set_option maxHeartbeats 1000000 in
set_option maxRecDepth 100000 in
theorem kJ0_indexOf_7cf53 (l : Launch) (D : va_G) (ct : Nat → ClassId)  (dt : Nat → Nat) (c : Nat) (hc : c < 128) : MI l yJ0_indexOf_7cf53 (gWs yJ0_indexOf_7cf53 cJ0_indexOf_7cf53 3 (some .int)) rmJ0_indexOf_7cf53 D ct (stX dt) [.ref (dt 2), .int (nI c), .int 0] [] (fun _ : Unit => []) (fun r _ => r = kindC (nI c)) := by
  refine MI.ofI RJ0 rfl (by decide) (Nat.le_of_ble_eq_true rfl) ?_
  intro zp ze zs zm za zb zt zc zA ls zQ C h hX hl hret
  have hx := C.1
  have hb := C.2.1
  have hl : lv_has ls 3 [(0, .ref (dt 2)), (1, .int (nI c)), (2, .int 0)] := hl
  refine lv_aload_n hx hb dJ0_indexOf_7cf53_0 rfl (lv_at hl 0 rfl) ?_
  refine gJV C h hX (stX_ok dt) (kJ0_isLatin1_aae02 l D ct dt ) (cwV 0 C.2.2.2.2 (gInV q268 q269 q270 q67 q271) rfl rfl rfl hvJ0_isLatin1_aae02 ⟨Nat.le_of_ble_eq_true rfl, Nat.le_of_ble_eq_true rfl⟩) (stX_rc hX h.2.2.2.1) rfl hl.1 rfl (Nat.le_of_ble_eq_true rfl) dJ0_indexOf_7cf53_1 ⟨Nat.zero_le _, Nat.zero_le _⟩ (fun H ll h => ?_)
  have h : gW D ct zA zs _ _ ([]) := h
  refine lv_if_eq (tgt := 23) hx hb dJ0_indexOf_7cf53_4 (by decide) (fun q => absurd q (by decide)) (fun _ => ?_)
  refine lv_aload_n hx hb dJ0_indexOf_7cf53_7 rfl (lv_at hl 0 rfl) ?_
  refine vk_getf C.1 C.2.1 (stX_va hX) h.2.2.2.1 C.2.2.2.1 (C.2.2.2.2 _ (gWs_in q1102)) (fun _ h9 => h9) dJ0_indexOf_7cf53_8 ?_
  refine lv_iload_n hx hb dJ0_indexOf_7cf53_11 rfl (lv_at hl 1 rfl) ?_
  refine lv_iload_n hx hb dJ0_indexOf_7cf53_12 rfl (lv_at hl 2 rfl) ?_
  refine lv_aload_n hx hb dJ0_indexOf_7cf53_13 rfl (lv_at hl 0 rfl) ?_
  refine gJV C h hX (stX_ok dt) (kJ0_length_8abf5 l D ct dt ) (cwV 0 C.2.2.2.2 (gInV q274 q275 q276 q67 q277) rfl rfl rfl hvJ0_length_8abf5 ⟨Nat.le_of_ble_eq_true rfl, Nat.le_of_ble_eq_true rfl⟩) (stX_rc hX h.2.2.2.1) rfl hl.1 rfl (Nat.le_of_ble_eq_true rfl) dJ0_indexOf_7cf53_14 ⟨Nat.zero_le _, Nat.zero_le _⟩ (fun H ll h => ?_)
  have h : gW D ct zA zs _ _ ([]) := h
  refine gSFi C h hX (stX_ok dt) (kJ1_indexOf_4cfef l D ct dt c hc) (va_cwS 4 C.2.2.2.2 (gInS q282 q283 q68 q284) rfl rfl rfl hdJ1_indexOf_4cfef ⟨Nat.le_of_ble_eq_true rfl, Nat.le_of_ble_eq_true rfl⟩) gFr0 rfl hl.1 rfl (Nat.le_of_ble_eq_true rfl) dJ0_indexOf_7cf53_17 ⟨Nat.zero_le _, Nat.zero_le _⟩ (fun H ll h => ?_)
  have h : gW D ct zA zs _ _ ([]) := h
  refine lv_goto (tgt := 36) hx hb dJ0_indexOf_7cf53_20 (by decide) ?_
  exact hret _ () _ _ _ _ h rfl dJ0_indexOf_7cf53_36
set_option maxHeartbeats 1000000 in
set_option maxRecDepth 100000 in
theorem kJ0_indexOf_0f7a4 (l : Launch) (D : va_G) (ct : Nat → ClassId)  (dt : Nat → Nat) (c : Nat) (hc : c < 128) : MI l yJ0_indexOf_0f7a4 (gWs yJ0_indexOf_0f7a4 cJ0_indexOf_0f7a4 2 (some .int)) rmJ0_indexOf_0f7a4 D ct (stX dt) [.ref (dt 2), .int (nI c)] [] (fun _ : Unit => []) (fun r _ => r = kindC (nI c)) := by
  refine MI.ofI RJ0 rfl (by decide) (Nat.le_of_ble_eq_true rfl) ?_
  intro zp ze zs zm za zb zt zc zA ls zQ C h hX hl hret
  have hx := C.1
  have hb := C.2.1
  have hl : lv_has ls 2 [(0, .ref (dt 2)), (1, .int (nI c))] := hl
  refine lv_aload_n hx hb dJ0_indexOf_0f7a4_0 rfl (lv_at hl 0 rfl) ?_
  refine lv_iload_n hx hb dJ0_indexOf_0f7a4_1 rfl (lv_at hl 1 rfl) ?_
  refine lv_iconst (v := 0) hx hb dJ0_indexOf_0f7a4_2 (by decide) ?_
  refine gJV C h hX (stX_ok dt) (kJ0_indexOf_7cf53 l D ct dt c hc) (cwV 2 C.2.2.2.2 (gInV q264 q265 q266 q67 q267) rfl rfl rfl hvJ0_indexOf_7cf53 ⟨Nat.le_of_ble_eq_true rfl, Nat.le_of_ble_eq_true rfl⟩) (stX_rc hX h.2.2.2.1) rfl hl.1 rfl (Nat.le_of_ble_eq_true rfl) dJ0_indexOf_0f7a4_3 ⟨Nat.zero_le _, Nat.zero_le _⟩ (fun H ll h => ?_)
  have h : gW D ct zA zs _ _ ([]) := h
  exact hret _ () _ _ _ _ h rfl dJ0_indexOf_0f7a4_6
set_option maxHeartbeats 1000000 in
set_option maxRecDepth 100000 in
theorem kJ6_bitCount_0f7a4 (l : Launch) (D : va_G) (ct : Nat → ClassId)  (b : Nat) (hb8 : b < 256) : MI l yJ6_bitCount_0f7a4 (gWs yJ6_bitCount_0f7a4 cJ6_bitCount_0f7a4 1 (some .int)) rmJ6_bitCount_0f7a4 D ct gNo [.int (nI b)] [] (fun _ : Unit => []) (fun r _ => r = nI (pcn b 8)) := by
  refine MI.ofI RJ6 rfl (by decide) (Nat.le_of_ble_eq_true rfl) ?_
  intro zp ze zs zm za zb zt zc zA ls zQ C h hX hl hret
  have hx := C.1
  have hb := C.2.1
  have hl : lv_has ls 1 [(0, .int (nI b))] := hl
  refine lv_iload_n hx hb dJ6_bitCount_0f7a4_0 rfl (lv_at hl 0 rfl) ?_
  refine lv_iload_n hx hb dJ6_bitCount_0f7a4_1 rfl (lv_at hl 0 rfl) ?_
  refine lv_iconst (v := 1) hx hb dJ6_bitCount_0f7a4_2 (by decide) ?_
  refine lv_iushr (v := ((nI b : Int32).toUInt32 >>> ((1 : Int32).toUInt32 &&& Int32.toUInt32 31)).toInt32) hx hb dJ6_bitCount_0f7a4_3 rfl ?_
  refine lv_ldcw (v := 1431655765) hx hb C.2.2.2.1 (C.2.2.2.2 _ (gWs_in q472)) dJ6_bitCount_0f7a4_4 ?_
  refine lv_iand hx hb dJ6_bitCount_0f7a4_7 ?_
  refine lv_isub hx hb dJ6_bitCount_0f7a4_8 ?_
  refine lv_istore_n (lv' := [(0, .int ((nI b) - ((((nI b : Int32).toUInt32 >>> ((1 : Int32).toUInt32 &&& Int32.toUInt32 31)).toInt32) &&& 1431655765)))]) hx hb dJ6_bitCount_0f7a4_9 rfl hl (by decide) rfl (fun ls hl => ?_)
  refine lv_iload_n hx hb dJ6_bitCount_0f7a4_10 rfl (lv_at hl 0 rfl) ?_
  refine lv_ldcw (v := 858993459) hx hb C.2.2.2.1 (C.2.2.2.2 _ (gWs_in q473)) dJ6_bitCount_0f7a4_11 ?_
  refine lv_iand hx hb dJ6_bitCount_0f7a4_14 ?_
  refine lv_iload_n hx hb dJ6_bitCount_0f7a4_15 rfl (lv_at hl 0 rfl) ?_
  refine lv_iconst (v := 2) hx hb dJ6_bitCount_0f7a4_16 (by decide) ?_
  refine lv_iushr (v := (((nI b) - ((((nI b : Int32).toUInt32 >>> ((1 : Int32).toUInt32 &&& Int32.toUInt32 31)).toInt32) &&& 1431655765) : Int32).toUInt32 >>> ((2 : Int32).toUInt32 &&& Int32.toUInt32 31)).toInt32) hx hb dJ6_bitCount_0f7a4_17 rfl ?_
  refine lv_ldcw (v := 858993459) hx hb C.2.2.2.1 (C.2.2.2.2 _ (gWs_in q473)) dJ6_bitCount_0f7a4_18 ?_
  refine lv_iand hx hb dJ6_bitCount_0f7a4_21 ?_
  refine lv_iadd hx hb dJ6_bitCount_0f7a4_22 ?_
  refine lv_istore_n (lv' := [(0, .int ((((nI b) - ((((nI b : Int32).toUInt32 >>> ((1 : Int32).toUInt32 &&& Int32.toUInt32 31)).toInt32) &&& 1431655765)) &&& 858993459) + (((((nI b) - ((((nI b : Int32).toUInt32 >>> ((1 : Int32).toUInt32 &&& Int32.toUInt32 31)).toInt32) &&& 1431655765) : Int32).toUInt32 >>> ((2 : Int32).toUInt32 &&& Int32.toUInt32 31)).toInt32) &&& 858993459)))]) hx hb dJ6_bitCount_0f7a4_23 rfl hl (by decide) rfl (fun ls hl => ?_)
  refine lv_iload_n hx hb dJ6_bitCount_0f7a4_24 rfl (lv_at hl 0 rfl) ?_
  refine lv_iload_n hx hb dJ6_bitCount_0f7a4_25 rfl (lv_at hl 0 rfl) ?_
  refine lv_iconst (v := 4) hx hb dJ6_bitCount_0f7a4_26 (by decide) ?_
  refine lv_iushr (v := (((((nI b) - ((((nI b : Int32).toUInt32 >>> ((1 : Int32).toUInt32 &&& Int32.toUInt32 31)).toInt32) &&& 1431655765)) &&& 858993459) + (((((nI b) - ((((nI b : Int32).toUInt32 >>> ((1 : Int32).toUInt32 &&& Int32.toUInt32 31)).toInt32) &&& 1431655765) : Int32).toUInt32 >>> ((2 : Int32).toUInt32 &&& Int32.toUInt32 31)).toInt32) &&& 858993459) : Int32).toUInt32 >>> ((4 : Int32).toUInt32 &&& Int32.toUInt32 31)).toInt32) hx hb dJ6_bitCount_0f7a4_27 rfl ?_
  refine lv_iadd hx hb dJ6_bitCount_0f7a4_28 ?_
  refine lv_ldcw (v := 252645135) hx hb C.2.2.2.1 (C.2.2.2.2 _ (gWs_in q474)) dJ6_bitCount_0f7a4_29 ?_
  refine lv_iand hx hb dJ6_bitCount_0f7a4_32 ?_
  refine lv_istore_n (lv' := [(0, .int ((((((nI b) - ((((nI b : Int32).toUInt32 >>> ((1 : Int32).toUInt32 &&& Int32.toUInt32 31)).toInt32) &&& 1431655765)) &&& 858993459) + (((((nI b) - ((((nI b : Int32).toUInt32 >>> ((1 : Int32).toUInt32 &&& Int32.toUInt32 31)).toInt32) &&& 1431655765) : Int32).toUInt32 >>> ((2 : Int32).toUInt32 &&& Int32.toUInt32 31)).toInt32) &&& 858993459)) + ((((((nI b) - ((((nI b : Int32).toUInt32 >>> ((1 : Int32).toUInt32 &&& Int32.toUInt32 31)).toInt32) &&& 1431655765)) &&& 858993459) + (((((nI b) - ((((nI b : Int32).toUInt32 >>> ((1 : Int32).toUInt32 &&& Int32.toUInt32 31)).toInt32) &&& 1431655765) : Int32).toUInt32 >>> ((2 : Int32).toUInt32 &&& Int32.toUInt32 31)).toInt32) &&& 858993459) : Int32).toUInt32 >>> ((4 : Int32).toUInt32 &&& Int32.toUInt32 31)).toInt32)) &&& 252645135))]) hx hb dJ6_bitCount_0f7a4_33 rfl hl (by decide) rfl (fun ls hl => ?_)
  refine lv_iload_n hx hb dJ6_bitCount_0f7a4_34 rfl (lv_at hl 0 rfl) ?_
  refine lv_iload_n hx hb dJ6_bitCount_0f7a4_35 rfl (lv_at hl 0 rfl) ?_
  refine lv_bipush (v := 8) hx hb dJ6_bitCount_0f7a4_36 (by decide) ?_
  refine lv_iushr (v := (((((((nI b) - ((((nI b : Int32).toUInt32 >>> ((1 : Int32).toUInt32 &&& Int32.toUInt32 31)).toInt32) &&& 1431655765)) &&& 858993459) + (((((nI b) - ((((nI b : Int32).toUInt32 >>> ((1 : Int32).toUInt32 &&& Int32.toUInt32 31)).toInt32) &&& 1431655765) : Int32).toUInt32 >>> ((2 : Int32).toUInt32 &&& Int32.toUInt32 31)).toInt32) &&& 858993459)) + ((((((nI b) - ((((nI b : Int32).toUInt32 >>> ((1 : Int32).toUInt32 &&& Int32.toUInt32 31)).toInt32) &&& 1431655765)) &&& 858993459) + (((((nI b) - ((((nI b : Int32).toUInt32 >>> ((1 : Int32).toUInt32 &&& Int32.toUInt32 31)).toInt32) &&& 1431655765) : Int32).toUInt32 >>> ((2 : Int32).toUInt32 &&& Int32.toUInt32 31)).toInt32) &&& 858993459) : Int32).toUInt32 >>> ((4 : Int32).toUInt32 &&& Int32.toUInt32 31)).toInt32)) &&& 252645135 : Int32).toUInt32 >>> ((8 : Int32).toUInt32 &&& Int32.toUInt32 31)).toInt32) hx hb dJ6_bitCount_0f7a4_38 rfl ?_
  refine lv_iadd hx hb dJ6_bitCount_0f7a4_39 ?_
  refine lv_istore_n (lv' := [(0, .int (((((((nI b) - ((((nI b : Int32).toUInt32 >>> ((1 : Int32).toUInt32 &&& Int32.toUInt32 31)).toInt32) &&& 1431655765)) &&& 858993459) + (((((nI b) - ((((nI b : Int32).toUInt32 >>> ((1 : Int32).toUInt32 &&& Int32.toUInt32 31)).toInt32) &&& 1431655765) : Int32).toUInt32 >>> ((2 : Int32).toUInt32 &&& Int32.toUInt32 31)).toInt32) &&& 858993459)) + ((((((nI b) - ((((nI b : Int32).toUInt32 >>> ((1 : Int32).toUInt32 &&& Int32.toUInt32 31)).toInt32) &&& 1431655765)) &&& 858993459) + (((((nI b) - ((((nI b : Int32).toUInt32 >>> ((1 : Int32).toUInt32 &&& Int32.toUInt32 31)).toInt32) &&& 1431655765) : Int32).toUInt32 >>> ((2 : Int32).toUInt32 &&& Int32.toUInt32 31)).toInt32) &&& 858993459) : Int32).toUInt32 >>> ((4 : Int32).toUInt32 &&& Int32.toUInt32 31)).toInt32)) &&& 252645135) + ((((((((nI b) - ((((nI b : Int32).toUInt32 >>> ((1 : Int32).toUInt32 &&& Int32.toUInt32 31)).toInt32) &&& 1431655765)) &&& 858993459) + (((((nI b) - ((((nI b : Int32).toUInt32 >>> ((1 : Int32).toUInt32 &&& Int32.toUInt32 31)).toInt32) &&& 1431655765) : Int32).toUInt32 >>> ((2 : Int32).toUInt32 &&& Int32.toUInt32 31)).toInt32) &&& 858993459)) + ((((((nI b) - ((((nI b : Int32).toUInt32 >>> ((1 : Int32).toUInt32 &&& Int32.toUInt32 31)).toInt32) &&& 1431655765)) &&& 858993459) + (((((nI b) - ((((nI b : Int32).toUInt32 >>> ((1 : Int32).toUInt32 &&& Int32.toUInt32 31)).toInt32) &&& 1431655765) : Int32).toUInt32 >>> ((2 : Int32).toUInt32 &&& Int32.toUInt32 31)).toInt32) &&& 858993459) : Int32).toUInt32 >>> ((4 : Int32).toUInt32 &&& Int32.toUInt32 31)).toInt32)) &&& 252645135 : Int32).toUInt32 >>> ((8 : Int32).toUInt32 &&& Int32.toUInt32 31)).toInt32)))]) hx hb dJ6_bitCount_0f7a4_40 rfl hl (by decide) rfl (fun ls hl => ?_)
  refine lv_iload_n hx hb dJ6_bitCount_0f7a4_41 rfl (lv_at hl 0 rfl) ?_
  refine lv_iload_n hx hb dJ6_bitCount_0f7a4_42 rfl (lv_at hl 0 rfl) ?_
  refine lv_bipush (v := 16) hx hb dJ6_bitCount_0f7a4_43 (by decide) ?_
  refine lv_iushr (v := ((((((((nI b) - ((((nI b : Int32).toUInt32 >>> ((1 : Int32).toUInt32 &&& Int32.toUInt32 31)).toInt32) &&& 1431655765)) &&& 858993459) + (((((nI b) - ((((nI b : Int32).toUInt32 >>> ((1 : Int32).toUInt32 &&& Int32.toUInt32 31)).toInt32) &&& 1431655765) : Int32).toUInt32 >>> ((2 : Int32).toUInt32 &&& Int32.toUInt32 31)).toInt32) &&& 858993459)) + ((((((nI b) - ((((nI b : Int32).toUInt32 >>> ((1 : Int32).toUInt32 &&& Int32.toUInt32 31)).toInt32) &&& 1431655765)) &&& 858993459) + (((((nI b) - ((((nI b : Int32).toUInt32 >>> ((1 : Int32).toUInt32 &&& Int32.toUInt32 31)).toInt32) &&& 1431655765) : Int32).toUInt32 >>> ((2 : Int32).toUInt32 &&& Int32.toUInt32 31)).toInt32) &&& 858993459) : Int32).toUInt32 >>> ((4 : Int32).toUInt32 &&& Int32.toUInt32 31)).toInt32)) &&& 252645135) + ((((((((nI b) - ((((nI b : Int32).toUInt32 >>> ((1 : Int32).toUInt32 &&& Int32.toUInt32 31)).toInt32) &&& 1431655765)) &&& 858993459) + (((((nI b) - ((((nI b : Int32).toUInt32 >>> ((1 : Int32).toUInt32 &&& Int32.toUInt32 31)).toInt32) &&& 1431655765) : Int32).toUInt32 >>> ((2 : Int32).toUInt32 &&& Int32.toUInt32 31)).toInt32) &&& 858993459)) + ((((((nI b) - ((((nI b : Int32).toUInt32 >>> ((1 : Int32).toUInt32 &&& Int32.toUInt32 31)).toInt32) &&& 1431655765)) &&& 858993459) + (((((nI b) - ((((nI b : Int32).toUInt32 >>> ((1 : Int32).toUInt32 &&& Int32.toUInt32 31)).toInt32) &&& 1431655765) : Int32).toUInt32 >>> ((2 : Int32).toUInt32 &&& Int32.toUInt32 31)).toInt32) &&& 858993459) : Int32).toUInt32 >>> ((4 : Int32).toUInt32 &&& Int32.toUInt32 31)).toInt32)) &&& 252645135 : Int32).toUInt32 >>> ((8 : Int32).toUInt32 &&& Int32.toUInt32 31)).toInt32) : Int32).toUInt32 >>> ((16 : Int32).toUInt32 &&& Int32.toUInt32 31)).toInt32) hx hb dJ6_bitCount_0f7a4_45 rfl ?_
  refine lv_iadd hx hb dJ6_bitCount_0f7a4_46 ?_
  refine lv_istore_n (lv' := [(0, .int ((((((((nI b) - ((((nI b : Int32).toUInt32 >>> ((1 : Int32).toUInt32 &&& Int32.toUInt32 31)).toInt32) &&& 1431655765)) &&& 858993459) + (((((nI b) - ((((nI b : Int32).toUInt32 >>> ((1 : Int32).toUInt32 &&& Int32.toUInt32 31)).toInt32) &&& 1431655765) : Int32).toUInt32 >>> ((2 : Int32).toUInt32 &&& Int32.toUInt32 31)).toInt32) &&& 858993459)) + ((((((nI b) - ((((nI b : Int32).toUInt32 >>> ((1 : Int32).toUInt32 &&& Int32.toUInt32 31)).toInt32) &&& 1431655765)) &&& 858993459) + (((((nI b) - ((((nI b : Int32).toUInt32 >>> ((1 : Int32).toUInt32 &&& Int32.toUInt32 31)).toInt32) &&& 1431655765) : Int32).toUInt32 >>> ((2 : Int32).toUInt32 &&& Int32.toUInt32 31)).toInt32) &&& 858993459) : Int32).toUInt32 >>> ((4 : Int32).toUInt32 &&& Int32.toUInt32 31)).toInt32)) &&& 252645135) + ((((((((nI b) - ((((nI b : Int32).toUInt32 >>> ((1 : Int32).toUInt32 &&& Int32.toUInt32 31)).toInt32) &&& 1431655765)) &&& 858993459) + (((((nI b) - ((((nI b : Int32).toUInt32 >>> ((1 : Int32).toUInt32 &&& Int32.toUInt32 31)).toInt32) &&& 1431655765) : Int32).toUInt32 >>> ((2 : Int32).toUInt32 &&& Int32.toUInt32 31)).toInt32) &&& 858993459)) + ((((((nI b) - ((((nI b : Int32).toUInt32 >>> ((1 : Int32).toUInt32 &&& Int32.toUInt32 31)).toInt32) &&& 1431655765)) &&& 858993459) + (((((nI b) - ((((nI b : Int32).toUInt32 >>> ((1 : Int32).toUInt32 &&& Int32.toUInt32 31)).toInt32) &&& 1431655765) : Int32).toUInt32 >>> ((2 : Int32).toUInt32 &&& Int32.toUInt32 31)).toInt32) &&& 858993459) : Int32).toUInt32 >>> ((4 : Int32).toUInt32 &&& Int32.toUInt32 31)).toInt32)) &&& 252645135 : Int32).toUInt32 >>> ((8 : Int32).toUInt32 &&& Int32.toUInt32 31)).toInt32)) + (((((((((nI b) - ((((nI b : Int32).toUInt32 >>> ((1 : Int32).toUInt32 &&& Int32.toUInt32 31)).toInt32) &&& 1431655765)) &&& 858993459) + (((((nI b) - ((((nI b : Int32).toUInt32 >>> ((1 : Int32).toUInt32 &&& Int32.toUInt32 31)).toInt32) &&& 1431655765) : Int32).toUInt32 >>> ((2 : Int32).toUInt32 &&& Int32.toUInt32 31)).toInt32) &&& 858993459)) + ((((((nI b) - ((((nI b : Int32).toUInt32 >>> ((1 : Int32).toUInt32 &&& Int32.toUInt32 31)).toInt32) &&& 1431655765)) &&& 858993459) + (((((nI b) - ((((nI b : Int32).toUInt32 >>> ((1 : Int32).toUInt32 &&& Int32.toUInt32 31)).toInt32) &&& 1431655765) : Int32).toUInt32 >>> ((2 : Int32).toUInt32 &&& Int32.toUInt32 31)).toInt32) &&& 858993459) : Int32).toUInt32 >>> ((4 : Int32).toUInt32 &&& Int32.toUInt32 31)).toInt32)) &&& 252645135) + ((((((((nI b) - ((((nI b : Int32).toUInt32 >>> ((1 : Int32).toUInt32 &&& Int32.toUInt32 31)).toInt32) &&& 1431655765)) &&& 858993459) + (((((nI b) - ((((nI b : Int32).toUInt32 >>> ((1 : Int32).toUInt32 &&& Int32.toUInt32 31)).toInt32) &&& 1431655765) : Int32).toUInt32 >>> ((2 : Int32).toUInt32 &&& Int32.toUInt32 31)).toInt32) &&& 858993459)) + ((((((nI b) - ((((nI b : Int32).toUInt32 >>> ((1 : Int32).toUInt32 &&& Int32.toUInt32 31)).toInt32) &&& 1431655765)) &&& 858993459) + (((((nI b) - ((((nI b : Int32).toUInt32 >>> ((1 : Int32).toUInt32 &&& Int32.toUInt32 31)).toInt32) &&& 1431655765) : Int32).toUInt32 >>> ((2 : Int32).toUInt32 &&& Int32.toUInt32 31)).toInt32) &&& 858993459) : Int32).toUInt32 >>> ((4 : Int32).toUInt32 &&& Int32.toUInt32 31)).toInt32)) &&& 252645135 : Int32).toUInt32 >>> ((8 : Int32).toUInt32 &&& Int32.toUInt32 31)).toInt32) : Int32).toUInt32 >>> ((16 : Int32).toUInt32 &&& Int32.toUInt32 31)).toInt32)))]) hx hb dJ6_bitCount_0f7a4_47 rfl hl (by decide) rfl (fun ls hl => ?_)
  refine lv_iload_n hx hb dJ6_bitCount_0f7a4_48 rfl (lv_at hl 0 rfl) ?_
  refine lv_bipush (v := 63) hx hb dJ6_bitCount_0f7a4_49 (by decide) ?_
  refine lv_iand hx hb dJ6_bitCount_0f7a4_51 ?_
  exact hret _ () _ _ _ _ h (bc_all hb8) dJ6_bitCount_0f7a4_52
set_option maxHeartbeats 1000000 in
set_option maxRecDepth 100000 in
theorem kX4_kindAt (l : Launch) (D : va_G) (ct : Nat → ClassId) (a : Nat → Nat) (P : Nat → Nat → Int32) (dt : Nat → Nat) (n : Nat) (pg : Nat → Nat) (hpk : POK P n pg) (m : Nat) (hm : m < 8) : MI l yX4_kindAt (gWs yX4_kindAt cX4_kindAt 2 (some .int)) rmX4_kindAt D ct (stX dt) [.ref (a 0), .int (nI m)] (wP a ct P) (fun _ : Unit => (wP a ct P)) (fun r _ => r = kindC (P 1 (m * 6))) := by
  refine MI.ofI RX4 rfl (by decide) (Nat.le_of_ble_eq_true rfl) ?_
  intro zp ze zs zm za zb zt zc zA ls zQ C h hX hl hret
  have hx := C.1
  have hb := C.2.1
  have hl : lv_has ls 2 [(0, .ref (a 0)), (1, .int (nI m))] := hl
  have hpk0 := hpk
  obtain ⟨hpn, hn50, hpg⟩ := hpk0
  refine va_ldcS C.1 C.2.1 C.2.2.2.1 (stX_r4 hX) dX4_kindAt_0 ?_
  refine lv_aload_n hx hb dX4_kindAt_2 rfl (lv_at hl 0 rfl) ?_
  refine gget C h igX4 0 rfl rfl 0 (by decide) q89 rfl rfl dX4_kindAt_3 ?_
  refine lv_iload_n hx hb dX4_kindAt_6 rfl (lv_at hl 1 rfl) ?_
  refine lv_bipush (v := 6) hx hb dX4_kindAt_7 (by decide) ?_
  refine nmul hx hb m 6 dX4_kindAt_9 ?_
  refine gild C h 1 rfl (j := m * 6) (by omega) (by decide) dX4_kindAt_10 ?_
  refine gas (z := P 1 (m * 6)) rfl ?_
  refine gas (hpg _ (by omega)).1 ?_
  refine lv_i2c (v := nI (pg (m * 6))) hx hb dX4_kindAt_11 (i2cN (by have := (hpg (m * 6) (by omega)).2; omega)) ?_
  refine gJV C h hX (stX_ok dt) (kJ0_indexOf_0f7a4 l D ct dt (pg (m * 6)) (by have := (hpg _ (show (m * 6) < 50 by omega)).2; omega)) (cwV 1 C.2.2.2.2 (gInV q260 q261 q262 q67 q263) rfl rfl rfl hvJ0_indexOf_0f7a4 ⟨Nat.le_of_ble_eq_true rfl, Nat.le_of_ble_eq_true rfl⟩) (stX_rc hX h.2.2.2.1) rfl hl.1 rfl (Nat.le_of_ble_eq_true rfl) dX4_kindAt_12 ⟨Nat.zero_le _, Nat.zero_le _⟩ (fun H ll h => ?_)
  have h : gW D ct zA zs _ _ (wP a ct P) := h
  exact hret _ () _ _ _ _ h (by rw [(hpg (m * 6) (by omega)).1]) dX4_kindAt_15
set_option maxHeartbeats 1000000 in
set_option maxRecDepth 100000 in
theorem kX4_weightAt (l : Launch) (D : va_G) (ct : Nat → ClassId) (a : Nat → Nat) (P : Nat → Nat → Int32) (dt : Nat → Nat) (n : Nat) (pg : Nat → Nat) (hpk : POK P n pg) (m : Nat) (hm : m < 8) : MI l yX4_weightAt (gWs yX4_weightAt cX4_weightAt 2 (some .int)) rmX4_weightAt D ct (stX dt) [.ref (a 0), .int (nI m)] (wP a ct P) (fun _ : Unit => (wP a ct P)) (fun r _ => r = P 1 (m * 6 + 1) - 48) := by
  refine MI.ofI RX4 rfl (by decide) (Nat.le_of_ble_eq_true rfl) ?_
  intro zp ze zs zm za zb zt zc zA ls zQ C h hX hl hret
  have hx := C.1
  have hb := C.2.1
  have hl : lv_has ls 2 [(0, .ref (a 0)), (1, .int (nI m))] := hl
  have hpk0 := hpk
  obtain ⟨hpn, hn50, hpg⟩ := hpk0
  refine lv_aload_n hx hb dX4_weightAt_0 rfl (lv_at hl 0 rfl) ?_
  refine gget C h igX4 0 rfl rfl 0 (by decide) q89 rfl rfl dX4_weightAt_1 ?_
  refine lv_iload_n hx hb dX4_weightAt_4 rfl (lv_at hl 1 rfl) ?_
  refine lv_bipush (v := 6) hx hb dX4_weightAt_5 (by decide) ?_
  refine nmul hx hb m 6 dX4_weightAt_7 ?_
  refine lv_iconst (v := 1) hx hb dX4_weightAt_8 (by decide) ?_
  refine nadd hx hb (m * 6) 1 dX4_weightAt_9 ?_
  refine gild C h 1 rfl (j := (m * 6) + 1) (by omega) (by decide) dX4_weightAt_10 ?_
  refine gas (z := P 1 ((m * 6) + 1)) rfl ?_
  refine lv_bipush (v := 48) hx hb dX4_weightAt_11 (by decide) ?_
  refine lv_isub hx hb dX4_weightAt_13 ?_
  exact hret _ () _ _ _ _ h rfl dX4_weightAt_14
set_option maxHeartbeats 1000000 in
set_option maxRecDepth 100000 in
theorem kX4_leanAt (l : Launch) (D : va_G) (ct : Nat → ClassId) (a : Nat → Nat) (P : Nat → Nat → Int32) (dt : Nat → Nat) (n : Nat) (pg : Nat → Nat) (hpk : POK P n pg) (m q : Nat) (hm : m < 8) (hq : q < 3) : MI l yX4_leanAt (gWs yX4_leanAt cX4_leanAt 4 (some .int)) rmX4_leanAt D ct (stX dt) [.ref (a 0), .int (nI m), .int (nI q)] (wP a ct P) (fun _ : Unit => (wP a ct P)) (fun r _ => r = lnC (P 1 (m * 6 + 2 + q))) := by
  refine MI.ofI RX4 rfl (by decide) (Nat.le_of_ble_eq_true rfl) ?_
  intro zp ze zs zm za zb zt zc zA ls zQ C h hX hl hret
  have hx := C.1
  have hb := C.2.1
  have hl : lv_has ls 4 [(0, .ref (a 0)), (1, .int (nI m)), (2, .int (nI q))] := hl
  have hpk0 := hpk
  obtain ⟨hpn, hn50, hpg⟩ := hpk0
  refine lv_aload_n hx hb dX4_leanAt_0 rfl (lv_at hl 0 rfl) ?_
  refine gget C h igX4 0 rfl rfl 0 (by decide) q89 rfl rfl dX4_leanAt_1 ?_
  refine lv_iload_n hx hb dX4_leanAt_4 rfl (lv_at hl 1 rfl) ?_
  refine lv_bipush (v := 6) hx hb dX4_leanAt_5 (by decide) ?_
  refine nmul hx hb m 6 dX4_leanAt_7 ?_
  refine lv_iconst (v := 2) hx hb dX4_leanAt_8 (by decide) ?_
  refine nadd hx hb (m * 6) 2 dX4_leanAt_9 ?_
  refine lv_iload_n hx hb dX4_leanAt_10 rfl (lv_at hl 2 rfl) ?_
  refine nadd hx hb ((m * 6) + 2) q dX4_leanAt_11 ?_
  refine gild C h 1 rfl (j := ((m * 6) + 2) + q) (by omega) (by decide) dX4_leanAt_12 ?_
  refine gas (z := P 1 (((m * 6) + 2) + q)) rfl ?_
  refine lv_istore_n (lv' := [(3, .int (P 1 (((m * 6) + 2) + q))), (0, .ref (a 0)), (1, .int (nI m)), (2, .int (nI q))]) hx hb dX4_leanAt_13 rfl hl (by decide) rfl (fun ls hl => ?_)
  refine lv_iload_n hx hb dX4_leanAt_14 rfl (lv_at hl 0 rfl) ?_
  refine lv_bipush (v := 43) hx hb dX4_leanAt_15 (by decide) ?_
  refine lv_icmp_ne (tgt := 22) hx hb dX4_leanAt_17 (by decide) (fun c_17 => ?_) (fun c_17 => ?_)
  · refine lv_iload_n hx hb dX4_leanAt_22 rfl (lv_at hl 0 rfl) ?_
    refine lv_bipush (v := 45) hx hb dX4_leanAt_23 (by decide) ?_
    refine lv_icmp_ne (tgt := 32) hx hb dX4_leanAt_25 (by decide) (fun c_25 => ?_) (fun c_25 => ?_)
    · refine lv_iconst (v := 0) hx hb dX4_leanAt_32 (by decide) ?_
      exact hret _ () _ _ _ _ h (by unfold lnC; first | rw [if_pos c_17] | rw [if_neg c_17, if_pos c_25] | rw [if_neg c_17, if_neg c_25]) dX4_leanAt_33
    · refine lv_iconst (v := -1) hx hb dX4_leanAt_28 (by decide) ?_
      refine lv_goto (tgt := 33) hx hb dX4_leanAt_29 (by decide) ?_
      exact hret _ () _ _ _ _ h (by unfold lnC; first | rw [if_pos c_17] | rw [if_neg c_17, if_pos c_25] | rw [if_neg c_17, if_neg c_25]) dX4_leanAt_33
  · refine lv_iconst (v := 1) hx hb dX4_leanAt_20 (by decide) ?_
    exact hret _ () _ _ _ _ h (by unfold lnC; first | rw [if_pos c_17] | rw [if_neg c_17, if_pos c_25] | rw [if_neg c_17, if_neg c_25]) dX4_leanAt_21
set_option maxHeartbeats 1000000 in
set_option maxRecDepth 100000 in
theorem kX4_fitsAt (l : Launch) (D : va_G) (ct : Nat → ClassId) (a : Nat → Nat) (P : Nat → Nat → Int32) (dt : Nat → Nat) (n : Nat) (pg : Nat → Nat) (hpk : POK P n pg) (j : Nat) (hj : j < 50) : MI l yX4_fitsAt (gWs yX4_fitsAt cX4_fitsAt 3 (some .boolean)) rmX4_fitsAt D ct (stX dt) [.ref (a 0), .int (nI j)] (wP a ct P) (fun _ : Unit => (wP a ct P)) (fun r _ => r = (if fitX (P 1) j = true then 1 else 0)) := by
  refine MI.ofZ RX4 rfl (by decide) (Nat.le_of_ble_eq_true rfl) ?_
  intro zp ze zs zm za zb zt zc zA ls zQ C h hX hl hret
  have hx := C.1
  have hb := C.2.1
  have hl : lv_has ls 3 [(0, .ref (a 0)), (1, .int (nI j))] := hl
  have hpk0 := hpk
  obtain ⟨hpn, hn50, hpg⟩ := hpk0
  refine lv_iload_n hx hb dX4_fitsAt_0 rfl (lv_at hl 1 rfl) ?_
  refine lv_bipush (v := 47) hx hb dX4_fitsAt_1 (by decide) ?_
  refine nb_lt hx hb j 47 (by omega) (by omega) (tgt := 8) dX4_fitsAt_3 (by decide) (fun c_3 => ?_) (fun c_3 => ?_)
  · refine lv_aload_n hx hb dX4_fitsAt_8 rfl (lv_at hl 0 rfl) ?_
    refine gget C h igX4 0 rfl rfl 0 (by decide) q89 rfl rfl dX4_fitsAt_9 ?_
    refine lv_iload_n hx hb dX4_fitsAt_12 rfl (lv_at hl 1 rfl) ?_
    refine gild C h 1 rfl (j := j) (by omega) (by decide) dX4_fitsAt_13 ?_
    refine gas (z := P 1 j) rfl ?_
    refine lv_istore_n (lv' := [(2, .int (P 1 j)), (0, .ref (a 0)), (1, .int (nI j))]) hx hb dX4_fitsAt_14 rfl hl (by decide) rfl (fun ls hl => ?_)
    refine lv_iload_n hx hb dX4_fitsAt_15 rfl (lv_at hl 2 rfl) ?_
    refine lv_bipush (v := 6) hx hb dX4_fitsAt_16 (by decide) ?_
    refine nrem hx hb j 6 (by omega) (by omega) (by omega) dX4_fitsAt_18 ?_
    by_cases w_0 : nI (j % 6) = 0
    · refine gas w_0 ?_
      refine lv_lookup (tgt := 52) (off := 33) hx hb dX4_fitsAt_19 (by decide) (by decide) (by decide) ?_
      have g47 : j < 47 := by omega
      have g0 : j % 6 = 0 := nI6 (Nat.mod_lt _ (by decide)) (by decide) (show nI (j % 6) = nI 0 from w_0)
      refine va_ldcS C.1 C.2.1 C.2.2.2.1 (stX_r4 hX) dX4_fitsAt_52 ?_
      refine lv_iload_n hx hb dX4_fitsAt_54 rfl (lv_at hl 0 rfl) ?_
      refine gas (hpg j (by omega)).1 ?_
      refine lv_i2c (v := nI (pg j)) hx hb dX4_fitsAt_55 (i2cN (by have := (hpg j (by omega)).2; omega)) ?_
      refine gJV C h hX (stX_ok dt) (kJ0_indexOf_0f7a4 l D ct dt (pg j) (by have := (hpg _ (show j < 50 by omega)).2; omega)) (cwV 1 C.2.2.2.2 (gInV q260 q261 q262 q67 q263) rfl rfl rfl hvJ0_indexOf_0f7a4 ⟨Nat.le_of_ble_eq_true rfl, Nat.le_of_ble_eq_true rfl⟩) (stX_rc hX h.2.2.2.1) rfl hl.1 rfl (Nat.le_of_ble_eq_true rfl) dX4_fitsAt_56 ⟨Nat.zero_le _, Nat.zero_le _⟩ (fun H ll h => ?_)
      have h : gW D ct zA zs _ _ (wP a ct P) := h
      refine gas (z := kindC (P 1 j)) (by rw [(hpg j (by omega)).1]) ?_
      refine lv_if_lt (tgt := 66) hx hb dX4_fitsAt_59 (by decide) (fun c_59 => ?_) (fun c_59 => ?_)
      · refine lv_iconst (v := 0) hx hb dX4_fitsAt_66 (by decide) ?_
        exact hret _ () _ _ _ _ h (by simp [fitX, g47, c_59, g0]) dX4_fitsAt_67 (by decide)
      · refine lv_iconst (v := 1) hx hb dX4_fitsAt_62 (by decide) ?_
        refine lv_goto (tgt := 67) hx hb dX4_fitsAt_63 (by decide) ?_
        exact hret _ () _ _ _ _ h (by simp [fitX, g47, c_59, g0]) dX4_fitsAt_67 (by decide)
    by_cases w_1 : nI (j % 6) = 1
    · refine gas w_1 ?_
      refine lv_lookup (tgt := 68) (off := 49) hx hb dX4_fitsAt_19 (by decide) (by decide) (by decide) ?_
      have g47 : j < 47 := by omega
      have g1 : j % 6 = 1 := nI6 (Nat.mod_lt _ (by decide)) (by decide) (show nI (j % 6) = nI 1 from w_1)
      refine lv_iload_n hx hb dX4_fitsAt_68 rfl (lv_at hl 0 rfl) ?_
      refine lv_bipush (v := 49) hx hb dX4_fitsAt_69 (by decide) ?_
      refine lv_icmp_lt (tgt := 84) hx hb dX4_fitsAt_71 (by decide) (fun c_71 => ?_) (fun c_71 => ?_)
      · refine lv_iconst (v := 0) hx hb dX4_fitsAt_84 (by decide) ?_
        exact hret _ () _ _ _ _ h (by simp [fitX, g47, c_71, g1]) dX4_fitsAt_85 (by decide)
      · refine lv_iload_n hx hb dX4_fitsAt_74 rfl (lv_at hl 0 rfl) ?_
        refine lv_bipush (v := 57) hx hb dX4_fitsAt_75 (by decide) ?_
        refine lv_icmp_gt (tgt := 84) hx hb dX4_fitsAt_77 (by decide) (fun c_77 => ?_) (fun c_77 => ?_)
        · refine lv_iconst (v := 0) hx hb dX4_fitsAt_84 (by decide) ?_
          exact hret _ () _ _ _ _ h (by simp [fitX, g47, c_71, c_77, g1]) dX4_fitsAt_85 (by decide)
        · refine lv_iconst (v := 1) hx hb dX4_fitsAt_80 (by decide) ?_
          refine lv_goto (tgt := 85) hx hb dX4_fitsAt_81 (by decide) ?_
          exact hret _ () _ _ _ _ h (by simp [fitX, g47, c_71, c_77, g1]) dX4_fitsAt_85 (by decide)
    by_cases w_5 : nI (j % 6) = 5
    · refine gas w_5 ?_
      refine lv_lookup (tgt := 86) (off := 67) hx hb dX4_fitsAt_19 (by decide) (by decide) (by decide) ?_
      have g47 : j < 47 := by omega
      have g5 : j % 6 = 5 := nI6 (Nat.mod_lt _ (by decide)) (by decide) (show nI (j % 6) = nI 5 from w_5)
      refine lv_iload_n hx hb dX4_fitsAt_86 rfl (lv_at hl 0 rfl) ?_
      refine lv_bipush (v := 44) hx hb dX4_fitsAt_87 (by decide) ?_
      refine lv_icmp_ne (tgt := 96) hx hb dX4_fitsAt_89 (by decide) (fun c_89 => ?_) (fun c_89 => ?_)
      · refine lv_iconst (v := 0) hx hb dX4_fitsAt_96 (by decide) ?_
        exact hret _ () _ _ _ _ h (by simp [fitX, g47, c_89, g5]) dX4_fitsAt_97 (by decide)
      · refine lv_iconst (v := 1) hx hb dX4_fitsAt_92 (by decide) ?_
        refine lv_goto (tgt := 97) hx hb dX4_fitsAt_93 (by decide) ?_
        exact hret _ () _ _ _ _ h (by simp [fitX, g47, c_89, g5]) dX4_fitsAt_97 (by decide)
    have t_0 : ¬ (0 : Int) = (nI (j % 6)).toInt := fun q => w_0 (Int32.toInt_inj.mp q.symm)
    have t_1 : ¬ (1 : Int) = (nI (j % 6)).toInt := fun q => w_1 (Int32.toInt_inj.mp q.symm)
    have t_5 : ¬ (5 : Int) = (nI (j % 6)).toInt := fun q => w_5 (Int32.toInt_inj.mp q.symm)
    refine lv_lookup (tgt := 98) (off := 79) hx hb dX4_fitsAt_19 (by decide) (by show Op.lookupswitch.offset [(0, 33), (1, 49), (5, 67)] (79) (nI (j % 6)).toInt = 79; simp [Op.lookupswitch.offset, t_0, t_1, t_5]) (by decide) ?_
    have g47 : j < 47 := by omega
    have g0 : ¬ j % 6 = 0 := fun q9 => w_0 (by rw [q9]; rfl)
    have g1 : ¬ j % 6 = 1 := fun q9 => w_1 (by rw [q9]; rfl)
    have g5 : ¬ j % 6 = 5 := fun q9 => w_5 (by rw [q9]; rfl)
    refine lv_iload_n hx hb dX4_fitsAt_98 rfl (lv_at hl 0 rfl) ?_
    refine lv_bipush (v := 43) hx hb dX4_fitsAt_99 (by decide) ?_
    refine lv_icmp_eq (tgt := 116) hx hb dX4_fitsAt_101 (by decide) (fun c_101 => ?_) (fun c_101 => ?_)
    · refine lv_iconst (v := 1) hx hb dX4_fitsAt_116 (by decide) ?_
      refine lv_goto (tgt := 121) hx hb dX4_fitsAt_117 (by decide) ?_
      exact hret _ () _ _ _ _ h (by simp [fitX, g47, c_101, g0, g1, g5]) dX4_fitsAt_121 (by decide)
    · refine lv_iload_n hx hb dX4_fitsAt_104 rfl (lv_at hl 0 rfl) ?_
      refine lv_bipush (v := 45) hx hb dX4_fitsAt_105 (by decide) ?_
      refine lv_icmp_eq (tgt := 116) hx hb dX4_fitsAt_107 (by decide) (fun c_107 => ?_) (fun c_107 => ?_)
      · refine lv_iconst (v := 1) hx hb dX4_fitsAt_116 (by decide) ?_
        refine lv_goto (tgt := 121) hx hb dX4_fitsAt_117 (by decide) ?_
        exact hret _ () _ _ _ _ h (by simp [fitX, g47, c_101, c_107, g0, g1, g5]) dX4_fitsAt_121 (by decide)
      · refine lv_iload_n hx hb dX4_fitsAt_110 rfl (lv_at hl 0 rfl) ?_
        refine lv_bipush (v := 48) hx hb dX4_fitsAt_111 (by decide) ?_
        refine lv_icmp_ne (tgt := 120) hx hb dX4_fitsAt_113 (by decide) (fun c_113 => ?_) (fun c_113 => ?_)
        · refine lv_iconst (v := 0) hx hb dX4_fitsAt_120 (by decide) ?_
          exact hret _ () _ _ _ _ h (by simp [fitX, g47, c_101, c_107, c_113, g0, g1, g5]) dX4_fitsAt_121 (by decide)
        · refine lv_iconst (v := 1) hx hb dX4_fitsAt_116 (by decide) ?_
          refine lv_goto (tgt := 121) hx hb dX4_fitsAt_117 (by decide) ?_
          exact hret _ () _ _ _ _ h (by simp [fitX, g47, c_101, c_107, c_113, g0, g1, g5]) dX4_fitsAt_121 (by decide)
  · refine lv_iconst (v := 0) hx hb dX4_fitsAt_6 (by decide) ?_
    exact hret _ () _ _ _ _ h (by rw [if_neg (by simp [fitX]; omega)]) dX4_fitsAt_7 (by decide)
set_option maxHeartbeats 1000000 in
set_option maxRecDepth 100000 in
theorem kX4_firstFault (l : Launch) (D : va_G) (ct : Nat → ClassId) (a : Nat → Nat) (P : Nat → Nat → Int32) (dt : Nat → Nat) (n : Nat) (pg : Nat → Nat) (hpk : POK P n pg)  : MI l yX4_firstFault (gWs yX4_firstFault cX4_firstFault 2 (some .int)) rmX4_firstFault D ct (stX dt) [.ref (a 0)] (wP a ct P) (fun _ : Unit => (wP a ct P)) (fun r _ => r = nI (ffe (fun j => !fitX (P 1) j) n 0)) := by
  refine MI.ofI RX4 rfl (by decide) (Nat.le_of_ble_eq_true rfl) ?_
  intro zp ze zs zm za zb zt zc zA ls zQ C h hX hl hret
  have hx := C.1
  have hb := C.2.1
  have hl : lv_has ls 2 [(0, .ref (a 0))] := hl
  have hpk0 := hpk
  obtain ⟨hpn, hn50, hpg⟩ := hpk0
  refine lv_iconst (v := 0) hx hb dX4_firstFault_0 (by decide) ?_
  refine lv_istore_n (lv' := [(1, .int 0), (0, .ref (a 0))]) hx hb dX4_firstFault_1 rfl hl (by decide) rfl (fun ls hl => ?_)
  have L2_0 : ∀ (kk : Nat) (i : Nat) (H : Heap) (ll : List Loc) (ls : Array Slot), n - i = kk → (i ≤ n) → (ffe (fun j => !fitX (P 1) j) n 0 = ffe (fun j => !fitX (P 1) j) (n - i) i) → gW D ct zA zs H ll (wP a ct P) → lv_has ls 2 [(1, .int (nI i)), (0, .ref (a 0))] → W zp l ze rmX4_firstFault zs zm za zb zt zc H ll 0 0 zQ (F0 zm 2 ls []) := by
    intro kk2
    induction kk2 using Nat.strongRecOn with
    | _ kk2 ih2 =>
    intro i H ll ls hk2 hi hf h hl
    refine lv_iload_n hx hb dX4_firstFault_2 rfl (lv_at hl 0 rfl) ?_
    refine lv_aload_n hx hb dX4_firstFault_3 rfl (lv_at hl 1 rfl) ?_
    refine gget C h igX4 0 rfl rfl 1 (by decide) q91 rfl rfl dX4_firstFault_4 ?_
    refine gas hpn ?_
    refine nb_ge hx hb i n (by omega) (by omega) (tgt := 24) dX4_firstFault_7 (by decide) (fun c_7 => ?_) (fun c_7 => ?_)
    · refine lv_iload_n hx hb dX4_firstFault_24 rfl (lv_at hl 0 rfl) ?_
      exact hret _ () _ _ _ _ h (by rw [hf]; first | (rw [show n - i = 0 by omega]; rfl) | (rw [show n - i = (n - (i + 1)) + 1 by omega]; exact congrArg nI (if_pos (by simp [ffy c_15])).symm)) dX4_firstFault_25
    · refine lv_aload_n hx hb dX4_firstFault_10 rfl (lv_at hl 1 rfl) ?_
      refine lv_iload_n hx hb dX4_firstFault_11 rfl (lv_at hl 0 rfl) ?_
      refine gcallVi C h hX (stX_ok _) (kX4_fitsAt l D ct a P dt n pg hpk i (by omega)) (cwV 1 C.2.2.2.2 (gInV q255 q257 q0 q58 q258) rfl rfl rfl hvX4_fitsAt ⟨Nat.le_of_ble_eq_true rfl, Nat.le_of_ble_eq_true rfl⟩) 0 rfl rfl rfl rfl hl.1 rfl (Nat.le_of_ble_eq_true rfl) dX4_firstFault_12 ⟨Nat.zero_le _, Nat.zero_le _⟩ (fun r9 u9 H ll hw h => ?_)
      have hw : r9 = (if fitX (P 1) i = true then 1 else 0) := hw
      subst hw
      have h : gW D ct zA zs _ _ (wP a ct P) := h
      refine bz_eq hx hb (fitX (P 1) i = true) (tgt := 24) dX4_firstFault_15 (by decide) (fun c_15 => ?_) (fun c_15 => ?_)
      · refine lv_iload_n hx hb dX4_firstFault_24 rfl (lv_at hl 0 rfl) ?_
        exact hret _ () _ _ _ _ h (by rw [hf]; first | (rw [show n - i = 0 by omega]; rfl) | (rw [show n - i = (n - (i + 1)) + 1 by omega]; exact congrArg nI (if_pos (by simp [ffy c_15])).symm)) dX4_firstFault_25
      · refine ninc (lv' := [(1, .int (nI (i + 1))), (0, .ref (a 0))]) hx hb i 1 dX4_firstFault_18 hl (k := 0) rfl (by decide) rfl (fun ls hl => ?_)
        refine lv_goto (tgt := 2) hx hb dX4_firstFault_21 (by decide) ?_
        exact ih2 _ (by omega) (i + 1) _ _ _ rfl (by omega) (by rw [hf, show n - i = (n - (i + 1)) + 1 by omega]; exact if_neg (by simp [c_15])) h (lv_sub hl [0, 1] rfl)
  exact L2_0 _ 0 _ _ _ rfl (by omega) rfl h (lv_sub hl [0, 1] rfl)
set_option maxHeartbeats 1000000 in
set_option maxRecDepth 100000 in
theorem kX4_readsAsRope (l : Launch) (D : va_G) (ct : Nat → ClassId) (a : Nat → Nat) (P : Nat → Nat → Int32) (dt : Nat → Nat) (n : Nat) (pg : Nat → Nat) (hpk : POK P n pg)  : MI l yX4_readsAsRope (gWs yX4_readsAsRope cX4_readsAsRope 2 (some .boolean)) rmX4_readsAsRope D ct (stX dt) [.ref (a 0)] (wP a ct P) (fun _ : Unit => (wP a ct P)) (fun r _ => r = (if 11 ≤ n ∧ n % 6 = 5 ∧ ffe (fun j => !fitX (P 1) j) n 0 = n then 1 else 0)) := by
  refine MI.ofZ RX4 rfl (by decide) (Nat.le_of_ble_eq_true rfl) ?_
  intro zp ze zs zm za zb zt zc zA ls zQ C h hX hl hret
  have hx := C.1
  have hb := C.2.1
  have hl : lv_has ls 2 [(0, .ref (a 0))] := hl
  have hpk0 := hpk
  obtain ⟨hpn, hn50, hpg⟩ := hpk0
  refine lv_aload_n hx hb dX4_readsAsRope_0 rfl (lv_at hl 0 rfl) ?_
  refine gget C h igX4 0 rfl rfl 1 (by decide) q91 rfl rfl dX4_readsAsRope_1 ?_
  refine gas hpn ?_
  refine lv_bipush (v := 6) hx hb dX4_readsAsRope_4 (by decide) ?_
  refine nrem hx hb n 6 (by omega) (by omega) (by omega) dX4_readsAsRope_6 ?_
  refine lv_iconst (v := 5) hx hb dX4_readsAsRope_7 (by decide) ?_
  refine nb_ne hx hb (n % 6) 5 (by omega) (by omega) (tgt := 15) dX4_readsAsRope_8 (by decide) (fun c_8 => ?_) (fun c_8 => ?_)
  · refine lv_iconst (v := 0) hx hb dX4_readsAsRope_15 (by decide) ?_
    refine lv_istore_n (lv' := [(1, .int 0), (0, .ref (a 0))]) hx hb dX4_readsAsRope_16 rfl hl (by decide) rfl (fun ls hl => ?_)
    refine lv_aload_n hx hb dX4_readsAsRope_17 rfl (lv_at hl 1 rfl) ?_
    refine gget C h igX4 0 rfl rfl 1 (by decide) q91 rfl rfl dX4_readsAsRope_18 ?_
    refine gas hpn ?_
    refine lv_bipush (v := 11) hx hb dX4_readsAsRope_21 (by decide) ?_
    refine nb_lt hx hb n 11 (by omega) (by omega) (tgt := 45) dX4_readsAsRope_23 (by decide) (fun c_23 => ?_) (fun c_23 => ?_)
    · refine lv_iconst (v := 0) hx hb dX4_readsAsRope_45 (by decide) ?_
      exact hret _ () _ _ _ _ h (by first | rw [if_pos ⟨by omega, by omega, by omega⟩] | rw [if_neg (by omega)] | rw [if_neg (fun q9 => c_38 (by omega))]) dX4_readsAsRope_46 (by decide)
    · refine lv_iload_n hx hb dX4_readsAsRope_26 rfl (lv_at hl 0 rfl) ?_
      refine lv_if_eq (tgt := 45) hx hb dX4_readsAsRope_27 (by decide) (fun _ => ?_) (fun q => absurd (by decide) q)
      refine lv_iconst (v := 0) hx hb dX4_readsAsRope_45 (by decide) ?_
      exact hret _ () _ _ _ _ h (by first | rw [if_pos ⟨by omega, by omega, by omega⟩] | rw [if_neg (by omega)] | rw [if_neg (fun q9 => c_38 (by omega))]) dX4_readsAsRope_46 (by decide)
  · refine lv_iconst (v := 1) hx hb dX4_readsAsRope_11 (by decide) ?_
    refine lv_goto (tgt := 16) hx hb dX4_readsAsRope_12 (by decide) ?_
    refine lv_istore_n (lv' := [(1, .int 1), (0, .ref (a 0))]) hx hb dX4_readsAsRope_16 rfl hl (by decide) rfl (fun ls hl => ?_)
    refine lv_aload_n hx hb dX4_readsAsRope_17 rfl (lv_at hl 1 rfl) ?_
    refine gget C h igX4 0 rfl rfl 1 (by decide) q91 rfl rfl dX4_readsAsRope_18 ?_
    refine gas hpn ?_
    refine lv_bipush (v := 11) hx hb dX4_readsAsRope_21 (by decide) ?_
    refine nb_lt hx hb n 11 (by omega) (by omega) (tgt := 45) dX4_readsAsRope_23 (by decide) (fun c_23 => ?_) (fun c_23 => ?_)
    · refine lv_iconst (v := 0) hx hb dX4_readsAsRope_45 (by decide) ?_
      exact hret _ () _ _ _ _ h (by first | rw [if_pos ⟨by omega, by omega, by omega⟩] | rw [if_neg (by omega)] | rw [if_neg (fun q9 => c_38 (by omega))]) dX4_readsAsRope_46 (by decide)
    · refine lv_iload_n hx hb dX4_readsAsRope_26 rfl (lv_at hl 0 rfl) ?_
      refine lv_if_eq (tgt := 45) hx hb dX4_readsAsRope_27 (by decide) (fun q => absurd q (by decide)) (fun _ => ?_)
      refine lv_aload_n hx hb dX4_readsAsRope_30 rfl (lv_at hl 1 rfl) ?_
      refine gcallVi C h hX (stX_ok _) (kX4_firstFault l D ct a P dt n pg hpk) (cwV 0 C.2.2.2.2 (gInV q355 q252 q253 q58 q254) rfl rfl rfl hvX4_firstFault ⟨Nat.le_of_ble_eq_true rfl, Nat.le_of_ble_eq_true rfl⟩) 0 rfl rfl rfl rfl hl.1 rfl (Nat.le_of_ble_eq_true rfl) dX4_readsAsRope_31 ⟨Nat.zero_le _, Nat.zero_le _⟩ (fun r9 u9 H ll hw h => ?_)
      have hw : r9 = nI (ffe (fun j => !fitX (P 1) j) n 0) := hw
      subst hw
      have h : gW D ct zA zs _ _ (wP a ct P) := h
      refine lv_aload_n hx hb dX4_readsAsRope_34 rfl (lv_at hl 1 rfl) ?_
      refine gget C h igX4 0 rfl rfl 1 (by decide) q91 rfl rfl dX4_readsAsRope_35 ?_
      refine gas hpn ?_
      refine nb_ne hx hb (ffe (fun j => !fitX (P 1) j) n 0) n (by have := ffe_le (fun j => !fitX (P 1) j) n 0; omega) (by omega) (tgt := 45) dX4_readsAsRope_38 (by decide) (fun c_38 => ?_) (fun c_38 => ?_)
      · refine lv_iconst (v := 0) hx hb dX4_readsAsRope_45 (by decide) ?_
        exact hret _ () _ _ _ _ h (by first | rw [if_pos ⟨by omega, by omega, by omega⟩] | rw [if_neg (by omega)] | rw [if_neg (fun q9 => c_38 (by omega))]) dX4_readsAsRope_46 (by decide)
      · refine lv_iconst (v := 1) hx hb dX4_readsAsRope_41 (by decide) ?_
        refine lv_goto (tgt := 46) hx hb dX4_readsAsRope_42 (by decide) ?_
        exact hret _ () _ _ _ _ h (by first | rw [if_pos ⟨by omega, by omega, by omega⟩] | rw [if_neg (by omega)] | rw [if_neg (fun q9 => c_38 (by omega))]) dX4_readsAsRope_46 (by decide)
set_option maxHeartbeats 1000000 in
set_option maxRecDepth 100000 in
theorem kX6_clearAll (l : Launch) (D : va_G) (ct : Nat → ClassId) (a : Nat → Nat) (S L : Nat → Nat → Int32)  : MV l yX6_clearAll (gWs yX6_clearAll cX6_clearAll 3 none) rmX6_clearAll D ct gNo [.ref (a 0)] (wS a ct S L) (fun u : (Nat → Nat → Int32) × (Nat → Nat → Int32) => wS a ct u.1 u.2) (fun u => u = (clS S, zz)) := by
  refine MV.of RX6 rfl (by decide) (Nat.le_of_ble_eq_true rfl) ?_
  intro zp ze zs zm za zb zt zc zA ls zQ C h hX hl hret
  have hx := C.1
  have hb := C.2.1
  have hl : lv_has ls 3 [(0, .ref (a 0))] := hl
  refine lv_iconst (v := 0) hx hb dX6_clearAll_0 (by decide) ?_
  refine lv_istore_n (lv' := [(1, .int 0), (0, .ref (a 0))]) hx hb dX6_clearAll_1 rfl hl (by decide) rfl (fun ls hl => ?_)
  have L2_0 : ∀ (kk : Nat) (i : Nat) (f1 : Nat → Int32) (f6 : Nat → Int32) (L2 : Nat → Nat → Int32) (H : Heap) (ll : List Loc) (ls : Array Slot), 8 - i = kk → (i ≤ 8) → (∀ j, j < i → f1 j = z0 j) → (∀ j, j < i → f6 j = z0 j) → (∀ q, q < 3 → ∀ j, j < i → L2 q j = z0 j) → gW D ct zA zs H ll (wS a ct (va_up (va_up S 1 f1) 6 f6) L2) → lv_has ls 3 [(1, .int (nI i)), (0, .ref (a 0))] → W zp l ze rmX6_clearAll zs zm za zb zt zc H ll 0 0 zQ (F0 zm 2 ls []) := by
    intro kk2
    induction kk2 using Nat.strongRecOn with
    | _ kk2 ih2 =>
    intro i f1 f6 L2 H ll ls hk2 hi h1 h6 hL h hl
    refine lv_iload_n hx hb dX6_clearAll_2 rfl (lv_at hl 0 rfl) ?_
    refine lv_bipush (v := 8) hx hb dX6_clearAll_3 (by decide) ?_
    refine nb_ge hx hb i 8 (by omega) (by omega) (tgt := 50) dX6_clearAll_5 (by decide) (fun c_5 => ?_) (fun c_5 => ?_)
    · have h := h.cong 1 rfl (g := z0) (fun j hj => h1 j (by omega))
      have h := h.cong 6 rfl (g := z0) (fun j hj => h6 j (by omega))
      have h := h.cong 3 rfl (g := zz 0) (fun j hj => hL 0 (by omega) j (by omega))
      have h := h.cong 4 rfl (g := zz 1) (fun j hj => hL 1 (by omega) j (by omega))
      have h := h.cong 5 rfl (g := zz 2) (fun j hj => hL 2 (by omega) j (by omega))
      have h : gW D ct zA zs _ _ (wS a ct (va_up (va_up S 1 z0) 6 z0) zz) := h
      refine lv_iconst (v := 0) hx hb dX6_clearAll_50 (by decide) ?_
      refine lv_istore_n (lv' := [(1, .int 0), (0, .ref (a 0))]) hx hb dX6_clearAll_51 rfl hl (by decide) rfl (fun ls hl => ?_)
      have L52_1 : ∀ (kk : Nat) (i7 : Nat) (f7 : Nat → Int32) (f8 : Nat → Int32) (H : Heap) (ll : List Loc) (ls : Array Slot), 3 - i7 = kk → (i7 ≤ 3) → (∀ j, j < i7 → f7 j = z0 j) → (∀ j, j < i7 → f8 j = z0 j) → gW D ct zA zs H ll (wS a ct (va_up (va_up (va_up (va_up S 1 z0) 6 z0) 7 f7) 8 f8) zz) → lv_has ls 3 [(1, .int (nI i7)), (0, .ref (a 0))] → W zp l ze rmX6_clearAll zs zm za zb zt zc H ll 0 0 zQ (F0 zm 52 ls []) := by
        intro kk52
        induction kk52 using Nat.strongRecOn with
        | _ kk52 ih52 =>
        intro i7 f7 f8 H ll ls hk52 hi7 h7 h8 h hl
        refine lv_iload_n hx hb dX6_clearAll_52 rfl (lv_at hl 0 rfl) ?_
        refine lv_iconst (v := 3) hx hb dX6_clearAll_53 (by decide) ?_
        refine nb_ge hx hb i7 3 (by omega) (by omega) (tgt := 77) dX6_clearAll_54 (by decide) (fun c_54 => ?_) (fun c_54 => ?_)
        · have h := h.cong 7 rfl (g := z0) (fun j hj => h7 j (by omega))
          have h := h.cong 8 rfl (g := z0) (fun j hj => h8 j (by omega))
          have h : gW D ct zA zs _ _ (wS a ct (va_up (va_up (va_up (va_up S 1 z0) 6 z0) 7 z0) 8 z0) zz) := h
          refine lv_aload_n hx hb dX6_clearAll_77 rfl (lv_at hl 1 rfl) ?_
          refine lv_iconst (v := 0) hx hb dX6_clearAll_78 (by decide) ?_
          refine gput C h igX6 tyX6 tyX6_ok nmX6 0 rfl rfl 8 (by decide) q176 rfl rfl (ty := .int) (by decide +kernel) rfl rfl (Nat.le_of_ble_eq_true rfl) dX6_clearAll_79 (fun H ll h => ?_)
          have h : gW D ct zA zs _ _ (wS a ct (va_up (va_up (va_up (va_up (va_up S 1 z0) 6 z0) 7 z0) 8 z0) 0 (fun _ => 0)) zz) := h
          refine lv_aload_n hx hb dX6_clearAll_82 rfl (lv_at hl 1 rfl) ?_
          refine lv_iconst (v := 0) hx hb dX6_clearAll_83 (by decide) ?_
          refine gput C h igX6 tyX6 tyX6_ok nmX6 0 rfl rfl 9 (by decide) q178 rfl rfl (ty := .int) (by decide +kernel) rfl rfl (Nat.le_of_ble_eq_true rfl) dX6_clearAll_84 (fun H ll h => ?_)
          have h : gW D ct zA zs _ _ (wS a ct (va_up (va_up (va_up (va_up (va_up (va_up S 1 z0) 6 z0) 7 z0) 8 z0) 0 (fun _ => 0)) 12 (fun _ => 0)) zz) := h
          have h : gW D ct zA zs _ _ ((fun u : (Nat → Nat → Int32) × (Nat → Nat → Int32) => wS a ct u.1 u.2) ((clS S, zz))) := h
          exact hret ((clS S, zz)) _ _ _ _ h rfl dX6_clearAll_87
        · refine lv_aload_n hx hb dX6_clearAll_57 rfl (lv_at hl 1 rfl) ?_
          refine gget C h igX6 0 rfl rfl 3 (by decide) q169 rfl rfl dX6_clearAll_58 ?_
          refine lv_iload_n hx hb dX6_clearAll_61 rfl (lv_at hl 0 rfl) ?_
          refine lv_iconst (v := 0) hx hb dX6_clearAll_62 (by decide) ?_
          refine gist C h 7 rfl (j := i7) (by omega) (by decide) dX6_clearAll_63 (fun H ll h => ?_)
          have h : gW D ct zA zs _ _ (wS a ct (va_up (va_up (va_up (va_up S 1 z0) 6 z0) 7 (upd f7 i7 0)) 8 f8) zz) := h
          refine lv_aload_n hx hb dX6_clearAll_64 rfl (lv_at hl 1 rfl) ?_
          refine gget C h igX6 0 rfl rfl 4 (by decide) q171 rfl rfl dX6_clearAll_65 ?_
          refine lv_iload_n hx hb dX6_clearAll_68 rfl (lv_at hl 0 rfl) ?_
          refine lv_iconst (v := 0) hx hb dX6_clearAll_69 (by decide) ?_
          refine gist C h 8 rfl (j := i7) (by omega) (by decide) dX6_clearAll_70 (fun H ll h => ?_)
          have h : gW D ct zA zs _ _ (wS a ct (va_up (va_up (va_up (va_up S 1 z0) 6 z0) 7 (upd f7 i7 0)) 8 (upd f8 i7 0)) zz) := h
          refine ninc (lv' := [(1, .int (nI (i7 + 1))), (0, .ref (a 0))]) hx hb i7 1 dX6_clearAll_71 hl (k := 0) rfl (by decide) rfl (fun ls hl => ?_)
          refine lv_goto (tgt := 52) hx hb dX6_clearAll_74 (by decide) ?_
          exact ih52 _ (by omega) (i7 + 1) (upd f7 i7 0) (upd f8 i7 0) _ _ _ rfl (by omega) (updk h7 rfl) (updk h8 rfl) h (lv_sub hl [0, 1] rfl)
      exact L52_1 _ 0 (S 7) (S 8) _ _ _ rfl (by omega) (fun j hj => absurd hj (by omega)) (fun j hj => absurd hj (by omega)) h (lv_sub hl [0, 1] rfl)
    · refine lv_aload_n hx hb dX6_clearAll_8 rfl (lv_at hl 1 rfl) ?_
      refine gget C h igX6 0 rfl rfl 0 (by decide) q160 rfl rfl dX6_clearAll_9 ?_
      refine lv_iload_n hx hb dX6_clearAll_12 rfl (lv_at hl 0 rfl) ?_
      refine lv_iconst (v := 0) hx hb dX6_clearAll_13 (by decide) ?_
      refine gist C h 1 rfl (j := i) (by omega) (by decide) dX6_clearAll_14 (fun H ll h => ?_)
      have h : gW D ct zA zs _ _ (wS a ct (va_up (va_up S 1 (upd f1 i 0)) 6 f6) L2) := h
      refine lv_aload_n hx hb dX6_clearAll_15 rfl (lv_at hl 1 rfl) ?_
      refine gget C h igX6 0 rfl rfl 2 (by decide) q166 rfl rfl dX6_clearAll_16 ?_
      refine lv_iload_n hx hb dX6_clearAll_19 rfl (lv_at hl 0 rfl) ?_
      refine lv_iconst (v := 0) hx hb dX6_clearAll_20 (by decide) ?_
      refine gist C h 6 rfl (j := i) (by omega) (by decide) dX6_clearAll_21 (fun H ll h => ?_)
      have h : gW D ct zA zs _ _ (wS a ct (va_up (va_up S 1 (upd f1 i 0)) 6 (upd f6 i 0)) L2) := h
      refine lv_iconst (v := 0) hx hb dX6_clearAll_22 (by decide) ?_
      refine lv_istore_n (lv' := [(2, .int 0), (1, .int (nI i)), (0, .ref (a 0))]) hx hb dX6_clearAll_23 rfl hl (by decide) rfl (fun ls hl => ?_)
      have L24_2 : ∀ (kk : Nat) (k : Nat) (L3 : Nat → Nat → Int32) (H : Heap) (ll : List Loc) (ls : Array Slot), 3 - k = kk → (k ≤ 3) → (∀ q, q < 3 → ∀ j, j < i → L3 q j = z0 j) → (∀ q, q < k → L3 q i = z0 i) → gW D ct zA zs H ll (wS a ct (va_up (va_up S 1 (upd f1 i 0)) 6 (upd f6 i 0)) L3) → lv_has ls 3 [(2, .int (nI k)), (1, .int (nI i)), (0, .ref (a 0))] → W zp l ze rmX6_clearAll zs zm za zb zt zc H ll 0 0 zQ (F0 zm 24 ls []) := by
        intro kk24
        induction kk24 using Nat.strongRecOn with
        | _ kk24 ih24 =>
        intro k L3 H ll ls hk24 hk hL3 hM h hl
        refine lv_iload_n hx hb dX6_clearAll_24 rfl (lv_at hl 0 rfl) ?_
        refine lv_iconst (v := 3) hx hb dX6_clearAll_25 (by decide) ?_
        refine nb_ge hx hb k 3 (by omega) (by omega) (tgt := 44) dX6_clearAll_26 (by decide) (fun c_26 => ?_) (fun c_26 => ?_)
        · refine ninc (lv' := [(1, .int (nI (i + 1))), (2, .int (nI k)), (0, .ref (a 0))]) hx hb i 1 dX6_clearAll_44 hl (k := 1) rfl (by decide) rfl (fun ls hl => ?_)
          refine lv_goto (tgt := 2) hx hb dX6_clearAll_47 (by decide) ?_
          exact ih2 _ (by omega) (i + 1) (upd f1 i 0) (upd f6 i 0) L3 _ _ _ rfl (by omega) (updk h1 rfl) (updk h6 rfl) (fun q hq j hj => by rcases (show j < i ∨ j = i by omega) with q9 | rfl; exact hL3 q hq j q9; exact hM q (by omega)) h (lv_sub hl [0, 2] rfl)
        · refine lv_aload_n hx hb dX6_clearAll_29 rfl (lv_at hl 2 rfl) ?_
          refine gget C h igX6 0 rfl rfl 1 (by decide) q163 rfl rfl dX6_clearAll_30 ?_
          refine lv_iload_n hx hb dX6_clearAll_33 rfl (lv_at hl 0 rfl) ?_
          refine gald C h 2 4 rfl rfl rfl (j := k) (b := a (3 + k)) (by omega) (by decide) (if_pos (by omega)) dX6_clearAll_34 ?_
          refine lv_iload_n hx hb dX6_clearAll_35 rfl (lv_at hl 1 rfl) ?_
          refine lv_iconst (v := 0) hx hb dX6_clearAll_36 (by decide) ?_
          refine gist C h (3 + k) (wS_row a ct _ _ (by omega)) (j := i) (by omega) (by decide) dX6_clearAll_37 (fun H ll h => ?_)
          have h := h.to (wS_rset a ct _ _ (by omega) _)
          have h : gW D ct zA zs _ _ (wS a ct (va_up (va_up S 1 (upd f1 i 0)) 6 (upd f6 i 0)) (va_up L3 k (upd (L3 k) i 0))) := h
          refine ninc (lv' := [(2, .int (nI (k + 1))), (1, .int (nI i)), (0, .ref (a 0))]) hx hb k 1 dX6_clearAll_38 hl (k := 0) rfl (by decide) rfl (fun ls hl => ?_)
          refine lv_goto (tgt := 24) hx hb dX6_clearAll_41 (by decide) ?_
          exact ih24 _ (by omega) (k + 1) (va_up L3 k (upd (L3 k) i 0)) _ _ _ rfl (by omega) (fun q hq j hj => by by_cases e9 : q = k; (subst e9; rw [va_up_self, pk_un (by omega)]; exact hL3 q hq j hj); (rw [va_up_ne _ _ e9]; exact hL3 q hq j hj)) (fun q hq => by by_cases e9 : q = k; (subst e9; rw [va_up_self, pk_us]; rfl); (rw [va_up_ne _ _ e9]; exact hM q (by omega))) h (lv_sub hl [0, 1, 2] rfl)
      exact L24_2 _ 0 L2 _ _ _ rfl (by omega) hL (fun q hq => absurd hq (by omega)) h (lv_sub hl [0, 1, 2] rfl)
  exact L2_0 _ 0 (S 1) (S 6) L _ _ _ rfl (by omega) (fun j hj => absurd hj (by omega)) (fun j hj => absurd hj (by omega)) (fun q hq j hj => absurd hj (by omega)) h (lv_sub hl [0, 1] rfl)
theorem kX8_totalOf (l : Launch) (D : va_G) (ct : Nat → ClassId) (a N : Nat) (f : Nat → Int32) (hN : N < 2 ^ 31) : MI l yX8_totalOf (gWs yX8_totalOf cX8_totalOf 6 (some .int)) rmX8_totalOf D ct gNo [.ref a] [(a, .inl (ct 0, N, .inl f))] (fun _ : Unit => [(a, .inl (ct 0, N, .inl f))]) (fun r _ => r = bx_sum f N) := by
  refine MI.ofI RX8 rfl (by decide) (Nat.le_of_ble_eq_true rfl) ?_
  intro zp ze zs zm za zb zt zc zA ls zQ C h hX hl hret
  have hx := C.1
  have hb := C.2.1
  have hl : lv_has ls 6 [(0, .ref a)] := hl
  refine lv_iconst (v := 0) hx hb dX8_totalOf_0 (by decide) ?_
  refine lv_istore_n (lv' := [(1, .int 0), (0, .ref a)]) hx hb dX8_totalOf_1 rfl hl (by decide) rfl (fun ls hl => ?_)
  refine lv_aload_n hx hb dX8_totalOf_2 rfl (lv_at hl 1 rfl) ?_
  refine lv_astore_n (lv' := [(2, .ref a), (1, .int 0), (0, .ref a)]) hx hb dX8_totalOf_3 rfl hl (by decide) rfl (fun ls hl => ?_)
  refine lv_aload_n hx hb dX8_totalOf_4 rfl (lv_at hl 0 rfl) ?_
  refine galen C h 0 0 rfl rfl dX8_totalOf_5 ?_
  refine lv_istore_n (lv' := [(3, .int (nI N)), (2, .ref a), (1, .int 0), (0, .ref a)]) hx hb dX8_totalOf_6 rfl hl (by decide) rfl (fun ls hl => ?_)
  refine lv_iconst (v := 0) hx hb dX8_totalOf_7 (by decide) ?_
  refine lv_istore (lv' := [(4, .int 0), (3, .int (nI N)), (2, .ref a), (1, .int 0), (0, .ref a)]) hx hb dX8_totalOf_8 hl (by decide) rfl (fun ls hl => ?_)
  have L10_0 : ∀ (kk : Nat) (i : Nat) (H : Heap) (ll : List Loc) (ls : Array Slot), N - i = kk → (i ≤ N) → gW D ct zA zs H ll ([(a, .inl (ct 0, N, .inl f))]) → lv_has ls 6 [(4, .int (nI i)), (3, .int (nI N)), (2, .ref a), (1, .int (bx_sum f i)), (0, .ref a)] → W zp l ze rmX8_totalOf zs zm za zb zt zc H ll 0 0 zQ (F0 zm 10 ls []) := by
    intro kk10
    induction kk10 using Nat.strongRecOn with
    | _ kk10 ih10 =>
    intro i H ll ls hk10 hi h hl
    refine lv_iload hx hb dX8_totalOf_10 (lv_at hl 0 rfl) ?_
    refine lv_iload_n hx hb dX8_totalOf_12 rfl (lv_at hl 1 rfl) ?_
    refine nb_ge hx hb i N (by omega) (by omega) (tgt := 33) dX8_totalOf_13 (by decide) (fun c_13 => ?_) (fun c_13 => ?_)
    · refine lv_iload_n hx hb dX8_totalOf_33 rfl (lv_at hl 3 rfl) ?_
      exact hret _ () _ _ _ _ h (by rw [show i = N by omega]) dX8_totalOf_34
    · refine lv_aload_n hx hb dX8_totalOf_16 rfl (lv_at hl 2 rfl) ?_
      refine lv_iload hx hb dX8_totalOf_17 (lv_at hl 0 rfl) ?_
      refine gild C h 0 rfl (j := i) (by omega) hN dX8_totalOf_19 ?_
      refine lv_istore (lv' := [(5, .int (f i)), (4, .int (nI i)), (3, .int (nI N)), (2, .ref a), (1, .int (bx_sum f i)), (0, .ref a)]) hx hb dX8_totalOf_20 hl (by decide) rfl (fun ls hl => ?_)
      refine lv_iload_n hx hb dX8_totalOf_22 rfl (lv_at hl 4 rfl) ?_
      refine lv_iload hx hb dX8_totalOf_23 (lv_at hl 0 rfl) ?_
      refine lv_iadd hx hb dX8_totalOf_25 ?_
      refine lv_istore_n (lv' := [(1, .int ((bx_sum f i) + (f i))), (5, .int (f i)), (4, .int (nI i)), (3, .int (nI N)), (2, .ref a), (0, .ref a)]) hx hb dX8_totalOf_26 rfl hl (by decide) rfl (fun ls hl => ?_)
      refine ninc (lv' := [(4, .int (nI (i + 1))), (1, .int ((bx_sum f i) + (f i))), (5, .int (f i)), (3, .int (nI N)), (2, .ref a), (0, .ref a)]) hx hb i 1 dX8_totalOf_27 hl (k := 2) rfl (by decide) rfl (fun ls hl => ?_)
      refine lv_goto (tgt := 10) hx hb dX8_totalOf_30 (by decide) ?_
      exact ih10 _ (by omega) (i + 1) _ _ _ rfl (by omega) h (lv_sub hl [0, 3, 4, 1, 5] rfl)
  exact L10_0 _ 0 _ _ _ rfl (Nat.zero_le _) h (lv_sub hl [0, 1, 2, 3, 4] rfl)
theorem kX8_isOfKind_0 (l : Launch) (D : va_G) (ct : Nat → ClassId) (dt : Nat → Nat) (a k : Nat) (hk : k < 5) : MI l yX8_isOfKind (gWs yX8_isOfKind cX8_isOfKind 2 (some .boolean)) rmX8_isOfKind D ct (stX dt) [.ref a, .int (nI k)] [(a, .inr (3, []))] (fun _ : Unit => [(a, .inr (3, []))]) (fun r _ => r = (if k = 0 ∨ k = 0 ∨ (k = 3 ∧ 0 = 4) then 1 else 0)) := by
  refine MI.ofZ RX8 rfl (by decide) (Nat.le_of_ble_eq_true rfl) ?_
  intro zp ze zs zm za zb zt zc zA ls zQ C h hX hl hret
  have hx := C.1
  have hb := C.2.1
  have hl : lv_has ls 2 [(0, .ref a), (1, .int (nI k))] := hl
  refine lv_iload_n hx hb dX8_isOfKind_0 rfl (lv_at hl 1 rfl) ?_
  rcases (show k = 0 ∨ k = 1 ∨ k = 2 ∨ k = 3 ∨ k = 4 by omega) with hk_1 | hk_1 | hk_1 | hk_1 | hk_1
  · refine gas (show nI k = nI 0 by rw [hk_1]) ?_
    refine lv_tableIn (tgt := 32) (off := 31) hx hb dX8_isOfKind_1 (by decide) (by decide) (by decide) (by decide) ?_
    refine lv_iconst (v := 1) hx hb dX8_isOfKind_32 (by decide) ?_
    exact hret _ () _ _ _ _ h (by rw [hk_1]; rfl) dX8_isOfKind_33 (by decide)
  · refine gas (show nI k = nI 1 by rw [hk_1]) ?_
    refine lv_tableIn (tgt := 34) (off := 33) hx hb dX8_isOfKind_1 (by decide) (by decide) (by decide) (by decide) ?_
    refine lv_aload_n hx hb dX8_isOfKind_34 rfl (lv_at hl 0 rfl) ?_
    refine va_instNo C.1 C.2.1 C.2.2.2.1 (C.2.2.2.2 _ (gWs_in q484)) (hX.2.2.2.2.2.1) (va_recv h.1 h.2.1 (show vwCl[3]? = some _ from rfl) (show _[0]? = some _ from rfl)) dX8_isOfKind_35 ?_
    exact hret _ () _ _ _ _ h (by rw [hk_1]; rfl) dX8_isOfKind_38 (by decide)
  · refine gas (show nI k = nI 2 by rw [hk_1]) ?_
    refine lv_tableIn (tgt := 39) (off := 38) hx hb dX8_isOfKind_1 (by decide) (by decide) (by decide) (by decide) ?_
    refine lv_aload_n hx hb dX8_isOfKind_39 rfl (lv_at hl 0 rfl) ?_
    refine va_instNo C.1 C.2.1 C.2.2.2.1 (C.2.2.2.2 _ (gWs_in q485)) (hX.2.2.2.2.2.2.2.2.2.1) (va_recv h.1 h.2.1 (show vwCl[3]? = some _ from rfl) (show _[0]? = some _ from rfl)) dX8_isOfKind_40 ?_
    exact hret _ () _ _ _ _ h (by rw [hk_1]; rfl) dX8_isOfKind_43 (by decide)
  · refine gas (show nI k = nI 3 by rw [hk_1]) ?_
    refine lv_tableIn (tgt := 44) (off := 43) hx hb dX8_isOfKind_1 (by decide) (by decide) (by decide) (by decide) ?_
    refine lv_aload_n hx hb dX8_isOfKind_44 rfl (lv_at hl 0 rfl) ?_
    refine va_instNo C.1 C.2.1 C.2.2.2.1 (C.2.2.2.2 _ (gWs_in q486)) (hX.2.2.2.2.2.2.2.2.2.2.2.2.2.1) (va_recv h.1 h.2.1 (show vwCl[3]? = some _ from rfl) (show _[0]? = some _ from rfl)) dX8_isOfKind_45 ?_
    exact hret _ () _ _ _ _ h (by rw [hk_1]; rfl) dX8_isOfKind_48 (by decide)
  · refine gas (show nI k = nI 4 by rw [hk_1]) ?_
    refine lv_tableOut (tgt := 49) hx hb dX8_isOfKind_1 (by decide) (by decide) ?_
    refine lv_aload_n hx hb dX8_isOfKind_49 rfl (lv_at hl 0 rfl) ?_
    refine va_instNo C.1 C.2.1 C.2.2.2.1 (C.2.2.2.2 _ (gWs_in q487)) (hX.2.2.2.2.2.2.2.2.2.2.2.2.2.2.2.2.1) (va_recv h.1 h.2.1 (show vwCl[3]? = some _ from rfl) (show _[0]? = some _ from rfl)) dX8_isOfKind_50 ?_
    exact hret _ () _ _ _ _ h (by rw [hk_1]; rfl) dX8_isOfKind_53 (by decide)
theorem kX8_isOfKind_1 (l : Launch) (D : va_G) (ct : Nat → ClassId) (dt : Nat → Nat) (a k : Nat) (hk : k < 5) : MI l yX8_isOfKind (gWs yX8_isOfKind cX8_isOfKind 2 (some .boolean)) rmX8_isOfKind D ct (stX dt) [.ref a, .int (nI k)] [(a, .inr (1, []))] (fun _ : Unit => [(a, .inr (1, []))]) (fun r _ => r = (if k = 0 ∨ k = 1 ∨ (k = 3 ∧ 1 = 4) then 1 else 0)) := by
  refine MI.ofZ RX8 rfl (by decide) (Nat.le_of_ble_eq_true rfl) ?_
  intro zp ze zs zm za zb zt zc zA ls zQ C h hX hl hret
  have hx := C.1
  have hb := C.2.1
  have hl : lv_has ls 2 [(0, .ref a), (1, .int (nI k))] := hl
  refine lv_iload_n hx hb dX8_isOfKind_0 rfl (lv_at hl 1 rfl) ?_
  rcases (show k = 0 ∨ k = 1 ∨ k = 2 ∨ k = 3 ∨ k = 4 by omega) with hk_1 | hk_1 | hk_1 | hk_1 | hk_1
  · refine gas (show nI k = nI 0 by rw [hk_1]) ?_
    refine lv_tableIn (tgt := 32) (off := 31) hx hb dX8_isOfKind_1 (by decide) (by decide) (by decide) (by decide) ?_
    refine lv_iconst (v := 1) hx hb dX8_isOfKind_32 (by decide) ?_
    exact hret _ () _ _ _ _ h (by rw [hk_1]; rfl) dX8_isOfKind_33 (by decide)
  · refine gas (show nI k = nI 1 by rw [hk_1]) ?_
    refine lv_tableIn (tgt := 34) (off := 33) hx hb dX8_isOfKind_1 (by decide) (by decide) (by decide) (by decide) ?_
    refine lv_aload_n hx hb dX8_isOfKind_34 rfl (lv_at hl 0 rfl) ?_
    refine va_instE C.1 C.2.1 C.2.2.2.1 (C.2.2.2.2 _ (gWs_in q484)) (va_recv h.1 h.2.1 (show vwCl[1]? = some _ from rfl) (show _[0]? = some _ from rfl)) dX8_isOfKind_35 ?_
    exact hret _ () _ _ _ _ h (by rw [hk_1]; rfl) dX8_isOfKind_38 (by decide)
  · refine gas (show nI k = nI 2 by rw [hk_1]) ?_
    refine lv_tableIn (tgt := 39) (off := 38) hx hb dX8_isOfKind_1 (by decide) (by decide) (by decide) (by decide) ?_
    refine lv_aload_n hx hb dX8_isOfKind_39 rfl (lv_at hl 0 rfl) ?_
    refine va_instNo C.1 C.2.1 C.2.2.2.1 (C.2.2.2.2 _ (gWs_in q485)) (hX.2.2.2.2.2.2.2.2.2.2.1) (va_recv h.1 h.2.1 (show vwCl[1]? = some _ from rfl) (show _[0]? = some _ from rfl)) dX8_isOfKind_40 ?_
    exact hret _ () _ _ _ _ h (by rw [hk_1]; rfl) dX8_isOfKind_43 (by decide)
  · refine gas (show nI k = nI 3 by rw [hk_1]) ?_
    refine lv_tableIn (tgt := 44) (off := 43) hx hb dX8_isOfKind_1 (by decide) (by decide) (by decide) (by decide) ?_
    refine lv_aload_n hx hb dX8_isOfKind_44 rfl (lv_at hl 0 rfl) ?_
    refine va_instNo C.1 C.2.1 C.2.2.2.1 (C.2.2.2.2 _ (gWs_in q486)) (hX.2.2.2.2.2.2.2.2.2.2.2.2.2.2.1) (va_recv h.1 h.2.1 (show vwCl[1]? = some _ from rfl) (show _[0]? = some _ from rfl)) dX8_isOfKind_45 ?_
    exact hret _ () _ _ _ _ h (by rw [hk_1]; rfl) dX8_isOfKind_48 (by decide)
  · refine gas (show nI k = nI 4 by rw [hk_1]) ?_
    refine lv_tableOut (tgt := 49) hx hb dX8_isOfKind_1 (by decide) (by decide) ?_
    refine lv_aload_n hx hb dX8_isOfKind_49 rfl (lv_at hl 0 rfl) ?_
    refine va_instNo C.1 C.2.1 C.2.2.2.1 (C.2.2.2.2 _ (gWs_in q487)) (hX.2.2.2.2.2.2.2.2.2.2.2.2.2.2.2.2.2.1) (va_recv h.1 h.2.1 (show vwCl[1]? = some _ from rfl) (show _[0]? = some _ from rfl)) dX8_isOfKind_50 ?_
    exact hret _ () _ _ _ _ h (by rw [hk_1]; rfl) dX8_isOfKind_53 (by decide)
theorem kX8_isOfKind_2 (l : Launch) (D : va_G) (ct : Nat → ClassId) (dt : Nat → Nat) (a k : Nat) (hk : k < 5) : MI l yX8_isOfKind (gWs yX8_isOfKind cX8_isOfKind 2 (some .boolean)) rmX8_isOfKind D ct (stX dt) [.ref a, .int (nI k)] [(a, .inr (0, []))] (fun _ : Unit => [(a, .inr (0, []))]) (fun r _ => r = (if k = 0 ∨ k = 2 ∨ (k = 3 ∧ 2 = 4) then 1 else 0)) := by
  refine MI.ofZ RX8 rfl (by decide) (Nat.le_of_ble_eq_true rfl) ?_
  intro zp ze zs zm za zb zt zc zA ls zQ C h hX hl hret
  have hx := C.1
  have hb := C.2.1
  have hl : lv_has ls 2 [(0, .ref a), (1, .int (nI k))] := hl
  refine lv_iload_n hx hb dX8_isOfKind_0 rfl (lv_at hl 1 rfl) ?_
  rcases (show k = 0 ∨ k = 1 ∨ k = 2 ∨ k = 3 ∨ k = 4 by omega) with hk_1 | hk_1 | hk_1 | hk_1 | hk_1
  · refine gas (show nI k = nI 0 by rw [hk_1]) ?_
    refine lv_tableIn (tgt := 32) (off := 31) hx hb dX8_isOfKind_1 (by decide) (by decide) (by decide) (by decide) ?_
    refine lv_iconst (v := 1) hx hb dX8_isOfKind_32 (by decide) ?_
    exact hret _ () _ _ _ _ h (by rw [hk_1]; rfl) dX8_isOfKind_33 (by decide)
  · refine gas (show nI k = nI 1 by rw [hk_1]) ?_
    refine lv_tableIn (tgt := 34) (off := 33) hx hb dX8_isOfKind_1 (by decide) (by decide) (by decide) (by decide) ?_
    refine lv_aload_n hx hb dX8_isOfKind_34 rfl (lv_at hl 0 rfl) ?_
    refine va_instNo C.1 C.2.1 C.2.2.2.1 (C.2.2.2.2 _ (gWs_in q484)) (hX.2.2.2.2.2.2.1) (va_recv h.1 h.2.1 (show vwCl[0]? = some _ from rfl) (show _[0]? = some _ from rfl)) dX8_isOfKind_35 ?_
    exact hret _ () _ _ _ _ h (by rw [hk_1]; rfl) dX8_isOfKind_38 (by decide)
  · refine gas (show nI k = nI 2 by rw [hk_1]) ?_
    refine lv_tableIn (tgt := 39) (off := 38) hx hb dX8_isOfKind_1 (by decide) (by decide) (by decide) (by decide) ?_
    refine lv_aload_n hx hb dX8_isOfKind_39 rfl (lv_at hl 0 rfl) ?_
    refine va_instE C.1 C.2.1 C.2.2.2.1 (C.2.2.2.2 _ (gWs_in q485)) (va_recv h.1 h.2.1 (show vwCl[0]? = some _ from rfl) (show _[0]? = some _ from rfl)) dX8_isOfKind_40 ?_
    exact hret _ () _ _ _ _ h (by rw [hk_1]; rfl) dX8_isOfKind_43 (by decide)
  · refine gas (show nI k = nI 3 by rw [hk_1]) ?_
    refine lv_tableIn (tgt := 44) (off := 43) hx hb dX8_isOfKind_1 (by decide) (by decide) (by decide) (by decide) ?_
    refine lv_aload_n hx hb dX8_isOfKind_44 rfl (lv_at hl 0 rfl) ?_
    refine va_instNo C.1 C.2.1 C.2.2.2.1 (C.2.2.2.2 _ (gWs_in q486)) (hX.2.2.2.2.2.2.2.2.2.2.2.2.2.2.2.1) (va_recv h.1 h.2.1 (show vwCl[0]? = some _ from rfl) (show _[0]? = some _ from rfl)) dX8_isOfKind_45 ?_
    exact hret _ () _ _ _ _ h (by rw [hk_1]; rfl) dX8_isOfKind_48 (by decide)
  · refine gas (show nI k = nI 4 by rw [hk_1]) ?_
    refine lv_tableOut (tgt := 49) hx hb dX8_isOfKind_1 (by decide) (by decide) ?_
    refine lv_aload_n hx hb dX8_isOfKind_49 rfl (lv_at hl 0 rfl) ?_
    refine va_instNo C.1 C.2.1 C.2.2.2.1 (C.2.2.2.2 _ (gWs_in q487)) (hX.2.2.2.2.2.2.2.2.2.2.2.2.2.2.2.2.2.2.1) (va_recv h.1 h.2.1 (show vwCl[0]? = some _ from rfl) (show _[0]? = some _ from rfl)) dX8_isOfKind_50 ?_
    exact hret _ () _ _ _ _ h (by rw [hk_1]; rfl) dX8_isOfKind_53 (by decide)
theorem kX8_isOfKind_3 (l : Launch) (D : va_G) (ct : Nat → ClassId) (dt : Nat → Nat) (a k : Nat) (hk : k < 5) : MI l yX8_isOfKind (gWs yX8_isOfKind cX8_isOfKind 2 (some .boolean)) rmX8_isOfKind D ct (stX dt) [.ref a, .int (nI k)] [(a, .inr (2, []))] (fun _ : Unit => [(a, .inr (2, []))]) (fun r _ => r = (if k = 0 ∨ k = 3 ∨ (k = 3 ∧ 3 = 4) then 1 else 0)) := by
  refine MI.ofZ RX8 rfl (by decide) (Nat.le_of_ble_eq_true rfl) ?_
  intro zp ze zs zm za zb zt zc zA ls zQ C h hX hl hret
  have hx := C.1
  have hb := C.2.1
  have hl : lv_has ls 2 [(0, .ref a), (1, .int (nI k))] := hl
  refine lv_iload_n hx hb dX8_isOfKind_0 rfl (lv_at hl 1 rfl) ?_
  rcases (show k = 0 ∨ k = 1 ∨ k = 2 ∨ k = 3 ∨ k = 4 by omega) with hk_1 | hk_1 | hk_1 | hk_1 | hk_1
  · refine gas (show nI k = nI 0 by rw [hk_1]) ?_
    refine lv_tableIn (tgt := 32) (off := 31) hx hb dX8_isOfKind_1 (by decide) (by decide) (by decide) (by decide) ?_
    refine lv_iconst (v := 1) hx hb dX8_isOfKind_32 (by decide) ?_
    exact hret _ () _ _ _ _ h (by rw [hk_1]; rfl) dX8_isOfKind_33 (by decide)
  · refine gas (show nI k = nI 1 by rw [hk_1]) ?_
    refine lv_tableIn (tgt := 34) (off := 33) hx hb dX8_isOfKind_1 (by decide) (by decide) (by decide) (by decide) ?_
    refine lv_aload_n hx hb dX8_isOfKind_34 rfl (lv_at hl 0 rfl) ?_
    refine va_instNo C.1 C.2.1 C.2.2.2.1 (C.2.2.2.2 _ (gWs_in q484)) (hX.2.2.2.2.2.2.2.1) (va_recv h.1 h.2.1 (show vwCl[2]? = some _ from rfl) (show _[0]? = some _ from rfl)) dX8_isOfKind_35 ?_
    exact hret _ () _ _ _ _ h (by rw [hk_1]; rfl) dX8_isOfKind_38 (by decide)
  · refine gas (show nI k = nI 2 by rw [hk_1]) ?_
    refine lv_tableIn (tgt := 39) (off := 38) hx hb dX8_isOfKind_1 (by decide) (by decide) (by decide) (by decide) ?_
    refine lv_aload_n hx hb dX8_isOfKind_39 rfl (lv_at hl 0 rfl) ?_
    refine va_instNo C.1 C.2.1 C.2.2.2.1 (C.2.2.2.2 _ (gWs_in q485)) (hX.2.2.2.2.2.2.2.2.2.2.2.1) (va_recv h.1 h.2.1 (show vwCl[2]? = some _ from rfl) (show _[0]? = some _ from rfl)) dX8_isOfKind_40 ?_
    exact hret _ () _ _ _ _ h (by rw [hk_1]; rfl) dX8_isOfKind_43 (by decide)
  · refine gas (show nI k = nI 3 by rw [hk_1]) ?_
    refine lv_tableIn (tgt := 44) (off := 43) hx hb dX8_isOfKind_1 (by decide) (by decide) (by decide) (by decide) ?_
    refine lv_aload_n hx hb dX8_isOfKind_44 rfl (lv_at hl 0 rfl) ?_
    refine va_instE C.1 C.2.1 C.2.2.2.1 (C.2.2.2.2 _ (gWs_in q486)) (va_recv h.1 h.2.1 (show vwCl[2]? = some _ from rfl) (show _[0]? = some _ from rfl)) dX8_isOfKind_45 ?_
    exact hret _ () _ _ _ _ h (by rw [hk_1]; rfl) dX8_isOfKind_48 (by decide)
  · refine gas (show nI k = nI 4 by rw [hk_1]) ?_
    refine lv_tableOut (tgt := 49) hx hb dX8_isOfKind_1 (by decide) (by decide) ?_
    refine lv_aload_n hx hb dX8_isOfKind_49 rfl (lv_at hl 0 rfl) ?_
    refine va_instNo C.1 C.2.1 C.2.2.2.1 (C.2.2.2.2 _ (gWs_in q487)) (hX.2.2.2.2.2.2.2.2.2.2.2.2.2.2.2.2.2.2.2) (va_recv h.1 h.2.1 (show vwCl[2]? = some _ from rfl) (show _[0]? = some _ from rfl)) dX8_isOfKind_50 ?_
    exact hret _ () _ _ _ _ h (by rw [hk_1]; rfl) dX8_isOfKind_53 (by decide)
theorem kX8_isOfKind_4 (l : Launch) (D : va_G) (ct : Nat → ClassId) (dt : Nat → Nat) (a k : Nat) (hk : k < 5) : MI l yX8_isOfKind (gWs yX8_isOfKind cX8_isOfKind 2 (some .boolean)) rmX8_isOfKind D ct (stX dt) [.ref a, .int (nI k)] [(a, .inr (7, []))] (fun _ : Unit => [(a, .inr (7, []))]) (fun r _ => r = (if k = 0 ∨ k = 4 ∨ (k = 3 ∧ 4 = 4) then 1 else 0)) := by
  refine MI.ofZ RX8 rfl (by decide) (Nat.le_of_ble_eq_true rfl) ?_
  intro zp ze zs zm za zb zt zc zA ls zQ C h hX hl hret
  have hx := C.1
  have hb := C.2.1
  have hl : lv_has ls 2 [(0, .ref a), (1, .int (nI k))] := hl
  refine lv_iload_n hx hb dX8_isOfKind_0 rfl (lv_at hl 1 rfl) ?_
  rcases (show k = 0 ∨ k = 1 ∨ k = 2 ∨ k = 3 ∨ k = 4 by omega) with hk_1 | hk_1 | hk_1 | hk_1 | hk_1
  · refine gas (show nI k = nI 0 by rw [hk_1]) ?_
    refine lv_tableIn (tgt := 32) (off := 31) hx hb dX8_isOfKind_1 (by decide) (by decide) (by decide) (by decide) ?_
    refine lv_iconst (v := 1) hx hb dX8_isOfKind_32 (by decide) ?_
    exact hret _ () _ _ _ _ h (by rw [hk_1]; rfl) dX8_isOfKind_33 (by decide)
  · refine gas (show nI k = nI 1 by rw [hk_1]) ?_
    refine lv_tableIn (tgt := 34) (off := 33) hx hb dX8_isOfKind_1 (by decide) (by decide) (by decide) (by decide) ?_
    refine lv_aload_n hx hb dX8_isOfKind_34 rfl (lv_at hl 0 rfl) ?_
    refine va_instNo C.1 C.2.1 C.2.2.2.1 (C.2.2.2.2 _ (gWs_in q484)) (hX.2.2.2.2.2.2.2.2.1) (va_recv h.1 h.2.1 (show vwCl[7]? = some _ from rfl) (show _[0]? = some _ from rfl)) dX8_isOfKind_35 ?_
    exact hret _ () _ _ _ _ h (by rw [hk_1]; rfl) dX8_isOfKind_38 (by decide)
  · refine gas (show nI k = nI 2 by rw [hk_1]) ?_
    refine lv_tableIn (tgt := 39) (off := 38) hx hb dX8_isOfKind_1 (by decide) (by decide) (by decide) (by decide) ?_
    refine lv_aload_n hx hb dX8_isOfKind_39 rfl (lv_at hl 0 rfl) ?_
    refine va_instNo C.1 C.2.1 C.2.2.2.1 (C.2.2.2.2 _ (gWs_in q485)) (hX.2.2.2.2.2.2.2.2.2.2.2.2.1) (va_recv h.1 h.2.1 (show vwCl[7]? = some _ from rfl) (show _[0]? = some _ from rfl)) dX8_isOfKind_40 ?_
    exact hret _ () _ _ _ _ h (by rw [hk_1]; rfl) dX8_isOfKind_43 (by decide)
  · refine gas (show nI k = nI 3 by rw [hk_1]) ?_
    refine lv_tableIn (tgt := 44) (off := 43) hx hb dX8_isOfKind_1 (by decide) (by decide) (by decide) (by decide) ?_
    refine lv_aload_n hx hb dX8_isOfKind_44 rfl (lv_at hl 0 rfl) ?_
    refine va_instY C.1 C.2.1 C.2.2.2.1 (C.2.2.2.2 _ (gWs_in q486)) hX.2.2.2.2.1 (va_recv h.1 h.2.1 (show vwCl[7]? = some _ from rfl) (show _[0]? = some _ from rfl)) dX8_isOfKind_45 ?_
    exact hret _ () _ _ _ _ h (by rw [hk_1]; rfl) dX8_isOfKind_48 (by decide)
  · refine gas (show nI k = nI 4 by rw [hk_1]) ?_
    refine lv_tableOut (tgt := 49) hx hb dX8_isOfKind_1 (by decide) (by decide) ?_
    refine lv_aload_n hx hb dX8_isOfKind_49 rfl (lv_at hl 0 rfl) ?_
    refine va_instE C.1 C.2.1 C.2.2.2.1 (C.2.2.2.2 _ (gWs_in q487)) (va_recv h.1 h.2.1 (show vwCl[7]? = some _ from rfl) (show _[0]? = some _ from rfl)) dX8_isOfKind_50 ?_
    exact hret _ () _ _ _ _ h (by rw [hk_1]; rfl) dX8_isOfKind_53 (by decide)
set_option maxHeartbeats 1000000 in
set_option maxRecDepth 100000 in
theorem kX8_greatestDivisor (l : Launch) (D : va_G) (ct : Nat → ClassId)  (a b : Nat) (ha : a < 2 ^ 31) (hb31 : b < 2 ^ 31) : MI l yX8_greatestDivisor (gWs yX8_greatestDivisor cX8_greatestDivisor 6 (some .int)) rmX8_greatestDivisor D ct gNo [.int (nI a), .int (nI b)] [] (fun _ : Unit => []) (fun r _ => r = nI (Nat.gcd a b)) := by
  refine MI.ofI RX8 rfl (by decide) (Nat.le_of_ble_eq_true rfl) ?_
  intro zp ze zs zm za zb zt zc zA ls zQ C h hX hl hret
  have hx := C.1
  have hb := C.2.1
  have hl : lv_has ls 6 [(0, .int (nI a)), (1, .int (nI b))] := hl
  refine lv_iload_n hx hb dX8_greatestDivisor_0 rfl (lv_at hl 0 rfl) ?_
  refine lv_istore_n (lv' := [(2, .int (nI a)), (0, .int (nI a)), (1, .int (nI b))]) hx hb dX8_greatestDivisor_1 rfl hl (by decide) rfl (fun ls hl => ?_)
  refine lv_iload_n hx hb dX8_greatestDivisor_2 rfl (lv_at hl 2 rfl) ?_
  refine lv_istore_n (lv' := [(3, .int (nI b)), (2, .int (nI a)), (0, .int (nI a)), (1, .int (nI b))]) hx hb dX8_greatestDivisor_3 rfl hl (by decide) rfl (fun ls hl => ?_)
  refine lv_iconst (v := 0) hx hb dX8_greatestDivisor_4 (by decide) ?_
  refine lv_istore (lv' := [(4, .int 0), (3, .int (nI b)), (2, .int (nI a)), (0, .int (nI a)), (1, .int (nI b))]) hx hb dX8_greatestDivisor_5 hl (by decide) rfl (fun ls hl => ?_)
  have L7_0 : ∀ (kk : Nat) (i : Nat) (x : Nat) (y : Nat) (H : Heap) (ll : List Loc) (ls : Array Slot), 64 - i = kk → (i ≤ 64) → (x < 2 ^ 31) → (y < 2 ^ 31) → (Nat.gcd x y = Nat.gcd a b) → ((i = 0 ∧ x = a ∧ y = b) ∨ (y ≤ x ∧ 0 < i ∧ x * y * 2 ^ (i - 1) ≤ a * b)) → gW D ct zA zs H ll ([]) → lv_has ls 6 [(4, .int (nI i)), (3, .int (nI y)), (2, .int (nI x)), (0, .int (nI a)), (1, .int (nI b))] → W zp l ze rmX8_greatestDivisor zs zm za zb zt zc H ll 0 0 zQ (F0 zm 7 ls []) := by
    intro kk7
    induction kk7 using Nat.strongRecOn with
    | _ kk7 ih7 =>
    intro i x y H ll ls hk7 hi hx31 hy31 hg hp h hl
    refine lv_iload hx hb dX8_greatestDivisor_7 (lv_at hl 0 rfl) ?_
    refine lv_bipush (v := 64) hx hb dX8_greatestDivisor_9 (by decide) ?_
    refine nb_ge hx hb i 64 (by omega) (by omega) (tgt := 34) dX8_greatestDivisor_11 (by decide) (fun c_11 => ?_) (fun c_11 => ?_)
    · refine lv_iload_n hx hb dX8_greatestDivisor_34 rfl (lv_at hl 2 rfl) ?_
      exact hret _ () _ _ _ _ h (gcd_end ha hb31 hg hp (by omega)) dX8_greatestDivisor_35
    · refine lv_iload_n hx hb dX8_greatestDivisor_14 rfl (lv_at hl 1 rfl) ?_
      refine nz_eq hx hb y (by omega) (tgt := 34) dX8_greatestDivisor_15 (by decide) (fun c_15 => ?_) (fun c_15 => ?_)
      · refine lv_iload_n hx hb dX8_greatestDivisor_34 rfl (lv_at hl 2 rfl) ?_
        exact hret _ () _ _ _ _ h (gcd_end ha hb31 hg hp (by omega)) dX8_greatestDivisor_35
      · refine lv_iload_n hx hb dX8_greatestDivisor_18 rfl (lv_at hl 2 rfl) ?_
        refine lv_iload_n hx hb dX8_greatestDivisor_19 rfl (lv_at hl 1 rfl) ?_
        refine nrem hx hb x y (by omega) (by omega) (by omega) dX8_greatestDivisor_20 ?_
        refine lv_istore (lv' := [(5, .int (nI (x % y))), (4, .int (nI i)), (3, .int (nI y)), (2, .int (nI x)), (0, .int (nI a)), (1, .int (nI b))]) hx hb dX8_greatestDivisor_21 hl (by decide) rfl (fun ls hl => ?_)
        refine lv_iload_n hx hb dX8_greatestDivisor_23 rfl (lv_at hl 2 rfl) ?_
        refine lv_istore_n (lv' := [(2, .int (nI y)), (5, .int (nI (x % y))), (4, .int (nI i)), (3, .int (nI y)), (0, .int (nI a)), (1, .int (nI b))]) hx hb dX8_greatestDivisor_24 rfl hl (by decide) rfl (fun ls hl => ?_)
        refine lv_iload hx hb dX8_greatestDivisor_25 (lv_at hl 1 rfl) ?_
        refine lv_istore_n (lv' := [(3, .int (nI (x % y))), (2, .int (nI y)), (5, .int (nI (x % y))), (4, .int (nI i)), (0, .int (nI a)), (1, .int (nI b))]) hx hb dX8_greatestDivisor_27 rfl hl (by decide) rfl (fun ls hl => ?_)
        refine ninc (lv' := [(4, .int (nI (i + 1))), (3, .int (nI (x % y))), (2, .int (nI y)), (5, .int (nI (x % y))), (0, .int (nI a)), (1, .int (nI b))]) hx hb i 1 dX8_greatestDivisor_28 hl (k := 3) rfl (by decide) rfl (fun ls hl => ?_)
        refine lv_goto (tgt := 7) hx hb dX8_greatestDivisor_31 (by decide) ?_
        exact ih7 _ (by omega) (i + 1) y (x % y) _ _ _ rfl (by omega) hy31 (Nat.lt_of_le_of_lt (Nat.mod_le _ _) hx31) (by rw [← hg, Nat.gcd_comm x y, Nat.gcd_rec y x, Nat.gcd_comm]) (Or.inr (gcd_step (by omega) hp)) h (lv_sub hl [0, 1, 2, 4, 5] rfl)
  exact L7_0 _ 0 a b _ _ _ rfl (by omega) ha hb31 rfl (Or.inl ⟨rfl, rfl, rfl⟩) h (lv_sub hl [0, 1, 2, 3, 4] rfl)
set_option maxHeartbeats 1000000 in
set_option maxRecDepth 100000 in
theorem kX8_inLowestTerms (l : Launch) (D : va_G) (ct : Nat → ClassId)  (a b t : Nat) (ha : a < 2 ^ 31) (hb31 : b < 2 ^ 31) (hb0 : 0 < b) (ht : t < 2) : MI l yX8_inLowestTerms (gWs yX8_inLowestTerms cX8_inLowestTerms 4 (some .int)) rmX8_inLowestTerms D ct gNo [.int (nI a), .int (nI b), .int (nI t)] [] (fun _ : Unit => []) (fun r _ => r = nI ((if t = 0 then a else b) / Nat.gcd a b)) := by
  refine MI.ofI RX8 rfl (by decide) (Nat.le_of_ble_eq_true rfl) ?_
  intro zp ze zs zm za zb zt zc zA ls zQ C h hX hl hret
  have hx := C.1
  have hb := C.2.1
  have hl : lv_has ls 4 [(0, .int (nI a)), (1, .int (nI b)), (2, .int (nI t))] := hl
  have hg0 : 0 < Nat.gcd a b := Nat.gcd_pos_of_pos_right _ hb0
  have hgb : Nat.gcd a b ≤ b := Nat.gcd_le_right _ hb0
  refine lv_iload_n hx hb dX8_inLowestTerms_0 rfl (lv_at hl 0 rfl) ?_
  refine lv_iload_n hx hb dX8_inLowestTerms_1 rfl (lv_at hl 1 rfl) ?_
  refine gcallSi C h (kX8_greatestDivisor l D ct a b ha hb31) (va_cwS 2 C.2.2.2.2 (gInS q566 q567 q57 q568) rfl rfl rfl hdX8_greatestDivisor ⟨Nat.le_of_ble_eq_true rfl, Nat.le_of_ble_eq_true rfl⟩) rfl hl.1 rfl (Nat.le_of_ble_eq_true rfl) dX8_inLowestTerms_2 ⟨Nat.zero_le _, Nat.zero_le _⟩ (fun H ll h => ?_)
  refine lv_istore_n (lv' := [(3, .int (nI (Nat.gcd a b))), (0, .int (nI a)), (1, .int (nI b)), (2, .int (nI t))]) hx hb dX8_inLowestTerms_5 rfl hl (by decide) rfl (fun ls hl => ?_)
  refine lv_iload_n hx hb dX8_inLowestTerms_6 rfl (lv_at hl 0 rfl) ?_
  refine nz_ne hx hb (Nat.gcd a b) (by omega) (tgt := 12) dX8_inLowestTerms_7 (by decide) (fun c_7 => ?_) (fun c_7 => absurd c_7 (by omega))
  refine lv_iload_n hx hb dX8_inLowestTerms_12 rfl (lv_at hl 3 rfl) ?_
  refine nz_ne hx hb t (by omega) (tgt := 20) dX8_inLowestTerms_13 (by decide) (fun c_13 => ?_) (fun c_13 => ?_)
  · refine lv_iload_n hx hb dX8_inLowestTerms_20 rfl (lv_at hl 2 rfl) ?_
    refine lv_iload_n hx hb dX8_inLowestTerms_21 rfl (lv_at hl 0 rfl) ?_
    refine ndiv hx hb b (Nat.gcd a b) (by omega) (by omega) (by omega) dX8_inLowestTerms_22 ?_
    exact hret _ () _ _ _ _ h (by first | rw [if_pos (show t = 0 by omega)] | rw [if_neg (show ¬ t = 0 by omega)]) dX8_inLowestTerms_23
  · refine lv_iload_n hx hb dX8_inLowestTerms_16 rfl (lv_at hl 1 rfl) ?_
    refine lv_goto (tgt := 21) hx hb dX8_inLowestTerms_17 (by decide) ?_
    refine lv_iload_n hx hb dX8_inLowestTerms_21 rfl (lv_at hl 0 rfl) ?_
    refine ndiv hx hb a (Nat.gcd a b) (by omega) (by omega) (by omega) dX8_inLowestTerms_22 ?_
    exact hret _ () _ _ _ _ h (by first | rw [if_pos (show t = 0 by omega)] | rw [if_neg (show ¬ t = 0 by omega)]) dX8_inLowestTerms_23
set_option maxHeartbeats 1000000 in
set_option maxRecDepth 100000 in
theorem kX8_toldOfBits (l : Launch) (D : va_G) (ct : Nat → ClassId)  (b : Option Nat) (t : Nat) (hb8 : ∀ j, b = some j → j < 256) (ht : t < 2) : MI l yX8_toldOfBits (gWs yX8_toldOfBits cX8_toldOfBits 2 (some .int)) rmX8_toldOfBits D ct gNo [.int (bI b), .int (nI t)] [] (fun _ : Unit => []) (fun r _ => r = toldB b t) := by
  refine MI.ofI RX8 rfl (by decide) (Nat.le_of_ble_eq_true rfl) ?_
  intro zp ze zs zm za zb zt zc zA ls zQ C h hX hl hret
  have hx := C.1
  have hb := C.2.1
  have hl : lv_has ls 2 [(0, .int (bI b)), (1, .int (nI t))] := hl
  rcases b with _ | j
  · refine lv_iload_n hx hb dX8_toldOfBits_0 rfl (lv_at hl 0 rfl) ?_
    refine lv_iconst (v := -1) hx hb dX8_toldOfBits_1 (by decide) ?_
    refine lv_icmp_ne (tgt := 7) hx hb dX8_toldOfBits_2 (by decide) (fun q => absurd q (by decide)) (fun _ => ?_)
    refine lv_iconst (v := -1) hx hb dX8_toldOfBits_5 (by decide) ?_
    exact hret _ () _ _ _ _ h (by first | rfl | (unfold toldB; first | exact (if_neg (by omega)).symm | exact (if_pos (by omega)).symm)) dX8_toldOfBits_6
  · have hj8 := hb8 j rfl
    refine lv_iload_n hx hb dX8_toldOfBits_0 rfl (lv_at hl 0 rfl) ?_
    refine lv_iconst (v := -1) hx hb dX8_toldOfBits_1 (by decide) ?_
    refine lv_icmp_ne (tgt := 7) hx hb dX8_toldOfBits_2 (by decide) (fun _ => ?_) (fun q => absurd q (nIm1 (by omega)))
    refine lv_iload_n hx hb dX8_toldOfBits_7 rfl (lv_at hl 1 rfl) ?_
    refine nz_ne hx hb t (by omega) (tgt := 18) dX8_toldOfBits_8 (by decide) (fun c_8 => ?_) (fun c_8 => ?_)
    · refine lv_iload_n hx hb dX8_toldOfBits_18 rfl (lv_at hl 0 rfl) ?_
      exact hret _ () _ _ _ _ h (by first | rfl | (unfold toldB; first | exact (if_neg (by omega)).symm | exact (if_pos (by omega)).symm)) dX8_toldOfBits_19
    · refine lv_iload_n hx hb dX8_toldOfBits_11 rfl (lv_at hl 0 rfl) ?_
      refine gcallSi C h (kJ6_bitCount_0f7a4 l D ct j (by omega)) (va_cwS 1 C.2.2.2.2 (gInS q469 q470 q74 q471) rfl rfl rfl hdJ6_bitCount_0f7a4 ⟨Nat.le_of_ble_eq_true rfl, Nat.le_of_ble_eq_true rfl⟩) rfl hl.1 rfl (Nat.le_of_ble_eq_true rfl) dX8_toldOfBits_12 ⟨Nat.zero_le _, Nat.zero_le _⟩ (fun H ll h => ?_)
      refine lv_goto (tgt := 19) hx hb dX8_toldOfBits_15 (by decide) ?_
      exact hret _ () _ _ _ _ h (by first | rfl | (unfold toldB; first | exact (if_neg (by omega)).symm | exact (if_pos (by omega)).symm)) dX8_toldOfBits_19
