/-! ===== statics that the class reads; answers that are references; calls by a class of a receiver; static calls over a part of the world ===== -/
def facA : Nat → Int32 := fun j => nI (fac j)
def digA : Nat → Int32 := fun j => [(0 : Int32), 1, 2, 3, 4, 5, 6, 7, 10, 11, 12, 20, 21, 22].getD j 0
def mck : List Int32 := [109, 101, 99, 107, 115]
def stX (dt : Nat → Nat) : gX := fun A U =>
  va_Nw (.methodLinkNest RX5 76 yX8_outcomeOf RX8) U ∧
  (va_Z RX8 "FACTORIALS" "[I" (.ref (dt 0)) A U U.heap ∧ va_T .int (dt 0) 9 (fun j => .int (facA j)) A U U.heap) ∧
  (va_Z RX8 "DIGESTED_OF_MUSSEL" "[I" (.ref (dt 1)) A U U.heap ∧ va_T .int (dt 1) 14 (fun j => .int (digA j)) A U U.heap) ∧
  (vk_R RX4 23 "mecks" (dt 2) U ∧ vk_R RX8 130 "mecks" (dt 2) U ∧ vk_S 1 [5] [mck] (fun _ => dt 2) (fun _ => dt 3) A U U.heap ∧ va_Z RJ0 "COMPACT_STRINGS" "Z" (.int 1) A U U.heap) ∧
  (va_Nw (.castable RX7 RX2) U ∧ va_Nc RX3 RX1 U ∧ va_Nc RX0 RX1 U ∧ va_Nc RX2 RX1 U ∧ va_Nc RX7 RX1 U ∧ va_Nc RX3 RX0 U ∧ va_Nc RX1 RX0 U ∧ va_Nc RX2 RX0 U ∧ va_Nc RX7 RX0 U ∧ va_Nc RX3 RX2 U ∧ va_Nc RX1 RX2 U ∧ va_Nc RX0 RX2 U ∧ va_Nc RX3 RX7 U ∧ va_Nc RX1 RX7 U ∧ va_Nc RX0 RX7 U ∧ va_Nc RX2 RX7 U)
theorem stX_ok (dt : Nat → Nat) : gXok (stX dt) := by
  refine ⟨fun A a U g mk h => ?_, fun A B s U h hW hk hB => ?_⟩
  · have al : U.vm.Alike (U.calling g mk a).vm := Vm.Alike.refl U.vm
    obtain ⟨h1, ⟨h2, h3⟩, ⟨h4, h5⟩, ⟨h6, h7, h8, h9⟩, n0, n1, n2, n3, n4, n5, n6, n7, n8, n9, n10, n11, n12, n13, n14, n15⟩ := h
    exact ⟨va_Nw.same rfl rfl h1, ⟨h2.moved al, h3.moved al⟩, ⟨h4.moved al, h5.moved al⟩, ⟨h6.same rfl, h7.same rfl, h8.moved al, h9.moved al⟩, va_Nw.same rfl rfl n0, n1.moved al, n2.moved al, n3.moved al, n4.moved al, n5.moved al, n6.moved al, n7.moved al, n8.moved al, n9.moved al, n10.moved al, n11.moved al, n12.moved al, n13.moved al, n14.moved al, n15.moved al⟩
  · have al : s.vm.Alike U.vm := hW.alike
    obtain ⟨h1, ⟨h2, h3⟩, ⟨h4, h5⟩, ⟨h6, h7, h8, h9⟩, n0, n1, n2, n3, n4, n5, n6, n7, n8, n9, n10, n11, n12, n13, n14, n15⟩ := h
    exact ⟨va_Nw.warmM hW h1, ⟨((h2.kept hk).moved al).narrow hB, ((h3.kept hk).moved al).narrow hB⟩, ⟨((h4.kept hk).moved al).narrow hB, ((h5.kept hk).moved al).narrow hB⟩, ⟨h6.warm hW, h7.warm hW, ((h8.kept hk).moved al).narrow hB, ((h9.kept hk).moved al).narrow hB⟩, va_Nw.warmC hW n0, n1.moved al, n2.moved al, n3.moved al, n4.moved al, n5.moved al, n6.moved al, n7.moved al, n8.moved al, n9.moved al, n10.moved al, n11.moved al, n12.moved al, n13.moved al, n14.moved al, n15.moved al⟩
/-- a contract that answers the reference rb and changes nothing -/
def MR (l : Launch) (y : MethodName) (cs : List Cond) (rm : Room) (D : va_G) (ct : Nat → ClassId) (X : gX) (av : List Value) (wi : va_W) (rb : Nat) : Prop :=
  ∀ sz : Nat, Met l y cs rm (va_Pc av (gPre D ct X wi sz)) (va_Qr (fun _ : Unit => True) (fun _ a t => a = rb ∧ gEnd D ct (va_A wi sz) (fun _ : Unit => wi) () t) (va_A wi sz)) 0 0 (va_A wi sz)
theorem MR.of {l : Launch} {y : MethodName} {cc : ByteArray} {nL : Nat} {rm : Room} {D : va_G} {ct : Nat → ClassId} {X : gX} {av : List Value} {wi : va_W} {rb : Nat} {Cn : String} (own : String) (ho : y.cls = own) (hy : plainName y.cls = true) (hlen : (lg_sl av).length ≤ nL)
    (body : ∀ (p : Program) (e : Env) (s : State) (m : MethodId) (args : Array Value) (below : List Frame) (meth : Method) (c : Code) (A : Nat → Prop) (ls : Array Slot) (Q : State → Prop), CallFix p m c cc nL s args (gWs y cc nL (some (.object Cn))) own → gW D ct A s s.heap [] wi → X A s → lv_has ls nL (lv_args 0 av) →
      (∀ (H : Heap) (ll : List Loc) (pc : Nat) (ls : Array Slot), gW D ct A s H ll wi → decode cc pc = .ok (.areturn, 1) → W p l e rm s m args below meth c H ll 0 0 Q (F0 m pc ls [.ref rb])) → W p l e rm s m args below meth c s.heap [] 0 0 Q (F0 m 0 ls [])) : MR l y (gWs y cc nL (some (.object Cn))) rm D ct X av wi rb := by
  intro sz
  refine Met.ofW (cc := cc) (maxL := nL) (ret := some (.object Cn)) hy rfl ?_
  intro p e s m args below meth c s₁ B hml hv
  obtain ⟨rfl, hsz, hP, hK, hD0, hX⟩ := hv
  subst hsz
  have hts := atoms_spec (ws := gWs y cc nL (some (.object Cn))) B.pre
  have hown : s.vm.findClass own = some m.cls := ho ▸ findClass_of_methodNamed B.named
  have hl := lv_entry av (n := nL) hlen
  rw [lg_entry_eq]
  generalize (lg_sl av ++ List.replicate (nL - (lg_sl av).length) Slot.unset).toArray = ls at hl ⊢
  exact body p e s m av.toArray below meth c (va_A wi s.heap.size) ls _ ⟨B.exec, B.bytes, hml, hown, hts⟩ ⟨hK, hP, hD0.self, va_S.rf, fun q h => Or.inr h⟩ hX hl (fun H ll pc ls h hd =>
    W.aret B.exec B.bytes B.returns (Or.inl ⟨_, rfl⟩) (Or.inr ⟨rb, rfl⟩) (fun t ht hW => ⟨⟨(), rb, rfl, trivial, rfl, by rw [ht]; exact h.2.1, va_K.moved hW.alike h.1, h.2.2.1⟩, h.2.2.2.1.F ht⟩) h.2.2.2.1.2.2 hd B.notSynchronized)
theorem gInO {own Cn owner : String} {idx maxL : Nat} {x y : MethodName} {bytes : ByteArray} {ret : Option FieldType} (h1 : Cond.methodLink own idx x ∈ gG) (h2 : Cond.sameMethod x.cls owner x.name x.desc ∈ gG) (h3 : Cond.instanceMethod ⟨owner, x.name, x.desc⟩ ∈ gG) (h4 : Cond.selects Cn x y ∈ gG) (h5 : Cond.instanceMethod y ∈ gG) (h6 : Cond.initialized y.cls ∈ gG) (h7 : Cond.code y bytes maxL ret ∈ gG) {y0 : MethodName} {cc : ByteArray} {n : Nat} {ret0 : Option FieldType} : GoodIn (gWs y0 cc n ret0) (va_wsO own idx Cn owner x y (gWs y bytes maxL ret)) := gIn (fun w hw => by
  simp only [va_wsO, gWs, List.mem_append, List.mem_cons, List.not_mem_nil, or_false] at hw
  rcases hw with (rfl | rfl | rfl | rfl | rfl | rfl) | rfl | hw <;> assumption)
theorem gInU {own Cn owner : String} {idx maxL : Nat} {x y : MethodName} {bytes : ByteArray} {ret : Option FieldType} (h1 : Cond.methodLink own idx x ∈ gG) (h2 : Cond.sameMethod x.cls owner x.name x.desc ∈ gG) (h4 : Cond.selects Cn x y ∈ gG) (h5 : Cond.instanceMethod y ∈ gG) (h6 : Cond.initialized y.cls ∈ gG) (h7 : Cond.code y bytes maxL ret ∈ gG) {y0 : MethodName} {cc : ByteArray} {n : Nat} {ret0 : Option FieldType} : GoodIn (gWs y0 cc n ret0) (va_wsU own idx Cn owner x y (gWs y bytes maxL ret)) := gIn (fun w hw => by
  simp only [va_wsU, gWs, List.mem_append, List.mem_cons, List.not_mem_nil, or_false] at hw
  rcases hw with (rfl | rfl | rfl | rfl | rfl) | rfl | hw <;> assumption)
section XLRows
variable {p : Program} {l : Launch} {e : Env} {R : Room} {s : State} {m : MethodId} {args : Array Value} {below : List Frame} {meth : Method} {c : Code} {H : Heap} {ll : List Loc} {cells slots : Nat} {Q : State → Prop}
variable {cc : ByteArray} {pc nL : Nat} {ls : Array Slot} {rest : List Value} {D : va_G} {ct : Nat → ClassId} {A : Nat → Prop} {a : Nat} {ws : va_W} {y0 : MethodName} {ret0 : Option FieldType} {own : String}
theorem gasr {x z : Nat} (k : x = z) (kk : W p l e R s m args below meth c H ll cells slots Q (F0 m pc ls (.ref z :: rest))) : W p l e R s m args below meth c H ll cells slots Q (F0 m pc ls (.ref x :: rest)) := k ▸ kk
/-- what comes back of a part that has not changed -/
theorem gFr.back {wi : va_W} {wb : Unit → va_W} (h : gW D ct A s H ll ws) (fr : gFr ws wi (fun _ : Unit => wi) wb) {H1 : Heap} {l1 : List Loc} (hk1 : ∀ q : Nat, q < H.size → ¬ va_A wi H.size q → H1[q]? = H[q]?) (hP1 : va_P D vwCl wi H1) (hD1 : va_D (va_A wi H.size) wi) (hS : va_S A s.heap H1 l1) : gW D ct A s H1 l1 (wb ()) := by
  obtain ⟨isC, isR, perm, wr, hC, hR, hn1, hn2, hdis, hn3, hb⟩ := fr
  have hF : ∀ q : Nat, va_A wi H.size q → A q := va_free h.2.2.1 h.2.2.2.1 h.2.2.2.2 isC hC
  obtain ⟨hP2, hD2⟩ := va_join h.2.1 h.2.2.1 isC isR hC hR hn1 hdis hk1 hF hP1 hD1
  exact ⟨h.1, hP2.sub perm (gsub (hb ())), hD2.sub perm hn3 (hb ()), hS, h.2.2.2.2⟩
theorem gFr.wi {wi : va_W} {S : Type} {wo wb : S → va_W} (h : gW D ct A s H ll ws) (fr : gFr ws wi wo wb) : va_P D vwCl wi H ∧ va_D A wi ∧ ∀ q : Nat, va_A wi H.size q → A q := by
  obtain ⟨isC, isR, perm, wr, hC, hR, hn1, hn2, hdis, hn3, hb⟩ := fr
  exact ⟨h.2.1.sub isC (gsub hC), h.2.2.1.sub isC hn2 hC, va_free h.2.2.1 h.2.2.2.1 h.2.2.2.2 isC hC⟩
theorem gFq {X : gX} {y : MethodName} {bytes : ByteArray} {maxL n idx : Nat} {ret : Option FieldType} {rm : Room} {b rb : Nat} {As : List Value} {wi : va_W} {wb : Unit → va_W} {Cn : String} (C : CallFix p m c cc nL s args (gWs y0 cc nL ret0) own) (h : gW D ct A s H ll ws) (hX : X A s) (hXo : gXok X) (hM : MR l y (gWs y bytes maxL ret) rm D ct X (.ref b :: As) wi rb) (cw : CallW R s args own Cn idx y bytes maxL ret (gWs y bytes maxL ret) rm 0 0 n) (q0 : Nat) {ci : Nat} {fs : List Value} {q : vw_C} (he : ws[q0]? = some (b, .inr (ci, fs))) (hc : vwCl[ci]? = some q) (hq : q.1 = Cn) (fr : gFr ws wi (fun _ : Unit => wi) wb) (hn : As.length = n) (hsz : ls.size = nL) {st : List Value} (hst : st = As.reverse ++ .ref b :: rest) (hw : (rest.map fun v => v.category).sum ≤ 8) (hdg : decode cc pc = .ok (.invokevirtual idx, 3)) (hcs : cells ≤ R.cells ∧ slots ≤ R.slots)
    (kk : ∀ (H : Heap) (ll : List Loc), gW D ct A s H ll (wb ()) → W p l e R s m args below meth c H ll cells slots Q (F0 m (pc + 3) ls (.ref rb :: rest))) : W p l e R s m args below meth c H ll cells slots Q (F0 m pc ls st) := by
  obtain ⟨hPc, hDc, hF⟩ := gFr.wi h fr
  refine va_callr (va_runV C (hM H.size) cw ⟨gBlind hXo, hq ▸ va_recv h.1 h.2.1 hc he, fun U hU hW => ⟨rfl, by rw [hU], by rw [hU]; exact hPc, va_K.moved hW.alike h.1, hDc.weaken (fun _ _ _ _ => trivial), hXo.2 A _ s U hX hW (fun q h1 h2 => by rw [hU]; exact h.2.2.2.1.2.1 q h1 h2) hF⟩⟩ rfl hn hsz hst (lv_room hw) hdg hcs) h.2.2.2.1 (fun q _ hq => hF q hq) hF (fun u ra t H1 l1 ht hvm hw1 hB hz1 hk1 hS => ?_)
  obtain ⟨rfl, hB⟩ := hB
  have hP1 := hB.1
  rw [ht] at hP1
  exact kk H1 l1 (gFr.back h fr hk1 hP1 hB.2.2 hS)
/-- a virtual call whose receiver is of the class Cn; x is what the reference names, y what runs -/
theorem gUi {y x : MethodName} {bytes : ByteArray} {maxL n idx : Nat} {ret : Option FieldType} {rm : Room} {b : Nat} {As : List Value} {wi : va_W} {wb : Unit → va_W} {f : Int32} {Cn owner : String} (C : CallFix p m c cc nL s args (gWs y0 cc nL ret0) own) (h : gW D ct A s H ll ws) (hM : MI l y (gWs y bytes maxL ret) rm D ct gNo (.ref b :: As) wi (fun _ : Unit => wi) (fun r _ => r = f)) (cw : va_CU R s args own Cn owner idx x y bytes maxL ret (gWs y bytes maxL ret) rm 0 0 n) (q0 : Nat) {ci : Nat} {fs : List Value} {q : vw_C} (he : ws[q0]? = some (b, .inr (ci, fs))) (hc : vwCl[ci]? = some q) (hq : q.1 = Cn) (fr : gFr ws wi (fun _ : Unit => wi) wb) (hn : As.length = n) (hsz : ls.size = nL) {st : List Value} (hst : st = As.reverse ++ .ref b :: rest) (hw : (rest.map fun v => v.category).sum ≤ 8) (hdg : decode cc pc = .ok (.invokevirtual idx, 3)) (hcs : cells ≤ R.cells ∧ slots ≤ R.slots)
    (kk : ∀ (H : Heap) (ll : List Loc), gW D ct A s H ll (wb ()) → W p l e R s m args below meth c H ll cells slots Q (F0 m (pc + 3) ls (.int f :: rest))) : W p l e R s m args below meth c H ll cells slots Q (F0 m pc ls st) := by
  obtain ⟨hPc, hDc, hF⟩ := gFr.wi h fr
  refine va_calli (va_runU C (hM H.size) cw ⟨gBlind gNo_ok, hq ▸ va_recv h.1 h.2.1 hc he, fun U hU hW => ⟨rfl, by rw [hU], by rw [hU]; exact hPc, va_K.moved hW.alike h.1, hDc.weaken (fun _ _ _ _ => trivial), trivial⟩⟩ rfl hn hsz hst (lv_room hw) hdg hcs) h.2.2.2.1 (fun q _ hq => hF q hq) hF (fun r u t H1 l1 ht hvm hw1 hB hz1 hk1 hS => ?_)
  have hP1 := hB.1
  rw [ht] at hP1
  rw [hw1]
  exact kk H1 l1 (gFr.back h fr hk1 hP1 hB.2.2 hS)
/-- a static call over a part of the world that stays as it is -/
theorem gSFi {X : gX} {y : MethodName} {bytes : ByteArray} {maxL n idx : Nat} {ret : Option FieldType} {rm : Room} {As : List Value} {wi : va_W} {wb : Unit → va_W} {f : Int32} (C : CallFix p m c cc nL s args (gWs y0 cc nL ret0) own) (h : gW D ct A s H ll ws) (hX : X A s) (hXo : gXok X) (hM : MI l y (gWs y bytes maxL ret) rm D ct X As wi (fun _ : Unit => wi) (fun r _ => r = f)) (cw : CallB R s args own idx y bytes maxL ret (gWs y bytes maxL ret) rm 0 0 n ∧ (Cond.static y).before args s = true) (fr : gFr ws wi (fun _ : Unit => wi) wb) (hn : As.length = n) (hsz : ls.size = nL) {st : List Value} (hst : st = As.reverse ++ rest) (hw : (rest.map fun v => v.category).sum ≤ 8) (hdg : decode cc pc = .ok (.invokestatic idx, 3)) (hcs : cells ≤ R.cells ∧ slots ≤ R.slots)
    (kk : ∀ (H : Heap) (ll : List Loc), gW D ct A s H ll (wb ()) → W p l e R s m args below meth c H ll cells slots Q (F0 m (pc + 3) ls (.int f :: rest))) : W p l e R s m args below meth c H ll cells slots Q (F0 m pc ls st) := by
  obtain ⟨hPc, hDc, hF⟩ := gFr.wi h fr
  refine va_calli (va_runS C (hM H.size) cw ⟨gBlind hXo, fun U hU hW => ⟨rfl, by rw [hU], by rw [hU]; exact hPc, va_K.moved hW.alike h.1, hDc.weaken (fun _ _ _ _ => trivial), hXo.2 A _ s U hX hW (fun q h1 h2 => by rw [hU]; exact h.2.2.2.1.2.1 q h1 h2) hF⟩⟩ rfl hn hsz hst (lv_room hw) hdg hcs) h.2.2.2.1 (fun q _ hq => hF q hq) hF (fun r u t H1 l1 ht hvm hw1 hB hz1 hk1 hS => ?_)
  have hP1 := hB.1
  rw [ht] at hP1
  rw [hw1]
  exact kk H1 l1 (gFr.back h fr hk1 hP1 hB.2.2 hS)
/-- a static call of a nest mate that needs no world; a static call with a long for an answer -/
theorem gFr0 : gFr ws [] (fun _ : Unit => []) (fun _ : Unit => ws) := by
  have key : ∀ (n : Nat), n ≤ ws.length → (List.range' (ws.length - n) n).map (fun i => ws[i]?) = (ws.drop (ws.length - n)).map some := by
    intro n
    induction n with
    | zero => intro _; simp
    | succ n ih =>
      intro hn
      have h1 := ih (by omega)
      rw [List.range'_succ, List.map_cons, show ws.length - (n + 1) + 1 = ws.length - n by omega, h1]
      rw [List.drop_eq_getElem_cons (show ws.length - (n + 1) < ws.length by omega), List.map_cons, show ws.length - (n + 1) + 1 = ws.length - n by omega, List.getElem?_eq_getElem (show ws.length - (n + 1) < ws.length by omega)]
  have hall : (List.range' 0 ws.length).map (fun i => ws[i]?) = ws.map some := by
    have := key ws.length (Nat.le_refl _)
    simpa using this
  have hnd : va_nd (List.range' 0 ws.length) = true := by
    have : ∀ (n a : Nat), va_nd (List.range' a n) = true := by
      intro n
      induction n with
      | zero => intro a; rfl
      | succ n ih =>
        intro a
        rw [List.range'_succ]
        simp only [va_nd, ih, Bool.and_true]
        simp
    exact this _ _
  exact ⟨[], List.range' 0 ws.length, List.range' 0 ws.length, ws, rfl, hall, hnd, rfl, (fun _ _ h => by cases h), hnd, (fun _ => by rw [List.append_nil]; exact hall)⟩
theorem gSN {y : MethodName} {host : String} {bytes : ByteArray} {maxL n idx : Nat} {ret : Option FieldType} {rm : Room} {As : List Value} {f : Int32} (C : CallFix p m c cc nL s args (gWs y0 cc nL ret0) own) (h : gW D ct A s H ll ws) (hM : MI l y (gWs y bytes maxL ret) rm D ct gNo As [] (fun _ : Unit => []) (fun r _ => r = f)) (cw : va_CN R s args own idx y host bytes maxL ret (gWs y bytes maxL ret) rm 0 0 n ∧ (Cond.static y).before args s = true ∧ True) (hn : As.length = n) (hsz : ls.size = nL) {st : List Value} (hst : st = As.reverse ++ rest) (hw : (rest.map fun v => v.category).sum ≤ 8) (hdg : decode cc pc = .ok (.invokestatic idx, 3)) (hcs : cells ≤ R.cells ∧ slots ≤ R.slots)
    (kk : ∀ (H : Heap) (ll : List Loc), gW D ct A s H ll ws → W p l e R s m args below meth c H ll cells slots Q (F0 m (pc + 3) ls (.int f :: rest))) : W p l e R s m args below meth c H ll cells slots Q (F0 m pc ls st) := by
  obtain ⟨hPc, hDc, hF⟩ := gFr.wi h gFr0
  refine va_calli (va_runSN C (hM H.size) cw ⟨gBlind gNo_ok, fun U hU hW => ⟨rfl, by rw [hU], by rw [hU]; exact hPc, va_K.moved hW.alike h.1, hDc.weaken (fun _ _ _ _ => trivial), trivial⟩⟩ rfl hn hsz hst (lv_room hw) hdg hcs) h.2.2.2.1 (fun q _ hq => hF q hq) hF (fun r u t H1 l1 ht hvm hw1 hB hz1 hk1 hS => ?_)
  have hP1 := hB.1
  rw [ht] at hP1
  rw [hw1]
  exact kk H1 l1 (gFr.back h gFr0 hk1 hP1 hB.2.2 hS)
theorem gcallSl {y : MethodName} {bytes : ByteArray} {maxL n idx : Nat} {ret : Option FieldType} {rm : Room} {As : List Value} {f : Int64} (C : CallFix p m c cc nL s args (gWs y0 cc nL ret0) own) (h : gW D ct A s H ll ws) (hM : ML l y (gWs y bytes maxL ret) rm D ct gNo As [] (fun _ : Unit => []) (fun r _ => r = f)) (cw : CallB R s args own idx y bytes maxL ret (gWs y bytes maxL ret) rm 0 0 n ∧ (Cond.static y).before args s = true) (hn : As.length = n) (hsz : ls.size = nL) {st : List Value} (hst : st = As.reverse ++ rest) (hw : (rest.map fun v => v.category).sum ≤ 8) (hdg : decode cc pc = .ok (.invokestatic idx, 3)) (hcs : cells ≤ R.cells ∧ slots ≤ R.slots)
    (kk : ∀ (H : Heap) (ll : List Loc), gW D ct A s H ll ws → W p l e R s m args below meth c H ll cells slots Q (F0 m (pc + 3) ls (.long f :: rest))) : W p l e R s m args below meth c H ll cells slots Q (F0 m pc ls st) := by
  obtain ⟨hPc, hDc, hF⟩ := gFr.wi h gFr0
  refine va_calll (va_runS C (hM H.size) cw ⟨gBlind gNo_ok, fun U hU hW => ⟨rfl, by rw [hU], by rw [hU]; exact hPc, va_K.moved hW.alike h.1, hDc.weaken (fun _ _ _ _ => trivial), trivial⟩⟩ rfl hn hsz hst (lv_room hw) hdg hcs) h.2.2.2.1 (fun q _ hq => hF q hq) hF (fun r u t H1 l1 ht hvm hw1 hB hz1 hk1 hS => ?_)
  have hP1 := hB.1
  rw [ht] at hP1
  rw [hw1]
  exact kk H1 l1 (gFr.back h gFr0 hk1 hP1 hB.2.2 hS)
end XLRows
abbrev rmX0_number : Room := { frames := 0, cells := 0, slots := 0, locals := 0 }
theorem hdX0_number : yX0_number.cls ≠ "java/lang/invoke/MethodHandle" ∧ yX0_number.cls ≠ "java/lang/invoke/VarHandle" ∧ (parseMethodDescriptor yX0_number.desc).map (fun d => d.parameters.length) = some 0 := by decide +kernel
theorem hvX0_number : yX0_number.cls = RX0 ∧ yX0_number.cls ≠ "java/lang/invoke/MethodHandle" ∧ yX0_number.cls ≠ "java/lang/invoke/VarHandle" ∧ (parseMethodDescriptor yX0_number.desc).map (fun d => d.parameters.length) = some 0 := by decide +kernel
abbrev rmX0_pulled : Room := { frames := 0, cells := 0, slots := 0, locals := 0 }
theorem hdX0_pulled : yX0_pulled.cls ≠ "java/lang/invoke/MethodHandle" ∧ yX0_pulled.cls ≠ "java/lang/invoke/VarHandle" ∧ (parseMethodDescriptor yX0_pulled.desc).map (fun d => d.parameters.length) = some 3 := by decide +kernel
theorem hvX0_pulled : yX0_pulled.cls = RX0 ∧ yX0_pulled.cls ≠ "java/lang/invoke/MethodHandle" ∧ yX0_pulled.cls ≠ "java/lang/invoke/VarHandle" ∧ (parseMethodDescriptor yX0_pulled.desc).map (fun d => d.parameters.length) = some 3 := by decide +kernel
abbrev rmX0_driftsAlong : Room := { frames := 0, cells := 0, slots := 0, locals := 0 }
theorem hdX0_driftsAlong : yX0_driftsAlong.cls ≠ "java/lang/invoke/MethodHandle" ∧ yX0_driftsAlong.cls ≠ "java/lang/invoke/VarHandle" ∧ (parseMethodDescriptor yX0_driftsAlong.desc).map (fun d => d.parameters.length) = some 0 := by decide +kernel
theorem hvX0_driftsAlong : yX0_driftsAlong.cls = RX0 ∧ yX0_driftsAlong.cls ≠ "java/lang/invoke/MethodHandle" ∧ yX0_driftsAlong.cls ≠ "java/lang/invoke/VarHandle" ∧ (parseMethodDescriptor yX0_driftsAlong.desc).map (fun d => d.parameters.length) = some 0 := by decide +kernel
abbrev rmX1_number : Room := { frames := 0, cells := 0, slots := 0, locals := 0 }
theorem hdX1_number : yX1_number.cls ≠ "java/lang/invoke/MethodHandle" ∧ yX1_number.cls ≠ "java/lang/invoke/VarHandle" ∧ (parseMethodDescriptor yX1_number.desc).map (fun d => d.parameters.length) = some 0 := by decide +kernel
theorem hvX1_number : yX1_number.cls = RX1 ∧ yX1_number.cls ≠ "java/lang/invoke/MethodHandle" ∧ yX1_number.cls ≠ "java/lang/invoke/VarHandle" ∧ (parseMethodDescriptor yX1_number.desc).map (fun d => d.parameters.length) = some 0 := by decide +kernel
abbrev rmX1_pulled : Room := { frames := 0, cells := 0, slots := 0, locals := 0 }
theorem hdX1_pulled : yX1_pulled.cls ≠ "java/lang/invoke/MethodHandle" ∧ yX1_pulled.cls ≠ "java/lang/invoke/VarHandle" ∧ (parseMethodDescriptor yX1_pulled.desc).map (fun d => d.parameters.length) = some 3 := by decide +kernel
theorem hvX1_pulled : yX1_pulled.cls = RX1 ∧ yX1_pulled.cls ≠ "java/lang/invoke/MethodHandle" ∧ yX1_pulled.cls ≠ "java/lang/invoke/VarHandle" ∧ (parseMethodDescriptor yX1_pulled.desc).map (fun d => d.parameters.length) = some 3 := by decide +kernel
abbrev rmX2_number : Room := { frames := 0, cells := 0, slots := 0, locals := 0 }
theorem hdX2_number : yX2_number.cls ≠ "java/lang/invoke/MethodHandle" ∧ yX2_number.cls ≠ "java/lang/invoke/VarHandle" ∧ (parseMethodDescriptor yX2_number.desc).map (fun d => d.parameters.length) = some 0 := by decide +kernel
theorem hvX2_number : yX2_number.cls = RX2 ∧ yX2_number.cls ≠ "java/lang/invoke/MethodHandle" ∧ yX2_number.cls ≠ "java/lang/invoke/VarHandle" ∧ (parseMethodDescriptor yX2_number.desc).map (fun d => d.parameters.length) = some 0 := by decide +kernel
abbrev rmX2_pulled : Room := { frames := 0, cells := 0, slots := 0, locals := 0 }
theorem hdX2_pulled : yX2_pulled.cls ≠ "java/lang/invoke/MethodHandle" ∧ yX2_pulled.cls ≠ "java/lang/invoke/VarHandle" ∧ (parseMethodDescriptor yX2_pulled.desc).map (fun d => d.parameters.length) = some 3 := by decide +kernel
theorem hvX2_pulled : yX2_pulled.cls = RX2 ∧ yX2_pulled.cls ≠ "java/lang/invoke/MethodHandle" ∧ yX2_pulled.cls ≠ "java/lang/invoke/VarHandle" ∧ (parseMethodDescriptor yX2_pulled.desc).map (fun d => d.parameters.length) = some 3 := by decide +kernel
abbrev rmX3_number : Room := { frames := 0, cells := 0, slots := 0, locals := 0 }
theorem hdX3_number : yX3_number.cls ≠ "java/lang/invoke/MethodHandle" ∧ yX3_number.cls ≠ "java/lang/invoke/VarHandle" ∧ (parseMethodDescriptor yX3_number.desc).map (fun d => d.parameters.length) = some 0 := by decide +kernel
theorem hvX3_number : yX3_number.cls = RX3 ∧ yX3_number.cls ≠ "java/lang/invoke/MethodHandle" ∧ yX3_number.cls ≠ "java/lang/invoke/VarHandle" ∧ (parseMethodDescriptor yX3_number.desc).map (fun d => d.parameters.length) = some 0 := by decide +kernel
abbrev rmX3_pulled : Room := { frames := 0, cells := 0, slots := 0, locals := 0 }
theorem hdX3_pulled : yX3_pulled.cls ≠ "java/lang/invoke/MethodHandle" ∧ yX3_pulled.cls ≠ "java/lang/invoke/VarHandle" ∧ (parseMethodDescriptor yX3_pulled.desc).map (fun d => d.parameters.length) = some 3 := by decide +kernel
theorem hvX3_pulled : yX3_pulled.cls = RX3 ∧ yX3_pulled.cls ≠ "java/lang/invoke/MethodHandle" ∧ yX3_pulled.cls ≠ "java/lang/invoke/VarHandle" ∧ (parseMethodDescriptor yX3_pulled.desc).map (fun d => d.parameters.length) = some 3 := by decide +kernel
abbrev rmX3_driftsAlong : Room := { frames := 0, cells := 0, slots := 0, locals := 0 }
theorem hdX3_driftsAlong : yX3_driftsAlong.cls ≠ "java/lang/invoke/MethodHandle" ∧ yX3_driftsAlong.cls ≠ "java/lang/invoke/VarHandle" ∧ (parseMethodDescriptor yX3_driftsAlong.desc).map (fun d => d.parameters.length) = some 0 := by decide +kernel
theorem hvX3_driftsAlong : yX3_driftsAlong.cls = RX3 ∧ yX3_driftsAlong.cls ≠ "java/lang/invoke/MethodHandle" ∧ yX3_driftsAlong.cls ≠ "java/lang/invoke/VarHandle" ∧ (parseMethodDescriptor yX3_driftsAlong.desc).map (fun d => d.parameters.length) = some 0 := by decide +kernel
abbrev rmX4_firstFault : Room := { frames := 8, cells := 0, slots := 0, locals := 181 }
theorem hdX4_firstFault : yX4_firstFault.cls ≠ "java/lang/invoke/MethodHandle" ∧ yX4_firstFault.cls ≠ "java/lang/invoke/VarHandle" ∧ (parseMethodDescriptor yX4_firstFault.desc).map (fun d => d.parameters.length) = some 0 := by decide +kernel
theorem hvX4_firstFault : yX4_firstFault.cls = RX4 ∧ yX4_firstFault.cls ≠ "java/lang/invoke/MethodHandle" ∧ yX4_firstFault.cls ≠ "java/lang/invoke/VarHandle" ∧ (parseMethodDescriptor yX4_firstFault.desc).map (fun d => d.parameters.length) = some 0 := by decide +kernel
abbrev rmX4_fitsAt : Room := { frames := 7, cells := 0, slots := 0, locals := 159 }
theorem hdX4_fitsAt : yX4_fitsAt.cls ≠ "java/lang/invoke/MethodHandle" ∧ yX4_fitsAt.cls ≠ "java/lang/invoke/VarHandle" ∧ (parseMethodDescriptor yX4_fitsAt.desc).map (fun d => d.parameters.length) = some 1 := by decide +kernel
theorem hvX4_fitsAt : yX4_fitsAt.cls = RX4 ∧ yX4_fitsAt.cls ≠ "java/lang/invoke/MethodHandle" ∧ yX4_fitsAt.cls ≠ "java/lang/invoke/VarHandle" ∧ (parseMethodDescriptor yX4_fitsAt.desc).map (fun d => d.parameters.length) = some 1 := by decide +kernel
abbrev rmX4_readsAsRope : Room := { frames := 9, cells := 0, slots := 0, locals := 202 }
theorem hdX4_readsAsRope : yX4_readsAsRope.cls ≠ "java/lang/invoke/MethodHandle" ∧ yX4_readsAsRope.cls ≠ "java/lang/invoke/VarHandle" ∧ (parseMethodDescriptor yX4_readsAsRope.desc).map (fun d => d.parameters.length) = some 0 := by decide +kernel
theorem hvX4_readsAsRope : yX4_readsAsRope.cls = RX4 ∧ yX4_readsAsRope.cls ≠ "java/lang/invoke/MethodHandle" ∧ yX4_readsAsRope.cls ≠ "java/lang/invoke/VarHandle" ∧ (parseMethodDescriptor yX4_readsAsRope.desc).map (fun d => d.parameters.length) = some 0 := by decide +kernel
abbrev rmX4_kindAt : Room := { frames := 7, cells := 0, slots := 0, locals := 159 }
theorem hdX4_kindAt : yX4_kindAt.cls ≠ "java/lang/invoke/MethodHandle" ∧ yX4_kindAt.cls ≠ "java/lang/invoke/VarHandle" ∧ (parseMethodDescriptor yX4_kindAt.desc).map (fun d => d.parameters.length) = some 1 := by decide +kernel
theorem hvX4_kindAt : yX4_kindAt.cls = RX4 ∧ yX4_kindAt.cls ≠ "java/lang/invoke/MethodHandle" ∧ yX4_kindAt.cls ≠ "java/lang/invoke/VarHandle" ∧ (parseMethodDescriptor yX4_kindAt.desc).map (fun d => d.parameters.length) = some 1 := by decide +kernel
abbrev rmX4_weightAt : Room := { frames := 0, cells := 0, slots := 0, locals := 0 }
theorem hdX4_weightAt : yX4_weightAt.cls ≠ "java/lang/invoke/MethodHandle" ∧ yX4_weightAt.cls ≠ "java/lang/invoke/VarHandle" ∧ (parseMethodDescriptor yX4_weightAt.desc).map (fun d => d.parameters.length) = some 1 := by decide +kernel
theorem hvX4_weightAt : yX4_weightAt.cls = RX4 ∧ yX4_weightAt.cls ≠ "java/lang/invoke/MethodHandle" ∧ yX4_weightAt.cls ≠ "java/lang/invoke/VarHandle" ∧ (parseMethodDescriptor yX4_weightAt.desc).map (fun d => d.parameters.length) = some 1 := by decide +kernel
abbrev rmX4_leanAt : Room := { frames := 0, cells := 0, slots := 0, locals := 0 }
theorem hdX4_leanAt : yX4_leanAt.cls ≠ "java/lang/invoke/MethodHandle" ∧ yX4_leanAt.cls ≠ "java/lang/invoke/VarHandle" ∧ (parseMethodDescriptor yX4_leanAt.desc).map (fun d => d.parameters.length) = some 2 := by decide +kernel
theorem hvX4_leanAt : yX4_leanAt.cls = RX4 ∧ yX4_leanAt.cls ≠ "java/lang/invoke/MethodHandle" ∧ yX4_leanAt.cls ≠ "java/lang/invoke/VarHandle" ∧ (parseMethodDescriptor yX4_leanAt.desc).map (fun d => d.parameters.length) = some 2 := by decide +kernel
abbrev rmX5_has : Room := { frames := 0, cells := 0, slots := 0, locals := 0 }
theorem hdX5_has : yX5_has.cls ≠ "java/lang/invoke/MethodHandle" ∧ yX5_has.cls ≠ "java/lang/invoke/VarHandle" ∧ (parseMethodDescriptor yX5_has.desc).map (fun d => d.parameters.length) = some 1 := by decide +kernel
theorem hvX5_has : yX5_has.cls = RX5 ∧ yX5_has.cls ≠ "java/lang/invoke/MethodHandle" ∧ yX5_has.cls ≠ "java/lang/invoke/VarHandle" ∧ (parseMethodDescriptor yX5_has.desc).map (fun d => d.parameters.length) = some 1 := by decide +kernel
abbrev rmX5_hang : Room := { frames := 0, cells := 0, slots := 0, locals := 0 }
theorem hdX5_hang : yX5_hang.cls ≠ "java/lang/invoke/MethodHandle" ∧ yX5_hang.cls ≠ "java/lang/invoke/VarHandle" ∧ (parseMethodDescriptor yX5_hang.desc).map (fun d => d.parameters.length) = some 2 := by decide +kernel
theorem hvX5_hang : yX5_hang.cls = RX5 ∧ yX5_hang.cls ≠ "java/lang/invoke/MethodHandle" ∧ yX5_hang.cls ≠ "java/lang/invoke/VarHandle" ∧ (parseMethodDescriptor yX5_hang.desc).map (fun d => d.parameters.length) = some 2 := by decide +kernel
abbrev rmX5_kindOf : Room := { frames := 0, cells := 0, slots := 0, locals := 0 }
theorem hdX5_kindOf : yX5_kindOf.cls ≠ "java/lang/invoke/MethodHandle" ∧ yX5_kindOf.cls ≠ "java/lang/invoke/VarHandle" ∧ (parseMethodDescriptor yX5_kindOf.desc).map (fun d => d.parameters.length) = some 1 := by decide +kernel
theorem hvX5_kindOf : yX5_kindOf.cls = RX5 ∧ yX5_kindOf.cls ≠ "java/lang/invoke/MethodHandle" ∧ yX5_kindOf.cls ≠ "java/lang/invoke/VarHandle" ∧ (parseMethodDescriptor yX5_kindOf.desc).map (fun d => d.parameters.length) = some 1 := by decide +kernel
abbrev rmX5_feltIn : Room := { frames := 0, cells := 0, slots := 0, locals := 0 }
theorem hdX5_feltIn : yX5_feltIn.cls ≠ "java/lang/invoke/MethodHandle" ∧ yX5_feltIn.cls ≠ "java/lang/invoke/VarHandle" ∧ (parseMethodDescriptor yX5_feltIn.desc).map (fun d => d.parameters.length) = some 1 := by decide +kernel
theorem hvX5_feltIn : yX5_feltIn.cls = RX5 ∧ yX5_feltIn.cls ≠ "java/lang/invoke/MethodHandle" ∧ yX5_feltIn.cls ≠ "java/lang/invoke/VarHandle" ∧ (parseMethodDescriptor yX5_feltIn.desc).map (fun d => d.parameters.length) = some 1 := by decide +kernel
abbrev rmX5_sumOf : Room := { frames := 2, cells := 0, slots := 0, locals := 50 }
theorem hdX5_sumOf : yX5_sumOf.cls ≠ "java/lang/invoke/MethodHandle" ∧ yX5_sumOf.cls ≠ "java/lang/invoke/VarHandle" ∧ (parseMethodDescriptor yX5_sumOf.desc).map (fun d => d.parameters.length) = some 2 := by decide +kernel
theorem hvX5_sumOf : yX5_sumOf.cls = RX5 ∧ yX5_sumOf.cls ≠ "java/lang/invoke/MethodHandle" ∧ yX5_sumOf.cls ≠ "java/lang/invoke/VarHandle" ∧ (parseMethodDescriptor yX5_sumOf.desc).map (fun d => d.parameters.length) = some 2 := by decide +kernel
abbrev rmX5_pullOf : Room := { frames := 1, cells := 0, slots := 0, locals := 24 }
theorem hdX5_pullOf : yX5_pullOf.cls ≠ "java/lang/invoke/MethodHandle" ∧ yX5_pullOf.cls ≠ "java/lang/invoke/VarHandle" ∧ (parseMethodDescriptor yX5_pullOf.desc).map (fun d => d.parameters.length) = some 3 := by decide +kernel
theorem hvX5_pullOf : yX5_pullOf.cls = RX5 ∧ yX5_pullOf.cls ≠ "java/lang/invoke/MethodHandle" ∧ yX5_pullOf.cls ≠ "java/lang/invoke/VarHandle" ∧ (parseMethodDescriptor yX5_pullOf.desc).map (fun d => d.parameters.length) = some 3 := by decide +kernel
abbrev rmX5_leanAhead : Room := { frames := 0, cells := 0, slots := 0, locals := 0 }
theorem hdX5_leanAhead : yX5_leanAhead.cls ≠ "java/lang/invoke/MethodHandle" ∧ yX5_leanAhead.cls ≠ "java/lang/invoke/VarHandle" ∧ (parseMethodDescriptor yX5_leanAhead.desc).map (fun d => d.parameters.length) = some 3 := by decide +kernel
theorem hvX5_leanAhead : yX5_leanAhead.cls = RX5 ∧ yX5_leanAhead.cls ≠ "java/lang/invoke/MethodHandle" ∧ yX5_leanAhead.cls ≠ "java/lang/invoke/VarHandle" ∧ (parseMethodDescriptor yX5_leanAhead.desc).map (fun d => d.parameters.length) = some 3 := by decide +kernel
abbrev rmX5_leanBehind : Room := { frames := 0, cells := 0, slots := 0, locals := 0 }
theorem hdX5_leanBehind : yX5_leanBehind.cls ≠ "java/lang/invoke/MethodHandle" ∧ yX5_leanBehind.cls ≠ "java/lang/invoke/VarHandle" ∧ (parseMethodDescriptor yX5_leanBehind.desc).map (fun d => d.parameters.length) = some 3 := by decide +kernel
theorem hvX5_leanBehind : yX5_leanBehind.cls = RX5 ∧ yX5_leanBehind.cls ≠ "java/lang/invoke/MethodHandle" ∧ yX5_leanBehind.cls ≠ "java/lang/invoke/VarHandle" ∧ (parseMethodDescriptor yX5_leanBehind.desc).map (fun d => d.parameters.length) = some 3 := by decide +kernel
abbrev rmX5_drift : Room := { frames := 1, cells := 0, slots := 0, locals := 24 }
theorem hdX5_drift : yX5_drift.cls ≠ "java/lang/invoke/MethodHandle" ∧ yX5_drift.cls ≠ "java/lang/invoke/VarHandle" ∧ (parseMethodDescriptor yX5_drift.desc).map (fun d => d.parameters.length) = some 1 := by decide +kernel
theorem hvX5_drift : yX5_drift.cls = RX5 ∧ yX5_drift.cls ≠ "java/lang/invoke/MethodHandle" ∧ yX5_drift.cls ≠ "java/lang/invoke/VarHandle" ∧ (parseMethodDescriptor yX5_drift.desc).map (fun d => d.parameters.length) = some 1 := by decide +kernel
abbrev rmX6_turnRound : Room := { frames := 0, cells := 0, slots := 0, locals := 0 }
theorem hdX6_turnRound : yX6_turnRound.cls ≠ "java/lang/invoke/MethodHandle" ∧ yX6_turnRound.cls ≠ "java/lang/invoke/VarHandle" ∧ (parseMethodDescriptor yX6_turnRound.desc).map (fun d => d.parameters.length) = some 2 := by decide +kernel
theorem hvX6_turnRound : yX6_turnRound.cls = RX6 ∧ yX6_turnRound.cls ≠ "java/lang/invoke/MethodHandle" ∧ yX6_turnRound.cls ≠ "java/lang/invoke/VarHandle" ∧ (parseMethodDescriptor yX6_turnRound.desc).map (fun d => d.parameters.length) = some 2 := by decide +kernel
abbrev rmX6_addSeen : Room := { frames := 0, cells := 0, slots := 0, locals := 0 }
theorem hdX6_addSeen : yX6_addSeen.cls ≠ "java/lang/invoke/MethodHandle" ∧ yX6_addSeen.cls ≠ "java/lang/invoke/VarHandle" ∧ (parseMethodDescriptor yX6_addSeen.desc).map (fun d => d.parameters.length) = some 3 := by decide +kernel
theorem hvX6_addSeen : yX6_addSeen.cls = RX6 ∧ yX6_addSeen.cls ≠ "java/lang/invoke/MethodHandle" ∧ yX6_addSeen.cls ≠ "java/lang/invoke/VarHandle" ∧ (parseMethodDescriptor yX6_addSeen.desc).map (fun d => d.parameters.length) = some 3 := by decide +kernel
abbrev rmX6_seenAllows : Room := { frames := 0, cells := 0, slots := 0, locals := 0 }
theorem hdX6_seenAllows : yX6_seenAllows.cls ≠ "java/lang/invoke/MethodHandle" ∧ yX6_seenAllows.cls ≠ "java/lang/invoke/VarHandle" ∧ (parseMethodDescriptor yX6_seenAllows.desc).map (fun d => d.parameters.length) = some 3 := by decide +kernel
theorem hvX6_seenAllows : yX6_seenAllows.cls = RX6 ∧ yX6_seenAllows.cls ≠ "java/lang/invoke/MethodHandle" ∧ yX6_seenAllows.cls ≠ "java/lang/invoke/VarHandle" ∧ (parseMethodDescriptor yX6_seenAllows.desc).map (fun d => d.parameters.length) = some 3 := by decide +kernel
abbrev rmX6_leanCode : Room := { frames := 0, cells := 0, slots := 0, locals := 0 }
theorem hdX6_leanCode : yX6_leanCode.cls ≠ "java/lang/invoke/MethodHandle" ∧ yX6_leanCode.cls ≠ "java/lang/invoke/VarHandle" ∧ (parseMethodDescriptor yX6_leanCode.desc).map (fun d => d.parameters.length) = some 0 := by decide +kernel
theorem hvX6_leanCode : yX6_leanCode.cls = RX6 ∧ yX6_leanCode.cls ≠ "java/lang/invoke/MethodHandle" ∧ yX6_leanCode.cls ≠ "java/lang/invoke/VarHandle" ∧ (parseMethodDescriptor yX6_leanCode.desc).map (fun d => d.parameters.length) = some 0 := by decide +kernel
abbrev rmX6_clearAll : Room := { frames := 0, cells := 0, slots := 0, locals := 0 }
theorem hdX6_clearAll : yX6_clearAll.cls ≠ "java/lang/invoke/MethodHandle" ∧ yX6_clearAll.cls ≠ "java/lang/invoke/VarHandle" ∧ (parseMethodDescriptor yX6_clearAll.desc).map (fun d => d.parameters.length) = some 0 := by decide +kernel
theorem hvX6_clearAll : yX6_clearAll.cls = RX6 ∧ yX6_clearAll.cls ≠ "java/lang/invoke/MethodHandle" ∧ yX6_clearAll.cls ≠ "java/lang/invoke/VarHandle" ∧ (parseMethodDescriptor yX6_clearAll.desc).map (fun d => d.parameters.length) = some 0 := by decide +kernel
abbrev rmX6_takeFrom : Room := { frames := 1, cells := 0, slots := 0, locals := 40 }
theorem hdX6_takeFrom : yX6_takeFrom.cls ≠ "java/lang/invoke/MethodHandle" ∧ yX6_takeFrom.cls ≠ "java/lang/invoke/VarHandle" ∧ (parseMethodDescriptor yX6_takeFrom.desc).map (fun d => d.parameters.length) = some 1 := by decide +kernel
theorem hvX6_takeFrom : yX6_takeFrom.cls = RX6 ∧ yX6_takeFrom.cls ≠ "java/lang/invoke/MethodHandle" ∧ yX6_takeFrom.cls ≠ "java/lang/invoke/VarHandle" ∧ (parseMethodDescriptor yX6_takeFrom.desc).map (fun d => d.parameters.length) = some 1 := by decide +kernel
abbrev rmX7_number : Room := { frames := 0, cells := 0, slots := 0, locals := 0 }
theorem hdX7_number : yX7_number.cls ≠ "java/lang/invoke/MethodHandle" ∧ yX7_number.cls ≠ "java/lang/invoke/VarHandle" ∧ (parseMethodDescriptor yX7_number.desc).map (fun d => d.parameters.length) = some 0 := by decide +kernel
theorem hvX7_number : yX7_number.cls = RX7 ∧ yX7_number.cls ≠ "java/lang/invoke/MethodHandle" ∧ yX7_number.cls ≠ "java/lang/invoke/VarHandle" ∧ (parseMethodDescriptor yX7_number.desc).map (fun d => d.parameters.length) = some 0 := by decide +kernel
abbrev rmX7_pulled : Room := { frames := 0, cells := 0, slots := 0, locals := 0 }
theorem hdX7_pulled : yX7_pulled.cls ≠ "java/lang/invoke/MethodHandle" ∧ yX7_pulled.cls ≠ "java/lang/invoke/VarHandle" ∧ (parseMethodDescriptor yX7_pulled.desc).map (fun d => d.parameters.length) = some 3 := by decide +kernel
theorem hvX7_pulled : yX7_pulled.cls = RX7 ∧ yX7_pulled.cls ≠ "java/lang/invoke/MethodHandle" ∧ yX7_pulled.cls ≠ "java/lang/invoke/VarHandle" ∧ (parseMethodDescriptor yX7_pulled.desc).map (fun d => d.parameters.length) = some 3 := by decide +kernel
abbrev rmX8_letter : Room := { frames := 0, cells := 0, slots := 0, locals := 0 }
theorem hdX8_letter : yX8_letter.cls ≠ "java/lang/invoke/MethodHandle" ∧ yX8_letter.cls ≠ "java/lang/invoke/VarHandle" ∧ (parseMethodDescriptor yX8_letter.desc).map (fun d => d.parameters.length) = some 1 := by decide +kernel
theorem hvX8_letter : yX8_letter.cls = RX8 ∧ yX8_letter.cls ≠ "java/lang/invoke/MethodHandle" ∧ yX8_letter.cls ≠ "java/lang/invoke/VarHandle" ∧ (parseMethodDescriptor yX8_letter.desc).map (fun d => d.parameters.length) = some 1 := by decide +kernel
abbrev rmX8_blank : Room := { frames := 0, cells := 0, slots := 0, locals := 0 }
theorem hdX8_blank : yX8_blank.cls ≠ "java/lang/invoke/MethodHandle" ∧ yX8_blank.cls ≠ "java/lang/invoke/VarHandle" ∧ (parseMethodDescriptor yX8_blank.desc).map (fun d => d.parameters.length) = some 0 := by decide +kernel
theorem hvX8_blank : yX8_blank.cls = RX8 ∧ yX8_blank.cls ≠ "java/lang/invoke/MethodHandle" ∧ yX8_blank.cls ≠ "java/lang/invoke/VarHandle" ∧ (parseMethodDescriptor yX8_blank.desc).map (fun d => d.parameters.length) = some 0 := by decide +kernel
abbrev rmX8_fault : Room := { frames := 9, cells := 0, slots := 0, locals := 202 }
theorem hdX8_fault : yX8_fault.cls ≠ "java/lang/invoke/MethodHandle" ∧ yX8_fault.cls ≠ "java/lang/invoke/VarHandle" ∧ (parseMethodDescriptor yX8_fault.desc).map (fun d => d.parameters.length) = some 0 := by decide +kernel
theorem hvX8_fault : yX8_fault.cls = RX8 ∧ yX8_fault.cls ≠ "java/lang/invoke/MethodHandle" ∧ yX8_fault.cls ≠ "java/lang/invoke/VarHandle" ∧ (parseMethodDescriptor yX8_fault.desc).map (fun d => d.parameters.length) = some 0 := by decide +kernel
abbrev rmX8_rope : Room := { frames := 10, cells := 0, slots := 0, locals := 223 }
theorem hdX8_rope : yX8_rope.cls ≠ "java/lang/invoke/MethodHandle" ∧ yX8_rope.cls ≠ "java/lang/invoke/VarHandle" ∧ (parseMethodDescriptor yX8_rope.desc).map (fun d => d.parameters.length) = some 0 := by decide +kernel
theorem hvX8_rope : yX8_rope.cls = RX8 ∧ yX8_rope.cls ≠ "java/lang/invoke/MethodHandle" ∧ yX8_rope.cls ≠ "java/lang/invoke/VarHandle" ∧ (parseMethodDescriptor yX8_rope.desc).map (fun d => d.parameters.length) = some 0 := by decide +kernel
abbrev rmX8_mussel : Room := { frames := 5, cells := 0, slots := 0, locals := 125 }
theorem hdX8_mussel : yX8_mussel.cls ≠ "java/lang/invoke/MethodHandle" ∧ yX8_mussel.cls ≠ "java/lang/invoke/VarHandle" ∧ (parseMethodDescriptor yX8_mussel.desc).map (fun d => d.parameters.length) = some 2 := by decide +kernel
theorem hvX8_mussel : yX8_mussel.cls = RX8 ∧ yX8_mussel.cls ≠ "java/lang/invoke/MethodHandle" ∧ yX8_mussel.cls ≠ "java/lang/invoke/VarHandle" ∧ (parseMethodDescriptor yX8_mussel.desc).map (fun d => d.parameters.length) = some 2 := by decide +kernel
abbrev rmX8_as : Room := { frames := 2, cells := 0, slots := 0, locals := 40 }
theorem hdX8_as : yX8_as.cls ≠ "java/lang/invoke/MethodHandle" ∧ yX8_as.cls ≠ "java/lang/invoke/VarHandle" ∧ (parseMethodDescriptor yX8_as.desc).map (fun d => d.parameters.length) = some 2 := by decide +kernel
theorem hvX8_as : yX8_as.cls = RX8 ∧ yX8_as.cls ≠ "java/lang/invoke/MethodHandle" ∧ yX8_as.cls ≠ "java/lang/invoke/VarHandle" ∧ (parseMethodDescriptor yX8_as.desc).map (fun d => d.parameters.length) = some 2 := by decide +kernel
abbrev rmX8_question : Room := { frames := 3, cells := 0, slots := 0, locals := 75 }
theorem hdX8_question : yX8_question.cls ≠ "java/lang/invoke/MethodHandle" ∧ yX8_question.cls ≠ "java/lang/invoke/VarHandle" ∧ (parseMethodDescriptor yX8_question.desc).map (fun d => d.parameters.length) = some 2 := by decide +kernel
theorem hvX8_question : yX8_question.cls = RX8 ∧ yX8_question.cls ≠ "java/lang/invoke/MethodHandle" ∧ yX8_question.cls ≠ "java/lang/invoke/VarHandle" ∧ (parseMethodDescriptor yX8_question.desc).map (fun d => d.parameters.length) = some 2 := by decide +kernel
abbrev rmX8_ask : Room := { frames := 3, cells := 0, slots := 0, locals := 75 }
theorem hdX8_ask : yX8_ask.cls ≠ "java/lang/invoke/MethodHandle" ∧ yX8_ask.cls ≠ "java/lang/invoke/VarHandle" ∧ (parseMethodDescriptor yX8_ask.desc).map (fun d => d.parameters.length) = some 1 := by decide +kernel
theorem hvX8_ask : yX8_ask.cls = RX8 ∧ yX8_ask.cls ≠ "java/lang/invoke/MethodHandle" ∧ yX8_ask.cls ≠ "java/lang/invoke/VarHandle" ∧ (parseMethodDescriptor yX8_ask.desc).map (fun d => d.parameters.length) = some 1 := by decide +kernel
abbrev rmX8_tide : Room := { frames := 2, cells := 0, slots := 0, locals := 51 }
theorem hdX8_tide : yX8_tide.cls ≠ "java/lang/invoke/MethodHandle" ∧ yX8_tide.cls ≠ "java/lang/invoke/VarHandle" ∧ (parseMethodDescriptor yX8_tide.desc).map (fun d => d.parameters.length) = some 0 := by decide +kernel
theorem hvX8_tide : yX8_tide.cls = RX8 ∧ yX8_tide.cls ≠ "java/lang/invoke/MethodHandle" ∧ yX8_tide.cls ≠ "java/lang/invoke/VarHandle" ∧ (parseMethodDescriptor yX8_tide.desc).map (fun d => d.parameters.length) = some 0 := by decide +kernel
abbrev rmX8_cut : Room := { frames := 1, cells := 0, slots := 0, locals := 22 }
theorem hdX8_cut : yX8_cut.cls ≠ "java/lang/invoke/MethodHandle" ∧ yX8_cut.cls ≠ "java/lang/invoke/VarHandle" ∧ (parseMethodDescriptor yX8_cut.desc).map (fun d => d.parameters.length) = some 1 := by decide +kernel
theorem hvX8_cut : yX8_cut.cls = RX8 ∧ yX8_cut.cls ≠ "java/lang/invoke/MethodHandle" ∧ yX8_cut.cls ≠ "java/lang/invoke/VarHandle" ∧ (parseMethodDescriptor yX8_cut.desc).map (fun d => d.parameters.length) = some 1 := by decide +kernel
abbrev rmX8_tie : Room := { frames := 1, cells := 0, slots := 0, locals := 22 }
theorem hdX8_tie : yX8_tie.cls ≠ "java/lang/invoke/MethodHandle" ∧ yX8_tie.cls ≠ "java/lang/invoke/VarHandle" ∧ (parseMethodDescriptor yX8_tie.desc).map (fun d => d.parameters.length) = some 1 := by decide +kernel
theorem hvX8_tie : yX8_tie.cls = RX8 ∧ yX8_tie.cls ≠ "java/lang/invoke/MethodHandle" ∧ yX8_tie.cls ≠ "java/lang/invoke/VarHandle" ∧ (parseMethodDescriptor yX8_tie.desc).map (fun d => d.parameters.length) = some 1 := by decide +kernel
abbrev rmX8_turn : Room := { frames := 1, cells := 0, slots := 0, locals := 21 }
theorem hdX8_turn : yX8_turn.cls ≠ "java/lang/invoke/MethodHandle" ∧ yX8_turn.cls ≠ "java/lang/invoke/VarHandle" ∧ (parseMethodDescriptor yX8_turn.desc).map (fun d => d.parameters.length) = some 3 := by decide +kernel
theorem hvX8_turn : yX8_turn.cls = RX8 ∧ yX8_turn.cls ≠ "java/lang/invoke/MethodHandle" ∧ yX8_turn.cls ≠ "java/lang/invoke/VarHandle" ∧ (parseMethodDescriptor yX8_turn.desc).map (fun d => d.parameters.length) = some 3 := by decide +kernel
abbrev rmX8_grow : Room := { frames := 1, cells := 0, slots := 0, locals := 21 }
theorem hdX8_grow : yX8_grow.cls ≠ "java/lang/invoke/MethodHandle" ∧ yX8_grow.cls ≠ "java/lang/invoke/VarHandle" ∧ (parseMethodDescriptor yX8_grow.desc).map (fun d => d.parameters.length) = some 2 := by decide +kernel
theorem hvX8_grow : yX8_grow.cls = RX8 ∧ yX8_grow.cls ≠ "java/lang/invoke/MethodHandle" ∧ yX8_grow.cls ≠ "java/lang/invoke/VarHandle" ∧ (parseMethodDescriptor yX8_grow.desc).map (fun d => d.parameters.length) = some 2 := by decide +kernel
abbrev rmX8_say : Room := { frames := 4, cells := 0, slots := 0, locals := 107 }
theorem hdX8_say : yX8_say.cls ≠ "java/lang/invoke/MethodHandle" ∧ yX8_say.cls ≠ "java/lang/invoke/VarHandle" ∧ (parseMethodDescriptor yX8_say.desc).map (fun d => d.parameters.length) = some 3 := by decide +kernel
theorem hvX8_say : yX8_say.cls = RX8 ∧ yX8_say.cls ≠ "java/lang/invoke/MethodHandle" ∧ yX8_say.cls ≠ "java/lang/invoke/VarHandle" ∧ (parseMethodDescriptor yX8_say.desc).map (fun d => d.parameters.length) = some 3 := by decide +kernel
abbrev rmX8_chance : Room := { frames := 4, cells := 0, slots := 0, locals := 102 }
theorem hdX8_chance : yX8_chance.cls ≠ "java/lang/invoke/MethodHandle" ∧ yX8_chance.cls ≠ "java/lang/invoke/VarHandle" ∧ (parseMethodDescriptor yX8_chance.desc).map (fun d => d.parameters.length) = some 3 := by decide +kernel
theorem hvX8_chance : yX8_chance.cls = RX8 ∧ yX8_chance.cls ≠ "java/lang/invoke/MethodHandle" ∧ yX8_chance.cls ≠ "java/lang/invoke/VarHandle" ∧ (parseMethodDescriptor yX8_chance.desc).map (fun d => d.parameters.length) = some 3 := by decide +kernel
abbrev rmX8_cuts : Room := { frames := 4, cells := 0, slots := 0, locals := 99 }
theorem hdX8_cuts : yX8_cuts.cls ≠ "java/lang/invoke/MethodHandle" ∧ yX8_cuts.cls ≠ "java/lang/invoke/VarHandle" ∧ (parseMethodDescriptor yX8_cuts.desc).map (fun d => d.parameters.length) = some 3 := by decide +kernel
theorem hvX8_cuts : yX8_cuts.cls = RX8 ∧ yX8_cuts.cls ≠ "java/lang/invoke/MethodHandle" ∧ yX8_cuts.cls ≠ "java/lang/invoke/VarHandle" ∧ (parseMethodDescriptor yX8_cuts.desc).map (fun d => d.parameters.length) = some 3 := by decide +kernel
abbrev rmX8_fewTurns : Room := { frames := 5, cells := 0, slots := 0, locals := 125 }
theorem hdX8_fewTurns : yX8_fewTurns.cls ≠ "java/lang/invoke/MethodHandle" ∧ yX8_fewTurns.cls ≠ "java/lang/invoke/VarHandle" ∧ (parseMethodDescriptor yX8_fewTurns.desc).map (fun d => d.parameters.length) = some 3 := by decide +kernel
theorem hvX8_fewTurns : yX8_fewTurns.cls = RX8 ∧ yX8_fewTurns.cls ≠ "java/lang/invoke/MethodHandle" ∧ yX8_fewTurns.cls ≠ "java/lang/invoke/VarHandle" ∧ (parseMethodDescriptor yX8_fewTurns.desc).map (fun d => d.parameters.length) = some 3 := by decide +kernel
abbrev rmX8_settle : Room := { frames := 3, cells := 0, slots := 0, locals := 83 }
theorem hdX8_settle : yX8_settle.cls ≠ "java/lang/invoke/MethodHandle" ∧ yX8_settle.cls ≠ "java/lang/invoke/VarHandle" ∧ (parseMethodDescriptor yX8_settle.desc).map (fun d => d.parameters.length) = some 1 := by decide +kernel
theorem hvX8_settle : yX8_settle.cls = RX8 ∧ yX8_settle.cls ≠ "java/lang/invoke/MethodHandle" ∧ yX8_settle.cls ≠ "java/lang/invoke/VarHandle" ∧ (parseMethodDescriptor yX8_settle.desc).map (fun d => d.parameters.length) = some 1 := by decide +kernel
abbrev rmX8_see : Room := { frames := 1, cells := 0, slots := 0, locals := 23 }
theorem hdX8_see : yX8_see.cls ≠ "java/lang/invoke/MethodHandle" ∧ yX8_see.cls ≠ "java/lang/invoke/VarHandle" ∧ (parseMethodDescriptor yX8_see.desc).map (fun d => d.parameters.length) = some 3 := by decide +kernel
theorem hvX8_see : yX8_see.cls = RX8 ∧ yX8_see.cls ≠ "java/lang/invoke/MethodHandle" ∧ yX8_see.cls ≠ "java/lang/invoke/VarHandle" ∧ (parseMethodDescriptor yX8_see.desc).map (fun d => d.parameters.length) = some 3 := by decide +kernel
abbrev rmX8_forget : Room := { frames := 0, cells := 0, slots := 0, locals := 0 }
theorem hdX8_forget : yX8_forget.cls ≠ "java/lang/invoke/MethodHandle" ∧ yX8_forget.cls ≠ "java/lang/invoke/VarHandle" ∧ (parseMethodDescriptor yX8_forget.desc).map (fun d => d.parameters.length) = some 0 := by decide +kernel
theorem hvX8_forget : yX8_forget.cls = RX8 ∧ yX8_forget.cls ≠ "java/lang/invoke/MethodHandle" ∧ yX8_forget.cls ≠ "java/lang/invoke/VarHandle" ∧ (parseMethodDescriptor yX8_forget.desc).map (fun d => d.parameters.length) = some 0 := by decide +kernel
abbrev rmX8_tides : Room := { frames := 3, cells := 0, slots := 0, locals := 75 }
theorem hdX8_tides : yX8_tides.cls ≠ "java/lang/invoke/MethodHandle" ∧ yX8_tides.cls ≠ "java/lang/invoke/VarHandle" ∧ (parseMethodDescriptor yX8_tides.desc).map (fun d => d.parameters.length) = some 3 := by decide +kernel
theorem hvX8_tides : yX8_tides.cls = RX8 ∧ yX8_tides.cls ≠ "java/lang/invoke/MethodHandle" ∧ yX8_tides.cls ≠ "java/lang/invoke/VarHandle" ∧ (parseMethodDescriptor yX8_tides.desc).map (fun d => d.parameters.length) = some 3 := by decide +kernel
abbrev rmX8_image : Room := { frames := 2, cells := 0, slots := 0, locals := 62 }
theorem hdX8_image : yX8_image.cls ≠ "java/lang/invoke/MethodHandle" ∧ yX8_image.cls ≠ "java/lang/invoke/VarHandle" ∧ (parseMethodDescriptor yX8_image.desc).map (fun d => d.parameters.length) = some 0 := by decide +kernel
theorem hvX8_image : yX8_image.cls = RX8 ∧ yX8_image.cls ≠ "java/lang/invoke/MethodHandle" ∧ yX8_image.cls ≠ "java/lang/invoke/VarHandle" ∧ (parseMethodDescriptor yX8_image.desc).map (fun d => d.parameters.length) = some 0 := by decide +kernel
abbrev rmX8_restore : Room := { frames := 2, cells := 0, slots := 0, locals := 62 }
theorem hdX8_restore : yX8_restore.cls ≠ "java/lang/invoke/MethodHandle" ∧ yX8_restore.cls ≠ "java/lang/invoke/VarHandle" ∧ (parseMethodDescriptor yX8_restore.desc).map (fun d => d.parameters.length) = some 0 := by decide +kernel
theorem hvX8_restore : yX8_restore.cls = RX8 ∧ yX8_restore.cls ≠ "java/lang/invoke/MethodHandle" ∧ yX8_restore.cls ≠ "java/lang/invoke/VarHandle" ∧ (parseMethodDescriptor yX8_restore.desc).map (fun d => d.parameters.length) = some 0 := by decide +kernel
abbrev rmX8_count : Room := { frames := 4, cells := 0, slots := 0, locals := 97 }
theorem hdX8_count : yX8_count.cls ≠ "java/lang/invoke/MethodHandle" ∧ yX8_count.cls ≠ "java/lang/invoke/VarHandle" ∧ (parseMethodDescriptor yX8_count.desc).map (fun d => d.parameters.length) = some 1 := by decide +kernel
theorem hvX8_count : yX8_count.cls = RX8 ∧ yX8_count.cls ≠ "java/lang/invoke/MethodHandle" ∧ yX8_count.cls ≠ "java/lang/invoke/VarHandle" ∧ (parseMethodDescriptor yX8_count.desc).map (fun d => d.parameters.length) = some 1 := by decide +kernel
abbrev rmX8_digest : Room := { frames := 6, cells := 0, slots := 0, locals := 157 }
theorem hdX8_digest : yX8_digest.cls ≠ "java/lang/invoke/MethodHandle" ∧ yX8_digest.cls ≠ "java/lang/invoke/VarHandle" ∧ (parseMethodDescriptor yX8_digest.desc).map (fun d => d.parameters.length) = some 0 := by decide +kernel
theorem hvX8_digest : yX8_digest.cls = RX8 ∧ yX8_digest.cls ≠ "java/lang/invoke/MethodHandle" ∧ yX8_digest.cls ≠ "java/lang/invoke/VarHandle" ∧ (parseMethodDescriptor yX8_digest.desc).map (fun d => d.parameters.length) = some 0 := by decide +kernel
abbrev rmX8_mixedQuestion : Room := { frames := 5, cells := 0, slots := 0, locals := 131 }
theorem hdX8_mixedQuestion : yX8_mixedQuestion.cls ≠ "java/lang/invoke/MethodHandle" ∧ yX8_mixedQuestion.cls ≠ "java/lang/invoke/VarHandle" ∧ (parseMethodDescriptor yX8_mixedQuestion.desc).map (fun d => d.parameters.length) = some 2 := by decide +kernel
theorem hvX8_mixedQuestion : yX8_mixedQuestion.cls = RX8 ∧ yX8_mixedQuestion.cls ≠ "java/lang/invoke/MethodHandle" ∧ yX8_mixedQuestion.cls ≠ "java/lang/invoke/VarHandle" ∧ (parseMethodDescriptor yX8_mixedQuestion.desc).map (fun d => d.parameters.length) = some 2 := by decide +kernel
abbrev rmX8_mixed : Room := { frames := 0, cells := 0, slots := 0, locals := 0 }
theorem hdX8_mixed : yX8_mixed.cls ≠ "java/lang/invoke/MethodHandle" ∧ yX8_mixed.cls ≠ "java/lang/invoke/VarHandle" ∧ (parseMethodDescriptor yX8_mixed.desc).map (fun d => d.parameters.length) = some 2 := by decide +kernel
theorem hvX8_mixed : yX8_mixed.cls = RX8 ∧ yX8_mixed.cls ≠ "java/lang/invoke/MethodHandle" ∧ yX8_mixed.cls ≠ "java/lang/invoke/VarHandle" ∧ (parseMethodDescriptor yX8_mixed.desc).map (fun d => d.parameters.length) = some 2 := by decide +kernel
abbrev rmX8_isQuestion : Room := { frames := 0, cells := 0, slots := 0, locals := 0 }
theorem hdX8_isQuestion : yX8_isQuestion.cls ≠ "java/lang/invoke/MethodHandle" ∧ yX8_isQuestion.cls ≠ "java/lang/invoke/VarHandle" ∧ (parseMethodDescriptor yX8_isQuestion.desc).map (fun d => d.parameters.length) = some 1 := by decide +kernel
theorem hvX8_isQuestion : yX8_isQuestion.cls = RX8 ∧ yX8_isQuestion.cls ≠ "java/lang/invoke/MethodHandle" ∧ yX8_isQuestion.cls ≠ "java/lang/invoke/VarHandle" ∧ (parseMethodDescriptor yX8_isQuestion.desc).map (fun d => d.parameters.length) = some 1 := by decide +kernel
abbrev rmX8_isWay : Room := { frames := 0, cells := 0, slots := 0, locals := 0 }
theorem hdX8_isWay : yX8_isWay.cls ≠ "java/lang/invoke/MethodHandle" ∧ yX8_isWay.cls ≠ "java/lang/invoke/VarHandle" ∧ (parseMethodDescriptor yX8_isWay.desc).map (fun d => d.parameters.length) = some 1 := by decide +kernel
theorem hvX8_isWay : yX8_isWay.cls = RX8 ∧ yX8_isWay.cls ≠ "java/lang/invoke/MethodHandle" ∧ yX8_isWay.cls ≠ "java/lang/invoke/VarHandle" ∧ (parseMethodDescriptor yX8_isWay.desc).map (fun d => d.parameters.length) = some 1 := by decide +kernel
abbrev rmX8_isHalf : Room := { frames := 0, cells := 0, slots := 0, locals := 0 }
theorem hdX8_isHalf : yX8_isHalf.cls ≠ "java/lang/invoke/MethodHandle" ∧ yX8_isHalf.cls ≠ "java/lang/invoke/VarHandle" ∧ (parseMethodDescriptor yX8_isHalf.desc).map (fun d => d.parameters.length) = some 1 := by decide +kernel
theorem hvX8_isHalf : yX8_isHalf.cls = RX8 ∧ yX8_isHalf.cls ≠ "java/lang/invoke/MethodHandle" ∧ yX8_isHalf.cls ≠ "java/lang/invoke/VarHandle" ∧ (parseMethodDescriptor yX8_isHalf.desc).map (fun d => d.parameters.length) = some 1 := by decide +kernel
abbrev rmX8_totalOf : Room := { frames := 0, cells := 0, slots := 0, locals := 0 }
theorem hdX8_totalOf : yX8_totalOf.cls ≠ "java/lang/invoke/MethodHandle" ∧ yX8_totalOf.cls ≠ "java/lang/invoke/VarHandle" ∧ (parseMethodDescriptor yX8_totalOf.desc).map (fun d => d.parameters.length) = some 1 := by decide +kernel
theorem hvX8_totalOf : yX8_totalOf.cls = RX8 ∧ yX8_totalOf.cls ≠ "java/lang/invoke/MethodHandle" ∧ yX8_totalOf.cls ≠ "java/lang/invoke/VarHandle" ∧ (parseMethodDescriptor yX8_totalOf.desc).map (fun d => d.parameters.length) = some 1 := by decide +kernel
abbrev rmX8_howManyLean : Room := { frames := 0, cells := 0, slots := 0, locals := 0 }
theorem hdX8_howManyLean : yX8_howManyLean.cls ≠ "java/lang/invoke/MethodHandle" ∧ yX8_howManyLean.cls ≠ "java/lang/invoke/VarHandle" ∧ (parseMethodDescriptor yX8_howManyLean.desc).map (fun d => d.parameters.length) = some 2 := by decide +kernel
theorem hvX8_howManyLean : yX8_howManyLean.cls = RX8 ∧ yX8_howManyLean.cls ≠ "java/lang/invoke/MethodHandle" ∧ yX8_howManyLean.cls ≠ "java/lang/invoke/VarHandle" ∧ (parseMethodDescriptor yX8_howManyLean.desc).map (fun d => d.parameters.length) = some 2 := by decide +kernel
abbrev rmX8_howManyCarriedNow : Room := { frames := 3, cells := 0, slots := 0, locals := 75 }
theorem hdX8_howManyCarriedNow : yX8_howManyCarriedNow.cls ≠ "java/lang/invoke/MethodHandle" ∧ yX8_howManyCarriedNow.cls ≠ "java/lang/invoke/VarHandle" ∧ (parseMethodDescriptor yX8_howManyCarriedNow.desc).map (fun d => d.parameters.length) = some 0 := by decide +kernel
theorem hvX8_howManyCarriedNow : yX8_howManyCarriedNow.cls = RX8 ∧ yX8_howManyCarriedNow.cls ≠ "java/lang/invoke/MethodHandle" ∧ yX8_howManyCarriedNow.cls ≠ "java/lang/invoke/VarHandle" ∧ (parseMethodDescriptor yX8_howManyCarriedNow.desc).map (fun d => d.parameters.length) = some 0 := by decide +kernel
abbrev rmX8_outcomeOf : Room := { frames := 0, cells := 0, slots := 0, locals := 0 }
theorem hdX8_outcomeOf : yX8_outcomeOf.cls ≠ "java/lang/invoke/MethodHandle" ∧ yX8_outcomeOf.cls ≠ "java/lang/invoke/VarHandle" ∧ (parseMethodDescriptor yX8_outcomeOf.desc).map (fun d => d.parameters.length) = some 1 := by decide +kernel
theorem hvX8_outcomeOf : yX8_outcomeOf.cls = RX8 ∧ yX8_outcomeOf.cls ≠ "java/lang/invoke/MethodHandle" ∧ yX8_outcomeOf.cls ≠ "java/lang/invoke/VarHandle" ∧ (parseMethodDescriptor yX8_outcomeOf.desc).map (fun d => d.parameters.length) = some 1 := by decide +kernel
abbrev rmX8_isOfKind : Room := { frames := 0, cells := 0, slots := 0, locals := 0 }
theorem hdX8_isOfKind : yX8_isOfKind.cls ≠ "java/lang/invoke/MethodHandle" ∧ yX8_isOfKind.cls ≠ "java/lang/invoke/VarHandle" ∧ (parseMethodDescriptor yX8_isOfKind.desc).map (fun d => d.parameters.length) = some 2 := by decide +kernel
theorem hvX8_isOfKind : yX8_isOfKind.cls = RX8 ∧ yX8_isOfKind.cls ≠ "java/lang/invoke/MethodHandle" ∧ yX8_isOfKind.cls ≠ "java/lang/invoke/VarHandle" ∧ (parseMethodDescriptor yX8_isOfKind.desc).map (fun d => d.parameters.length) = some 2 := by decide +kernel
abbrev rmX8_ordersDecided : Room := { frames := 3, cells := 0, slots := 0, locals := 77 }
theorem hdX8_ordersDecided : yX8_ordersDecided.cls ≠ "java/lang/invoke/MethodHandle" ∧ yX8_ordersDecided.cls ≠ "java/lang/invoke/VarHandle" ∧ (parseMethodDescriptor yX8_ordersDecided.desc).map (fun d => d.parameters.length) = some 3 := by decide +kernel
theorem hvX8_ordersDecided : yX8_ordersDecided.cls = RX8 ∧ yX8_ordersDecided.cls ≠ "java/lang/invoke/MethodHandle" ∧ yX8_ordersDecided.cls ≠ "java/lang/invoke/VarHandle" ∧ (parseMethodDescriptor yX8_ordersDecided.desc).map (fun d => d.parameters.length) = some 3 := by decide +kernel
abbrev rmX8_partsCarried : Room := { frames := 3, cells := 0, slots := 0, locals := 77 }
theorem hdX8_partsCarried : yX8_partsCarried.cls ≠ "java/lang/invoke/MethodHandle" ∧ yX8_partsCarried.cls ≠ "java/lang/invoke/VarHandle" ∧ (parseMethodDescriptor yX8_partsCarried.desc).map (fun d => d.parameters.length) = some 3 := by decide +kernel
theorem hvX8_partsCarried : yX8_partsCarried.cls = RX8 ∧ yX8_partsCarried.cls ≠ "java/lang/invoke/MethodHandle" ∧ yX8_partsCarried.cls ≠ "java/lang/invoke/VarHandle" ∧ (parseMethodDescriptor yX8_partsCarried.desc).map (fun d => d.parameters.length) = some 3 := by decide +kernel
abbrev rmX8_fillSubsetSums : Room := { frames := 2, cells := 0, slots := 0, locals := 50 }
theorem hdX8_fillSubsetSums : yX8_fillSubsetSums.cls ≠ "java/lang/invoke/MethodHandle" ∧ yX8_fillSubsetSums.cls ≠ "java/lang/invoke/VarHandle" ∧ (parseMethodDescriptor yX8_fillSubsetSums.desc).map (fun d => d.parameters.length) = some 3 := by decide +kernel
theorem hvX8_fillSubsetSums : yX8_fillSubsetSums.cls = RX8 ∧ yX8_fillSubsetSums.cls ≠ "java/lang/invoke/MethodHandle" ∧ yX8_fillSubsetSums.cls ≠ "java/lang/invoke/VarHandle" ∧ (parseMethodDescriptor yX8_fillSubsetSums.desc).map (fun d => d.parameters.length) = some 3 := by decide +kernel
abbrev rmX8_power : Room := { frames := 0, cells := 0, slots := 0, locals := 0 }
theorem hdX8_power : yX8_power.cls ≠ "java/lang/invoke/MethodHandle" ∧ yX8_power.cls ≠ "java/lang/invoke/VarHandle" ∧ (parseMethodDescriptor yX8_power.desc).map (fun d => d.parameters.length) = some 2 := by decide +kernel
theorem hvX8_power : yX8_power.cls = RX8 ∧ yX8_power.cls ≠ "java/lang/invoke/MethodHandle" ∧ yX8_power.cls ≠ "java/lang/invoke/VarHandle" ∧ (parseMethodDescriptor yX8_power.desc).map (fun d => d.parameters.length) = some 2 := by decide +kernel
abbrev rmX8_inLowestTerms : Room := { frames := 1, cells := 0, slots := 0, locals := 25 }
theorem hdX8_inLowestTerms : yX8_inLowestTerms.cls ≠ "java/lang/invoke/MethodHandle" ∧ yX8_inLowestTerms.cls ≠ "java/lang/invoke/VarHandle" ∧ (parseMethodDescriptor yX8_inLowestTerms.desc).map (fun d => d.parameters.length) = some 3 := by decide +kernel
theorem hvX8_inLowestTerms : yX8_inLowestTerms.cls = RX8 ∧ yX8_inLowestTerms.cls ≠ "java/lang/invoke/MethodHandle" ∧ yX8_inLowestTerms.cls ≠ "java/lang/invoke/VarHandle" ∧ (parseMethodDescriptor yX8_inLowestTerms.desc).map (fun d => d.parameters.length) = some 3 := by decide +kernel
abbrev rmX8_greatestDivisor : Room := { frames := 0, cells := 0, slots := 0, locals := 0 }
theorem hdX8_greatestDivisor : yX8_greatestDivisor.cls ≠ "java/lang/invoke/MethodHandle" ∧ yX8_greatestDivisor.cls ≠ "java/lang/invoke/VarHandle" ∧ (parseMethodDescriptor yX8_greatestDivisor.desc).map (fun d => d.parameters.length) = some 2 := by decide +kernel
theorem hvX8_greatestDivisor : yX8_greatestDivisor.cls = RX8 ∧ yX8_greatestDivisor.cls ≠ "java/lang/invoke/MethodHandle" ∧ yX8_greatestDivisor.cls ≠ "java/lang/invoke/VarHandle" ∧ (parseMethodDescriptor yX8_greatestDivisor.desc).map (fun d => d.parameters.length) = some 2 := by decide +kernel
abbrev rmX8_fewestCut : Room := { frames := 3, cells := 0, slots := 0, locals := 75 }
theorem hdX8_fewestCut : yX8_fewestCut.cls ≠ "java/lang/invoke/MethodHandle" ∧ yX8_fewestCut.cls ≠ "java/lang/invoke/VarHandle" ∧ (parseMethodDescriptor yX8_fewestCut.desc).map (fun d => d.parameters.length) = some 2 := by decide +kernel
theorem hvX8_fewestCut : yX8_fewestCut.cls = RX8 ∧ yX8_fewestCut.cls ≠ "java/lang/invoke/MethodHandle" ∧ yX8_fewestCut.cls ≠ "java/lang/invoke/VarHandle" ∧ (parseMethodDescriptor yX8_fewestCut.desc).map (fun d => d.parameters.length) = some 2 := by decide +kernel
abbrev rmX8_fewestTurned : Room := { frames := 4, cells := 0, slots := 0, locals := 100 }
theorem hdX8_fewestTurned : yX8_fewestTurned.cls ≠ "java/lang/invoke/MethodHandle" ∧ yX8_fewestTurned.cls ≠ "java/lang/invoke/VarHandle" ∧ (parseMethodDescriptor yX8_fewestTurned.desc).map (fun d => d.parameters.length) = some 2 := by decide +kernel
theorem hvX8_fewestTurned : yX8_fewestTurned.cls = RX8 ∧ yX8_fewestTurned.cls ≠ "java/lang/invoke/MethodHandle" ∧ yX8_fewestTurned.cls ≠ "java/lang/invoke/VarHandle" ∧ (parseMethodDescriptor yX8_fewestTurned.desc).map (fun d => d.parameters.length) = some 2 := by decide +kernel
abbrev rmX8_comesOutTurned : Room := { frames := 3, cells := 0, slots := 0, locals := 75 }
theorem hdX8_comesOutTurned : yX8_comesOutTurned.cls ≠ "java/lang/invoke/MethodHandle" ∧ yX8_comesOutTurned.cls ≠ "java/lang/invoke/VarHandle" ∧ (parseMethodDescriptor yX8_comesOutTurned.desc).map (fun d => d.parameters.length) = some 3 := by decide +kernel
theorem hvX8_comesOutTurned : yX8_comesOutTurned.cls = RX8 ∧ yX8_comesOutTurned.cls ≠ "java/lang/invoke/MethodHandle" ∧ yX8_comesOutTurned.cls ≠ "java/lang/invoke/VarHandle" ∧ (parseMethodDescriptor yX8_comesOutTurned.desc).map (fun d => d.parameters.length) = some 3 := by decide +kernel
abbrev rmX8_leanOtherwise : Room := { frames := 0, cells := 0, slots := 0, locals := 0 }
theorem hdX8_leanOtherwise : yX8_leanOtherwise.cls ≠ "java/lang/invoke/MethodHandle" ∧ yX8_leanOtherwise.cls ≠ "java/lang/invoke/VarHandle" ∧ (parseMethodDescriptor yX8_leanOtherwise.desc).map (fun d => d.parameters.length) = some 3 := by decide +kernel
theorem hvX8_leanOtherwise : yX8_leanOtherwise.cls = RX8 ∧ yX8_leanOtherwise.cls ≠ "java/lang/invoke/MethodHandle" ∧ yX8_leanOtherwise.cls ≠ "java/lang/invoke/VarHandle" ∧ (parseMethodDescriptor yX8_leanOtherwise.desc).map (fun d => d.parameters.length) = some 3 := by decide +kernel
abbrev rmX8_toldOfBits : Room := { frames := 1, cells := 0, slots := 0, locals := 20 }
theorem hdX8_toldOfBits : yX8_toldOfBits.cls ≠ "java/lang/invoke/MethodHandle" ∧ yX8_toldOfBits.cls ≠ "java/lang/invoke/VarHandle" ∧ (parseMethodDescriptor yX8_toldOfBits.desc).map (fun d => d.parameters.length) = some 2 := by decide +kernel
theorem hvX8_toldOfBits : yX8_toldOfBits.cls = RX8 ∧ yX8_toldOfBits.cls ≠ "java/lang/invoke/MethodHandle" ∧ yX8_toldOfBits.cls ≠ "java/lang/invoke/VarHandle" ∧ (parseMethodDescriptor yX8_toldOfBits.desc).map (fun d => d.parameters.length) = some 2 := by decide +kernel
abbrev rmX8_tidesTillAgain : Room := { frames := 2, cells := 0, slots := 0, locals := 62 }
theorem hdX8_tidesTillAgain : yX8_tidesTillAgain.cls ≠ "java/lang/invoke/MethodHandle" ∧ yX8_tidesTillAgain.cls ≠ "java/lang/invoke/VarHandle" ∧ (parseMethodDescriptor yX8_tidesTillAgain.desc).map (fun d => d.parameters.length) = some 0 := by decide +kernel
theorem hvX8_tidesTillAgain : yX8_tidesTillAgain.cls = RX8 ∧ yX8_tidesTillAgain.cls ≠ "java/lang/invoke/MethodHandle" ∧ yX8_tidesTillAgain.cls ≠ "java/lang/invoke/VarHandle" ∧ (parseMethodDescriptor yX8_tidesTillAgain.desc).map (fun d => d.parameters.length) = some 0 := by decide +kernel
abbrev rmX8_firstLike : Room := { frames := 0, cells := 0, slots := 0, locals := 0 }
theorem hdX8_firstLike : yX8_firstLike.cls ≠ "java/lang/invoke/MethodHandle" ∧ yX8_firstLike.cls ≠ "java/lang/invoke/VarHandle" ∧ (parseMethodDescriptor yX8_firstLike.desc).map (fun d => d.parameters.length) = some 1 := by decide +kernel
theorem hvX8_firstLike : yX8_firstLike.cls = RX8 ∧ yX8_firstLike.cls ≠ "java/lang/invoke/MethodHandle" ∧ yX8_firstLike.cls ≠ "java/lang/invoke/VarHandle" ∧ (parseMethodDescriptor yX8_firstLike.desc).map (fun d => d.parameters.length) = some 1 := by decide +kernel
abbrev rmX8_leansLeft : Room := { frames := 3, cells := 0, slots := 0, locals := 75 }
theorem hdX8_leansLeft : yX8_leansLeft.cls ≠ "java/lang/invoke/MethodHandle" ∧ yX8_leansLeft.cls ≠ "java/lang/invoke/VarHandle" ∧ (parseMethodDescriptor yX8_leansLeft.desc).map (fun d => d.parameters.length) = some 2 := by decide +kernel
theorem hvX8_leansLeft : yX8_leansLeft.cls = RX8 ∧ yX8_leansLeft.cls ≠ "java/lang/invoke/MethodHandle" ∧ yX8_leansLeft.cls ≠ "java/lang/invoke/VarHandle" ∧ (parseMethodDescriptor yX8_leansLeft.desc).map (fun d => d.parameters.length) = some 2 := by decide +kernel
abbrev rmX8_bestQuestion : Room := { frames := 4, cells := 0, slots := 0, locals := 99 }
theorem hdX8_bestQuestion : yX8_bestQuestion.cls ≠ "java/lang/invoke/MethodHandle" ∧ yX8_bestQuestion.cls ≠ "java/lang/invoke/VarHandle" ∧ (parseMethodDescriptor yX8_bestQuestion.desc).map (fun d => d.parameters.length) = some 1 := by decide +kernel
theorem hvX8_bestQuestion : yX8_bestQuestion.cls = RX8 ∧ yX8_bestQuestion.cls ≠ "java/lang/invoke/MethodHandle" ∧ yX8_bestQuestion.cls ≠ "java/lang/invoke/VarHandle" ∧ (parseMethodDescriptor yX8_bestQuestion.desc).map (fun d => d.parameters.length) = some 1 := by decide +kernel
abbrev rmX8_mostAlike : Room := { frames := 1, cells := 0, slots := 0, locals := 21 }
theorem hdX8_mostAlike : yX8_mostAlike.cls ≠ "java/lang/invoke/MethodHandle" ∧ yX8_mostAlike.cls ≠ "java/lang/invoke/VarHandle" ∧ (parseMethodDescriptor yX8_mostAlike.desc).map (fun d => d.parameters.length) = some 1 := by decide +kernel
theorem hvX8_mostAlike : yX8_mostAlike.cls = RX8 ∧ yX8_mostAlike.cls ≠ "java/lang/invoke/MethodHandle" ∧ yX8_mostAlike.cls ≠ "java/lang/invoke/VarHandle" ∧ (parseMethodDescriptor yX8_mostAlike.desc).map (fun d => d.parameters.length) = some 1 := by decide +kernel
abbrev rmX8_nextSeed : Room := { frames := 0, cells := 0, slots := 0, locals := 0 }
theorem hdX8_nextSeed : yX8_nextSeed.cls ≠ "java/lang/invoke/MethodHandle" ∧ yX8_nextSeed.cls ≠ "java/lang/invoke/VarHandle" ∧ (parseMethodDescriptor yX8_nextSeed.desc).map (fun d => d.parameters.length) = some 1 := by decide +kernel
theorem hvX8_nextSeed : yX8_nextSeed.cls = RX8 ∧ yX8_nextSeed.cls ≠ "java/lang/invoke/MethodHandle" ∧ yX8_nextSeed.cls ≠ "java/lang/invoke/VarHandle" ∧ (parseMethodDescriptor yX8_nextSeed.desc).map (fun d => d.parameters.length) = some 1 := by decide +kernel
abbrev rmX8_drawOf : Room := { frames := 0, cells := 0, slots := 0, locals := 0 }
theorem hdX8_drawOf : yX8_drawOf.cls ≠ "java/lang/invoke/MethodHandle" ∧ yX8_drawOf.cls ≠ "java/lang/invoke/VarHandle" ∧ (parseMethodDescriptor yX8_drawOf.desc).map (fun d => d.parameters.length) = some 2 := by decide +kernel
theorem hvX8_drawOf : yX8_drawOf.cls = RX8 ∧ yX8_drawOf.cls ≠ "java/lang/invoke/MethodHandle" ∧ yX8_drawOf.cls ≠ "java/lang/invoke/VarHandle" ∧ (parseMethodDescriptor yX8_drawOf.desc).map (fun d => d.parameters.length) = some 2 := by decide +kernel
abbrev rmJ6_bitCount_0f7a4 : Room := { frames := 0, cells := 0, slots := 0, locals := 0 }
theorem hdJ6_bitCount_0f7a4 : yJ6_bitCount_0f7a4.cls ≠ "java/lang/invoke/MethodHandle" ∧ yJ6_bitCount_0f7a4.cls ≠ "java/lang/invoke/VarHandle" ∧ (parseMethodDescriptor yJ6_bitCount_0f7a4.desc).map (fun d => d.parameters.length) = some 1 := by decide +kernel
theorem hvJ6_bitCount_0f7a4 : yJ6_bitCount_0f7a4.cls = RJ6 ∧ yJ6_bitCount_0f7a4.cls ≠ "java/lang/invoke/MethodHandle" ∧ yJ6_bitCount_0f7a4.cls ≠ "java/lang/invoke/VarHandle" ∧ (parseMethodDescriptor yJ6_bitCount_0f7a4.desc).map (fun d => d.parameters.length) = some 1 := by decide +kernel
abbrev rmJ0_indexOf_0f7a4 : Room := { frames := 6, cells := 0, slots := 0, locals := 138 }
theorem hdJ0_indexOf_0f7a4 : yJ0_indexOf_0f7a4.cls ≠ "java/lang/invoke/MethodHandle" ∧ yJ0_indexOf_0f7a4.cls ≠ "java/lang/invoke/VarHandle" ∧ (parseMethodDescriptor yJ0_indexOf_0f7a4.desc).map (fun d => d.parameters.length) = some 1 := by decide +kernel
theorem hvJ0_indexOf_0f7a4 : yJ0_indexOf_0f7a4.cls = RJ0 ∧ yJ0_indexOf_0f7a4.cls ≠ "java/lang/invoke/MethodHandle" ∧ yJ0_indexOf_0f7a4.cls ≠ "java/lang/invoke/VarHandle" ∧ (parseMethodDescriptor yJ0_indexOf_0f7a4.desc).map (fun d => d.parameters.length) = some 1 := by decide +kernel
abbrev rmJ0_indexOf_7cf53 : Room := { frames := 5, cells := 0, slots := 0, locals := 116 }
theorem hdJ0_indexOf_7cf53 : yJ0_indexOf_7cf53.cls ≠ "java/lang/invoke/MethodHandle" ∧ yJ0_indexOf_7cf53.cls ≠ "java/lang/invoke/VarHandle" ∧ (parseMethodDescriptor yJ0_indexOf_7cf53.desc).map (fun d => d.parameters.length) = some 2 := by decide +kernel
theorem hvJ0_indexOf_7cf53 : yJ0_indexOf_7cf53.cls = RJ0 ∧ yJ0_indexOf_7cf53.cls ≠ "java/lang/invoke/MethodHandle" ∧ yJ0_indexOf_7cf53.cls ≠ "java/lang/invoke/VarHandle" ∧ (parseMethodDescriptor yJ0_indexOf_7cf53.desc).map (fun d => d.parameters.length) = some 2 := by decide +kernel
abbrev rmJ0_isLatin1_aae02 : Room := { frames := 0, cells := 0, slots := 0, locals := 0 }
theorem hdJ0_isLatin1_aae02 : yJ0_isLatin1_aae02.cls ≠ "java/lang/invoke/MethodHandle" ∧ yJ0_isLatin1_aae02.cls ≠ "java/lang/invoke/VarHandle" ∧ (parseMethodDescriptor yJ0_isLatin1_aae02.desc).map (fun d => d.parameters.length) = some 0 := by decide +kernel
theorem hvJ0_isLatin1_aae02 : yJ0_isLatin1_aae02.cls = RJ0 ∧ yJ0_isLatin1_aae02.cls ≠ "java/lang/invoke/MethodHandle" ∧ yJ0_isLatin1_aae02.cls ≠ "java/lang/invoke/VarHandle" ∧ (parseMethodDescriptor yJ0_isLatin1_aae02.desc).map (fun d => d.parameters.length) = some 0 := by decide +kernel
abbrev rmJ0_coder_7d493 : Room := { frames := 0, cells := 0, slots := 0, locals := 0 }
theorem hdJ0_coder_7d493 : yJ0_coder_7d493.cls ≠ "java/lang/invoke/MethodHandle" ∧ yJ0_coder_7d493.cls ≠ "java/lang/invoke/VarHandle" ∧ (parseMethodDescriptor yJ0_coder_7d493.desc).map (fun d => d.parameters.length) = some 0 := by decide +kernel
theorem hvJ0_coder_7d493 : yJ0_coder_7d493.cls = RJ0 ∧ yJ0_coder_7d493.cls ≠ "java/lang/invoke/MethodHandle" ∧ yJ0_coder_7d493.cls ≠ "java/lang/invoke/VarHandle" ∧ (parseMethodDescriptor yJ0_coder_7d493.desc).map (fun d => d.parameters.length) = some 0 := by decide +kernel
abbrev rmJ0_length_8abf5 : Room := { frames := 1, cells := 0, slots := 0, locals := 20 }
theorem hdJ0_length_8abf5 : yJ0_length_8abf5.cls ≠ "java/lang/invoke/MethodHandle" ∧ yJ0_length_8abf5.cls ≠ "java/lang/invoke/VarHandle" ∧ (parseMethodDescriptor yJ0_length_8abf5.desc).map (fun d => d.parameters.length) = some 0 := by decide +kernel
theorem hvJ0_length_8abf5 : yJ0_length_8abf5.cls = RJ0 ∧ yJ0_length_8abf5.cls ≠ "java/lang/invoke/MethodHandle" ∧ yJ0_length_8abf5.cls ≠ "java/lang/invoke/VarHandle" ∧ (parseMethodDescriptor yJ0_length_8abf5.desc).map (fun d => d.parameters.length) = some 0 := by decide +kernel
abbrev rmJ1_canEncode_9a6ad : Room := { frames := 0, cells := 0, slots := 0, locals := 0 }
theorem hdJ1_canEncode_9a6ad : yJ1_canEncode_9a6ad.cls ≠ "java/lang/invoke/MethodHandle" ∧ yJ1_canEncode_9a6ad.cls ≠ "java/lang/invoke/VarHandle" ∧ (parseMethodDescriptor yJ1_canEncode_9a6ad.desc).map (fun d => d.parameters.length) = some 1 := by decide +kernel
theorem hvJ1_canEncode_9a6ad : yJ1_canEncode_9a6ad.cls = RJ1 ∧ yJ1_canEncode_9a6ad.cls ≠ "java/lang/invoke/MethodHandle" ∧ yJ1_canEncode_9a6ad.cls ≠ "java/lang/invoke/VarHandle" ∧ (parseMethodDescriptor yJ1_canEncode_9a6ad.desc).map (fun d => d.parameters.length) = some 1 := by decide +kernel
abbrev rmJ1_indexOfChar_4cfef : Room := { frames := 0, cells := 0, slots := 0, locals := 0 }
theorem hdJ1_indexOfChar_4cfef : yJ1_indexOfChar_4cfef.cls ≠ "java/lang/invoke/MethodHandle" ∧ yJ1_indexOfChar_4cfef.cls ≠ "java/lang/invoke/VarHandle" ∧ (parseMethodDescriptor yJ1_indexOfChar_4cfef.desc).map (fun d => d.parameters.length) = some 4 := by decide +kernel
theorem hvJ1_indexOfChar_4cfef : yJ1_indexOfChar_4cfef.cls = RJ1 ∧ yJ1_indexOfChar_4cfef.cls ≠ "java/lang/invoke/MethodHandle" ∧ yJ1_indexOfChar_4cfef.cls ≠ "java/lang/invoke/VarHandle" ∧ (parseMethodDescriptor yJ1_indexOfChar_4cfef.desc).map (fun d => d.parameters.length) = some 4 := by decide +kernel
abbrev rmJ1_indexOf_4cfef : Room := { frames := 1, cells := 0, slots := 0, locals := 25 }
theorem hdJ1_indexOf_4cfef : yJ1_indexOf_4cfef.cls ≠ "java/lang/invoke/MethodHandle" ∧ yJ1_indexOf_4cfef.cls ≠ "java/lang/invoke/VarHandle" ∧ (parseMethodDescriptor yJ1_indexOf_4cfef.desc).map (fun d => d.parameters.length) = some 4 := by decide +kernel
theorem hvJ1_indexOf_4cfef : yJ1_indexOf_4cfef.cls = RJ1 ∧ yJ1_indexOf_4cfef.cls ≠ "java/lang/invoke/MethodHandle" ∧ yJ1_indexOf_4cfef.cls ≠ "java/lang/invoke/VarHandle" ∧ (parseMethodDescriptor yJ1_indexOf_4cfef.desc).map (fun d => d.parameters.length) = some 4 := by decide +kernel
