/-! ===== constructors ===== -/
theorem va_AOA.moved {ty : FieldType} {u U : State} (hvm : u.vm.Alike U.vm) (h : va_AOA ty u) : va_AOA ty U := by
  have h2 : (Cond.arrayOver (.array ty)).before #[] (u.setVm U.vm) = true := by rw [Cond.arrayOver_setVmC hvm]; exact h
  exact h2
/-- what the constructors need of the tables -/
def nwX : gX := fun _ U =>
  (va_Nw (.methodLinkNest RX8 9 yX4_init RX8) U ∧ va_Nw (.methodLinkNest RX8 18 yX5_init RX8) U ∧ va_Nw (.methodLinkNest RX8 25 yX6_init RX8) U) ∧
  (va_Nw (.methodLinkNest RX5 11 yX3_init RX8) U ∧ va_Nw (.methodLinkNest RX5 14 yX1_init RX8) U ∧ va_Nw (.methodLinkNest RX5 17 yX0_init RX8) U ∧ va_Nw (.methodLinkNest RX5 20 yX2_init RX8) U ∧ va_Nw (.methodLinkNest RX5 23 yX7_init RX8) U) ∧
  (va_Nw (.methodLinkNest RX1 1 yX3_init RX8) U ∧ va_Nw (.methodLinkNest RX0 1 yX3_init RX8) U ∧ va_Nw (.methodLinkNest RX2 1 yX3_init RX8) U ∧ va_Nw (.methodLinkNest RX7 1 yX2_init RX8) U) ∧
  (va_AO RX3 U ∧ va_AOA .int U) ∧ (va_Nw (.castable RX1 RX3) U ∧ va_Nw (.castable RX0 RX3) U ∧ va_Nw (.castable RX2 RX3) U ∧ va_Nw (.castable RX7 RX3) U)
theorem nwX_ok : gXok nwX := by
  refine ⟨fun A a U g mk h => ?_, fun A B s U h hW hk hB => ?_⟩
  · have al : U.vm.Alike (U.calling g mk a).vm := Vm.Alike.refl U.vm
    obtain ⟨⟨a1, a2, a3⟩, ⟨b1, b2, b3, b4, b5⟩, ⟨c1, c2, c3, c4⟩, ⟨d1, d2⟩, ⟨e1, e2, e3, e4⟩⟩ := h
    exact ⟨⟨va_Nw.same rfl rfl a1, va_Nw.same rfl rfl a2, va_Nw.same rfl rfl a3⟩, ⟨va_Nw.same rfl rfl b1, va_Nw.same rfl rfl b2, va_Nw.same rfl rfl b3, va_Nw.same rfl rfl b4, va_Nw.same rfl rfl b5⟩, ⟨va_Nw.same rfl rfl c1, va_Nw.same rfl rfl c2, va_Nw.same rfl rfl c3, va_Nw.same rfl rfl c4⟩, ⟨d1.moved al, d2.moved al⟩, ⟨va_Nw.same rfl rfl e1, va_Nw.same rfl rfl e2, va_Nw.same rfl rfl e3, va_Nw.same rfl rfl e4⟩⟩
  · have al : s.vm.Alike U.vm := hW.alike
    obtain ⟨⟨a1, a2, a3⟩, ⟨b1, b2, b3, b4, b5⟩, ⟨c1, c2, c3, c4⟩, ⟨d1, d2⟩, ⟨e1, e2, e3, e4⟩⟩ := h
    exact ⟨⟨va_Nw.warmM hW a1, va_Nw.warmM hW a2, va_Nw.warmM hW a3⟩, ⟨va_Nw.warmM hW b1, va_Nw.warmM hW b2, va_Nw.warmM hW b3, va_Nw.warmM hW b4, va_Nw.warmM hW b5⟩, ⟨va_Nw.warmM hW c1, va_Nw.warmM hW c2, va_Nw.warmM hW c3, va_Nw.warmM hW c4⟩, ⟨d1.moved al, d2.moved al⟩, ⟨va_Nw.warmC hW e1, va_Nw.warmC hW e2, va_Nw.warmC hW e3, va_Nw.warmC hW e4⟩⟩
/-- a contract of a method that makes mc cells of ms slots -/
def MN (l : Launch) (y : MethodName) (cs : List Cond) (rm : Room) (D : va_G) (ct : Nat → ClassId) (X : gX) (av : List Value) (wi : va_W) {S : Type} (wo : S → va_W) (post : S → Prop) (mc ms : Nat) : Prop :=
  ∀ sz : Nat, Met l y cs rm (va_Pc av (gPre D ct X wi sz)) (va_Qv post (gEnd D ct (va_A wi sz) wo) (va_A wi sz)) mc ms (va_A wi sz)
theorem MN.of {l : Launch} {y : MethodName} {cc : ByteArray} {nL : Nat} {rm : Room} {D : va_G} {ct : Nat → ClassId} {X : gX} {av : List Value} {wi : va_W} {S : Type} {wo : S → va_W} {post : S → Prop} {mc ms : Nat} (own : String) (ho : y.cls = own) (hy : plainName y.cls = true) (hnm : y.name = "<init>") (hlen : (lg_sl av).length ≤ nL)
    (body : ∀ (p : Program) (e : Env) (s : State) (m : MethodId) (args : Array Value) (below : List Frame) (meth : Method) (c : Code) (A : Nat → Prop) (ls : Array Slot) (Q : State → Prop), meth.name = "<init>" → CallFix p m c cc nL s args (gWs y cc nL none) own → gW D ct A s s.heap [] wi → X A s → lv_has ls nL (lv_args 0 av) →
      (∀ (u : S) (H : Heap) (ll : List Loc) (pc : Nat) (ls : Array Slot), gW D ct A s H ll (wo u) → post u → decode cc pc = .ok (.return_, 1) → W p l e rm s m args below meth c H ll mc ms Q (F0 m pc ls [])) → W p l e rm s m args below meth c s.heap [] 0 0 Q (F0 m 0 ls [])) : MN l y (gWs y cc nL none) rm D ct X av wi wo post mc ms := by
  intro sz
  refine Met.ofW (cc := cc) (maxL := nL) (ret := none) hy rfl ?_
  intro p e s m args below meth c s₁ B hml hv
  obtain ⟨rfl, hsz, hP, hK, hD0, hX⟩ := hv
  subst hsz
  have hts := atoms_spec (ws := gWs y cc nL none) B.pre
  have hown : s.vm.findClass own = some m.cls := ho ▸ findClass_of_methodNamed B.named
  have hin : meth.name = "<init>" := (name_of_methodNamed B.named B.method).1.trans hnm
  have hl := lv_entry av (n := nL) hlen
  rw [lg_entry_eq]
  generalize (lg_sl av ++ List.replicate (nL - (lg_sl av).length) Slot.unset).toArray = ls at hl ⊢
  exact body p e s m av.toArray below meth c (va_A wi s.heap.size) ls _ hin ⟨B.exec, B.bytes, hml, hown, hts⟩ ⟨hK, hP, hD0.self, va_S.rf, fun q h => Or.inr h⟩ hX hl (fun u H ll pc ls h hp hd =>
    W.vret B.exec B.bytes B.returns (fun t ht hW => ⟨⟨u, rfl, hp, by rw [ht]; exact h.2.1, va_K.moved hW.alike h.1, h.2.2.1⟩, h.2.2.2.1.F ht⟩) h.2.2.2.1.2.2 hd B.notSynchronized)
theorem nd_of : ∀ {l : List Nat}, l.Nodup → va_nd l = true
  | [], _ => rfl
  | a :: l, h => by
    rw [List.nodup_cons] at h
    simp only [va_nd, Bool.and_eq_true, decide_eq_true_eq]
    exact ⟨h.1, nd_of h.2⟩
theorem nd_range (n : Nat) : va_nd (List.range n) = true := nd_of List.nodup_range
theorem rng_map (wa wb : va_W) : (List.range wa.length).map (fun i => (wa ++ wb)[i]?) = wa.map some := by
  apply List.ext_getElem?
  intro i
  rw [List.getElem?_map, List.getElem?_map]
  by_cases h : i < wa.length
  · rw [List.getElem?_range h, Option.map_some, List.getElem?_append_left h, List.getElem?_eq_getElem h]; rfl
  · rw [List.getElem?_eq_none (by rw [List.length_range]; omega), List.getElem?_eq_none (by omega)]; rfl
theorem mna_rows {e : va_E} (r : Nat → Nat) : va_pl ([] ++ (List.range 3).map r) (vr_up (fun _ => e) ((List.range 3).map r) e) = [(r 0, e), (r 1, e), (r 2, e)] := by
  rw [va_pl_congr (g := fun _ => e) (fun a => by unfold vr_up; split <;> rfl)]; rfl
theorem hgc {y : MethodName} {bytes : ByteArray} {maxL : Nat} {ret : Option FieldType} (h : Cond.code y bytes maxL ret ∈ gG) {Ts : List Cond} (hG : ∀ w ∈ gG, w ∈ Ts) : GoodIn Ts (gWs y bytes maxL ret) := gG_good (fun w hw => (List.mem_cons.mp hw).elim (fun e => e ▸ h) id) hG
section NRows
variable {p : Program} {l : Launch} {e : Env} {R : Room} {s : State} {m : MethodId} {args : Array Value} {below : List Frame} {meth : Method} {c : Code} {H : Heap} {ll : List Loc} {cells slots : Nat} {Q : State → Prop}
variable {cc : ByteArray} {pc nL : Nat} {ls : Array Slot} {rest : List Value} {D : va_G} {ct : Nat → ClassId} {A : Nat → Prop} {a : Nat} {ws : va_W} {Ts : List Cond} {own : String}
theorem hnewI (C : CallFix p m c cc nL s args Ts own) (hG : ∀ w ∈ gG, w ∈ Ts) (h : gW D ct A s H ll ws) {n : Int32} (N c2 s2 : Nat) (hn : ¬ n < 0) (hN : n.toNatClampNeg = N) (hby : N * componentBytes .int ≤ 536870912) (e1 : cells + 1 = c2) (e2 : slots + N = s2) (hc : c2 ≤ R.cells) (hs : s2 ≤ R.slots) (hdg : decode cc pc = .ok (.newarray .int, 2))
    (kk : ∀ (q : Nat) (H : Heap), gW D ct A s H ll (ws ++ [(q, .inl (ct 0, N, .inl (fun _ => 0)))]) → W p l e R s m args below meth c H ll c2 s2 Q (F0 m (pc + 2) ls (.ref q :: rest))) : W p l e R s m args below meth c H ll cells slots Q (F0 m pc ls (.int n :: rest)) := by
  subst e1
  subst e2
  refine va_newa (atype := .int) (ty := .int) (N' := N) (a0 := (N, .inl (fun _ => 0))) C.1 C.2.1 (C.2.2.2.2 _ (hG _ q98)) rfl h.1 h.2.1 h.2.2.1 h.2.2.2.1 h.2.2.2.2 (fun cA => rfl) hn hN hby hc hs hdg (fun q cA H1 hK hP hD hS => ?_)
  have e1 : s.vm.findClass ("[" ++ FieldType.int.toString) = some cA := (hK.2 5 _ rfl).2
  have e2 : s.vm.findClass ("[" ++ FieldType.int.toString) = some (ct 0) := (h.1.2 0 _ rfl).2
  have e3 : cA = ct 0 := Option.some.inj (e1.symm.trans e2)
  subst e3
  exact kk q H1 ⟨h.1, hP, hD, hS, h.2.2.2.2⟩
theorem hnewB (C : CallFix p m c cc nL s args Ts own) (hG : ∀ w ∈ gG, w ∈ Ts) (h : gW D ct A s H ll ws) {n : Int32} (N c2 s2 : Nat) (hn : ¬ n < 0) (hN : n.toNatClampNeg = N) (hby : N * componentBytes .byte ≤ 536870912) (e1 : cells + 1 = c2) (e2 : slots + N = s2) (hc : c2 ≤ R.cells) (hs : s2 ≤ R.slots) (hdg : decode cc pc = .ok (.newarray .byte, 2))
    (kk : ∀ (q : Nat) (H : Heap), gW D ct A s H ll (ws ++ [(q, .inl (ct 2, N, .inl (fun _ => 0)))]) → W p l e R s m args below meth c H ll c2 s2 Q (F0 m (pc + 2) ls (.ref q :: rest))) : W p l e R s m args below meth c H ll cells slots Q (F0 m pc ls (.int n :: rest)) := by
  subst e1
  subst e2
  refine va_newa (atype := .byte) (ty := .byte) (N' := N) (a0 := (N, .inl (fun _ => 0))) C.1 C.2.1 (C.2.2.2.2 _ (hG _ q346)) rfl h.1 h.2.1 h.2.2.1 h.2.2.2.1 h.2.2.2.2 (fun cA => rfl) hn hN hby hc hs hdg (fun q cA H1 hK hP hD hS => ?_)
  have e1 : s.vm.findClass ("[" ++ FieldType.byte.toString) = some cA := (hK.2 5 _ rfl).2
  have e2 : s.vm.findClass ("[" ++ FieldType.byte.toString) = some (ct 2) := (h.1.2 2 _ rfl).2
  have e3 : cA = ct 2 := Option.some.inj (e1.symm.trans e2)
  subst e3
  exact kk q H1 ⟨h.1, hP, hD, hS, h.2.2.2.2⟩
theorem hnewL (C : CallFix p m c cc nL s args Ts own) (hG : ∀ w ∈ gG, w ∈ Ts) (h : gW D ct A s H ll ws) {n : Int32} (N c2 s2 : Nat) (hn : ¬ n < 0) (hN : n.toNatClampNeg = N) (hby : N * componentBytes .long ≤ 536870912) (e1 : cells + 1 = c2) (e2 : slots + N = s2) (hc : c2 ≤ R.cells) (hs : s2 ≤ R.slots) (hdg : decode cc pc = .ok (.newarray .long, 2))
    (kk : ∀ (q : Nat) (H : Heap), gW D ct A s H ll (ws ++ [(q, .inl (ct 1, N, .inr (.inl (fun _ => 0))))]) → W p l e R s m args below meth c H ll c2 s2 Q (F0 m (pc + 2) ls (.ref q :: rest))) : W p l e R s m args below meth c H ll cells slots Q (F0 m pc ls (.int n :: rest)) := by
  subst e1
  subst e2
  refine va_newa (atype := .long) (ty := .long) (N' := N) (a0 := (N, .inr (.inl (fun _ => 0)))) C.1 C.2.1 (C.2.2.2.2 _ (hG _ q238)) rfl h.1 h.2.1 h.2.2.1 h.2.2.2.1 h.2.2.2.2 (fun cA => rfl) hn hN hby hc hs hdg (fun q cA H1 hK hP hD hS => ?_)
  have e1 : s.vm.findClass ("[" ++ FieldType.long.toString) = some cA := (hK.2 5 _ rfl).2
  have e2 : s.vm.findClass ("[" ++ FieldType.long.toString) = some (ct 1) := (h.1.2 1 _ rfl).2
  have e3 : cA = ct 1 := Option.some.inj (e1.symm.trans e2)
  subst e3
  exact kk q H1 ⟨h.1, hP, hD, hS, h.2.2.2.2⟩
theorem hnewQ (C : CallFix p m c cc nL s args Ts own) (hG : ∀ w ∈ gG, w ∈ Ts) (h : gW D ct A s H ll ws) (hAO : va_AO RX3 s) {idx : Nat} (hlink : Cond.classLink own idx RX3 ∈ gG) {n : Int32} (N c2 s2 : Nat) (hn : ¬ n < 0) (hN : n.toNatClampNeg = N) (hby : N * 4 ≤ 536870912) (e1 : cells + 1 = c2) (e2 : slots + N = s2) (hc : c2 ≤ R.cells) (hs : s2 ≤ R.slots) (hdg : decode cc pc = .ok (.anewarray idx, 3))
    (kk : ∀ (q : Nat) (H : Heap), gW D ct A s H ll (ws ++ [(q, .inl (ct 3, N, .inr (.inr (.inr (.inr (fun _ => none))))))]) → W p l e R s m args below meth c H ll c2 s2 Q (F0 m (pc + 3) ls (.ref q :: rest))) : W p l e R s m args below meth c H ll cells slots Q (F0 m pc ls (.int n :: rest)) := by
  subst e1
  subst e2
  refine va_newq C.1 C.2.1 C.2.2.2.1 (C.2.2.2.2 _ (hG _ hlink)) hAO h.1 h.2.1 h.2.2.1 h.2.2.2.1 h.2.2.2.2 hn hN hby hc hs hdg (fun q cA H1 hK hP hD hS => ?_)
  obtain ⟨_, _, _, _, _, e1⟩ : ∃ (kA : Class) (comp : ClassId), s.vm.classes[cA]? = some kA ∧ kA.kind = .array comp (.object RX3) ∧ s.vm.findClass RX3 = some comp ∧ s.vm.findClass ("[" ++ (FieldType.object RX3).toString) = some cA := (hK.2 5 _ rfl).2
  obtain ⟨_, _, _, _, _, e2⟩ : ∃ (kA : Class) (comp : ClassId), s.vm.classes[ct 3]? = some kA ∧ kA.kind = .array comp (.object RX3) ∧ s.vm.findClass RX3 = some comp ∧ s.vm.findClass ("[" ++ (FieldType.object RX3).toString) = some (ct 3) := (h.1.2 3 _ rfl).2
  have e3 : cA = ct 3 := Option.some.inj (e1.symm.trans e2)
  subst e3
  exact kk q H1 ⟨h.1, hP, hD, hS, h.2.2.2.2⟩
theorem hmna (C : CallFix p m c cc nL s args Ts own) (hG : ∀ w ∈ gG, w ∈ Ts) (h : gW D ct A s H ll ws) (hAO : va_AOA .int s) {idx : Nat} (hlink : Cond.classLink own idx "[[I" ∈ gG) (c2 s2 : Nat) (e1 : cells + 1 + 3 = c2) (e2 : slots + 3 + 3 * 8 = s2) (hc : c2 ≤ R.cells) (hs : s2 ≤ R.slots) (hdg : decode cc pc = .ok (.multianewarray idx 2, 4))
    (kk : ∀ (q : Nat) (r : Nat → Nat) (H : Heap), gW D ct A s H ll (ws ++ [(q, .inl (ct 4, 3, .inr (.inr (.inr (.inr (fun i => if i < 3 then some (r i) else none)))))), (r 0, .inl (ct 0, 8, .inl (fun _ => 0))), (r 1, .inl (ct 0, 8, .inl (fun _ => 0))), (r 2, .inl (ct 0, 8, .inl (fun _ => 0)))]) → W p l e R s m args below meth c H ll c2 s2 Q (F0 m (pc + 4) ls (.ref q :: rest))) : W p l e R s m args below meth c H ll cells slots Q (F0 m pc ls (.int 8 :: .int 3 :: rest)) := by
  subst e1
  subst e2
  have hnm : ("[" ++ (FieldType.array FieldType.int).toString) = "[[I" := by decide +kernel
  have e0 : ws ++ va_pl [] (fun _ => (.inl (ct 0, 8, .inl (fun _ => 0)) : va_E)) = ws := List.append_nil ws
  refine va_mna (X := ws) (L := []) (f := fun _ => .inl (ct 0, 8, .inl (fun _ => 0))) (ty := .int) (cy := ct 0) (N' := 3) (K' := 8) (z := (8, .inl (fun _ => 0))) C.1 C.2.1 C.2.2.2.1 (by rw [hnm]; exact C.2.2.2.2 _ (hG _ hlink)) hAO (C.2.2.2.2 _ (hG _ q98)) ((h.1.2 0 _ rfl).2) h.1 (by rw [e0]; exact h.2.1) (by rw [e0]; exact h.2.2.1) h.2.2.2.1 h.2.2.2.2 (by decide) (by decide) (by decide) (by decide) (by decide) (by decide) (by decide) rfl rfl (by omega) (by omega) (fun cA => by show ({ cls := cA, slots := Array.replicate 8 (.int 0), vm := .none } : Cell) = _; rw [arrV_new]; rfl) hdg (fun q r cA H1 hj hnL hK hP hD hS => ?_)
  have e1 : s.vm.findClass ("[" ++ (FieldType.array FieldType.int).toString) = some cA := (hK.2 5 _ rfl).2
  have e2 : s.vm.findClass ("[" ++ (FieldType.array FieldType.int).toString) = some (ct 4) := (h.1.2 4 _ rfl).2
  have e3 : cA = ct 4 := Option.some.inj (e1.symm.trans e2)
  subst e3
  rw [mna_rows, List.append_assoc] at hP hD
  exact kk q r H1 ⟨h.1, hP, hD, hS, h.2.2.2.2⟩
theorem hputF (C : CallFix p m c cc nL s args Ts own) (hG : ∀ w ∈ gG, w ∈ Ts) (hin2 : meth.name = "<init>") (h : gW D ct A s H ll ws) {Cn ref : String} {T : u_T} {N ci index : Nat} (hin : ∀ w ∈ u_ws Cn T N, w ∈ gG) (ty0 : Nat → FieldType) (hty : ∀ k, k < N → parseFieldDescriptor (T k).2.2.1 = some (ty0 k)) (hnm : ∀ a, a < N → ∀ b, b < N → a ≠ b → (T a).2.1 ≠ (T b).2.1) (q0 : Nat) {fs : List Value} (he : ws[q0]? = some (a, .inr (ci, fs))) (hc : vwCl[ci]? = some (Cn, T, N)) (k : Nat) (hk : k < N) (hlink : Cond.fieldLink own index ref (T k).2.1 (T k).2.2.1 ∈ gG) (hrf : (T k).1 = ref) (hfin : (T k).2.2.2 = true) (hdecl : (T k).1 = own) {v : Value} {ty : FieldType} (hd : parseFieldDescriptor (T k).2.2.1 = some ty) (hn : narrow ty v = v) (hfit : fits ty v = true) (hl : k < fs.length) (hdg : decode cc pc = .ok (.putfield index, 3))
    (kk : ∀ (H : Heap) (ll : List Loc), gW D ct A s H ll (ws.set q0 (a, .inr (ci, fs.set k v))) → W p l e R s m args below meth c H ll cells slots Q (F0 m (pc + 3) ls rest)) : W p l e R s m args below meth c H ll cells slots Q (F0 m pc ls (v :: .ref a :: rest)) :=
  va_putF C.1 C.2.1 C.2.2.2.2 (fun w hw => hG _ (hin w hw)) ty0 hty hnm C.2.2.2.1 h.1 h.2.1 h.2.2.1 h.2.2.2.1 q0 he hc k hk (C.2.2.2.2 _ (hG _ hlink)) (fun _ h9 => hrf ▸ h9) hfin hin2 hdecl hd hn hfit hl hdg (fun H ll hP hD hS => kk H ll ⟨h.1, hP, hD, hS, h.2.2.2.2⟩)
theorem hnewC (C : CallFix p m c cc nL s args Ts own) (hG : ∀ w ∈ gG, w ∈ Ts) (h : gW D ct A s H ll ws) {Cn : String} {T : u_T} {index : Nat} (N ci c2 s2 : Nat) (hin : ∀ w ∈ u_ws Cn T N, w ∈ gG) (ty : Nat → FieldType) (hty : ∀ k, k < N → parseFieldDescriptor (T k).2.2.1 = some (ty k)) (hcl : Cond.classLink own index Cn ∈ gG) (hinst : Cond.instantiable Cn N ∈ gG) (hini : Cond.initialized Cn ∈ gG) (hc : vwCl[ci]? = some (Cn, T, N)) (fs : List Value) (hfs : ∀ j, j < N → defaultValue (ty j) = vp_V fs j) (e1 : cells + 1 = c2) (e2 : slots + N = s2) (hcc : c2 ≤ R.cells) (hss : s2 ≤ R.slots) (hdg : decode cc pc = .ok (.new index, 3))
    (kk : ∀ (q : Nat) (H : Heap), gW D ct A s H ll (ws ++ [(q, .inr (ci, fs))]) → W p l e R s m args below meth c H ll c2 s2 Q (F0 m (pc + 3) ls (.ref q :: rest))) : W p l e R s m args below meth c H ll cells slots Q (F0 m pc ls rest) := by
  subst e1
  subst e2
  exact va_new C.1 C.2.1 C.2.2.2.2 (fun w hw => hG _ (hin w hw)) ty hty C.2.2.2.1 (C.2.2.2.2 _ (hG _ hcl)) (C.2.2.2.2 _ (hG _ hinst)) (C.2.2.2.2 _ (hG _ hini)) h.1 h.2.1 h.2.2.1 h.2.2.2.1 h.2.2.2.2 hc hfs hcc hss hdg (fun q H1 hP hD hS => kk q H1 ⟨h.1, hP, hD, hS, h.2.2.2.2⟩)
theorem hastM (C : CallFix p m c cc nL s args Ts own) (h : gW D ct A s H ll ws) (q0 qk ci : Nat) {r : vw_C} {n v : Nat} {vs : List Value} {f : Nat → Option Nat} (ha : ws[q0]? = some (a, .inl (ct 3, n, .inr (.inr (.inr (.inr f)))))) (hca : r.1 = RX3 ∨ va_Nw (.castable r.1 RX3) s) (hv : ws[qk]? = some (v, .inr (ci, vs))) (hc : vwCl[ci]? = some r) (j : Nat) (hj : j < n) (hN : n < 2 ^ 31) (hdg : decode cc pc = .ok (.aastore, 1))
    (kk : ∀ (H : Heap) (ll : List Loc), gW D ct A s H ll (ws.set q0 (a, .inl (ct 3, n, .inr (.inr (.inr (.inr (va_up f j (some v)))))))) → W p l e R s m args below meth c H ll cells slots Q (F0 m (pc + 1) ls rest)) : W p l e R s m args below meth c H ll cells slots Q (F0 m pc ls (.ref v :: .int (nI j) :: .ref a :: rest)) := by
  have hcl : (nI j).toNatClampNeg = j := nI_clamp (Nat.lt_trans hj hN)
  rcases hca with hca | hca
  · refine va_astq C.1 C.2.1 h.1 h.2.1 h.2.2.1 h.2.2.2.1 q0 3 qk ci ha (by rw [hca]; rfl) hv hc (vp_in_nI hj hN) hdg (fun H ll hP hD hS => ?_)
    rw [hcl] at hP hD
    exact kk H ll ⟨h.1, hP, hD, hS, h.2.2.2.2⟩
  · refine va_astqO (E := RX3) C.1 C.2.1 h.1 h.2.1 h.2.2.1 h.2.2.2.1 q0 3 qk ci ha rfl hca hv hc (vp_in_nI hj hN) hdg (fun H ll hP hD hS => ?_)
    rw [hcl] at hP hD
    exact kk H ll ⟨h.1, hP, hD, hS, h.2.2.2.2⟩
theorem hlast {x : Nat × va_E} : [ws.length].map (fun i => (ws ++ [x])[i]?) = [x].map some := by simp
/-- a call of a constructor of a nest mate over the cell that was made last -/
theorem hIN {S : Type} {X : gX} {y : MethodName} {bytes : ByteArray} {maxL idx : Nat} {rm : Room} {mc ms b : Nat} {e0 : va_E} {wo : S → va_W} {post : S → Prop} {host : String} (C : CallFix p m c cc nL s args Ts own) (h : gW D ct A s H ll (ws ++ [(b, e0)])) (hX : X A s) (hXo : gXok X) (hM : MN l y (gWs y bytes maxL none) rm D ct X [.ref b] [(b, e0)] wo post mc ms) (cw : va_CN R s args own idx y host bytes maxL none (gWs y bytes maxL none) rm mc ms 0 ∧ y.name = "<init>" ∧ (Cond.instanceMethod y).before args s = true) (c2 s2 : Nat) (e1 : cells + mc = c2) (e2 : slots + ms = s2) (hc : c2 ≤ R.cells) (hs : s2 ≤ R.slots) (hsz : ls.size = nL) (hw : (rest.map fun v => v.category).sum ≤ 8) (hdg : decode cc pc = .ok (.invokespecial idx, 3))
    (kk : ∀ (u : S) (H : Heap) (ll : List Loc), post u → gW D ct A s H ll (ws ++ wo u) → W p l e R s m args below meth c H ll c2 s2 Q (F0 m (pc + 3) ls rest)) : W p l e R s m args below meth c H ll cells slots Q (F0 m pc ls (.ref b :: rest)) := by
  subst e1
  subst e2
  have hR : (List.range ws.length).map (fun i => (ws ++ [(b, e0)])[i]?) = ws.map some := rng_map ws _
  have hPc : va_P D vwCl [(b, e0)] H := h.2.1.sub [ws.length] (gsub hlast)
  have hDc : va_D A [(b, e0)] := h.2.2.1.sub [ws.length] (nd_of (by simp)) hlast
  have hF : ∀ q : Nat, va_A [(b, e0)] H.size q → A q := va_free h.2.2.1 h.2.2.2.1 h.2.2.2.2 [ws.length] hlast
  refine va_callv (va_runIN (As := []) (rest := rest) C (hM H.size) cw ⟨gBlind hXo, fun U hU hW => ⟨rfl, by rw [hU], by rw [hU]; exact hPc, va_K.moved hW.alike h.1, hDc.weaken (fun _ _ _ _ => trivial), hXo.2 A _ s U hX hW (fun q h1 h2 => by rw [hU]; exact h.2.2.2.1.2.1 q h1 h2) hF⟩⟩ rfl rfl hsz rfl (lv_room hw) hdg ⟨hc, hs⟩) h.2.2.2.1 (fun q _ hq => hF q hq) hF (fun u t H1 l1 ht hvm hw1 hB hz1 hk1 hS => ?_)
  have hP1 := hB.1
  rw [ht] at hP1
  obtain ⟨hP2, hD2⟩ := va_join h.2.1 h.2.2.1 [ws.length] (List.range ws.length) hlast hR (nd_range _) (fun i hi q => by simp at hi q; omega) hk1 hF hP1 hB.2.2
  exact kk u H1 l1 hw1 ⟨h.1, hP2, hD2, hS, h.2.2.2.2⟩
/-- the same, of a constructor that isn't private -/
theorem hIP {S : Type} {X : gX} {y : MethodName} {bytes : ByteArray} {maxL idx : Nat} {rm : Room} {mc ms b : Nat} {e0 : va_E} {wo : S → va_W} {post : S → Prop} (C : CallFix p m c cc nL s args Ts own) (h : gW D ct A s H ll (ws ++ [(b, e0)])) (hX : X A s) (hXo : gXok X) (hM : MN l y (gWs y bytes maxL none) rm D ct X [.ref b] [(b, e0)] wo post mc ms) (cw : CallB R s args own idx y bytes maxL none (gWs y bytes maxL none) rm mc ms 0 ∧ y.name = "<init>" ∧ (Cond.instanceMethod y).before args s = true) (c2 s2 : Nat) (e1 : cells + mc = c2) (e2 : slots + ms = s2) (hc : c2 ≤ R.cells) (hs : s2 ≤ R.slots) (hsz : ls.size = nL) (hw : (rest.map fun v => v.category).sum ≤ 8) (hdg : decode cc pc = .ok (.invokespecial idx, 3))
    (kk : ∀ (u : S) (H : Heap) (ll : List Loc), post u → gW D ct A s H ll (ws ++ wo u) → W p l e R s m args below meth c H ll c2 s2 Q (F0 m (pc + 3) ls rest)) : W p l e R s m args below meth c H ll cells slots Q (F0 m pc ls (.ref b :: rest)) := by
  subst e1
  subst e2
  have hR : (List.range ws.length).map (fun i => (ws ++ [(b, e0)])[i]?) = ws.map some := rng_map ws _
  have hPc : va_P D vwCl [(b, e0)] H := h.2.1.sub [ws.length] (gsub hlast)
  have hDc : va_D A [(b, e0)] := h.2.2.1.sub [ws.length] (nd_of (by simp)) hlast
  have hF : ∀ q : Nat, va_A [(b, e0)] H.size q → A q := va_free h.2.2.1 h.2.2.2.1 h.2.2.2.2 [ws.length] hlast
  refine va_callv (va_runI (As := []) (rest := rest) C (hM H.size) cw ⟨gBlind hXo, fun U hU hW => ⟨rfl, by rw [hU], by rw [hU]; exact hPc, va_K.moved hW.alike h.1, hDc.weaken (fun _ _ _ _ => trivial), hXo.2 A _ s U hX hW (fun q h1 h2 => by rw [hU]; exact h.2.2.2.1.2.1 q h1 h2) hF⟩⟩ rfl rfl hsz rfl (lv_room hw) hdg ⟨hc, hs⟩) h.2.2.2.1 (fun q _ hq => hF q hq) hF (fun u t H1 l1 ht hvm hw1 hB hz1 hk1 hS => ?_)
  have hP1 := hB.1
  rw [ht] at hP1
  obtain ⟨hP2, hD2⟩ := va_join h.2.1 h.2.2.1 [ws.length] (List.range ws.length) hlast hR (nd_range _) (fun i hi q => by simp at hi q; omega) hk1 hF hP1 hB.2.2
  exact kk u H1 l1 hw1 ⟨h.1, hP2, hD2, hS, h.2.2.2.2⟩
/-- a constructor's call of its upper class's, which changes nothing -/
theorem hIS {X : gX} {y : MethodName} {bytes : ByteArray} {maxL idx : Nat} {rm : Room} {b : Nat} {host : String} (C : CallFix p m c cc nL s args Ts own) (h : gW D ct A s H ll ws) (hX : X A s) (hXo : gXok X) (hM : MN l y (gWs y bytes maxL none) rm D ct X [.ref b] ws (fun _ : Unit => ws) (fun _ => True) 0 0) (cw : va_CN R s args own idx y host bytes maxL none (gWs y bytes maxL none) rm 0 0 0 ∧ y.name = "<init>" ∧ (Cond.instanceMethod y).before args s = true) (hc : cells ≤ R.cells) (hs : slots ≤ R.slots) (hsz : ls.size = nL) (hw : (rest.map fun v => v.category).sum ≤ 8) (hdg : decode cc pc = .ok (.invokespecial idx, 3))
    (kk : ∀ (H : Heap) (ll : List Loc), gW D ct A s H ll ws → W p l e R s m args below meth c H ll cells slots Q (F0 m (pc + 3) ls rest)) : W p l e R s m args below meth c H ll cells slots Q (F0 m pc ls (.ref b :: rest)) := by
  refine va_callv (va_runIN (As := []) (rest := rest) C (hM H.size) cw ⟨gBlind hXo, fun U hU hW => ⟨rfl, by rw [hU], by rw [hU]; exact h.2.1, va_K.moved hW.alike h.1, h.2.2.1.weaken (fun _ _ _ _ => trivial), hXo.2 A _ s U hX hW (fun q h1 h2 => by rw [hU]; exact h.2.2.2.1.2.1 q h1 h2) h.inA⟩⟩ rfl rfl hsz rfl (lv_room hw) hdg ⟨hc, hs⟩) h.2.2.2.1 (fun q _ hq => h.inA q hq) h.inA (fun u t H1 l1 ht hvm hw1 hB hz1 hk1 hS => ?_)
  exact kk H1 l1 (h.aft (by have := hB.1; rw [ht] at this; exact this) hB.2.2 hS)
theorem gW.perm {ws' : va_W} (h : gW D ct A s H ll ws) (perm : List Nat) (hn : va_nd perm = true) (hb : perm.map (fun i => ws[i]?) = ws'.map some) : gW D ct A s H ll ws' :=
  ⟨h.1, h.2.1.sub perm (gsub hb), h.2.2.1.sub perm hn hb, h.2.2.2.1, h.2.2.2.2⟩
end NRows
def cz2 : Nat → Nat → Int32 := fun _ _ => 0
def cz3 : Nat → Nat → Nat → Int32 := fun _ _ _ => 0
def czt : Nat → Int64 := fun _ => 0
def czl : Nat → Nat → Int64 := fun _ _ => 0
def adF (a0 q3 q4 q5 q6 : Nat) (b1 b2 b3 b4 b5 : Nat → Nat) : Nat → Nat → Nat := fun i => match i with
  | 0 => fun j => match j with
    | 0 => a0
    | 3 => q3
    | 4 => q4
    | 5 => q5
    | _ => q6
  | 1 => b1
  | 2 => b2
  | 3 => b3
  | 4 => b4
  | _ => b5
def adS (a0 a1 a2 : Nat) (r : Nat → Nat) (a6 a7 a8 a9 a10 a11 : Nat) : Nat → Nat := fun k => match k with
  | 0 => a0
  | 1 => a1
  | 2 => a2
  | 3 => r 0
  | 4 => r 1
  | 5 => r 2
  | 6 => a6
  | 7 => a7
  | 8 => a8
  | 9 => a9
  | 10 => a10
  | _ => a11
theorem adS_r (a0 a1 a2 : Nat) (r : Nat → Nat) (a6 a7 a8 a9 a10 a11 : Nat) : (fun i => if i < 3 then some (r i) else none) = fun i => if i < 3 then some (adS a0 a1 a2 r a6 a7 a8 a9 a10 a11 (3 + i)) else none := by
  funext i
  match i with
  | 0 => rfl
  | 1 => rfl
  | 2 => rfl
  | i + 3 => rw [if_neg (by omega), if_neg (by omega)]
def adR (a0 a1 a2 a3 a4 a5 a6 a7 : Nat) : Nat → Nat := fun k => match k with
  | 0 => a0
  | 1 => a1
  | 2 => a2
  | 3 => a3
  | 4 => a4
  | 5 => a5
  | 6 => a6
  | _ => a7
theorem adR_k (a0 a1 a2 a3 a4 a5 a6 a7 : Nat) : va_up (va_up (va_up (va_up (va_up (fun _ => none) 0 (some a3)) 1 (some a4)) 2 (some a5)) 3 (some a6)) 4 (some a7) = fun i => if i < 5 then some (adR a0 a1 a2 a3 a4 a5 a6 a7 (3 + i)) else none := by
  funext i
  match i with
  | 0 => rfl
  | 1 => rfl
  | 2 => rfl
  | 3 => rfl
  | 4 => rfl
  | i + 5 => rw [if_neg (by omega)]; simp [va_up]
theorem wS_of (ct : Nat → ClassId) (a0 a1 a2 : Nat) (r : Nat → Nat) (a6 a7 a8 a9 a10 a11 : Nat) (g : Nat → Option Nat) (hg : g = fun i => if i < 3 then some (adS a0 a1 a2 r a6 a7 a8 a9 a10 a11 (3 + i)) else none) :
    ([(a0, .inr (6, [.ref a1, .ref a2, .ref a6, .ref a7, .ref a8, .ref a9, .ref a10, .ref a11, .int 0, .int 0])), (a1, .inl (ct 0, 8, .inl (fun _ => 0))), (a2, .inl (ct 4, 3, .inr (.inr (.inr (.inr g))))), (r 0, .inl (ct 0, 8, .inl (fun _ => 0))), (r 1, .inl (ct 0, 8, .inl (fun _ => 0))), (r 2, .inl (ct 0, 8, .inl (fun _ => 0))), (a6, .inl (ct 0, 8, .inl (fun _ => 0))), (a7, .inl (ct 0, 3, .inl (fun _ => 0))), (a8, .inl (ct 0, 3, .inl (fun _ => 0))), (a9, .inl (ct 0, 6, .inl (fun _ => 0))), (a10, .inl (ct 0, 6, .inl (fun _ => 0))), (a11, .inl (ct 0, 6, .inl (fun _ => 0)))] : va_W) = wS (adS a0 a1 a2 r a6 a7 a8 a9 a10 a11) ct cz2 cz2 := by
  subst hg; rfl
def wR_l (ct : Nat → ClassId) (a0 a1 a2 a3 a4 a5 a6 a7 : Nat) (g : Nat → Option Nat) : va_W :=
  [(a0, .inr (5, [.ref a1, .ref a2, .int 0])), (a1, .inl (ct 3, 5, .inr (.inr (.inr (.inr g))))), (a2, .inl (ct 0, 8, .inl (fun _ => 0))), (a3, .inr (3, [])), (a4, .inr (1, [])), (a5, .inr (0, [])), (a6, .inr (2, [])), (a7, .inr (7, []))]
theorem wR_of (ct : Nat → ClassId) (a0 a1 a2 a3 a4 a5 a6 a7 : Nat) (g : Nat → Option Nat) (hg : g = fun i => if i < 5 then some (adR a0 a1 a2 a3 a4 a5 a6 a7 (3 + i)) else none) : wR_l ct a0 a1 a2 a3 a4 a5 a6 a7 g = wR (adR a0 a1 a2 a3 a4 a5 a6 a7) ct cz2 := by
  subst hg; rfl
abbrev rmX3_init : Room := { frames := 1, cells := 0, slots := 0, locals := 12 }
set_option maxHeartbeats 400000 in
set_option maxRecDepth 20000 in
theorem kX3_init (l : Launch) (D : va_G) (ct : Nat → ClassId) (a0 : Nat) (ws : va_W) : MN l yX3_init (gWs yX3_init cX3_init 1 none) rmX3_init D ct nwX [.ref a0] ws (fun _ : Unit => ws) (fun _ : Unit => True) 0 0 := by
  refine MN.of RX3 rfl (by decide +kernel) rfl (Nat.le_of_ble_eq_true rfl) ?_
  intro zp ze zs zm za zb zt zc zA ls zQ hin C h hX hl Jr
  have hx := C.1
  have hb := C.2.1
  have hl : lv_has ls 1 [(0, .ref a0)] := hl
  have hG : ∀ w ∈ gG, w ∈ gWs yX3_init cX3_init 1 none := fun w hw => gWs_in hw
  refine lv_aload_n hx hb dX3_init_0 rfl (lv_at hl 0 rfl) ?_
  refine W.objInit hx hb C.2.2.2.1 (C.2.2.2.2 _ (gWs_in q111)) (C.2.2.2.2 _ (gWs_in q81)) (C.2.2.2.2 _ (gWs_in q82)) rfl (by rw [C.2.2.1]; exact hl.1) rfl dX3_init_1 (Nat.le_of_ble_eq_true rfl) (Nat.le_of_ble_eq_true rfl) ?_
  refine W.eq (g2 := F0 zm 4 ls []) rfl ?_
  exact Jr () _ _ _ _ h trivial dX3_init_4
abbrev rmX0_init : Room := { frames := 2, cells := 0, slots := 0, locals := 32 }
set_option maxHeartbeats 400000 in
set_option maxRecDepth 20000 in
theorem kX0_init (l : Launch) (D : va_G) (ct : Nat → ClassId) (a0 : Nat) (ws : va_W) : MN l yX0_init (gWs yX0_init cX0_init 1 none) rmX0_init D ct nwX [.ref a0] ws (fun _ : Unit => ws) (fun _ : Unit => True) 0 0 := by
  refine MN.of RX0 rfl (by decide +kernel) rfl (Nat.le_of_ble_eq_true rfl) ?_
  intro zp ze zs zm za zb zt zc zA ls zQ hin C h hX hl Jr
  have hx := C.1
  have hb := C.2.1
  have hl : lv_has ls 1 [(0, .ref a0)] := hl
  have hG : ∀ w ∈ gG, w ∈ gWs yX0_init cX0_init 1 none := fun w hw => gWs_in hw
  refine lv_aload_n hx hb dX0_init_0 rfl (lv_at hl 0 rfl) ?_
  refine hIS (rest := []) C h hX nwX_ok (kX3_init l D ct a0 ws) ⟨va_cnB 0 C.2.2.2.2 (hgc q110 hG) rfl rfl rfl hX.2.2.1.2.1 (C.2.2.2.2 _ (gWs_in q60)) (by decide +kernel) ⟨by decide, by decide⟩, rfl, C.2.2.2.2 _ (gWs_in q109)⟩ (by decide) (by decide) hl.1 (Nat.le_of_ble_eq_true rfl) dX0_init_1 (fun H ll h => ?_)
  exact Jr () _ _ _ _ h trivial dX0_init_4
abbrev rmX1_init : Room := { frames := 2, cells := 0, slots := 0, locals := 32 }
set_option maxHeartbeats 400000 in
set_option maxRecDepth 20000 in
theorem kX1_init (l : Launch) (D : va_G) (ct : Nat → ClassId) (a0 : Nat) (ws : va_W) : MN l yX1_init (gWs yX1_init cX1_init 1 none) rmX1_init D ct nwX [.ref a0] ws (fun _ : Unit => ws) (fun _ : Unit => True) 0 0 := by
  refine MN.of RX1 rfl (by decide +kernel) rfl (Nat.le_of_ble_eq_true rfl) ?_
  intro zp ze zs zm za zb zt zc zA ls zQ hin C h hX hl Jr
  have hx := C.1
  have hb := C.2.1
  have hl : lv_has ls 1 [(0, .ref a0)] := hl
  have hG : ∀ w ∈ gG, w ∈ gWs yX1_init cX1_init 1 none := fun w hw => gWs_in hw
  refine lv_aload_n hx hb dX1_init_0 rfl (lv_at hl 0 rfl) ?_
  refine hIS (rest := []) C h hX nwX_ok (kX3_init l D ct a0 ws) ⟨va_cnB 0 C.2.2.2.2 (hgc q110 hG) rfl rfl rfl hX.2.2.1.1 (C.2.2.2.2 _ (gWs_in q60)) (by decide +kernel) ⟨by decide, by decide⟩, rfl, C.2.2.2.2 _ (gWs_in q109)⟩ (by decide) (by decide) hl.1 (Nat.le_of_ble_eq_true rfl) dX1_init_1 (fun H ll h => ?_)
  exact Jr () _ _ _ _ h trivial dX1_init_4
abbrev rmX2_init : Room := { frames := 2, cells := 0, slots := 0, locals := 32 }
set_option maxHeartbeats 400000 in
set_option maxRecDepth 20000 in
theorem kX2_init (l : Launch) (D : va_G) (ct : Nat → ClassId) (a0 : Nat) (ws : va_W) : MN l yX2_init (gWs yX2_init cX2_init 1 none) rmX2_init D ct nwX [.ref a0] ws (fun _ : Unit => ws) (fun _ : Unit => True) 0 0 := by
  refine MN.of RX2 rfl (by decide +kernel) rfl (Nat.le_of_ble_eq_true rfl) ?_
  intro zp ze zs zm za zb zt zc zA ls zQ hin C h hX hl Jr
  have hx := C.1
  have hb := C.2.1
  have hl : lv_has ls 1 [(0, .ref a0)] := hl
  have hG : ∀ w ∈ gG, w ∈ gWs yX2_init cX2_init 1 none := fun w hw => gWs_in hw
  refine lv_aload_n hx hb dX2_init_0 rfl (lv_at hl 0 rfl) ?_
  refine hIS (rest := []) C h hX nwX_ok (kX3_init l D ct a0 ws) ⟨va_cnB 0 C.2.2.2.2 (hgc q110 hG) rfl rfl rfl hX.2.2.1.2.2.1 (C.2.2.2.2 _ (gWs_in q60)) (by decide +kernel) ⟨by decide, by decide⟩, rfl, C.2.2.2.2 _ (gWs_in q109)⟩ (by decide) (by decide) hl.1 (Nat.le_of_ble_eq_true rfl) dX2_init_1 (fun H ll h => ?_)
  exact Jr () _ _ _ _ h trivial dX2_init_4
abbrev rmX7_init : Room := { frames := 3, cells := 0, slots := 0, locals := 52 }
set_option maxHeartbeats 400000 in
set_option maxRecDepth 20000 in
theorem kX7_init (l : Launch) (D : va_G) (ct : Nat → ClassId) (a0 : Nat) (ws : va_W) : MN l yX7_init (gWs yX7_init cX7_init 1 none) rmX7_init D ct nwX [.ref a0] ws (fun _ : Unit => ws) (fun _ : Unit => True) 0 0 := by
  refine MN.of RX7 rfl (by decide +kernel) rfl (Nat.le_of_ble_eq_true rfl) ?_
  intro zp ze zs zm za zb zt zc zA ls zQ hin C h hX hl Jr
  have hx := C.1
  have hb := C.2.1
  have hl : lv_has ls 1 [(0, .ref a0)] := hl
  have hG : ∀ w ∈ gG, w ∈ gWs yX7_init cX7_init 1 none := fun w hw => gWs_in hw
  refine lv_aload_n hx hb dX7_init_0 rfl (lv_at hl 0 rfl) ?_
  refine hIS (rest := []) C h hX nwX_ok (kX2_init l D ct a0 ws) ⟨va_cnB 0 C.2.2.2.2 (hgc q131 hG) rfl rfl rfl hX.2.2.1.2.2.2 (C.2.2.2.2 _ (gWs_in q63)) (by decide +kernel) ⟨by decide, by decide⟩, rfl, C.2.2.2.2 _ (gWs_in q130)⟩ (by decide) (by decide) hl.1 (Nat.le_of_ble_eq_true rfl) dX7_init_1 (fun H ll h => ?_)
  exact Jr () _ _ _ _ h trivial dX7_init_4
abbrev rmX4_init : Room := { frames := 1, cells := 1, slots := 50, locals := 12 }
set_option maxHeartbeats 400000 in
set_option maxRecDepth 20000 in
theorem kX4_init (l : Launch) (D : va_G) (ct : Nat → ClassId) (a0 : Nat) : MN l yX4_init (gWs yX4_init cX4_init 1 none) rmX4_init D ct nwX [.ref a0] [(a0, .inr (4, [.null, .int 0]))] (fun b : Nat → Nat => wP b ct cz2) (fun b : Nat → Nat => b 0 = a0) 1 50 := by
  refine MN.of RX4 rfl (by decide +kernel) rfl (Nat.le_of_ble_eq_true rfl) ?_
  intro zp ze zs zm za zb zt zc zA ls zQ hin C h hX hl Jr
  have hx := C.1
  have hb := C.2.1
  have hl : lv_has ls 1 [(0, .ref a0)] := hl
  have hG : ∀ w ∈ gG, w ∈ gWs yX4_init cX4_init 1 none := fun w hw => gWs_in hw
  refine lv_aload_n hx hb dX4_init_0 rfl (lv_at hl 0 rfl) ?_
  refine W.objInit hx hb C.2.2.2.1 (C.2.2.2.2 _ (gWs_in q88)) (C.2.2.2.2 _ (gWs_in q81)) (C.2.2.2.2 _ (gWs_in q82)) rfl (by rw [C.2.2.1]; exact hl.1) rfl dX4_init_1 (Nat.le_of_ble_eq_true rfl) (Nat.le_of_ble_eq_true rfl) ?_
  refine W.eq (g2 := F0 zm 4 ls []) rfl ?_
  refine lv_aload_n hx hb dX4_init_4 rfl (lv_at hl 0 rfl) ?_
  refine lv_bipush (v := 50) hx hb dX4_init_5 (by decide) ?_
  refine hnewI C hG h 50 1 50 (by decide) (by decide) (by decide) rfl rfl (by decide) (by decide) dX4_init_7 (fun q7 H h => ?_)
  have h : gW D ct zA zs _ _ [(a0, .inr (4, [.null, .int 0])), (q7, .inl (ct 0, 50, .inl (fun _ => 0)))] := h
  refine hputF (v := .ref q7) (ty := .array .int) C hG hin h igX4 tyX4 tyX4_ok nmX4 0 rfl rfl 0 (by decide) q89 rfl rfl rfl (by decide +kernel) rfl rfl (Nat.le_of_ble_eq_true rfl) dX4_init_9 (fun H ll h => ?_)
  have h : gW D ct zA zs _ _ [(a0, .inr (4, [.ref q7, .int 0])), (q7, .inl (ct 0, 50, .inl (fun _ => 0)))] := h
  exact Jr (fun i => match i with | 0 => a0 | _ => q7) _ _ _ _ h rfl dX4_init_12
