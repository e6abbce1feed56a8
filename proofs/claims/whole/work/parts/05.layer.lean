/-! ===== THE LAYER: one bundle for a world (gW), one form for a contract (MI, ML, MV), rows over them; numbers that are naturals (nI) ===== -/
def gT (ct : Nat → ClassId) : List (ClassId × FieldType) := [(ct 0, .int), (ct 1, .long), (ct 2, .byte), (ct 3, .object "RopeVote$Mussel"), (ct 4, .array .int)]
/-- the world ws lies in the heap H, apart, in A; since the start nothing outside A has changed -/
def gW (D : va_G) (ct : Nat → ClassId) (A : Nat → Prop) (s : State) (H : Heap) (ll : List Loc) (ws : va_W) : Prop :=
  va_K D vwCl (gT ct) s ∧ va_P D vwCl ws H ∧ va_D A ws ∧ va_S A s.heap H ll ∧ ∀ q : Nat, s.heap.size ≤ q → A q
theorem gW.to {D : va_G} {ct : Nat → ClassId} {A : Nat → Prop} {s : State} {H : Heap} {ll : List Loc} {ws ws' : va_W} (h : gW D ct A s H ll ws) (e : ws = ws') : gW D ct A s H ll ws' := e ▸ h
theorem gW.inA {D : va_G} {ct : Nat → ClassId} {A : Nat → Prop} {s : State} {H : Heap} {ll : List Loc} {ws : va_W} (h : gW D ct A s H ll ws) : ∀ q : Nat, va_A ws H.size q → A q := by
  rintro q (⟨k, e, hk⟩ | hq)
  · exact h.2.2.1.2 k _ hk
  · exact h.2.2.2.2 q (Nat.le_trans h.2.2.2.1.1 hq)
theorem gW.aft {D : va_G} {ct : Nat → ClassId} {A : Nat → Prop} {s : State} {H H1 : Heap} {ll l1 : List Loc} {ws w1 : va_W} (h : gW D ct A s H ll ws) (hP : va_P D vwCl w1 H1) (hD : va_D (va_A ws H.size) w1) (hS : va_S A s.heap H1 l1) : gW D ct A s H1 l1 w1 :=
  ⟨h.1, hP, hD.weaken (fun _ _ _ hq => h.inA _ hq), hS, h.2.2.2.2⟩
/-- a method's words: its code, and all of the law's -/
def gWs (y : MethodName) (cc : ByteArray) (n : Nat) (ret : Option FieldType) : List Cond := .code y cc n ret :: gG
theorem gWs_in {y : MethodName} {cc : ByteArray} {n : Nat} {ret : Option FieldType} {w : Cond} (h : w ∈ gG) : w ∈ gWs y cc n ret := List.mem_cons_of_mem _ h
/-- what is known of statics -/
abbrev gX : Type := (Nat → Prop) → State → Prop
def gNo : gX := fun _ _ => True
def gXok (X : gX) : Prop := (∀ (A : Nat → Prop) (a : Array Value) (U : State) (g : JFrame) (mk : MethodId), X A U → X A (U.calling g mk a)) ∧ ∀ (A B : Nat → Prop) (s U : State), X A s → s.WarmedH U.vm → (∀ q : Nat, q < s.heap.size → ¬ A q → U.heap[q]? = s.heap[q]?) → (∀ q, B q → A q) → X B U
theorem gfz0 (v : Int32) : fits .boolean (narrow .boolean (.int v)) = true := by
  obtain ⟨j, hj, e⟩ := pk_andE v (m := 1) 1 (by decide)
  show (v &&& 1 == 0 || v &&& 1 == 1) = true
  rw [e]
  match j, hj with
  | 0, _ => rfl
  | 1, _ => rfl
theorem gfz {v : Int32} (h : narrow .boolean (.int v) = .int v) : fits .boolean (.int v) = true := by rw [← h]; exact gfz0 v
theorem gnz (P : Prop) [Decidable P] : narrow .boolean (.int (if P then 1 else 0)) = .int (if P then 1 else 0) := by by_cases h : P <;> simp only [h, if_true, if_false] <;> rfl
theorem ndec {x z : Nat} (h : z ≤ x) : nI x + Int32.ofInt (-(z : Int)) = nI (x - z) := by
  rw [← pk_sub h, Int32.sub_eq_add_neg]
  congr 1
  rw [Int32.ofInt_neg]; rfl
theorem gNo_ok : gXok gNo := ⟨fun _ _ _ _ _ _ => trivial, fun _ _ _ _ _ _ _ _ => trivial⟩
def gPre (D : va_G) (ct : Nat → ClassId) (X : gX) (wi : va_W) (sz : Nat) : State → Prop := fun U => U.heap.size = sz ∧ va_P D vwCl wi U.heap ∧ va_K D vwCl (gT ct) U ∧ va_D (fun _ => True) wi ∧ X (va_A wi sz) U
def gEnd {S : Type} (D : va_G) (ct : Nat → ClassId) (A : Nat → Prop) (wo : S → va_W) : S → State → Prop := fun u t => va_P D vwCl (wo u) t.heap ∧ va_K D vwCl (gT ct) t ∧ va_D A (wo u)
/-- a contract: from the world wi, with the arguments av, the method answers r, and the world is then wo u, with 'post r u' -/
def MI (l : Launch) (y : MethodName) (cs : List Cond) (rm : Room) (D : va_G) (ct : Nat → ClassId) (X : gX) (av : List Value) (wi : va_W) {S : Type} (wo : S → va_W) (post : Int32 → S → Prop) : Prop :=
  ∀ sz : Nat, Met l y cs rm (va_Pc av (gPre D ct X wi sz)) (va_Qi post (gEnd D ct (va_A wi sz) wo) (va_A wi sz)) 0 0 (va_A wi sz)
def ML (l : Launch) (y : MethodName) (cs : List Cond) (rm : Room) (D : va_G) (ct : Nat → ClassId) (X : gX) (av : List Value) (wi : va_W) {S : Type} (wo : S → va_W) (post : Int64 → S → Prop) : Prop :=
  ∀ sz : Nat, Met l y cs rm (va_Pc av (gPre D ct X wi sz)) (va_Ql post (gEnd D ct (va_A wi sz) wo) (va_A wi sz)) 0 0 (va_A wi sz)
def MV (l : Launch) (y : MethodName) (cs : List Cond) (rm : Room) (D : va_G) (ct : Nat → ClassId) (X : gX) (av : List Value) (wi : va_W) {S : Type} (wo : S → va_W) (post : S → Prop) : Prop :=
  ∀ sz : Nat, Met l y cs rm (va_Pc av (gPre D ct X wi sz)) (va_Qv post (gEnd D ct (va_A wi sz) wo) (va_A wi sz)) 0 0 (va_A wi sz)
theorem gBlind {D : va_G} {ct : Nat → ClassId} {X : gX} {av : List Value} {wi : va_W} {sz : Nat} (hX : gXok X) : FrameBlind (va_Pc av (gPre D ct X wi sz)) := fun a U g mk q => by
  obtain ⟨q0, q1, qP, qK, qD, qX⟩ := q
  exact ⟨q0, q1, qP, va_K.moved (u := U) (U := U.calling g mk a) (Vm.Alike.refl U.vm) qK, qD, hX.1 _ _ _ _ _ qX⟩
section GRows
variable {p : Program} {l : Launch} {e : Env} {R : Room} {s : State} {m : MethodId} {args : Array Value} {below : List Frame} {meth : Method} {c : Code} {H : Heap} {ll : List Loc} {cells slots : Nat} {Q : State → Prop}
variable {cc : ByteArray} {pc nL : Nat} {ls : Array Slot} {rest : List Value} {D : va_G} {ct : Nat → ClassId} {A : Nat → Prop} {a : Nat} {ws : va_W} {y0 : MethodName} {ret0 : Option FieldType} {own : String}
-- ends
theorem gW.iret {S : Type} {wo : S → va_W} {post : Int32 → S → Prop} {v : Int32} (u : S) (h : gW D ct A s H ll (wo u)) (hp : post v u) (hx : p.tables.exec = Jvm.exec) (hb : c.code = cc) (hr : meth.sig.returnType = some .int) (hk : meth.locks = false) (hdg : decode cc pc = .ok (.ireturn, 1)) : W p l e R s m args below meth c H ll 0 0 (MQ below (va_Qi post (gEnd D ct A wo) A) args s 0 0 A) (F0 m pc ls [.int v]) :=
  W.iret hx hb hr (fun t ht hW => ⟨⟨v, u, rfl, hp, by rw [ht]; exact h.2.1, va_K.moved hW.alike h.1, h.2.2.1⟩, h.2.2.2.1.F ht⟩) h.2.2.2.1.2.2 hdg hk
theorem gW.zret {S : Type} {wo : S → va_W} {post : Int32 → S → Prop} {v : Int32} {ty : FieldType} (u : S) (h : gW D ct A s H ll (wo u)) (hp : post v u) (hx : p.tables.exec = Jvm.exec) (hb : c.code = cc) (hr : meth.sig.returnType = some ty) (hk : meth.locks = false) (hdg : decode cc pc = .ok (.ireturn, 1)) (hn : narrow ty (.int v) = .int v) : W p l e R s m args below meth c H ll 0 0 (MQ below (va_Qi post (gEnd D ct A wo) A) args s 0 0 A) (F0 m pc ls [.int v]) :=
  W.zret hx hb hr hn (fun t ht hW => ⟨⟨v, u, rfl, hp, by rw [ht]; exact h.2.1, va_K.moved hW.alike h.1, h.2.2.1⟩, h.2.2.2.1.F ht⟩) h.2.2.2.1.2.2 hdg hk
theorem gW.lret {S : Type} {wo : S → va_W} {post : Int64 → S → Prop} {v : Int64} (u : S) (h : gW D ct A s H ll (wo u)) (hp : post v u) (hx : p.tables.exec = Jvm.exec) (hb : c.code = cc) (hr : meth.sig.returnType = some .long) (hk : meth.locks = false) (hdg : decode cc pc = .ok (.lreturn, 1)) : W p l e R s m args below meth c H ll 0 0 (MQ below (va_Ql post (gEnd D ct A wo) A) args s 0 0 A) (F0 m pc ls [.long v]) :=
  W.lret hx hb hr (fun t ht hW => ⟨⟨v, u, rfl, hp, by rw [ht]; exact h.2.1, va_K.moved hW.alike h.1, h.2.2.1⟩, h.2.2.2.1.F ht⟩) h.2.2.2.1.2.2 hdg hk
theorem gW.vret {S : Type} {wo : S → va_W} {post : S → Prop} (u : S) (h : gW D ct A s H ll (wo u)) (hp : post u) (hx : p.tables.exec = Jvm.exec) (hb : c.code = cc) (hr : meth.sig.returnType = none) (hk : meth.locks = false) (hdg : decode cc pc = .ok (.return_, 1)) : W p l e R s m args below meth c H ll 0 0 (MQ below (va_Qv post (gEnd D ct A wo) A) args s 0 0 A) (F0 m pc ls []) :=
  W.vret hx hb hr (fun t ht hW => ⟨⟨u, rfl, hp, by rw [ht]; exact h.2.1, va_K.moved hW.alike h.1, h.2.2.1⟩, h.2.2.2.1.F ht⟩) h.2.2.2.1.2.2 hdg hk
-- fields
theorem gget (C : CallFix p m c cc nL s args (gWs y0 cc nL ret0) own) (h : gW D ct A s H ll ws) {Cn ref : String} {T : u_T} {N ci index : Nat} (hin : ∀ w ∈ u_ws Cn T N, w ∈ gG) (q0 : Nat) {fs : List Value} (he : ws[q0]? = some (a, .inr (ci, fs))) (hc : vwCl[ci]? = some (Cn, T, N)) (k : Nat) (hk : k < N) (hlink : Cond.fieldLink own index ref (T k).2.1 (T k).2.2.1 ∈ gG) (hrf : (T k).1 = ref) {v : Value} (hv : fs[k]? = some v) (hdg : decode cc pc = .ok (.getfield index, 3))
    (kk : W p l e R s m args below meth c H ll cells slots Q (F0 m (pc + 3) ls (v :: rest))) : W p l e R s m args below meth c H ll cells slots Q (F0 m pc ls (.ref a :: rest)) :=
  va_get C.1 C.2.1 C.2.2.2.2 (fun w hw => gWs_in (hin w hw)) C.2.2.2.1 h.1 h.2.1 q0 he hc k hk (C.2.2.2.2 _ (gWs_in hlink)) (fun _ h9 => hrf ▸ h9) hv hdg kk
theorem gput (C : CallFix p m c cc nL s args (gWs y0 cc nL ret0) own) (h : gW D ct A s H ll ws) {Cn ref : String} {T : u_T} {N ci index : Nat} (hin : ∀ w ∈ u_ws Cn T N, w ∈ gG) (ty0 : Nat → FieldType) (hty : ∀ k, k < N → parseFieldDescriptor (T k).2.2.1 = some (ty0 k)) (hnm : ∀ a, a < N → ∀ b, b < N → a ≠ b → (T a).2.1 ≠ (T b).2.1) (q0 : Nat) {fs : List Value} (he : ws[q0]? = some (a, .inr (ci, fs))) (hc : vwCl[ci]? = some (Cn, T, N)) (k : Nat) (hk : k < N) (hlink : Cond.fieldLink own index ref (T k).2.1 (T k).2.2.1 ∈ gG) (hrf : (T k).1 = ref) (hfin : (T k).2.2.2 = false) {v : Value} {ty : FieldType} (hd : parseFieldDescriptor (T k).2.2.1 = some ty) (hn : narrow ty v = v) (hfit : fits ty v = true) (hl : k < fs.length) (hdg : decode cc pc = .ok (.putfield index, 3))
    (kk : ∀ (H : Heap) (ll : List Loc), gW D ct A s H ll (ws.set q0 (a, .inr (ci, fs.set k v))) → W p l e R s m args below meth c H ll cells slots Q (F0 m (pc + 3) ls rest)) : W p l e R s m args below meth c H ll cells slots Q (F0 m pc ls (v :: .ref a :: rest)) :=
  va_put C.1 C.2.1 C.2.2.2.2 (fun w hw => gWs_in (hin w hw)) ty0 hty hnm C.2.2.2.1 h.1 h.2.1 h.2.2.1 h.2.2.2.1 q0 he hc k hk (C.2.2.2.2 _ (gWs_in hlink)) (fun _ h9 => hrf ▸ h9) hfin hd hn hfit hl hdg (fun H ll hP hD hS => kk H ll ⟨h.1, hP, hD, hS, h.2.2.2.2⟩)
-- arrays, the place a natural
theorem gild (C : CallFix p m c cc nL s args (gWs y0 cc nL ret0) own) (h : gW D ct A s H ll ws) (q0 : Nat) {N : Nat} {f : Nat → Int32} (he : ws[q0]? = some (a, .inl (ct 0, N, .inl f))) {j : Nat} (hj : j < N) (hN : N < 2 ^ 31) (hdg : decode cc pc = .ok (.iaload, 1))
    (kk : W p l e R s m args below meth c H ll cells slots Q (F0 m (pc + 1) ls (.int (f j) :: rest))) : W p l e R s m args below meth c H ll cells slots Q (F0 m pc ls (.int (nI j) :: .ref a :: rest)) := by
  refine va_iald C.1 C.2.1 h.1 h.2.1 q0 0 he rfl (vp_in_nI hj hN) hdg ?_
  rw [nI_clamp (Nat.lt_trans hj hN)]; exact kk
theorem gbld (C : CallFix p m c cc nL s args (gWs y0 cc nL ret0) own) (h : gW D ct A s H ll ws) (q0 : Nat) {N : Nat} {f : Nat → Int32} (he : ws[q0]? = some (a, .inl (ct 2, N, .inl f))) {j : Nat} (hj : j < N) (hN : N < 2 ^ 31) (hdg : decode cc pc = .ok (.baload, 1))
    (kk : W p l e R s m args below meth c H ll cells slots Q (F0 m (pc + 1) ls (.int (f j) :: rest))) : W p l e R s m args below meth c H ll cells slots Q (F0 m pc ls (.int (nI j) :: .ref a :: rest)) := by
  refine va_bald C.1 C.2.1 h.1 h.2.1 q0 2 he rfl (vp_in_nI hj hN) hdg ?_
  rw [nI_clamp (Nat.lt_trans hj hN)]; exact kk
theorem glld (C : CallFix p m c cc nL s args (gWs y0 cc nL ret0) own) (h : gW D ct A s H ll ws) (q0 : Nat) {N : Nat} {f : Nat → Int64} (he : ws[q0]? = some (a, .inl (ct 1, N, .inr (.inl f)))) {j : Nat} (hj : j < N) (hN : N < 2 ^ 31) (hdg : decode cc pc = .ok (.laload, 1))
    (kk : W p l e R s m args below meth c H ll cells slots Q (F0 m (pc + 1) ls (.long (f j) :: rest))) : W p l e R s m args below meth c H ll cells slots Q (F0 m pc ls (.int (nI j) :: .ref a :: rest)) := by
  refine va_lald C.1 C.2.1 h.1 h.2.1 q0 1 he rfl (vp_in_nI hj hN) hdg ?_
  rw [nI_clamp (Nat.lt_trans hj hN)]; exact kk
theorem gist (C : CallFix p m c cc nL s args (gWs y0 cc nL ret0) own) (h : gW D ct A s H ll ws) (q0 : Nat) {N : Nat} {f : Nat → Int32} (he : ws[q0]? = some (a, .inl (ct 0, N, .inl f))) {j : Nat} {x : Int32} (hj : j < N) (hN : N < 2 ^ 31) (hdg : decode cc pc = .ok (.iastore, 1))
    (kk : ∀ (H : Heap) (ll : List Loc), gW D ct A s H ll (ws.set q0 (a, .inl (ct 0, N, .inl (upd f j x)))) → W p l e R s m args below meth c H ll cells slots Q (F0 m (pc + 1) ls rest)) : W p l e R s m args below meth c H ll cells slots Q (F0 m pc ls (.int x :: .int (nI j) :: .ref a :: rest)) := by
  refine va_iast C.1 C.2.1 h.1 h.2.1 h.2.2.1 h.2.2.2.1 q0 0 he rfl (vp_in_nI hj hN) hdg (fun H ll hP hD hS => ?_)
  rw [nI_clamp (Nat.lt_trans hj hN)] at hP hD
  exact kk H ll ⟨h.1, hP, hD, hS, h.2.2.2.2⟩
theorem gbst (C : CallFix p m c cc nL s args (gWs y0 cc nL ret0) own) (h : gW D ct A s H ll ws) (q0 : Nat) {N : Nat} {f : Nat → Int32} (he : ws[q0]? = some (a, .inl (ct 2, N, .inl f))) {j : Nat} {x : Int32} (hj : j < N) (hN : N < 2 ^ 31) (hdg : decode cc pc = .ok (.bastore, 1))
    (kk : ∀ (H : Heap) (ll : List Loc), gW D ct A s H ll (ws.set q0 (a, .inl (ct 2, N, .inl (upd f j (vp_nar .byte x))))) → W p l e R s m args below meth c H ll cells slots Q (F0 m (pc + 1) ls rest)) : W p l e R s m args below meth c H ll cells slots Q (F0 m pc ls (.int x :: .int (nI j) :: .ref a :: rest)) := by
  refine va_bast C.1 C.2.1 h.1 h.2.1 h.2.2.1 h.2.2.2.1 q0 2 he rfl (vp_in_nI hj hN) hdg (fun H ll hP hD hS => ?_)
  rw [nI_clamp (Nat.lt_trans hj hN)] at hP hD
  exact kk H ll ⟨h.1, hP, hD, hS, h.2.2.2.2⟩
theorem glst (C : CallFix p m c cc nL s args (gWs y0 cc nL ret0) own) (h : gW D ct A s H ll ws) (q0 : Nat) {N : Nat} {f : Nat → Int64} (he : ws[q0]? = some (a, .inl (ct 1, N, .inr (.inl f)))) {j : Nat} {x : Int64} (hj : j < N) (hN : N < 2 ^ 31) (hdg : decode cc pc = .ok (.lastore, 1))
    (kk : ∀ (H : Heap) (ll : List Loc), gW D ct A s H ll (ws.set q0 (a, .inl (ct 1, N, .inr (.inl (vp_updL f j x))))) → W p l e R s m args below meth c H ll cells slots Q (F0 m (pc + 1) ls rest)) : W p l e R s m args below meth c H ll cells slots Q (F0 m pc ls (.long x :: .int (nI j) :: .ref a :: rest)) := by
  refine va_last C.1 C.2.1 h.1 h.2.1 h.2.2.1 h.2.2.2.1 q0 1 he rfl (vp_in_nI hj hN) hdg (fun H ll hP hD hS => ?_)
  rw [nI_clamp (Nat.lt_trans hj hN)] at hP hD
  exact kk H ll ⟨h.1, hP, hD, hS, h.2.2.2.2⟩
theorem galen (C : CallFix p m c cc nL s args (gWs y0 cc nL ret0) own) (h : gW D ct A s H ll ws) (q0 : Nat) {N : Nat} {z : (Nat → Int32) ⊕ (Nat → Int64) ⊕ (Nat → UInt32) ⊕ (Nat → UInt64) ⊕ (Nat → Option Nat)} (k : Nat) {ty : FieldType} (ht : (gT ct)[k]? = some (ct k, ty)) (he : ws[q0]? = some (a, .inl (ct k, N, z))) (hdg : decode cc pc = .ok (.arraylength, 1))
    (kk : W p l e R s m args below meth c H ll cells slots Q (F0 m (pc + 1) ls (.int (nI N) :: rest))) : W p l e R s m args below meth c H ll cells slots Q (F0 m pc ls (.ref a :: rest)) :=
  va_alen C.1 C.2.1 h.1 h.2.1 q0 k he ht rfl hdg kk
-- a number by another name
theorem gas {x z : Int32} (k : x = z) (kk : W p l e R s m args below meth c H ll cells slots Q (F0 m pc ls (.int z :: rest))) : W p l e R s m args below meth c H ll cells slots Q (F0 m pc ls (.int x :: rest)) := k ▸ kk
theorem gasl {x z : Int64} (k : x = z) (kk : W p l e R s m args below meth c H ll cells slots Q (F0 m pc ls (.long z :: rest))) : W p l e R s m args below meth c H ll cells slots Q (F0 m pc ls (.long x :: rest)) := k ▸ kk
-- naturals
theorem nadd (hx : p.tables.exec = Jvm.exec) (hb : c.code = cc) (x z : Nat) (hdg : decode cc pc = .ok (.iadd, 1)) (kk : W p l e R s m args below meth c H ll cells slots Q (F0 m (pc + 1) ls (.int (nI (x + z)) :: rest))) : W p l e R s m args below meth c H ll cells slots Q (F0 m pc ls (.int (nI z) :: .int (nI x) :: rest)) := by
  refine lv_iadd hx hb hdg ?_; rw [nI_add]; exact kk
theorem nmul (hx : p.tables.exec = Jvm.exec) (hb : c.code = cc) (x z : Nat) (hdg : decode cc pc = .ok (.imul, 1)) (kk : W p l e R s m args below meth c H ll cells slots Q (F0 m (pc + 1) ls (.int (nI (x * z)) :: rest))) : W p l e R s m args below meth c H ll cells slots Q (F0 m pc ls (.int (nI z) :: .int (nI x) :: rest)) := by
  refine lv_imul hx hb hdg ?_; rw [pk_mul]; exact kk
theorem nsub (hx : p.tables.exec = Jvm.exec) (hb : c.code = cc) (x z : Nat) (hz : z ≤ x) (hdg : decode cc pc = .ok (.isub, 1)) (kk : W p l e R s m args below meth c H ll cells slots Q (F0 m (pc + 1) ls (.int (nI (x - z)) :: rest))) : W p l e R s m args below meth c H ll cells slots Q (F0 m pc ls (.int (nI z) :: .int (nI x) :: rest)) := by
  refine lv_isub hx hb hdg ?_; rw [pk_sub hz]; exact kk
theorem ndiv (hx : p.tables.exec = Jvm.exec) (hb : c.code = cc) (x z : Nat) (h1 : x < 2 ^ 31) (h0 : 0 < z) (h2 : z < 2 ^ 31) (hdg : decode cc pc = .ok (.idiv, 1)) (kk : W p l e R s m args below meth c H ll cells slots Q (F0 m (pc + 1) ls (.int (nI (x / z)) :: rest))) : W p l e R s m args below meth c H ll cells slots Q (F0 m pc ls (.int (nI z) :: .int (nI x) :: rest)) := by
  refine lv_idiv hx hb hdg (nI_ne0 h0 h2) ?_; rw [pk_div h1 h0 h2]; exact kk
theorem nrem (hx : p.tables.exec = Jvm.exec) (hb : c.code = cc) (x z : Nat) (h1 : x < 2 ^ 31) (h0 : 0 < z) (h2 : z < 2 ^ 31) (hdg : decode cc pc = .ok (.irem, 1)) (kk : W p l e R s m args below meth c H ll cells slots Q (F0 m (pc + 1) ls (.int (nI (x % z)) :: rest))) : W p l e R s m args below meth c H ll cells slots Q (F0 m pc ls (.int (nI z) :: .int (nI x) :: rest)) := by
  refine lv_irem hx hb hdg (nI_ne0 h0 h2) ?_; rw [pk_rem h1 h0 h2]; exact kk
theorem g31 : ∀ k, k < 32 → ((nI k &&& 31).toBitVec.smod 32).toNat = k := by decide +kernel
theorem nshl (hx : p.tables.exec = Jvm.exec) (hb : c.code = cc) (x z : Nat) (hz : z < 32) (h1 : x * 2 ^ z < 2 ^ 32) (hdg : decode cc pc = .ok (.ishl, 1)) (kk : W p l e R s m args below meth c H ll cells slots Q (F0 m (pc + 1) ls (.int (nI (x * 2 ^ z)) :: rest))) : W p l e R s m args below meth c H ll cells slots Q (F0 m pc ls (.int (nI z) :: .int (nI x) :: rest)) := by
  refine lv_ishl hx hb hdg ?_; rw [pk_shlN _ z (g31 z hz) h1]; exact kk
theorem nshr (hx : p.tables.exec = Jvm.exec) (hb : c.code = cc) (x z : Nat) (hz : z < 32) (h1 : x < 2 ^ 31) (hdg : decode cc pc = .ok (.ishr, 1)) (kk : W p l e R s m args below meth c H ll cells slots Q (F0 m (pc + 1) ls (.int (nI (x / 2 ^ z)) :: rest))) : W p l e R s m args below meth c H ll cells slots Q (F0 m pc ls (.int (nI z) :: .int (nI x) :: rest)) := by
  refine lv_ishr hx hb hdg ?_; rw [pk_shrN h1 _ z (g31 z hz)]; exact kk
theorem gandN (x z : Nat) : nI x &&& nI z = nI (x &&& z) := by
  apply Int32.toBitVec_inj.mp; apply BitVec.eq_of_toNat_eq
  show ((BitVec.ofNat 32 x) &&& (BitVec.ofNat 32 z)).toNat = (BitVec.ofNat 32 (x &&& z)).toNat
  rw [BitVec.toNat_and, BitVec.toNat_ofNat, BitVec.toNat_ofNat, BitVec.toNat_ofNat, Nat.and_mod_two_pow]
theorem gorN (x z : Nat) : nI x ||| nI z = nI (x ||| z) := by
  apply Int32.toBitVec_inj.mp; apply BitVec.eq_of_toNat_eq
  show ((BitVec.ofNat 32 x) ||| (BitVec.ofNat 32 z)).toNat = (BitVec.ofNat 32 (x ||| z)).toNat
  rw [BitVec.toNat_or, BitVec.toNat_ofNat, BitVec.toNat_ofNat, BitVec.toNat_ofNat, Nat.or_mod_two_pow]
theorem nand (hx : p.tables.exec = Jvm.exec) (hb : c.code = cc) (x z : Nat) (hdg : decode cc pc = .ok (.iand, 1)) (kk : W p l e R s m args below meth c H ll cells slots Q (F0 m (pc + 1) ls (.int (nI (x &&& z)) :: rest))) : W p l e R s m args below meth c H ll cells slots Q (F0 m pc ls (.int (nI z) :: .int (nI x) :: rest)) := by
  refine lv_iand hx hb hdg ?_; rw [gandN]; exact kk
theorem nor (hx : p.tables.exec = Jvm.exec) (hb : c.code = cc) (x z : Nat) (hdg : decode cc pc = .ok (.ior, 1)) (kk : W p l e R s m args below meth c H ll cells slots Q (F0 m (pc + 1) ls (.int (nI (x ||| z)) :: rest))) : W p l e R s m args below meth c H ll cells slots Q (F0 m pc ls (.int (nI z) :: .int (nI x) :: rest)) := by
  refine lv_ior hx hb hdg ?_; rw [gorN]; exact kk
theorem ninc (hx : p.tables.exec = Jvm.exec) (hb : c.code = cc) {i k : Nat} (x z : Nat) {lv lv' : List (Nat × Value)} (hdg : decode cc pc = .ok (.iinc i (z : Int), 3)) (h : lv_has ls nL lv) (hk : lv[k]? = some (i, .int (nI x))) (hn : i < nL) (hl : (i, Value.int (nI (x + z))) :: lv.filter (fun q => !(q.1 == i) && !(q.1 + 1 == i && q.2.category == 2)) = lv')
    (kk : ∀ ls : Array Slot, lv_has ls nL lv' → W p l e R s m args below meth c H ll cells slots Q (F0 m (pc + 3) ls rest)) : W p l e R s m args below meth c H ll cells slots Q (F0 m pc ls rest) :=
  lv_iinc hx hb hdg h hk (show nI x + Int32.ofInt (z : Int) = nI (x + z) by rw [← nI_add]; congr 1) hn hl kk
-- branches of naturals: c ? z
theorem nb_eq (hx : p.tables.exec = Jvm.exec) (hb : c.code = cc) (x z : Nat) (h1 : x < 2 ^ 31) (h2 : z < 2 ^ 31) {off : Int} {tgt : Nat} (hdg : decode cc pc = .ok (.if_icmp .eq off, 3)) (ht : (pc : Int) + off = (tgt : Int)) (kt : x = z → W p l e R s m args below meth c H ll cells slots Q (F0 m tgt ls rest)) (kf : ¬ x = z → W p l e R s m args below meth c H ll cells slots Q (F0 m (pc + 3) ls rest)) : W p l e R s m args below meth c H ll cells slots Q (F0 m pc ls (.int (nI z) :: .int (nI x) :: rest)) :=
  lv_icmp_eq hx hb hdg ht (fun q => kt ((nI_eq h1 h2).mp q)) (fun q => kf (fun w => q ((nI_eq h1 h2).mpr w)))
theorem nb_ne (hx : p.tables.exec = Jvm.exec) (hb : c.code = cc) (x z : Nat) (h1 : x < 2 ^ 31) (h2 : z < 2 ^ 31) {off : Int} {tgt : Nat} (hdg : decode cc pc = .ok (.if_icmp .ne off, 3)) (ht : (pc : Int) + off = (tgt : Int)) (kt : ¬ x = z → W p l e R s m args below meth c H ll cells slots Q (F0 m tgt ls rest)) (kf : x = z → W p l e R s m args below meth c H ll cells slots Q (F0 m (pc + 3) ls rest)) : W p l e R s m args below meth c H ll cells slots Q (F0 m pc ls (.int (nI z) :: .int (nI x) :: rest)) :=
  lv_icmp_ne hx hb hdg ht (fun q => kt (fun w => q ((nI_eq h1 h2).mpr w))) (fun q => kf ((nI_eq h1 h2).mp q))
theorem nb_lt (hx : p.tables.exec = Jvm.exec) (hb : c.code = cc) (x z : Nat) (h1 : x < 2 ^ 31) (h2 : z < 2 ^ 31) {off : Int} {tgt : Nat} (hdg : decode cc pc = .ok (.if_icmp .lt off, 3)) (ht : (pc : Int) + off = (tgt : Int)) (kt : x < z → W p l e R s m args below meth c H ll cells slots Q (F0 m tgt ls rest)) (kf : z ≤ x → W p l e R s m args below meth c H ll cells slots Q (F0 m (pc + 3) ls rest)) : W p l e R s m args below meth c H ll cells slots Q (F0 m pc ls (.int (nI z) :: .int (nI x) :: rest)) :=
  lv_icmp_lt hx hb hdg ht (fun q => kt ((nI_ltI h1 h2).mp q)) (fun q => kf (Nat.le_of_not_lt (fun w => q ((nI_ltI h1 h2).mpr w))))
theorem nb_ge (hx : p.tables.exec = Jvm.exec) (hb : c.code = cc) (x z : Nat) (h1 : x < 2 ^ 31) (h2 : z < 2 ^ 31) {off : Int} {tgt : Nat} (hdg : decode cc pc = .ok (.if_icmp .ge off, 3)) (ht : (pc : Int) + off = (tgt : Int)) (kt : z ≤ x → W p l e R s m args below meth c H ll cells slots Q (F0 m tgt ls rest)) (kf : x < z → W p l e R s m args below meth c H ll cells slots Q (F0 m (pc + 3) ls rest)) : W p l e R s m args below meth c H ll cells slots Q (F0 m pc ls (.int (nI z) :: .int (nI x) :: rest)) :=
  lv_icmp_ge hx hb hdg ht (fun q => kt ((nI_leI h2 h1).mp q)) (fun q => kf (Nat.lt_of_not_le (fun w => q ((nI_leI h2 h1).mpr w))))
theorem nb_gt (hx : p.tables.exec = Jvm.exec) (hb : c.code = cc) (x z : Nat) (h1 : x < 2 ^ 31) (h2 : z < 2 ^ 31) {off : Int} {tgt : Nat} (hdg : decode cc pc = .ok (.if_icmp .gt off, 3)) (ht : (pc : Int) + off = (tgt : Int)) (kt : z < x → W p l e R s m args below meth c H ll cells slots Q (F0 m tgt ls rest)) (kf : x ≤ z → W p l e R s m args below meth c H ll cells slots Q (F0 m (pc + 3) ls rest)) : W p l e R s m args below meth c H ll cells slots Q (F0 m pc ls (.int (nI z) :: .int (nI x) :: rest)) :=
  lv_icmp_gt hx hb hdg ht (fun q => kt ((nI_ltI h2 h1).mp q)) (fun q => kf (Nat.le_of_not_lt (fun w => q ((nI_ltI h2 h1).mpr w))))
theorem nb_le (hx : p.tables.exec = Jvm.exec) (hb : c.code = cc) (x z : Nat) (h1 : x < 2 ^ 31) (h2 : z < 2 ^ 31) {off : Int} {tgt : Nat} (hdg : decode cc pc = .ok (.if_icmp .le off, 3)) (ht : (pc : Int) + off = (tgt : Int)) (kt : x ≤ z → W p l e R s m args below meth c H ll cells slots Q (F0 m tgt ls rest)) (kf : z < x → W p l e R s m args below meth c H ll cells slots Q (F0 m (pc + 3) ls rest)) : W p l e R s m args below meth c H ll cells slots Q (F0 m pc ls (.int (nI z) :: .int (nI x) :: rest)) :=
  lv_icmp_le hx hb hdg ht (fun q => kt ((nI_leI h1 h2).mp q)) (fun q => kf (Nat.lt_of_not_le (fun w => q ((nI_leI h1 h2).mpr w))))
-- branches of a natural against 0
theorem nz_eq (hx : p.tables.exec = Jvm.exec) (hb : c.code = cc) (x : Nat) (h1 : x < 2 ^ 31) {off : Int} {tgt : Nat} (hdg : decode cc pc = .ok (.ifCond .eq off, 3)) (ht : (pc : Int) + off = (tgt : Int)) (kt : x = 0 → W p l e R s m args below meth c H ll cells slots Q (F0 m tgt ls rest)) (kf : ¬ x = 0 → W p l e R s m args below meth c H ll cells slots Q (F0 m (pc + 3) ls rest)) : W p l e R s m args below meth c H ll cells slots Q (F0 m pc ls (.int (nI x) :: rest)) :=
  lv_if_eq hx hb hdg ht (fun q => kt ((nI_eq h1 (by decide : 0 < 2 ^ 31)).mp q)) (fun q => kf (fun w => q (by rw [w]; rfl)))
theorem nz_ne (hx : p.tables.exec = Jvm.exec) (hb : c.code = cc) (x : Nat) (h1 : x < 2 ^ 31) {off : Int} {tgt : Nat} (hdg : decode cc pc = .ok (.ifCond .ne off, 3)) (ht : (pc : Int) + off = (tgt : Int)) (kt : ¬ x = 0 → W p l e R s m args below meth c H ll cells slots Q (F0 m tgt ls rest)) (kf : x = 0 → W p l e R s m args below meth c H ll cells slots Q (F0 m (pc + 3) ls rest)) : W p l e R s m args below meth c H ll cells slots Q (F0 m pc ls (.int (nI x) :: rest)) :=
  lv_if_ne hx hb hdg ht (fun q => kt (fun w => q (by rw [w]; rfl))) (fun q => kf ((nI_eq h1 (by decide : 0 < 2 ^ 31)).mp q))
theorem nz_le (hx : p.tables.exec = Jvm.exec) (hb : c.code = cc) (x : Nat) (h1 : x < 2 ^ 31) {off : Int} {tgt : Nat} (hdg : decode cc pc = .ok (.ifCond .le off, 3)) (ht : (pc : Int) + off = (tgt : Int)) (kt : x = 0 → W p l e R s m args below meth c H ll cells slots Q (F0 m tgt ls rest)) (kf : 0 < x → W p l e R s m args below meth c H ll cells slots Q (F0 m (pc + 3) ls rest)) : W p l e R s m args below meth c H ll cells slots Q (F0 m pc ls (.int (nI x) :: rest)) :=
  lv_if_le hx hb hdg ht (fun q => kt (Nat.le_zero.mp ((nI_leI h1 (by decide : 0 < 2 ^ 31)).mp q))) (fun q => kf (Nat.pos_of_ne_zero (fun w => q (by rw [w]; exact Int32.le_refl 0))))
theorem bz_eq (hx : p.tables.exec = Jvm.exec) (hb : c.code = cc) (P : Prop) [Decidable P] {off : Int} {tgt : Nat} (hdg : decode cc pc = .ok (.ifCond .eq off, 3)) (ht : (pc : Int) + off = (tgt : Int)) (kt : ¬ P → W p l e R s m args below meth c H ll cells slots Q (F0 m tgt ls rest)) (kf : P → W p l e R s m args below meth c H ll cells slots Q (F0 m (pc + 3) ls rest)) : W p l e R s m args below meth c H ll cells slots Q (F0 m pc ls (.int (if P then 1 else 0) :: rest)) :=
  lv_if_eq hx hb hdg ht (fun q => kt (fun w => by rw [if_pos w] at q; exact absurd q (by decide))) (fun q => kf (Decidable.byContradiction (fun w => q (if_neg w))))
theorem bz_ne (hx : p.tables.exec = Jvm.exec) (hb : c.code = cc) (P : Prop) [Decidable P] {off : Int} {tgt : Nat} (hdg : decode cc pc = .ok (.ifCond .ne off, 3)) (ht : (pc : Int) + off = (tgt : Int)) (kt : P → W p l e R s m args below meth c H ll cells slots Q (F0 m tgt ls rest)) (kf : ¬ P → W p l e R s m args below meth c H ll cells slots Q (F0 m (pc + 3) ls rest)) : W p l e R s m args below meth c H ll cells slots Q (F0 m pc ls (.int (if P then 1 else 0) :: rest)) :=
  lv_if_ne hx hb hdg ht (fun q => kt (Decidable.byContradiction (fun w => q (if_neg w)))) (fun q => kf (fun w => by rw [if_pos w] at q; exact absurd q (by decide)))
-- a call over the very same world
theorem gcallVi {S : Type} {X : gX} {y : MethodName} {bytes : ByteArray} {maxL n idx : Nat} {ret : Option FieldType} {rm : Room} {b : Nat} {As : List Value} {wo : S → va_W} {post : Int32 → S → Prop} {Cn : String} (C : CallFix p m c cc nL s args (gWs y0 cc nL ret0) own) (h : gW D ct A s H ll ws) (hX : X A s) (hXo : gXok X) (hM : MI l y (gWs y bytes maxL ret) rm D ct X (.ref b :: As) ws wo post) (cw : CallW R s args own Cn idx y bytes maxL ret (gWs y bytes maxL ret) rm 0 0 n) (q0 : Nat) {ci : Nat} {fs : List Value} {q : vw_C} (he : ws[q0]? = some (b, .inr (ci, fs))) (hc : vwCl[ci]? = some q) (hq : q.1 = Cn) (hn : As.length = n) (hsz : ls.size = nL) {st : List Value} (hst : st = As.reverse ++ .ref b :: rest) (hw : (rest.map fun v => v.category).sum ≤ 8) (hdg : decode cc pc = .ok (.invokevirtual idx, 3)) (hcs : cells ≤ R.cells ∧ slots ≤ R.slots)
    (kk : ∀ (r : Int32) (u : S) (H : Heap) (ll : List Loc), post r u → gW D ct A s H ll (wo u) → W p l e R s m args below meth c H ll cells slots Q (F0 m (pc + 3) ls (.int r :: rest))) : W p l e R s m args below meth c H ll cells slots Q (F0 m pc ls st) :=
  va_calli (va_runV C (hM H.size) cw ⟨gBlind hXo, hq ▸ va_recv h.1 h.2.1 hc he, fun U hU hW => ⟨rfl, by rw [hU], by rw [hU]; exact h.2.1, va_K.moved hW.alike h.1, h.2.2.1.weaken (fun _ _ _ _ => trivial), hXo.2 A _ s U hX hW (fun q h1 h2 => by rw [hU]; exact h.2.2.2.1.2.1 q h1 h2) h.inA⟩⟩ rfl hn hsz hst (lv_room hw) hdg hcs) h.2.2.2.1 (fun q _ hq => h.inA q hq) h.inA (fun r u t H1 l1 ht hvm hw1 hB hz1 hk1 hS => kk r u H1 l1 hw1 (h.aft (by have := hB.1; rw [ht] at this; exact this) hB.2.2 hS))
theorem gcallVl {S : Type} {X : gX} {y : MethodName} {bytes : ByteArray} {maxL n idx : Nat} {ret : Option FieldType} {rm : Room} {b : Nat} {As : List Value} {wo : S → va_W} {post : Int64 → S → Prop} {Cn : String} (C : CallFix p m c cc nL s args (gWs y0 cc nL ret0) own) (h : gW D ct A s H ll ws) (hX : X A s) (hXo : gXok X) (hM : ML l y (gWs y bytes maxL ret) rm D ct X (.ref b :: As) ws wo post) (cw : CallW R s args own Cn idx y bytes maxL ret (gWs y bytes maxL ret) rm 0 0 n) (q0 : Nat) {ci : Nat} {fs : List Value} {q : vw_C} (he : ws[q0]? = some (b, .inr (ci, fs))) (hc : vwCl[ci]? = some q) (hq : q.1 = Cn) (hn : As.length = n) (hsz : ls.size = nL) {st : List Value} (hst : st = As.reverse ++ .ref b :: rest) (hw : (rest.map fun v => v.category).sum ≤ 8) (hdg : decode cc pc = .ok (.invokevirtual idx, 3)) (hcs : cells ≤ R.cells ∧ slots ≤ R.slots)
    (kk : ∀ (r : Int64) (u : S) (H : Heap) (ll : List Loc), post r u → gW D ct A s H ll (wo u) → W p l e R s m args below meth c H ll cells slots Q (F0 m (pc + 3) ls (.long r :: rest))) : W p l e R s m args below meth c H ll cells slots Q (F0 m pc ls st) :=
  va_calll (va_runV C (hM H.size) cw ⟨gBlind hXo, hq ▸ va_recv h.1 h.2.1 hc he, fun U hU hW => ⟨rfl, by rw [hU], by rw [hU]; exact h.2.1, va_K.moved hW.alike h.1, h.2.2.1.weaken (fun _ _ _ _ => trivial), hXo.2 A _ s U hX hW (fun q h1 h2 => by rw [hU]; exact h.2.2.2.1.2.1 q h1 h2) h.inA⟩⟩ rfl hn hsz hst (lv_room hw) hdg hcs) h.2.2.2.1 (fun q _ hq => h.inA q hq) h.inA (fun r u t H1 l1 ht hvm hw1 hB hz1 hk1 hS => kk r u H1 l1 hw1 (h.aft (by have := hB.1; rw [ht] at this; exact this) hB.2.2 hS))
theorem gcallVv {S : Type} {X : gX} {y : MethodName} {bytes : ByteArray} {maxL n idx : Nat} {ret : Option FieldType} {rm : Room} {b : Nat} {As : List Value} {wo : S → va_W} {post : S → Prop} {Cn : String} (C : CallFix p m c cc nL s args (gWs y0 cc nL ret0) own) (h : gW D ct A s H ll ws) (hX : X A s) (hXo : gXok X) (hM : MV l y (gWs y bytes maxL ret) rm D ct X (.ref b :: As) ws wo post) (cw : CallW R s args own Cn idx y bytes maxL ret (gWs y bytes maxL ret) rm 0 0 n) (q0 : Nat) {ci : Nat} {fs : List Value} {q : vw_C} (he : ws[q0]? = some (b, .inr (ci, fs))) (hc : vwCl[ci]? = some q) (hq : q.1 = Cn) (hn : As.length = n) (hsz : ls.size = nL) {st : List Value} (hst : st = As.reverse ++ .ref b :: rest) (hw : (rest.map fun v => v.category).sum ≤ 8) (hdg : decode cc pc = .ok (.invokevirtual idx, 3)) (hcs : cells ≤ R.cells ∧ slots ≤ R.slots)
    (kk : ∀ (u : S) (H : Heap) (ll : List Loc), post u → gW D ct A s H ll (wo u) → W p l e R s m args below meth c H ll cells slots Q (F0 m (pc + 3) ls rest)) : W p l e R s m args below meth c H ll cells slots Q (F0 m pc ls st) :=
  va_callv (va_runV C (hM H.size) cw ⟨gBlind hXo, hq ▸ va_recv h.1 h.2.1 hc he, fun U hU hW => ⟨rfl, by rw [hU], by rw [hU]; exact h.2.1, va_K.moved hW.alike h.1, h.2.2.1.weaken (fun _ _ _ _ => trivial), hXo.2 A _ s U hX hW (fun q h1 h2 => by rw [hU]; exact h.2.2.2.1.2.1 q h1 h2) h.inA⟩⟩ rfl hn hsz hst (lv_room hw) hdg hcs) h.2.2.2.1 (fun q _ hq => h.inA q hq) h.inA (fun u t H1 l1 ht hvm hw1 hB hz1 hk1 hS => kk u H1 l1 hw1 (h.aft (by have := hB.1; rw [ht] at this; exact this) hB.2.2 hS))
/-- a static call of a method that needs no world -/
theorem gcallSi {y : MethodName} {bytes : ByteArray} {maxL n idx : Nat} {ret : Option FieldType} {rm : Room} {As : List Value} {f : Int32} (C : CallFix p m c cc nL s args (gWs y0 cc nL ret0) own) (h : gW D ct A s H ll ws) (hM : MI l y (gWs y bytes maxL ret) rm D ct gNo As [] (fun _ : Unit => []) (fun r _ => r = f)) (cw : CallB R s args own idx y bytes maxL ret (gWs y bytes maxL ret) rm 0 0 n ∧ (Cond.static y).before args s = true) (hn : As.length = n) (hsz : ls.size = nL) {st : List Value} (hst : st = As.reverse ++ rest) (hw : (rest.map fun v => v.category).sum ≤ 8) (hdg : decode cc pc = .ok (.invokestatic idx, 3)) (hcs : cells ≤ R.cells ∧ slots ≤ R.slots)
    (kk : ∀ (H : Heap) (ll : List Loc), gW D ct A s H ll ws → W p l e R s m args below meth c H ll cells slots Q (F0 m (pc + 3) ls (.int f :: rest))) : W p l e R s m args below meth c H ll cells slots Q (F0 m pc ls st) := by
  have hF : ∀ q : Nat, va_A ([] : va_W) H.size q → A q := by
    rintro q (⟨k, e, hk⟩ | hq)
    · simp at hk
    · exact h.2.2.2.2 q (Nat.le_trans h.2.2.2.1.1 hq)
  refine va_calli (va_runS C (hM H.size) cw ⟨gBlind gNo_ok, fun U hU hW => ⟨rfl, by rw [hU], fun k q hk => by simp at hk, va_K.moved hW.alike h.1, ⟨fun i j p q hi => by simp at hi, fun k q hk => by simp at hk⟩, trivial⟩⟩ rfl hn hsz hst (lv_room hw) hdg hcs) h.2.2.2.1 (fun q _ hq => hF q hq) hF (fun r u t H1 l1 ht hvm hw1 hB hz1 hk1 hS => ?_)
  rw [hw1]
  exact kk H1 l1 ⟨h.1, h.2.1.kept (fun k q hk => hk1 q.1 ((h.2.1 k q hk).lt) (by
    rintro (⟨k, e, hk⟩ | hq)
    · simp at hk
    · exact absurd ((h.2.1 k q hk).lt) (Nat.not_lt.mpr hq))), h.2.2.1, hS, h.2.2.2.2⟩
end GRows
theorem MI.ofI {l : Launch} {y : MethodName} {cc : ByteArray} {nL : Nat} {rm : Room} {D : va_G} {ct : Nat → ClassId} {X : gX} {av : List Value} {wi : va_W} {S : Type} {wo : S → va_W} {post : Int32 → S → Prop} (own : String) (ho : y.cls = own) (hy : plainName y.cls = true) (hlen : (lg_sl av).length ≤ nL)
    (body : ∀ (p : Program) (e : Env) (s : State) (m : MethodId) (args : Array Value) (below : List Frame) (meth : Method) (c : Code) (A : Nat → Prop) (ls : Array Slot) (Q : State → Prop), CallFix p m c cc nL s args (gWs y cc nL (some .int)) own → gW D ct A s s.heap [] wi → X A s → lv_has ls nL (lv_args 0 av) →
      (∀ (v : Int32) (u : S) (H : Heap) (ll : List Loc) (pc : Nat) (ls : Array Slot), gW D ct A s H ll (wo u) → post v u → decode cc pc = .ok (.ireturn, 1) → W p l e rm s m args below meth c H ll 0 0 Q (F0 m pc ls [.int v])) → W p l e rm s m args below meth c s.heap [] 0 0 Q (F0 m 0 ls [])) : MI l y (gWs y cc nL (some .int)) rm D ct X av wi wo post := by
  intro sz
  refine Met.ofW (cc := cc) (maxL := nL) (ret := (some .int)) hy rfl ?_
  intro p e s m args below meth c s₁ B hml hv
  obtain ⟨rfl, hsz, hP, hK, hD0, hX⟩ := hv
  subst hsz
  have hts := atoms_spec (ws := gWs y cc nL (some .int)) B.pre
  have hown : s.vm.findClass own = some m.cls := ho ▸ findClass_of_methodNamed B.named
  have hl := lv_entry av (n := nL) hlen
  rw [lg_entry_eq]
  generalize (lg_sl av ++ List.replicate (nL - (lg_sl av).length) Slot.unset).toArray = ls at hl ⊢
  exact body p e s m av.toArray below meth c (va_A wi s.heap.size) ls _ ⟨B.exec, B.bytes, hml, hown, hts⟩ ⟨hK, hP, hD0.self, va_S.rf, fun q h => Or.inr h⟩ hX hl (fun v u H ll pc ls h hp hd => gW.iret u h hp B.exec B.bytes B.returns B.notSynchronized hd)
theorem MI.ofZ {l : Launch} {y : MethodName} {cc : ByteArray} {nL : Nat} {rm : Room} {D : va_G} {ct : Nat → ClassId} {X : gX} {av : List Value} {wi : va_W} {S : Type} {wo : S → va_W} {post : Int32 → S → Prop} (own : String) (ho : y.cls = own) (hy : plainName y.cls = true) (hlen : (lg_sl av).length ≤ nL)
    (body : ∀ (p : Program) (e : Env) (s : State) (m : MethodId) (args : Array Value) (below : List Frame) (meth : Method) (c : Code) (A : Nat → Prop) (ls : Array Slot) (Q : State → Prop), CallFix p m c cc nL s args (gWs y cc nL (some .boolean)) own → gW D ct A s s.heap [] wi → X A s → lv_has ls nL (lv_args 0 av) →
      (∀ (v : Int32) (u : S) (H : Heap) (ll : List Loc) (pc : Nat) (ls : Array Slot), gW D ct A s H ll (wo u) → post v u → decode cc pc = .ok (.ireturn, 1) → narrow .boolean (.int v) = .int v → W p l e rm s m args below meth c H ll 0 0 Q (F0 m pc ls [.int v])) → W p l e rm s m args below meth c s.heap [] 0 0 Q (F0 m 0 ls [])) : MI l y (gWs y cc nL (some .boolean)) rm D ct X av wi wo post := by
  intro sz
  refine Met.ofW (cc := cc) (maxL := nL) (ret := (some .boolean)) hy rfl ?_
  intro p e s m args below meth c s₁ B hml hv
  obtain ⟨rfl, hsz, hP, hK, hD0, hX⟩ := hv
  subst hsz
  have hts := atoms_spec (ws := gWs y cc nL (some .boolean)) B.pre
  have hown : s.vm.findClass own = some m.cls := ho ▸ findClass_of_methodNamed B.named
  have hl := lv_entry av (n := nL) hlen
  rw [lg_entry_eq]
  generalize (lg_sl av ++ List.replicate (nL - (lg_sl av).length) Slot.unset).toArray = ls at hl ⊢
  exact body p e s m av.toArray below meth c (va_A wi s.heap.size) ls _ ⟨B.exec, B.bytes, hml, hown, hts⟩ ⟨hK, hP, hD0.self, va_S.rf, fun q h => Or.inr h⟩ hX hl (fun v u H ll pc ls h hp hd hn => gW.zret u h hp B.exec B.bytes B.returns B.notSynchronized hd hn)
theorem ML.of {l : Launch} {y : MethodName} {cc : ByteArray} {nL : Nat} {rm : Room} {D : va_G} {ct : Nat → ClassId} {X : gX} {av : List Value} {wi : va_W} {S : Type} {wo : S → va_W} {post : Int64 → S → Prop} (own : String) (ho : y.cls = own) (hy : plainName y.cls = true) (hlen : (lg_sl av).length ≤ nL)
    (body : ∀ (p : Program) (e : Env) (s : State) (m : MethodId) (args : Array Value) (below : List Frame) (meth : Method) (c : Code) (A : Nat → Prop) (ls : Array Slot) (Q : State → Prop), CallFix p m c cc nL s args (gWs y cc nL (some .long)) own → gW D ct A s s.heap [] wi → X A s → lv_has ls nL (lv_args 0 av) →
      (∀ (v : Int64) (u : S) (H : Heap) (ll : List Loc) (pc : Nat) (ls : Array Slot), gW D ct A s H ll (wo u) → post v u → decode cc pc = .ok (.lreturn, 1) → W p l e rm s m args below meth c H ll 0 0 Q (F0 m pc ls [.long v])) → W p l e rm s m args below meth c s.heap [] 0 0 Q (F0 m 0 ls [])) : ML l y (gWs y cc nL (some .long)) rm D ct X av wi wo post := by
  intro sz
  refine Met.ofW (cc := cc) (maxL := nL) (ret := (some .long)) hy rfl ?_
  intro p e s m args below meth c s₁ B hml hv
  obtain ⟨rfl, hsz, hP, hK, hD0, hX⟩ := hv
  subst hsz
  have hts := atoms_spec (ws := gWs y cc nL (some .long)) B.pre
  have hown : s.vm.findClass own = some m.cls := ho ▸ findClass_of_methodNamed B.named
  have hl := lv_entry av (n := nL) hlen
  rw [lg_entry_eq]
  generalize (lg_sl av ++ List.replicate (nL - (lg_sl av).length) Slot.unset).toArray = ls at hl ⊢
  exact body p e s m av.toArray below meth c (va_A wi s.heap.size) ls _ ⟨B.exec, B.bytes, hml, hown, hts⟩ ⟨hK, hP, hD0.self, va_S.rf, fun q h => Or.inr h⟩ hX hl (fun v u H ll pc ls h hp hd => gW.lret u h hp B.exec B.bytes B.returns B.notSynchronized hd)
theorem MV.of {l : Launch} {y : MethodName} {cc : ByteArray} {nL : Nat} {rm : Room} {D : va_G} {ct : Nat → ClassId} {X : gX} {av : List Value} {wi : va_W} {S : Type} {wo : S → va_W} {post : S → Prop} (own : String) (ho : y.cls = own) (hy : plainName y.cls = true) (hlen : (lg_sl av).length ≤ nL)
    (body : ∀ (p : Program) (e : Env) (s : State) (m : MethodId) (args : Array Value) (below : List Frame) (meth : Method) (c : Code) (A : Nat → Prop) (ls : Array Slot) (Q : State → Prop), CallFix p m c cc nL s args (gWs y cc nL none) own → gW D ct A s s.heap [] wi → X A s → lv_has ls nL (lv_args 0 av) →
      (∀ (u : S) (H : Heap) (ll : List Loc) (pc : Nat) (ls : Array Slot), gW D ct A s H ll (wo u) → post u → decode cc pc = .ok (.return_, 1) → W p l e rm s m args below meth c H ll 0 0 Q (F0 m pc ls [])) → W p l e rm s m args below meth c s.heap [] 0 0 Q (F0 m 0 ls [])) : MV l y (gWs y cc nL none) rm D ct X av wi wo post := by
  intro sz
  refine Met.ofW (cc := cc) (maxL := nL) (ret := none) hy rfl ?_
  intro p e s m args below meth c s₁ B hml hv
  obtain ⟨rfl, hsz, hP, hK, hD0, hX⟩ := hv
  subst hsz
  have hts := atoms_spec (ws := gWs y cc nL none) B.pre
  have hown : s.vm.findClass own = some m.cls := ho ▸ findClass_of_methodNamed B.named
  have hl := lv_entry av (n := nL) hlen
  rw [lg_entry_eq]
  generalize (lg_sl av ++ List.replicate (nL - (lg_sl av).length) Slot.unset).toArray = ls at hl ⊢
  exact body p e s m av.toArray below meth c (va_A wi s.heap.size) ls _ ⟨B.exec, B.bytes, hml, hown, hts⟩ ⟨hK, hP, hD0.self, va_S.rf, fun q h => Or.inr h⟩ hX hl (fun u H ll pc ls h hp hd => gW.vret u h hp B.exec B.bytes B.returns B.notSynchronized hd)
theorem gIn {big : List Cond} {y0 : MethodName} {cc : ByteArray} {n : Nat} {ret : Option FieldType} (h : ∀ w ∈ big, w ∈ gG) : GoodIn (gWs y0 cc n ret) big := fun w hw => ⟨gWs_in (h w hw), good_of_word (List.mem_filter.mp (h w hw)).2⟩
theorem gInV {own Cn : String} {idx maxL : Nat} {y : MethodName} {bytes : ByteArray} {ret : Option FieldType} (h1 : Cond.methodLink own idx y ∈ gG) (h2 : Cond.instanceMethod y ∈ gG) (h3 : Cond.selects Cn y y ∈ gG) (h4 : Cond.initialized Cn ∈ gG) (h5 : Cond.code y bytes maxL ret ∈ gG) {y0 : MethodName} {cc : ByteArray} {n : Nat} {ret0 : Option FieldType} : GoodIn (gWs y0 cc n ret0) (wsV own idx Cn y (gWs y bytes maxL ret)) := gIn (fun w hw => by
  simp only [wsV, gWs, List.mem_append, List.mem_cons, List.not_mem_nil, or_false] at hw
  rcases hw with (rfl | rfl | rfl | rfl) | rfl | hw <;> assumption)
theorem gInS {own : String} {idx maxL : Nat} {y : MethodName} {bytes : ByteArray} {ret : Option FieldType} (h1 : Cond.methodLink own idx y ∈ gG) (h2 : Cond.static y ∈ gG) (h4 : Cond.initialized y.cls ∈ gG) (h5 : Cond.code y bytes maxL ret ∈ gG) {y0 : MethodName} {cc : ByteArray} {n : Nat} {ret0 : Option FieldType} : GoodIn (gWs y0 cc n ret0) (va_wsS own idx y (gWs y bytes maxL ret)) := gIn (fun w hw => by
  simp only [va_wsS, gWs, List.mem_append, List.mem_cons, List.not_mem_nil, or_false] at hw
  rcases hw with (rfl | rfl | rfl) | rfl | hw <;> assumption)
