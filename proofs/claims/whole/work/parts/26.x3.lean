theorem wSS_rowA (a b : Nat → Nat) (ct : Nat → ClassId) (S L B M : Nat → Nat → Int32) {q : Nat} (hq : q < 3) : (wSS a b ct S L B M)[3 + q]? = some (a (3 + q), .inl (ct 0, 8, .inl (L q))) := by rcases (show q = 0 ∨ q = 1 ∨ q = 2 by omega) with rfl | rfl | rfl <;> rfl
theorem wSS_rowB (a b : Nat → Nat) (ct : Nat → ClassId) (S L B M : Nat → Nat → Int32) {q : Nat} (hq : q < 3) : (wSS a b ct S L B M)[15 + q]? = some (b (3 + q), .inl (ct 0, 8, .inl (M q))) := by rcases (show q = 0 ∨ q = 1 ∨ q = 2 by omega) with rfl | rfl | rfl <;> rfl
theorem wSS_rset (a b : Nat → Nat) (ct : Nat → ClassId) (S L B M : Nat → Nat → Int32) {q : Nat} (hq : q < 3) (f : Nat → Int32) : (wSS a b ct S L B M).set (3 + q) (a (3 + q), .inl (ct 0, 8, .inl f)) = wSS a b ct S (va_up L q f) B M := by rcases (show q = 0 ∨ q = 1 ∨ q = 2 by omega) with rfl | rfl | rfl <;> rfl
section CpRows
variable {p : Program} {l : Launch} {e : Env} {R : Room} {s : State} {m : MethodId} {args : Array Value} {below : List Frame} {meth : Method} {c : Code} {H : Heap} {ll : List Loc} {cells slots : Nat} {Q : State → Prop}
variable {cc : ByteArray} {pc nL : Nat} {ls : Array Slot} {rest : List Value} {D : va_G} {ct : Nat → ClassId} {A : Nat → Prop} {a : Nat} {ws : va_W} {y0 : MethodName} {ret0 : Option FieldType} {own : String}
theorem gcopy (C : CallFix p m c cc nL s args (gWs y0 cc nL ret0) own) (h : gW D ct A s H ll ws) (q0 q1 : Nat) {N0 N1 a0 : Nat} {f g : Nat → Int32} (he0 : ws[q0]? = some (a0, .inl (ct 0, N0, .inl f))) (he1 : ws[q1]? = some (a, .inl (ct 0, N1, .inl g))) (k : Nat) (hk0 : k ≤ N0) (hk1 : k ≤ N1) (h31 : k < 2 ^ 31) (hsz : ls.size = nL) {index : Nat} (hlink : Cond.methodLink own index arraycopyName ∈ gG) (hnat : Cond.native arraycopyName ∈ gG) (hstat : Cond.static arraycopyName ∈ gG) (hini : Cond.initialized "java/lang/System" ∈ gG) (hfr : 1 ≤ R.frames) (hlo : (rest.map fun v => v.category).sum + (nativeFrameWords "java/lang/System" "arraycopy" 5 + 11) ≤ R.locals) (hdg : decode cc pc = .ok (.invokestatic index, 3))
    (kk : ∀ (H : Heap) (ll : List Loc), gW D ct A s H ll (ws.set q1 (a, .inl (ct 0, N1, .inl (va_cpy f g 0 0 k)))) → W p l e R s m args below meth c H ll cells slots Q (F0 m (pc + 3) ls rest)) : W p l e R s m args below meth c H ll cells slots Q (F0 m pc ls (.int (nI k) :: .int 0 :: .ref a :: .int 0 :: .ref a0 :: rest)) := by
  have hcl : (nI k).toNatClampNeg = k := nI_clamp h31
  have h0 : (0 : Int32).toNatClampNeg = 0 := rfl
  refine va_copyi C.1 C.2.1 (by rw [C.2.2.1, hsz]) C.2.2.2.1 (C.2.2.2.2 _ (gWs_in hlink)) (C.2.2.2.2 _ (gWs_in hnat)) (C.2.2.2.2 _ (gWs_in hstat)) (C.2.2.2.2 _ (gWs_in hini)) h.1 h.2.1 h.2.2.1 h.2.2.2.1 q0 q1 0 0 (ty := .int) he0 he1 rfl rfl rfl (by decide) (by decide) (nI_pos h31) (by rw [hcl, h0]; omega) (by rw [hcl, h0]; omega) (fun i _ => rfl) hfr hlo hdg (fun H ll hP hD hS => ?_)
  rw [hcl, h0] at hP hD
  exact kk H ll ⟨h.1, hP, hD, hS, h.2.2.2.2⟩
end CpRows
theorem gInN {y : MethodName} {bytes : ByteArray} {maxL : Nat} {ret : Option FieldType} (h5 : Cond.code y bytes maxL ret ∈ gG) {y0 : MethodName} {cc : ByteArray} {n : Nat} {ret0 : Option FieldType} : GoodIn (gWs y0 cc n ret0) (gWs y bytes maxL ret) := gIn (fun w hw => by
  simp only [gWs, List.mem_cons] at hw
  rcases hw with rfl | hw <;> assumption)
/-- how one leans behind a tide, as the class has it -/
def drX (k : Nat) (x a b : Int32) : Int32 := if ¬ a + x + b = 0 ∧ ¬ k = 2 then sgn (a + x + b) else x
def dfX (S L : Nat → Nat → Int32) (n : Nat) (kd : Nat → Nat) : Nat → Nat → Int32 := fun q m => if q < 3 ∧ m < n then drX (kd m) (L q m) (lnA (leX L) (cuX S) m q) (lnB n (leX L) (cuX S) m q) else L q m
theorem lnB_eq {S L M : Nat → Nat → Int32} {n m q : Nat} (h : M q (m + 1) = L q (m + 1)) : lnB n (leX M) (cuX S) m q = lnB n (leX L) (cuX S) m q := by unfold lnB leX; rw [h]
theorem drift_step {S L M : Nat → Nat → Int32} {n i j : Nat} {kd : Nat → Nat} {x : Int32} (hi : i < 3) (hj : j < n) (h : ∀ q m, M q m = if q < i ∨ (q = i ∧ m < j) then dfX S L n kd q m else L q m) (hx : x = dfX S L n kd i j) : ∀ q m, (va_up M i (upd (M i) j x)) q m = if q < i ∨ (q = i ∧ m < j + 1) then dfX S L n kd q m else L q m := by
  intro q m
  by_cases e : q = i
  · subst e
    rw [va_up_self]
    by_cases e2 : m = j
    · subst e2; rw [pk_us, if_pos (Or.inr ⟨rfl, by omega⟩)]; exact hx
    · rw [pk_un e2, h q m]
      by_cases q2 : m < j
      · rw [if_pos (Or.inr ⟨rfl, q2⟩), if_pos (Or.inr ⟨rfl, by omega⟩)]
      · rw [if_neg (fun h9 => h9.elim (by omega) (fun h9 => q2 h9.2)), if_neg (fun h9 => h9.elim (by omega) (fun h9 => by omega))]
  · rw [va_up_ne _ _ e, h q m]
    by_cases q2 : q < i
    · rw [if_pos (Or.inl q2), if_pos (Or.inl q2)]
    · rw [if_neg (fun h9 => h9.elim q2 (fun h9 => e h9.1)), if_neg (fun h9 => h9.elim q2 (fun h9 => e h9.1))]
theorem drift_same {S L M : Nat → Nat → Int32} {n i j : Nat} {kd : Nat → Nat} (h : ∀ q m, M q m = if q < i ∨ (q = i ∧ m < j) then dfX S L n kd q m else L q m) (hx : L i j = dfX S L n kd i j) : ∀ q m, M q m = if q < i ∨ (q = i ∧ m < j + 1) then dfX S L n kd q m else L q m := by
  intro q m
  rw [h q m]
  by_cases e : q = i ∧ m = j
  · obtain ⟨rfl, rfl⟩ := e
    rw [if_neg (fun h9 => h9.elim (by omega) (fun h9 => by omega)), if_pos (Or.inr ⟨rfl, by omega⟩)]; exact hx
  · by_cases q2 : q < i ∨ (q = i ∧ m < j)
    · rw [if_pos q2, if_pos (q2.elim Or.inl (fun h9 => Or.inr ⟨h9.1, by omega⟩))]
    · rw [if_neg q2, if_neg (fun h9 => h9.elim (fun h9 => q2 (Or.inl h9)) (fun h9 => by
        rcases (show m < j ∨ m = j by omega) with w | w
        · exact q2 (Or.inr ⟨h9.1, w⟩)
        · exact e ⟨h9.1, w⟩))]
theorem lnA_of {S L : Nat → Nat → Int32} {i j : Nat} {la x : Int32} (hla : la = if 0 < j then L i (j - 1) else 0) (h : (S 6 j = 0 ∧ x = la) ∨ (¬ S 6 j = 0 ∧ x = 0)) : x = lnA (leX L) (cuX S) j i := by
  unfold lnA
  rcases h with ⟨h1, h2⟩ | ⟨h1, h2⟩
  · rw [h2, hla]
    by_cases hj : 0 < j
    · rw [if_pos hj, if_pos ⟨hj, cuX_f h1⟩]; rfl
    · rw [if_neg hj, if_neg (fun h9 => hj h9.1)]
  · rw [h2, if_neg (fun h9 => by rw [cuX_t h1] at h9; exact absurd h9.2 (by decide))]
theorem upd2z {f : Nat → Int32} {i : Nat} (h : ∀ j, j < i → f j = (fun _ => (0 : Int32)) j) : ∀ j, j < i + 1 → upd f i 0 j = (fun _ => (0 : Int32)) j := updk (f := fun _ => 0) h rfl
theorem seeX_no {S : Nat → Nat → Int32} {m q : Nat} {x : Int32} {i sc : Nat} (hi : i < sc) (h : seeX S m q x (i + 1) = false) : ¬ seeX S m q x sc = true := by
  have key : ∀ d, seeX S m q x (i + 1 + d) = false := by
    intro d
    induction d with
    | zero => exact h
    | succ d ih => show (seeX S m q x (i + 1 + d) && _) = false; rw [ih]; rfl
  have := key (sc - (i + 1))
  rw [show i + 1 + (sc - (i + 1)) = sc by omega] at this
  rw [this]; decide
theorem drift_row {S L : Nat → Nat → Int32} {n i j q m : Nat} {kd : Nat → Nat} (hj : n ≤ j) : (if q < i ∨ (q = i ∧ m < j) then dfX S L n kd q m else L q m) = (if q < i + 1 then dfX S L n kd q m else L q m) := by
  by_cases h1 : q < i
  · rw [if_pos (Or.inl h1), if_pos (by omega)]
  · by_cases h2 : q = i
    · by_cases h3 : m < j
      · rw [if_pos (Or.inr ⟨h2, h3⟩), if_pos (by omega)]
      · rw [if_neg (fun h9 => h9.elim h1 (fun h9 => h3 h9.2)), if_pos (by omega)]
        unfold dfX; rw [if_neg (fun h9 => absurd h9.2 (by omega))]
    · rw [if_neg (fun h9 => h9.elim h1 (fun h9 => h2 h9.1)), if_neg (by omega)]
set_option maxHeartbeats 1000000 in
set_option maxRecDepth 100000 in
theorem kX6_turnRound (l : Launch) (D : va_G) (ct : Nat → ClassId) (a : Nat → Nat) (S L : Nat → Nat → Int32) (m q : Nat) (hm : m < 8) (hq : q < 3) : MV l yX6_turnRound (gWs yX6_turnRound cX6_turnRound 4 none) rmX6_turnRound D ct gNo [.ref (a 0), .int (nI m), .int (nI q)] (wS a ct S L) (fun u : (Nat → Nat → Int32) × (Nat → Nat → Int32) => wS a ct u.1 u.2) (fun u => u = (S, va_up L q (upd (L q) m (trnL (L q m))))) := by
  refine MV.of RX6 rfl (by decide) (Nat.le_of_ble_eq_true rfl) ?_
  intro zp ze zs zm za zb zt zc zA ls zQ C h hX hl hret
  have hx := C.1
  have hb := C.2.1
  have hl : lv_has ls 4 [(0, .ref (a 0)), (1, .int (nI m)), (2, .int (nI q))] := hl
  refine lv_aload_n hx hb dX6_turnRound_0 rfl (lv_at hl 0 rfl) ?_
  refine gget C h igX6 0 rfl rfl 1 (by decide) q163 rfl rfl dX6_turnRound_1 ?_
  refine lv_iload_n hx hb dX6_turnRound_4 rfl (lv_at hl 2 rfl) ?_
  refine gald C h 2 4 rfl rfl rfl (j := q) (b := a (3 + q)) (by omega) (by decide) (if_pos (by omega)) dX6_turnRound_5 ?_
  refine lv_iload_n hx hb dX6_turnRound_6 rfl (lv_at hl 1 rfl) ?_
  refine gild C h (3 + q) (wS_row a ct _ _ (by omega)) (j := m) (by omega) (by decide) dX6_turnRound_7 ?_
  refine gas (z := L q m) rfl ?_
  refine lv_istore_n (lv' := [(3, .int (L q m)), (0, .ref (a 0)), (1, .int (nI m)), (2, .int (nI q))]) hx hb dX6_turnRound_8 rfl hl (by decide) rfl (fun ls hl => ?_)
  refine lv_aload_n hx hb dX6_turnRound_9 rfl (lv_at hl 1 rfl) ?_
  refine gget C h igX6 0 rfl rfl 1 (by decide) q163 rfl rfl dX6_turnRound_10 ?_
  refine lv_iload_n hx hb dX6_turnRound_13 rfl (lv_at hl 3 rfl) ?_
  refine gald C h 2 4 rfl rfl rfl (j := q) (b := a (3 + q)) (by omega) (by decide) (if_pos (by omega)) dX6_turnRound_14 ?_
  refine lv_iload_n hx hb dX6_turnRound_15 rfl (lv_at hl 2 rfl) ?_
  refine lv_iload_n hx hb dX6_turnRound_16 rfl (lv_at hl 0 rfl) ?_
  refine lv_iconst (v := 1) hx hb dX6_turnRound_17 (by decide) ?_
  refine lv_icmp_ne (tgt := 25) hx hb dX6_turnRound_18 (by decide) (fun c_18 => ?_) (fun c_18 => ?_)
  · refine lv_iload_n hx hb dX6_turnRound_25 rfl (lv_at hl 0 rfl) ?_
    refine lv_iconst (v := 1) hx hb dX6_turnRound_26 (by decide) ?_
    refine lv_iadd hx hb dX6_turnRound_27 ?_
    refine gas (z := trnL (L q m)) (by unfold trnL; rw [if_neg c_18]) ?_
    refine gist C h (3 + q) (wS_row a ct _ _ (by omega)) (j := m) (by omega) (by decide) dX6_turnRound_28 (fun H ll h => ?_)
    have h := h.to (wS_rset a ct _ _ (by omega) _)
    have h : gW D ct zA zs _ _ (wS a ct S (va_up L q (upd (L q) m (trnL (L q m))))) := h
    have h : gW D ct zA zs _ _ ((fun u : (Nat → Nat → Int32) × (Nat → Nat → Int32) => wS a ct u.1 u.2) ((S, va_up L q (upd (L q) m (trnL (L q m)))))) := h
    exact hret ((S, va_up L q (upd (L q) m (trnL (L q m))))) _ _ _ _ h rfl dX6_turnRound_29
  · refine lv_iconst (v := -1) hx hb dX6_turnRound_21 (by decide) ?_
    refine lv_goto (tgt := 28) hx hb dX6_turnRound_22 (by decide) ?_
    refine gas (z := trnL (L q m)) (by unfold trnL; rw [if_pos c_18]) ?_
    refine gist C h (3 + q) (wS_row a ct _ _ (by omega)) (j := m) (by omega) (by decide) dX6_turnRound_28 (fun H ll h => ?_)
    have h := h.to (wS_rset a ct _ _ (by omega) _)
    have h : gW D ct zA zs _ _ (wS a ct S (va_up L q (upd (L q) m (trnL (L q m))))) := h
    have h : gW D ct zA zs _ _ ((fun u : (Nat → Nat → Int32) × (Nat → Nat → Int32) => wS a ct u.1 u.2) ((S, va_up L q (upd (L q) m (trnL (L q m)))))) := h
    exact hret ((S, va_up L q (upd (L q) m (trnL (L q m))))) _ _ _ _ h rfl dX6_turnRound_29
set_option maxHeartbeats 1000000 in
set_option maxRecDepth 100000 in
theorem kX6_addSeen (l : Launch) (D : va_G) (ct : Nat → ClassId) (a : Nat → Nat) (S L : Nat → Nat → Int32) (sc : Nat) (hsc : S 0 0 = nI sc) (hsc6 : sc < 6) (m q : Nat) (x : Int32) : MV l yX6_addSeen (gWs yX6_addSeen cX6_addSeen 4 none) rmX6_addSeen D ct gNo [.ref (a 0), .int (nI m), .int (nI q), .int x] (wS a ct S L) (fun u : (Nat → Nat → Int32) × (Nat → Nat → Int32) => wS a ct u.1 u.2) (fun u => u = (va_up (va_up (va_up (va_up S 9 (upd (S 9) sc (nI m))) 10 (upd (S 10) sc (nI q))) 11 (upd (S 11) sc x)) 0 (fun _ => nI (sc + 1)), L)) := by
  refine MV.of RX6 rfl (by decide) (Nat.le_of_ble_eq_true rfl) ?_
  intro zp ze zs zm za zb zt zc zA ls zQ C h hX hl hret
  have hx := C.1
  have hb := C.2.1
  have hl : lv_has ls 4 [(0, .ref (a 0)), (1, .int (nI m)), (2, .int (nI q)), (3, .int x)] := hl
  refine lv_aload_n hx hb dX6_addSeen_0 rfl (lv_at hl 0 rfl) ?_
  refine gget C h igX6 0 rfl rfl 8 (by decide) q176 rfl rfl dX6_addSeen_1 ?_
  refine gas hsc ?_
  refine lv_bipush (v := 6) hx hb dX6_addSeen_4 (by decide) ?_
  refine nb_lt hx hb sc 6 (by omega) (by omega) (tgt := 10) dX6_addSeen_6 (by decide) (fun c_6 => ?_) (fun c_6 => absurd c_6 (by omega))
  refine lv_aload_n hx hb dX6_addSeen_10 rfl (lv_at hl 0 rfl) ?_
  refine gget C h igX6 0 rfl rfl 5 (by decide) q173 rfl rfl dX6_addSeen_11 ?_
  refine lv_aload_n hx hb dX6_addSeen_14 rfl (lv_at hl 0 rfl) ?_
  refine gget C h igX6 0 rfl rfl 8 (by decide) q176 rfl rfl dX6_addSeen_15 ?_
  refine gas hsc ?_
  refine lv_iload_n hx hb dX6_addSeen_18 rfl (lv_at hl 1 rfl) ?_
  refine gist C h 9 rfl (j := sc) (by omega) (by decide) dX6_addSeen_19 (fun H ll h => ?_)
  have h : gW D ct zA zs _ _ (wS a ct (va_up S 9 (upd (S 9) sc (nI m))) L) := h
  refine lv_aload_n hx hb dX6_addSeen_20 rfl (lv_at hl 0 rfl) ?_
  refine gget C h igX6 0 rfl rfl 6 (by decide) q174 rfl rfl dX6_addSeen_21 ?_
  refine lv_aload_n hx hb dX6_addSeen_24 rfl (lv_at hl 0 rfl) ?_
  refine gget C h igX6 0 rfl rfl 8 (by decide) q176 rfl rfl dX6_addSeen_25 ?_
  refine gas hsc ?_
  refine lv_iload_n hx hb dX6_addSeen_28 rfl (lv_at hl 2 rfl) ?_
  refine gist C h 10 rfl (j := sc) (by omega) (by decide) dX6_addSeen_29 (fun H ll h => ?_)
  have h : gW D ct zA zs _ _ (wS a ct (va_up (va_up S 9 (upd (S 9) sc (nI m))) 10 (upd (S 10) sc (nI q))) L) := h
  refine lv_aload_n hx hb dX6_addSeen_30 rfl (lv_at hl 0 rfl) ?_
  refine gget C h igX6 0 rfl rfl 7 (by decide) q175 rfl rfl dX6_addSeen_31 ?_
  refine lv_aload_n hx hb dX6_addSeen_34 rfl (lv_at hl 0 rfl) ?_
  refine gget C h igX6 0 rfl rfl 8 (by decide) q176 rfl rfl dX6_addSeen_35 ?_
  refine gas hsc ?_
  refine lv_iload_n hx hb dX6_addSeen_38 rfl (lv_at hl 3 rfl) ?_
  refine gist C h 11 rfl (j := sc) (by omega) (by decide) dX6_addSeen_39 (fun H ll h => ?_)
  have h : gW D ct zA zs _ _ (wS a ct (va_up (va_up (va_up S 9 (upd (S 9) sc (nI m))) 10 (upd (S 10) sc (nI q))) 11 (upd (S 11) sc x)) L) := h
  refine lv_aload_n hx hb dX6_addSeen_40 rfl (lv_at hl 0 rfl) ?_
  refine lv_dup hx hb dX6_addSeen_41 rfl ?_
  refine gget C h igX6 0 rfl rfl 8 (by decide) q176 rfl rfl dX6_addSeen_42 ?_
  refine gas hsc ?_
  refine lv_iconst (v := 1) hx hb dX6_addSeen_45 (by decide) ?_
  refine nadd hx hb sc 1 dX6_addSeen_46 ?_
  refine gput C h igX6 tyX6 tyX6_ok nmX6 0 rfl rfl 8 (by decide) q176 rfl rfl (ty := .int) (by decide +kernel) rfl rfl (Nat.le_of_ble_eq_true rfl) dX6_addSeen_47 (fun H ll h => ?_)
  have h : gW D ct zA zs _ _ (wS a ct (va_up (va_up (va_up (va_up S 9 (upd (S 9) sc (nI m))) 10 (upd (S 10) sc (nI q))) 11 (upd (S 11) sc x)) 0 (fun _ => nI (sc + 1))) L) := h
  have h : gW D ct zA zs _ _ ((fun u : (Nat → Nat → Int32) × (Nat → Nat → Int32) => wS a ct u.1 u.2) ((va_up (va_up (va_up (va_up S 9 (upd (S 9) sc (nI m))) 10 (upd (S 10) sc (nI q))) 11 (upd (S 11) sc x)) 0 (fun _ => nI (sc + 1)), L))) := h
  exact hret ((va_up (va_up (va_up (va_up S 9 (upd (S 9) sc (nI m))) 10 (upd (S 10) sc (nI q))) 11 (upd (S 11) sc x)) 0 (fun _ => nI (sc + 1)), L)) _ _ _ _ h rfl dX6_addSeen_50
set_option maxHeartbeats 1000000 in
set_option maxRecDepth 100000 in
theorem kX6_seenAllows (l : Launch) (D : va_G) (ct : Nat → ClassId) (a : Nat → Nat) (S L : Nat → Nat → Int32) (sc : Nat) (hsc : S 0 0 = nI sc) (hsc6 : sc ≤ 6) (m q : Nat) (x : Int32) : MI l yX6_seenAllows (gWs yX6_seenAllows cX6_seenAllows 6 (some .boolean)) rmX6_seenAllows D ct gNo [.ref (a 0), .int (nI m), .int (nI q), .int x] (wS a ct S L) (fun _ : Unit => (wS a ct S L)) (fun r _ => r = (if seeX S m q x sc = true then 1 else 0)) := by
  refine MI.ofZ RX6 rfl (by decide) (Nat.le_of_ble_eq_true rfl) ?_
  intro zp ze zs zm za zb zt zc zA ls zQ C h hX hl hret
  have hx := C.1
  have hb := C.2.1
  have hl : lv_has ls 6 [(0, .ref (a 0)), (1, .int (nI m)), (2, .int (nI q)), (3, .int x)] := hl
  refine lv_iconst (v := 0) hx hb dX6_seenAllows_0 (by decide) ?_
  refine lv_istore (lv' := [(4, .int 0), (0, .ref (a 0)), (1, .int (nI m)), (2, .int (nI q)), (3, .int x)]) hx hb dX6_seenAllows_1 hl (by decide) rfl (fun ls hl => ?_)
  have L3_0 : ∀ (kk : Nat) (i : Nat) (H : Heap) (ll : List Loc) (ls : Array Slot), sc - i = kk → (i ≤ sc) → (seeX S m q x i = true) → gW D ct zA zs H ll (wS a ct S L) → lv_has ls 6 [(4, .int (nI i)), (0, .ref (a 0)), (1, .int (nI m)), (2, .int (nI q)), (3, .int x)] → W zp l ze rmX6_seenAllows zs zm za zb zt zc H ll 0 0 zQ (F0 zm 3 ls []) := by
    intro kk3
    induction kk3 using Nat.strongRecOn with
    | _ kk3 ih3 =>
    intro i H ll ls hk3 hi hs h hl
    refine lv_iload hx hb dX6_seenAllows_3 (lv_at hl 0 rfl) ?_
    refine lv_aload_n hx hb dX6_seenAllows_5 rfl (lv_at hl 1 rfl) ?_
    refine gget C h igX6 0 rfl rfl 8 (by decide) q176 rfl rfl dX6_seenAllows_6 ?_
    refine gas hsc ?_
    refine nb_ge hx hb i sc (by omega) (by omega) (tgt := 65) dX6_seenAllows_9 (by decide) (fun c_9 => ?_) (fun c_9 => ?_)
    · refine lv_iconst (v := 1) hx hb dX6_seenAllows_65 (by decide) ?_
      exact hret _ () _ _ _ _ h (by rw [show sc = i by omega, if_pos hs]) dX6_seenAllows_66 (by decide)
    · refine lv_aload_n hx hb dX6_seenAllows_12 rfl (lv_at hl 1 rfl) ?_
      refine gget C h igX6 0 rfl rfl 5 (by decide) q173 rfl rfl dX6_seenAllows_13 ?_
      refine lv_iload hx hb dX6_seenAllows_16 (lv_at hl 0 rfl) ?_
      refine gild C h 9 rfl (j := i) (by omega) (by decide) dX6_seenAllows_18 ?_
      refine gas (z := S 9 i) rfl ?_
      refine lv_iload_n hx hb dX6_seenAllows_19 rfl (lv_at hl 2 rfl) ?_
      refine lv_icmp_ne (tgt := 38) hx hb dX6_seenAllows_20 (by decide) (fun c_20 => ?_) (fun c_20 => ?_)
      · refine lv_iconst (v := 0) hx hb dX6_seenAllows_38 (by decide) ?_
        refine lv_istore (lv' := [(5, .int 0), (4, .int (nI i)), (0, .ref (a 0)), (1, .int (nI m)), (2, .int (nI q)), (3, .int x)]) hx hb dX6_seenAllows_39 hl (by decide) rfl (fun ls hl => ?_)
        refine lv_iload hx hb dX6_seenAllows_41 (lv_at hl 0 rfl) ?_
        refine lv_if_eq (tgt := 59) hx hb dX6_seenAllows_43 (by decide) (fun _ => ?_) (fun q => absurd (by decide) q)
        refine ninc (lv' := [(4, .int (nI (i + 1))), (5, .int 0), (0, .ref (a 0)), (1, .int (nI m)), (2, .int (nI q)), (3, .int x)]) hx hb i 1 dX6_seenAllows_59 hl (k := 1) rfl (by decide) rfl (fun ls hl => ?_)
        refine lv_goto (tgt := 3) hx hb dX6_seenAllows_62 (by decide) ?_
        exact ih3 _ (by omega) (i + 1) _ _ _ rfl (by omega) (by simp [seeX, hs, c_20]) h (lv_sub hl [0, 2, 3, 4, 5] rfl)
      · refine lv_aload_n hx hb dX6_seenAllows_23 rfl (lv_at hl 1 rfl) ?_
        refine gget C h igX6 0 rfl rfl 6 (by decide) q174 rfl rfl dX6_seenAllows_24 ?_
        refine lv_iload hx hb dX6_seenAllows_27 (lv_at hl 0 rfl) ?_
        refine gild C h 10 rfl (j := i) (by omega) (by decide) dX6_seenAllows_29 ?_
        refine gas (z := S 10 i) rfl ?_
        refine lv_iload_n hx hb dX6_seenAllows_30 rfl (lv_at hl 3 rfl) ?_
        refine lv_icmp_ne (tgt := 38) hx hb dX6_seenAllows_31 (by decide) (fun c_31 => ?_) (fun c_31 => ?_)
        · refine lv_iconst (v := 0) hx hb dX6_seenAllows_38 (by decide) ?_
          refine lv_istore (lv' := [(5, .int 0), (4, .int (nI i)), (0, .ref (a 0)), (1, .int (nI m)), (2, .int (nI q)), (3, .int x)]) hx hb dX6_seenAllows_39 hl (by decide) rfl (fun ls hl => ?_)
          refine lv_iload hx hb dX6_seenAllows_41 (lv_at hl 0 rfl) ?_
          refine lv_if_eq (tgt := 59) hx hb dX6_seenAllows_43 (by decide) (fun _ => ?_) (fun q => absurd (by decide) q)
          refine ninc (lv' := [(4, .int (nI (i + 1))), (5, .int 0), (0, .ref (a 0)), (1, .int (nI m)), (2, .int (nI q)), (3, .int x)]) hx hb i 1 dX6_seenAllows_59 hl (k := 1) rfl (by decide) rfl (fun ls hl => ?_)
          refine lv_goto (tgt := 3) hx hb dX6_seenAllows_62 (by decide) ?_
          exact ih3 _ (by omega) (i + 1) _ _ _ rfl (by omega) (by simp [seeX, hs, c_20, c_31]) h (lv_sub hl [0, 2, 3, 4, 5] rfl)
        · refine lv_iconst (v := 1) hx hb dX6_seenAllows_34 (by decide) ?_
          refine lv_goto (tgt := 39) hx hb dX6_seenAllows_35 (by decide) ?_
          refine lv_istore (lv' := [(5, .int 1), (4, .int (nI i)), (0, .ref (a 0)), (1, .int (nI m)), (2, .int (nI q)), (3, .int x)]) hx hb dX6_seenAllows_39 hl (by decide) rfl (fun ls hl => ?_)
          refine lv_iload hx hb dX6_seenAllows_41 (lv_at hl 0 rfl) ?_
          refine lv_if_eq (tgt := 59) hx hb dX6_seenAllows_43 (by decide) (fun q => absurd q (by decide)) (fun _ => ?_)
          refine lv_aload_n hx hb dX6_seenAllows_46 rfl (lv_at hl 2 rfl) ?_
          refine gget C h igX6 0 rfl rfl 7 (by decide) q175 rfl rfl dX6_seenAllows_47 ?_
          refine lv_iload hx hb dX6_seenAllows_50 (lv_at hl 1 rfl) ?_
          refine gild C h 11 rfl (j := i) (by omega) (by decide) dX6_seenAllows_52 ?_
          refine gas (z := S 11 i) rfl ?_
          refine lv_iload_n hx hb dX6_seenAllows_53 rfl (lv_at hl 5 rfl) ?_
          refine lv_icmp_eq (tgt := 59) hx hb dX6_seenAllows_54 (by decide) (fun c_54 => ?_) (fun c_54 => ?_)
          · refine ninc (lv' := [(4, .int (nI (i + 1))), (5, .int 1), (0, .ref (a 0)), (1, .int (nI m)), (2, .int (nI q)), (3, .int x)]) hx hb i 1 dX6_seenAllows_59 hl (k := 1) rfl (by decide) rfl (fun ls hl => ?_)
            refine lv_goto (tgt := 3) hx hb dX6_seenAllows_62 (by decide) ?_
            exact ih3 _ (by omega) (i + 1) _ _ _ rfl (by omega) (by simp [seeX, hs, c_20, c_31, c_54]) h (lv_sub hl [0, 2, 3, 4, 5] rfl)
          · refine lv_iconst (v := 0) hx hb dX6_seenAllows_57 (by decide) ?_
            exact hret _ () _ _ _ _ h (by rw [if_neg (seeX_no (i := i) (by omega) (by simp [seeX, c_20, c_31, c_54]))]) dX6_seenAllows_58 (by decide)
  exact L3_0 _ 0 _ _ _ rfl (by omega) rfl h (lv_sub hl [0, 1, 2, 3, 4] rfl)
set_option maxHeartbeats 1000000 in
set_option maxRecDepth 100000 in
theorem kX6_leanCode (l : Launch) (D : va_G) (ct : Nat → ClassId) (a : Nat → Nat) (S L : Nat → Nat → Int32)  : ML l yX6_leanCode (gWs yX6_leanCode cX6_leanCode 5 (some .long)) rmX6_leanCode D ct gNo [.ref (a 0)] (wS a ct S L) (fun _ : Unit => (wS a ct S L)) (fun r _ => r = cdq L 3) := by
  refine ML.of RX6 rfl (by decide) (Nat.le_of_ble_eq_true rfl) ?_
  intro zp ze zs zm za zb zt zc zA ls zQ C h hX hl hret
  have hx := C.1
  have hb := C.2.1
  have hl : lv_has ls 5 [(0, .ref (a 0))] := hl
  refine lv_lconst (v := 0) hx hb dX6_leanCode_0 (by decide) ?_
  refine lv_lstore_n (lv' := [(1, .long 0), (0, .ref (a 0))]) hx hb dX6_leanCode_1 rfl hl (by decide) rfl (fun ls hl => ?_)
  refine lv_iconst (v := 0) hx hb dX6_leanCode_2 (by decide) ?_
  refine lv_istore_n (lv' := [(3, .int 0), (1, .long 0), (0, .ref (a 0))]) hx hb dX6_leanCode_3 rfl hl (by decide) rfl (fun ls hl => ?_)
  have L4_0 : ∀ (kk : Nat) (q : Nat) (H : Heap) (ll : List Loc) (ls : Array Slot), 3 - q = kk → (q ≤ 3) → gW D ct zA zs H ll (wS a ct S L) → lv_has ls 5 [(3, .int (nI q)), (1, .long (cdq L q)), (0, .ref (a 0))] → W zp l ze rmX6_leanCode zs zm za zb zt zc H ll 0 0 zQ (F0 zm 4 ls []) := by
    intro kk4
    induction kk4 using Nat.strongRecOn with
    | _ kk4 ih4 =>
    intro q H ll ls hk4 hq h hl
    refine lv_iload_n hx hb dX6_leanCode_4 rfl (lv_at hl 0 rfl) ?_
    refine lv_iconst (v := 3) hx hb dX6_leanCode_5 (by decide) ?_
    refine nb_ge hx hb q 3 (by omega) (by omega) (tgt := 50) dX6_leanCode_6 (by decide) (fun c_6 => ?_) (fun c_6 => ?_)
    · refine lv_lload_n hx hb dX6_leanCode_50 rfl (lv_at hl 1 rfl) ?_
      exact hret _ () _ _ _ _ h (by rw [show q = 3 by omega]) dX6_leanCode_51
    · refine lv_iconst (v := 0) hx hb dX6_leanCode_9 (by decide) ?_
      refine lv_istore (lv' := [(4, .int 0), (3, .int (nI q)), (1, .long (cdq L q)), (0, .ref (a 0))]) hx hb dX6_leanCode_10 hl (by decide) rfl (fun ls hl => ?_)
      have L12_1 : ∀ (kk : Nat) (m : Nat) (H : Heap) (ll : List Loc) (ls : Array Slot), 8 - m = kk → (m ≤ 8) → gW D ct zA zs H ll (wS a ct S L) → lv_has ls 5 [(4, .int (nI m)), (3, .int (nI q)), (1, .long (cd1 (L q) (cdq L q) m)), (0, .ref (a 0))] → W zp l ze rmX6_leanCode zs zm za zb zt zc H ll 0 0 zQ (F0 zm 12 ls []) := by
        intro kk12
        induction kk12 using Nat.strongRecOn with
        | _ kk12 ih12 =>
        intro m H ll ls hk12 hm h hl
        refine lv_iload hx hb dX6_leanCode_12 (lv_at hl 0 rfl) ?_
        refine lv_bipush (v := 8) hx hb dX6_leanCode_14 (by decide) ?_
        refine nb_ge hx hb m 8 (by omega) (by omega) (tgt := 44) dX6_leanCode_16 (by decide) (fun c_16 => ?_) (fun c_16 => ?_)
        · have e8 : m = 8 := by omega
          rw [e8] at hl
          refine ninc (lv' := [(3, .int (nI (q + 1))), (4, .int (nI 8)), (1, .long (cd1 (L q) (cdq L q) 8)), (0, .ref (a 0))]) hx hb q 1 dX6_leanCode_44 hl (k := 1) rfl (by decide) rfl (fun ls hl => ?_)
          refine lv_goto (tgt := 4) hx hb dX6_leanCode_47 (by decide) ?_
          exact ih4 _ (by omega) (q + 1) _ _ _ rfl (by omega) h (lv_sub hl [0, 2, 3] rfl)
        · refine lv_lload_n hx hb dX6_leanCode_19 rfl (lv_at hl 2 rfl) ?_
          refine lv_ldc2 (v := 3) hx hb C.2.2.2.1 (C.2.2.2.2 _ (gWs_in q619)) dX6_leanCode_20 ?_
          refine lv_lmul hx hb dX6_leanCode_23 ?_
          refine lv_aload_n hx hb dX6_leanCode_24 rfl (lv_at hl 3 rfl) ?_
          refine gget C h igX6 0 rfl rfl 1 (by decide) q163 rfl rfl dX6_leanCode_25 ?_
          refine lv_iload_n hx hb dX6_leanCode_28 rfl (lv_at hl 1 rfl) ?_
          refine gald C h 2 4 rfl rfl rfl (j := q) (b := a (3 + q)) (by omega) (by decide) (if_pos (by omega)) dX6_leanCode_29 ?_
          refine lv_iload hx hb dX6_leanCode_30 (lv_at hl 0 rfl) ?_
          refine gild C h (3 + q) (wS_row a ct _ _ (by omega)) (j := m) (by omega) (by decide) dX6_leanCode_32 ?_
          refine gas (z := L q m) rfl ?_
          refine lv_i2l (v := (L q m).toInt64) hx hb dX6_leanCode_33 rfl ?_
          refine lv_ladd hx hb dX6_leanCode_34 ?_
          refine lv_lconst (v := 1) hx hb dX6_leanCode_35 (by decide) ?_
          refine lv_ladd hx hb dX6_leanCode_36 ?_
          refine lv_lstore_n (lv' := [(1, .long ((((cd1 (L q) (cdq L q) m) * 3) + ((L q m).toInt64)) + 1)), (4, .int (nI m)), (3, .int (nI q)), (0, .ref (a 0))]) hx hb dX6_leanCode_37 rfl hl (by decide) rfl (fun ls hl => ?_)
          refine ninc (lv' := [(4, .int (nI (m + 1))), (1, .long ((((cd1 (L q) (cdq L q) m) * 3) + ((L q m).toInt64)) + 1)), (3, .int (nI q)), (0, .ref (a 0))]) hx hb m 1 dX6_leanCode_38 hl (k := 1) rfl (by decide) rfl (fun ls hl => ?_)
          refine lv_goto (tgt := 12) hx hb dX6_leanCode_41 (by decide) ?_
          exact ih12 _ (by omega) (m + 1) _ _ _ rfl (by omega) h (lv_sub hl [0, 2, 1, 3] rfl)
      exact L12_1 _ 0 _ _ _ rfl (by omega) h (lv_sub hl [0, 1, 2, 3] rfl)
  exact L4_0 _ 0 _ _ _ rfl (by omega) h (lv_sub hl [0, 1, 2] rfl)
set_option maxHeartbeats 1000000 in
set_option maxRecDepth 100000 in
theorem kX6_takeFrom (l : Launch) (D : va_G) (ct : Nat → ClassId) (a b : Nat → Nat) (S L B M : Nat → Nat → Int32)  : MV l yX6_takeFrom (gWs yX6_takeFrom cX6_takeFrom 3 none) rmX6_takeFrom D ct gNo [.ref (a 0), .ref (b 0)] (wSS a b ct S L B M) (fun u : (Nat → Nat → Int32) × (Nat → Nat → Int32) => wSS a b ct u.1 u.2 B M) (fun u => u = (B, M)) := by
  refine MV.of RX6 rfl (by decide) (Nat.le_of_ble_eq_true rfl) ?_
  intro zp ze zs zm za zb zt zc zA ls zQ C h hX hl hret
  have hx := C.1
  have hb := C.2.1
  have hl : lv_has ls 3 [(0, .ref (a 0)), (1, .ref (b 0))] := hl
  refine lv_aload_n hx hb dX6_takeFrom_0 rfl (lv_at hl 1 rfl) ?_
  refine gget C h igX6 12 rfl rfl 0 (by decide) q160 rfl rfl dX6_takeFrom_1 ?_
  refine lv_iconst (v := 0) hx hb dX6_takeFrom_4 (by decide) ?_
  refine lv_aload_n hx hb dX6_takeFrom_5 rfl (lv_at hl 0 rfl) ?_
  refine gget C h igX6 0 rfl rfl 0 (by decide) q160 rfl rfl dX6_takeFrom_6 ?_
  refine lv_iconst (v := 0) hx hb dX6_takeFrom_9 (by decide) ?_
  refine lv_bipush (v := 8) hx hb dX6_takeFrom_10 (by decide) ?_
  refine gcopy C h 13 1 rfl rfl 8 (by decide) (by decide) (by decide) hl.1 q425 q427 q426 q73 (Nat.le_of_ble_eq_true rfl) (by decide +kernel) dX6_takeFrom_12 (fun H ll h => ?_)
  have h := h.cong 1 rfl (g := B 1) (fun j hj => sb_cpy0 hj)
  have h : gW D ct zA zs _ _ (wSS a b ct (va_up S 1 (B 1)) L B M) := h
  refine lv_aload_n hx hb dX6_takeFrom_15 rfl (lv_at hl 1 rfl) ?_
  refine gget C h igX6 12 rfl rfl 2 (by decide) q166 rfl rfl dX6_takeFrom_16 ?_
  refine lv_iconst (v := 0) hx hb dX6_takeFrom_19 (by decide) ?_
  refine lv_aload_n hx hb dX6_takeFrom_20 rfl (lv_at hl 0 rfl) ?_
  refine gget C h igX6 0 rfl rfl 2 (by decide) q166 rfl rfl dX6_takeFrom_21 ?_
  refine lv_iconst (v := 0) hx hb dX6_takeFrom_24 (by decide) ?_
  refine lv_bipush (v := 8) hx hb dX6_takeFrom_25 (by decide) ?_
  refine gcopy C h 18 6 rfl rfl 8 (by decide) (by decide) (by decide) hl.1 q425 q427 q426 q73 (Nat.le_of_ble_eq_true rfl) (by decide +kernel) dX6_takeFrom_27 (fun H ll h => ?_)
  have h := h.cong 6 rfl (g := B 6) (fun j hj => sb_cpy0 hj)
  have h : gW D ct zA zs _ _ (wSS a b ct (va_up (va_up S 1 (B 1)) 6 (B 6)) L B M) := h
  refine lv_iconst (v := 0) hx hb dX6_takeFrom_30 (by decide) ?_
  refine lv_istore_n (lv' := [(2, .int 0), (0, .ref (a 0)), (1, .ref (b 0))]) hx hb dX6_takeFrom_31 rfl hl (by decide) rfl (fun ls hl => ?_)
  have L32_0 : ∀ (kk : Nat) (i : Nat) (L2 : Nat → Nat → Int32) (H : Heap) (ll : List Loc) (ls : Array Slot), 3 - i = kk → (i ≤ 3) → (∀ q, q < i → ∀ j, j < 8 → L2 q j = M q j) → gW D ct zA zs H ll (wSS a b ct (va_up (va_up S 1 (B 1)) 6 (B 6)) L2 B M) → lv_has ls 3 [(2, .int (nI i)), (0, .ref (a 0)), (1, .ref (b 0))] → W zp l ze rmX6_takeFrom zs zm za zb zt zc H ll 0 0 zQ (F0 zm 32 ls []) := by
    intro kk32
    induction kk32 using Nat.strongRecOn with
    | _ kk32 ih32 =>
    intro i L2 H ll ls hk32 hi hL h hl
    refine lv_iload_n hx hb dX6_takeFrom_32 rfl (lv_at hl 0 rfl) ?_
    refine lv_iconst (v := 3) hx hb dX6_takeFrom_33 (by decide) ?_
    refine nb_ge hx hb i 3 (by omega) (by omega) (tgt := 62) dX6_takeFrom_34 (by decide) (fun c_34 => ?_) (fun c_34 => ?_)
    · have h := h.cong 3 rfl (g := M 0) (fun j hj => hL 0 (by omega) j hj)
      have h := h.cong 4 rfl (g := M 1) (fun j hj => hL 1 (by omega) j hj)
      have h := h.cong 5 rfl (g := M 2) (fun j hj => hL 2 (by omega) j hj)
      have h : gW D ct zA zs _ _ (wSS a b ct (va_up (va_up S 1 (B 1)) 6 (B 6)) M B M) := h
      refine lv_aload_n hx hb dX6_takeFrom_62 rfl (lv_at hl 2 rfl) ?_
      refine gget C h igX6 12 rfl rfl 3 (by decide) q169 rfl rfl dX6_takeFrom_63 ?_
      refine lv_iconst (v := 0) hx hb dX6_takeFrom_66 (by decide) ?_
      refine lv_aload_n hx hb dX6_takeFrom_67 rfl (lv_at hl 1 rfl) ?_
      refine gget C h igX6 0 rfl rfl 3 (by decide) q169 rfl rfl dX6_takeFrom_68 ?_
      refine lv_iconst (v := 0) hx hb dX6_takeFrom_71 (by decide) ?_
      refine lv_iconst (v := 3) hx hb dX6_takeFrom_72 (by decide) ?_
      refine gcopy C h 19 7 rfl rfl 3 (by decide) (by decide) (by decide) hl.1 q425 q427 q426 q73 (Nat.le_of_ble_eq_true rfl) (by decide +kernel) dX6_takeFrom_73 (fun H ll h => ?_)
      have h := h.cong 7 rfl (g := B 7) (fun j hj => sb_cpy0 hj)
      have h : gW D ct zA zs _ _ (wSS a b ct (va_up (va_up (va_up S 1 (B 1)) 6 (B 6)) 7 (B 7)) M B M) := h
      refine lv_aload_n hx hb dX6_takeFrom_76 rfl (lv_at hl 2 rfl) ?_
      refine gget C h igX6 12 rfl rfl 4 (by decide) q171 rfl rfl dX6_takeFrom_77 ?_
      refine lv_iconst (v := 0) hx hb dX6_takeFrom_80 (by decide) ?_
      refine lv_aload_n hx hb dX6_takeFrom_81 rfl (lv_at hl 1 rfl) ?_
      refine gget C h igX6 0 rfl rfl 4 (by decide) q171 rfl rfl dX6_takeFrom_82 ?_
      refine lv_iconst (v := 0) hx hb dX6_takeFrom_85 (by decide) ?_
      refine lv_iconst (v := 3) hx hb dX6_takeFrom_86 (by decide) ?_
      refine gcopy C h 20 8 rfl rfl 3 (by decide) (by decide) (by decide) hl.1 q425 q427 q426 q73 (Nat.le_of_ble_eq_true rfl) (by decide +kernel) dX6_takeFrom_87 (fun H ll h => ?_)
      have h := h.cong 8 rfl (g := B 8) (fun j hj => sb_cpy0 hj)
      have h : gW D ct zA zs _ _ (wSS a b ct (va_up (va_up (va_up (va_up S 1 (B 1)) 6 (B 6)) 7 (B 7)) 8 (B 8)) M B M) := h
      refine lv_aload_n hx hb dX6_takeFrom_90 rfl (lv_at hl 2 rfl) ?_
      refine gget C h igX6 12 rfl rfl 5 (by decide) q173 rfl rfl dX6_takeFrom_91 ?_
      refine lv_iconst (v := 0) hx hb dX6_takeFrom_94 (by decide) ?_
      refine lv_aload_n hx hb dX6_takeFrom_95 rfl (lv_at hl 1 rfl) ?_
      refine gget C h igX6 0 rfl rfl 5 (by decide) q173 rfl rfl dX6_takeFrom_96 ?_
      refine lv_iconst (v := 0) hx hb dX6_takeFrom_99 (by decide) ?_
      refine lv_bipush (v := 6) hx hb dX6_takeFrom_100 (by decide) ?_
      refine gcopy C h 21 9 rfl rfl 6 (by decide) (by decide) (by decide) hl.1 q425 q427 q426 q73 (Nat.le_of_ble_eq_true rfl) (by decide +kernel) dX6_takeFrom_102 (fun H ll h => ?_)
      have h := h.cong 9 rfl (g := B 9) (fun j hj => sb_cpy0 hj)
      have h : gW D ct zA zs _ _ (wSS a b ct (va_up (va_up (va_up (va_up (va_up S 1 (B 1)) 6 (B 6)) 7 (B 7)) 8 (B 8)) 9 (B 9)) M B M) := h
      refine lv_aload_n hx hb dX6_takeFrom_105 rfl (lv_at hl 2 rfl) ?_
      refine gget C h igX6 12 rfl rfl 6 (by decide) q174 rfl rfl dX6_takeFrom_106 ?_
      refine lv_iconst (v := 0) hx hb dX6_takeFrom_109 (by decide) ?_
      refine lv_aload_n hx hb dX6_takeFrom_110 rfl (lv_at hl 1 rfl) ?_
      refine gget C h igX6 0 rfl rfl 6 (by decide) q174 rfl rfl dX6_takeFrom_111 ?_
      refine lv_iconst (v := 0) hx hb dX6_takeFrom_114 (by decide) ?_
      refine lv_bipush (v := 6) hx hb dX6_takeFrom_115 (by decide) ?_
      refine gcopy C h 22 10 rfl rfl 6 (by decide) (by decide) (by decide) hl.1 q425 q427 q426 q73 (Nat.le_of_ble_eq_true rfl) (by decide +kernel) dX6_takeFrom_117 (fun H ll h => ?_)
      have h := h.cong 10 rfl (g := B 10) (fun j hj => sb_cpy0 hj)
      have h : gW D ct zA zs _ _ (wSS a b ct (va_up (va_up (va_up (va_up (va_up (va_up S 1 (B 1)) 6 (B 6)) 7 (B 7)) 8 (B 8)) 9 (B 9)) 10 (B 10)) M B M) := h
      refine lv_aload_n hx hb dX6_takeFrom_120 rfl (lv_at hl 2 rfl) ?_
      refine gget C h igX6 12 rfl rfl 7 (by decide) q175 rfl rfl dX6_takeFrom_121 ?_
      refine lv_iconst (v := 0) hx hb dX6_takeFrom_124 (by decide) ?_
      refine lv_aload_n hx hb dX6_takeFrom_125 rfl (lv_at hl 1 rfl) ?_
      refine gget C h igX6 0 rfl rfl 7 (by decide) q175 rfl rfl dX6_takeFrom_126 ?_
      refine lv_iconst (v := 0) hx hb dX6_takeFrom_129 (by decide) ?_
      refine lv_bipush (v := 6) hx hb dX6_takeFrom_130 (by decide) ?_
      refine gcopy C h 23 11 rfl rfl 6 (by decide) (by decide) (by decide) hl.1 q425 q427 q426 q73 (Nat.le_of_ble_eq_true rfl) (by decide +kernel) dX6_takeFrom_132 (fun H ll h => ?_)
      have h := h.cong 11 rfl (g := B 11) (fun j hj => sb_cpy0 hj)
      have h : gW D ct zA zs _ _ (wSS a b ct (va_up (va_up (va_up (va_up (va_up (va_up (va_up S 1 (B 1)) 6 (B 6)) 7 (B 7)) 8 (B 8)) 9 (B 9)) 10 (B 10)) 11 (B 11)) M B M) := h
      refine lv_aload_n hx hb dX6_takeFrom_135 rfl (lv_at hl 1 rfl) ?_
      refine lv_aload_n hx hb dX6_takeFrom_136 rfl (lv_at hl 2 rfl) ?_
      refine gget C h igX6 12 rfl rfl 8 (by decide) q176 rfl rfl dX6_takeFrom_137 ?_
      refine gput C h igX6 tyX6 tyX6_ok nmX6 0 rfl rfl 8 (by decide) q176 rfl rfl (ty := .int) (by decide +kernel) rfl rfl (Nat.le_of_ble_eq_true rfl) dX6_takeFrom_140 (fun H ll h => ?_)
      have h : gW D ct zA zs _ _ (wSS a b ct (va_up (va_up (va_up (va_up (va_up (va_up (va_up (va_up S 1 (B 1)) 6 (B 6)) 7 (B 7)) 8 (B 8)) 9 (B 9)) 10 (B 10)) 11 (B 11)) 0 (fun _ => B 0 0)) M B M) := h
      refine lv_aload_n hx hb dX6_takeFrom_143 rfl (lv_at hl 1 rfl) ?_
      refine lv_aload_n hx hb dX6_takeFrom_144 rfl (lv_at hl 2 rfl) ?_
      refine gget C h igX6 12 rfl rfl 9 (by decide) q178 rfl rfl dX6_takeFrom_145 ?_
      refine gput C h igX6 tyX6 tyX6_ok nmX6 0 rfl rfl 9 (by decide) q178 rfl rfl (ty := .int) (by decide +kernel) rfl rfl (Nat.le_of_ble_eq_true rfl) dX6_takeFrom_148 (fun H ll h => ?_)
      have h : gW D ct zA zs _ _ (wSS a b ct (va_up (va_up (va_up (va_up (va_up (va_up (va_up (va_up (va_up S 1 (B 1)) 6 (B 6)) 7 (B 7)) 8 (B 8)) 9 (B 9)) 10 (B 10)) 11 (B 11)) 0 (fun _ => B 0 0)) 12 (fun _ => B 12 0)) M B M) := h
      have h : gW D ct zA zs _ _ ((fun u : (Nat → Nat → Int32) × (Nat → Nat → Int32) => wSS a b ct u.1 u.2 B M) ((B, M))) := h
      exact hret ((B, M)) _ _ _ _ h rfl dX6_takeFrom_151
    · refine lv_aload_n hx hb dX6_takeFrom_37 rfl (lv_at hl 2 rfl) ?_
      refine gget C h igX6 12 rfl rfl 1 (by decide) q163 rfl rfl dX6_takeFrom_38 ?_
      refine lv_iload_n hx hb dX6_takeFrom_41 rfl (lv_at hl 0 rfl) ?_
      refine gald C h 14 4 rfl rfl rfl (j := i) (b := b (3 + i)) (by omega) (by decide) (if_pos (by omega)) dX6_takeFrom_42 ?_
      refine lv_iconst (v := 0) hx hb dX6_takeFrom_43 (by decide) ?_
      refine lv_aload_n hx hb dX6_takeFrom_44 rfl (lv_at hl 1 rfl) ?_
      refine gget C h igX6 0 rfl rfl 1 (by decide) q163 rfl rfl dX6_takeFrom_45 ?_
      refine lv_iload_n hx hb dX6_takeFrom_48 rfl (lv_at hl 0 rfl) ?_
      refine gald C h 2 4 rfl rfl rfl (j := i) (b := a (3 + i)) (by omega) (by decide) (if_pos (by omega)) dX6_takeFrom_49 ?_
      refine lv_iconst (v := 0) hx hb dX6_takeFrom_50 (by decide) ?_
      refine lv_bipush (v := 8) hx hb dX6_takeFrom_51 (by decide) ?_
      refine gcopy C h (15 + i) (3 + i) (wSS_rowB a b ct _ _ _ _ (by omega)) (wSS_rowA a b ct _ _ _ _ (by omega)) 8 (by decide) (by decide) (by decide) hl.1 q425 q427 q426 q73 (Nat.le_of_ble_eq_true rfl) (by decide +kernel) dX6_takeFrom_53 (fun H ll h => ?_)
      have h := h.to (wSS_rset a b ct _ _ _ _ (by omega) _)
      have h : gW D ct zA zs _ _ (wSS a b ct (va_up (va_up S 1 (B 1)) 6 (B 6)) (va_up L2 i (va_cpy (M i) (L2 i) 0 0 8)) B M) := h
      refine ninc (lv' := [(2, .int (nI (i + 1))), (0, .ref (a 0)), (1, .ref (b 0))]) hx hb i 1 dX6_takeFrom_56 hl (k := 0) rfl (by decide) rfl (fun ls hl => ?_)
      refine lv_goto (tgt := 32) hx hb dX6_takeFrom_59 (by decide) ?_
      exact ih32 _ (by omega) (i + 1) (va_up L2 i (va_cpy (M i) (L2 i) 0 0 8)) _ _ _ rfl (by omega) (fun q hq j hj => by by_cases e : q = i; (subst e; rw [va_up_self]; exact sb_cpy0 hj); (rw [va_up_ne _ _ e]; exact hL q (by omega) j hj)) h (lv_sub hl [0, 1, 2] rfl)
  exact L32_0 _ 0 L _ _ _ rfl (by omega) (fun q hq => absurd hq (by omega)) h (lv_sub hl [0, 1, 2] rfl)
set_option maxHeartbeats 1000000 in
set_option maxRecDepth 100000 in
theorem kX5_drift (l : Launch) (D : va_G) (ct : Nat → ClassId) (aR a : Nat → Nat) (R S L : Nat → Nat → Int32) (dt : Nat → Nat) (n : Nat) (kd : Nat → Nat) (hok : ROK R n kd)  : MV l yX5_drift (gWs yX5_drift cX5_drift 8 none) rmX5_drift D ct (stX dt) [.ref (aR 0), .ref (a 0)] (wRS aR a ct R S L) (fun u : (Nat → Nat → Int32) × (Nat → Nat → Int32) => wRS aR a ct R u.1 u.2) (fun u => u = (S, dfX S L n kd)) := by
  refine MV.of RX5 rfl (by decide) (Nat.le_of_ble_eq_true rfl) ?_
  intro zp ze zs zm za zb zt zc zA ls zQ C h hX hl hret
  have hx := C.1
  have hb := C.2.1
  have hl : lv_has ls 8 [(0, .ref (aR 0)), (1, .ref (a 0))] := hl
  have hok0 := hok
  obtain ⟨hn, hn8, hkd⟩ := hok0
  refine lv_iconst (v := 0) hx hb dX5_drift_0 (by decide) ?_
  refine lv_istore_n (lv' := [(2, .int 0), (0, .ref (aR 0)), (1, .ref (a 0))]) hx hb dX5_drift_1 rfl hl (by decide) rfl (fun ls hl => ?_)
  have L2_0 : ∀ (kk : Nat) (i : Nat) (L2 : Nat → Nat → Int32) (H : Heap) (ll : List Loc) (ls : Array Slot), 3 - i = kk → (i ≤ 3) → (∀ q m, L2 q m = if q < i then dfX S L n kd q m else L q m) → gW D ct zA zs H ll (wRS aR a ct R S L2) → lv_has ls 8 [(2, .int (nI i)), (0, .ref (aR 0)), (1, .ref (a 0))] → W zp l ze rmX5_drift zs zm za zb zt zc H ll 0 0 zQ (F0 zm 2 ls []) := by
    intro kk2
    induction kk2 using Nat.strongRecOn with
    | _ kk2 ih2 =>
    intro i L2 H ll ls hk2 hi hL h hl
    refine lv_iload_n hx hb dX5_drift_2 rfl (lv_at hl 0 rfl) ?_
    refine lv_iconst (v := 3) hx hb dX5_drift_3 (by decide) ?_
    refine nb_ge hx hb i 3 (by omega) (by omega) (tgt := 111) dX5_drift_4 (by decide) (fun c_4 => ?_) (fun c_4 => ?_)
    · have e5 : L2 = dfX S L n kd := funext (fun q => funext (fun m => by rw [hL q m, show i = 3 by omega]; by_cases h9 : q < 3; (rw [if_pos h9]); (rw [if_neg h9]; unfold dfX; rw [if_neg (fun h8 => h9 h8.1)])))
      rw [e5] at h
      have h : gW D ct zA zs _ _ ((fun u : (Nat → Nat → Int32) × (Nat → Nat → Int32) => wRS aR a ct R u.1 u.2) ((S, dfX S L n kd))) := h
      exact hret ((S, dfX S L n kd)) _ _ _ _ h rfl dX5_drift_111
    · refine lv_iconst (v := 0) hx hb dX5_drift_7 (by decide) ?_
      refine lv_istore_n (lv' := [(3, .int 0), (2, .int (nI i)), (0, .ref (aR 0)), (1, .ref (a 0))]) hx hb dX5_drift_8 rfl hl (by decide) rfl (fun ls hl => ?_)
      refine lv_iconst (v := 0) hx hb dX5_drift_9 (by decide) ?_
      refine lv_istore (lv' := [(4, .int 0), (3, .int 0), (2, .int (nI i)), (0, .ref (aR 0)), (1, .ref (a 0))]) hx hb dX5_drift_10 hl (by decide) rfl (fun ls hl => ?_)
      have L12_1 : ∀ (kk : Nat) (j : Nat) (L3 : Nat → Nat → Int32) (la : Int32) (H : Heap) (ll : List Loc) (ls : Array Slot), n - j = kk → (j ≤ n) → (∀ q m, L3 q m = if q < i ∨ (q = i ∧ m < j) then dfX S L n kd q m else L q m) → (la = if 0 < j then L i (j - 1) else 0) → gW D ct zA zs H ll (wRS aR a ct R S L3) → lv_has ls 8 [(4, .int (nI j)), (3, .int la), (2, .int (nI i)), (0, .ref (aR 0)), (1, .ref (a 0))] → W zp l ze rmX5_drift zs zm za zb zt zc H ll 0 0 zQ (F0 zm 12 ls []) := by
        intro kk12
        induction kk12 using Nat.strongRecOn with
        | _ kk12 ih12 =>
        intro j L3 la H ll ls hk12 hj hL hla h hl
        refine lv_iload hx hb dX5_drift_12 (lv_at hl 0 rfl) ?_
        refine lv_aload_n hx hb dX5_drift_14 rfl (lv_at hl 3 rfl) ?_
        refine gget C h igX5 0 rfl rfl 2 (by decide) q143 rfl rfl dX5_drift_15 ?_
        refine gas hn ?_
        refine nb_ge hx hb j n (by omega) (by omega) (tgt := 105) dX5_drift_18 (by decide) (fun c_18 => ?_) (fun c_18 => ?_)
        · refine ninc (lv' := [(2, .int (nI (i + 1))), (4, .int (nI j)), (3, .int la), (0, .ref (aR 0)), (1, .ref (a 0))]) hx hb i 1 dX5_drift_105 hl (k := 2) rfl (by decide) rfl (fun ls hl => ?_)
          refine lv_goto (tgt := 2) hx hb dX5_drift_108 (by decide) ?_
          exact ih2 _ (by omega) (i + 1) L3 _ _ _ rfl (by omega) (fun q m => by rw [hL q m]; exact drift_row (by omega)) h (lv_sub hl [0, 3, 4] rfl)
        · refine lv_aload_n hx hb dX5_drift_21 rfl (lv_at hl 4 rfl) ?_
          refine gget C h igX6 8 rfl rfl 1 (by decide) q165 rfl rfl dX5_drift_22 ?_
          refine lv_iload_n hx hb dX5_drift_25 rfl (lv_at hl 2 rfl) ?_
          refine gald C h 10 4 rfl rfl rfl (j := i) (b := a (3 + i)) (by omega) (by decide) (if_pos (by omega)) dX5_drift_26 ?_
          refine lv_iload hx hb dX5_drift_27 (lv_at hl 0 rfl) ?_
          refine gild C h (11 + i) (wRS_row aR a ct _ _ _ (by omega)) (j := j) (by omega) (by decide) dX5_drift_29 ?_
          refine gas (z := L3 i j) rfl ?_
          refine gas (by rw [hL i j, if_neg (by omega)]) ?_
          refine lv_istore (lv' := [(5, .int (L i j)), (4, .int (nI j)), (3, .int la), (2, .int (nI i)), (0, .ref (aR 0)), (1, .ref (a 0))]) hx hb dX5_drift_30 hl (by decide) rfl (fun ls hl => ?_)
          refine lv_aload_n hx hb dX5_drift_32 rfl (lv_at hl 5 rfl) ?_
          refine gget C h igX6 8 rfl rfl 2 (by decide) q167 rfl rfl dX5_drift_33 ?_
          refine lv_iload hx hb dX5_drift_36 (lv_at hl 1 rfl) ?_
          refine gild C h 14 rfl (j := j) (by omega) (by decide) dX5_drift_38 ?_
          refine gas (z := S 6 j) rfl ?_
          refine lv_if_ne (tgt := 46) hx hb dX5_drift_39 (by decide) (fun c_39 => ?_) (fun c_39 => ?_)
          · refine lv_iconst (v := 0) hx hb dX5_drift_46 (by decide) ?_
            refine gas (z := lnA (leX L) (cuX S) j i) (lnA_of hla (Or.inr ⟨c_39, rfl⟩)) ?_
            refine lv_istore (lv' := [(6, .int (lnA (leX L) (cuX S) j i)), (5, .int (L i j)), (4, .int (nI j)), (3, .int la), (2, .int (nI i)), (0, .ref (aR 0)), (1, .ref (a 0))]) hx hb dX5_drift_47 hl (by decide) rfl (fun ls hl => ?_)
            refine lv_iload hx hb dX5_drift_49 (lv_at hl 0 rfl) ?_
            refine lv_iload hx hb dX5_drift_51 (lv_at hl 1 rfl) ?_
            refine lv_iadd hx hb dX5_drift_53 ?_
            refine lv_aload_n hx hb dX5_drift_54 rfl (lv_at hl 5 rfl) ?_
            refine lv_aload_n hx hb dX5_drift_55 rfl (lv_at hl 6 rfl) ?_
            refine lv_iload hx hb dX5_drift_56 (lv_at hl 2 rfl) ?_
            refine lv_iload_n hx hb dX5_drift_58 rfl (lv_at hl 4 rfl) ?_
            refine gcallVi C h trivial gNo_ok (kX5_leanBehind l D ct aR a R S L3 n kd hok j i (by omega) (by omega)) (cwV 3 C.2.2.2.2 (gInV q392 q394 q2 q59 q395) rfl rfl rfl hvX5_leanBehind ⟨Nat.le_of_ble_eq_true rfl, Nat.le_of_ble_eq_true rfl⟩) 0 rfl rfl rfl rfl hl.1 rfl (Nat.le_of_ble_eq_true rfl) dX5_drift_59 ⟨Nat.zero_le _, Nat.zero_le _⟩ (fun r9 u9 H ll hw h => ?_)
            have hw : r9 = lnB n (leX L3) (cuX S) j i := hw
            subst hw
            have h : gW D ct zA zs _ _ (wRS aR a ct R S L3) := h
            refine gas (z := lnB n (leX L) (cuX S) j i) (lnB_eq (by rw [hL i (j + 1), if_neg (by omega)])) ?_
            refine lv_iadd hx hb dX5_drift_62 ?_
            refine lv_istore (lv' := [(7, .int (((lnA (leX L) (cuX S) j i) + (L i j)) + (lnB n (leX L) (cuX S) j i))), (6, .int (lnA (leX L) (cuX S) j i)), (5, .int (L i j)), (4, .int (nI j)), (3, .int la), (2, .int (nI i)), (0, .ref (aR 0)), (1, .ref (a 0))]) hx hb dX5_drift_63 hl (by decide) rfl (fun ls hl => ?_)
            refine lv_iload hx hb dX5_drift_65 (lv_at hl 0 rfl) ?_
            refine lv_if_eq (tgt := 96) hx hb dX5_drift_67 (by decide) (fun c_67 => ?_) (fun c_67 => ?_)
            · refine lv_iload hx hb dX5_drift_96 (lv_at hl 2 rfl) ?_
              refine lv_istore_n (lv' := [(3, .int (L i j)), (7, .int (((lnA (leX L) (cuX S) j i) + (L i j)) + (lnB n (leX L) (cuX S) j i))), (6, .int (lnA (leX L) (cuX S) j i)), (5, .int (L i j)), (4, .int (nI j)), (2, .int (nI i)), (0, .ref (aR 0)), (1, .ref (a 0))]) hx hb dX5_drift_98 rfl hl (by decide) rfl (fun ls hl => ?_)
              refine ninc (lv' := [(4, .int (nI (j + 1))), (3, .int (L i j)), (7, .int (((lnA (leX L) (cuX S) j i) + (L i j)) + (lnB n (leX L) (cuX S) j i))), (6, .int (lnA (leX L) (cuX S) j i)), (5, .int (L i j)), (2, .int (nI i)), (0, .ref (aR 0)), (1, .ref (a 0))]) hx hb j 1 dX5_drift_99 hl (k := 4) rfl (by decide) rfl (fun ls hl => ?_)
              refine lv_goto (tgt := 12) hx hb dX5_drift_102 (by decide) ?_
              exact ih12 _ (by omega) (j + 1) L3 (L i j) _ _ _ rfl (by omega) (drift_same hL (by unfold dfX; rw [if_pos ⟨by omega, by omega⟩]; unfold drX; rw [if_neg (fun h9 => h9.1 c_67)])) (by rw [if_pos (by omega)]; rfl) h (lv_sub hl [0, 1, 5, 6, 7] rfl)
            · refine lv_aload_n hx hb dX5_drift_70 rfl (lv_at hl 6 rfl) ?_
              refine lv_iload hx hb dX5_drift_71 (lv_at hl 3 rfl) ?_
              refine gFq C h trivial gNo_ok (kX5_kindOf l D ct aR R n kd hok j (by omega)) (cwV 1 C.2.2.2.2 (gInV q396 q397 q398 q59 q399) rfl rfl rfl hvX5_kindOf ⟨Nat.le_of_ble_eq_true rfl, Nat.le_of_ble_eq_true rfl⟩) 0 rfl rfl rfl (fr_RS_R aR a ct _ _ _) rfl hl.1 rfl (Nat.le_of_ble_eq_true rfl) dX5_drift_73 ⟨Nat.zero_le _, Nat.zero_le _⟩ (fun H ll h => ?_)
              have h : gW D ct zA zs _ _ (wRS aR a ct R S L3) := h
              rcases (show kd j = 0 ∨ kd j = 1 ∨ kd j = 2 ∨ kd j = 3 ∨ kd j = 4 by have := hung_lt hok (m := j) (by omega); omega) with hk_76 | hk_76 | hk_76 | hk_76 | hk_76
              · refine gasr (z := aR 3) (by rw [hk_76]) ?_
                refine gFi C h trivial gNo_ok (kX3_driftsAlong_3 l D ct (aR 3) ) (cwV 0 C.2.2.2.2 (gInV q515 q516 q517 q60 q525) rfl rfl rfl hvX3_driftsAlong ⟨Nat.le_of_ble_eq_true rfl, Nat.le_of_ble_eq_true rfl⟩) 3 rfl rfl rfl (fr_RS_K0 aR a ct _ _ _) rfl hl.1 rfl (Nat.le_of_ble_eq_true rfl) dX5_drift_76 ⟨Nat.zero_le _, Nat.zero_le _⟩ (fun r9 u9 H ll hw h => ?_)
                subst hw
                have h : gW D ct zA zs _ _ (wRS aR a ct R S L3) := h
                refine lv_if_eq (tgt := 96) hx hb dX5_drift_79 (by decide) (fun q => absurd q (by decide)) (fun _ => ?_)
                refine lv_aload_n hx hb dX5_drift_82 rfl (lv_at hl 7 rfl) ?_
                refine gget C h igX6 8 rfl rfl 1 (by decide) q165 rfl rfl dX5_drift_83 ?_
                refine lv_iload_n hx hb dX5_drift_86 rfl (lv_at hl 5 rfl) ?_
                refine gald C h 10 4 rfl rfl rfl (j := i) (b := a (3 + i)) (by omega) (by decide) (if_pos (by omega)) dX5_drift_87 ?_
                refine lv_iload hx hb dX5_drift_88 (lv_at hl 3 rfl) ?_
                refine lv_iload hx hb dX5_drift_90 (lv_at hl 0 rfl) ?_
                refine gSN C h (kX8_outcomeOf l D ct (((lnA (leX L) (cuX S) j i) + (L i j)) + (lnB n (leX L) (cuX S) j i))) ⟨va_cnB 1 C.2.2.2.2 (gInN q498) rfl rfl rfl hX.1 (C.2.2.2.2 _ (gWs_in q57)) hdX8_outcomeOf ⟨Nat.le_of_ble_eq_true rfl, Nat.le_of_ble_eq_true rfl⟩, C.2.2.2.2 _ (gWs_in q497), trivial⟩ rfl hl.1 rfl (Nat.le_of_ble_eq_true rfl) dX5_drift_92 ⟨Nat.zero_le _, Nat.zero_le _⟩ (fun H ll h => ?_)
                refine gist C h (11 + i) (wRS_row aR a ct _ _ _ (by omega)) (j := j) (by omega) (by decide) dX5_drift_95 (fun H ll h => ?_)
                have h := h.to (wRS_rset aR a ct _ _ _ (by omega) _)
                have h : gW D ct zA zs _ _ (wRS aR a ct R S (va_up L3 i (upd (L3 i) j (sgn (((lnA (leX L) (cuX S) j i) + (L i j)) + (lnB n (leX L) (cuX S) j i)))))) := h
                refine lv_iload hx hb dX5_drift_96 (lv_at hl 2 rfl) ?_
                refine lv_istore_n (lv' := [(3, .int (L i j)), (7, .int (((lnA (leX L) (cuX S) j i) + (L i j)) + (lnB n (leX L) (cuX S) j i))), (6, .int (lnA (leX L) (cuX S) j i)), (5, .int (L i j)), (4, .int (nI j)), (2, .int (nI i)), (0, .ref (aR 0)), (1, .ref (a 0))]) hx hb dX5_drift_98 rfl hl (by decide) rfl (fun ls hl => ?_)
                refine ninc (lv' := [(4, .int (nI (j + 1))), (3, .int (L i j)), (7, .int (((lnA (leX L) (cuX S) j i) + (L i j)) + (lnB n (leX L) (cuX S) j i))), (6, .int (lnA (leX L) (cuX S) j i)), (5, .int (L i j)), (2, .int (nI i)), (0, .ref (aR 0)), (1, .ref (a 0))]) hx hb j 1 dX5_drift_99 hl (k := 4) rfl (by decide) rfl (fun ls hl => ?_)
                refine lv_goto (tgt := 12) hx hb dX5_drift_102 (by decide) ?_
                exact ih12 _ (by omega) (j + 1) (va_up L3 i (upd (L3 i) j (sgn (((lnA (leX L) (cuX S) j i) + (L i j)) + (lnB n (leX L) (cuX S) j i))))) (L i j) _ _ _ rfl (by omega) (drift_step (by omega) (by omega) hL (by unfold dfX; rw [if_pos ⟨by omega, by omega⟩]; unfold drX; rw [if_pos ⟨c_67, by rw [hk_76]; decide⟩])) (by rw [if_pos (by omega)]; rfl) h (lv_sub hl [0, 1, 5, 6, 7] rfl)
              · refine gasr (z := aR 4) (by rw [hk_76]) ?_
                refine gUi C h (kX3_driftsAlong_1 l D ct (aR 4) ) (va_cwU 0 C.2.2.2.2 (gInU q515 q518 q522 q516 q60 q525) rfl rfl rfl rfl hdX3_driftsAlong ⟨Nat.le_of_ble_eq_true rfl, Nat.le_of_ble_eq_true rfl⟩) 4 rfl rfl rfl (fr_RS_K1 aR a ct _ _ _) rfl hl.1 rfl (Nat.le_of_ble_eq_true rfl) dX5_drift_76 ⟨Nat.zero_le _, Nat.zero_le _⟩ (fun H ll h => ?_)
                have h : gW D ct zA zs _ _ (wRS aR a ct R S L3) := h
                refine lv_if_eq (tgt := 96) hx hb dX5_drift_79 (by decide) (fun q => absurd q (by decide)) (fun _ => ?_)
                refine lv_aload_n hx hb dX5_drift_82 rfl (lv_at hl 7 rfl) ?_
                refine gget C h igX6 8 rfl rfl 1 (by decide) q165 rfl rfl dX5_drift_83 ?_
                refine lv_iload_n hx hb dX5_drift_86 rfl (lv_at hl 5 rfl) ?_
                refine gald C h 10 4 rfl rfl rfl (j := i) (b := a (3 + i)) (by omega) (by decide) (if_pos (by omega)) dX5_drift_87 ?_
                refine lv_iload hx hb dX5_drift_88 (lv_at hl 3 rfl) ?_
                refine lv_iload hx hb dX5_drift_90 (lv_at hl 0 rfl) ?_
                refine gSN C h (kX8_outcomeOf l D ct (((lnA (leX L) (cuX S) j i) + (L i j)) + (lnB n (leX L) (cuX S) j i))) ⟨va_cnB 1 C.2.2.2.2 (gInN q498) rfl rfl rfl hX.1 (C.2.2.2.2 _ (gWs_in q57)) hdX8_outcomeOf ⟨Nat.le_of_ble_eq_true rfl, Nat.le_of_ble_eq_true rfl⟩, C.2.2.2.2 _ (gWs_in q497), trivial⟩ rfl hl.1 rfl (Nat.le_of_ble_eq_true rfl) dX5_drift_92 ⟨Nat.zero_le _, Nat.zero_le _⟩ (fun H ll h => ?_)
                refine gist C h (11 + i) (wRS_row aR a ct _ _ _ (by omega)) (j := j) (by omega) (by decide) dX5_drift_95 (fun H ll h => ?_)
                have h := h.to (wRS_rset aR a ct _ _ _ (by omega) _)
                have h : gW D ct zA zs _ _ (wRS aR a ct R S (va_up L3 i (upd (L3 i) j (sgn (((lnA (leX L) (cuX S) j i) + (L i j)) + (lnB n (leX L) (cuX S) j i)))))) := h
                refine lv_iload hx hb dX5_drift_96 (lv_at hl 2 rfl) ?_
                refine lv_istore_n (lv' := [(3, .int (L i j)), (7, .int (((lnA (leX L) (cuX S) j i) + (L i j)) + (lnB n (leX L) (cuX S) j i))), (6, .int (lnA (leX L) (cuX S) j i)), (5, .int (L i j)), (4, .int (nI j)), (2, .int (nI i)), (0, .ref (aR 0)), (1, .ref (a 0))]) hx hb dX5_drift_98 rfl hl (by decide) rfl (fun ls hl => ?_)
                refine ninc (lv' := [(4, .int (nI (j + 1))), (3, .int (L i j)), (7, .int (((lnA (leX L) (cuX S) j i) + (L i j)) + (lnB n (leX L) (cuX S) j i))), (6, .int (lnA (leX L) (cuX S) j i)), (5, .int (L i j)), (2, .int (nI i)), (0, .ref (aR 0)), (1, .ref (a 0))]) hx hb j 1 dX5_drift_99 hl (k := 4) rfl (by decide) rfl (fun ls hl => ?_)
                refine lv_goto (tgt := 12) hx hb dX5_drift_102 (by decide) ?_
                exact ih12 _ (by omega) (j + 1) (va_up L3 i (upd (L3 i) j (sgn (((lnA (leX L) (cuX S) j i) + (L i j)) + (lnB n (leX L) (cuX S) j i))))) (L i j) _ _ _ rfl (by omega) (drift_step (by omega) (by omega) hL (by unfold dfX; rw [if_pos ⟨by omega, by omega⟩]; unfold drX; rw [if_pos ⟨c_67, by rw [hk_76]; decide⟩])) (by rw [if_pos (by omega)]; rfl) h (lv_sub hl [0, 1, 5, 6, 7] rfl)
              · refine gasr (z := aR 5) (by rw [hk_76]) ?_
                refine gUi C h (kX0_driftsAlong l D ct (aR 5) ) (va_cwO 0 C.2.2.2.2 (gInO q515 q518 q516 q519 q520 q62 q521) rfl rfl rfl (gWs_in q525) hdX3_driftsAlong ⟨Nat.le_of_ble_eq_true rfl, Nat.le_of_ble_eq_true rfl⟩) 5 rfl rfl rfl (fr_RS_K2 aR a ct _ _ _) rfl hl.1 rfl (Nat.le_of_ble_eq_true rfl) dX5_drift_76 ⟨Nat.zero_le _, Nat.zero_le _⟩ (fun H ll h => ?_)
                have h : gW D ct zA zs _ _ (wRS aR a ct R S L3) := h
                refine lv_if_eq (tgt := 96) hx hb dX5_drift_79 (by decide) (fun _ => ?_) (fun q => absurd (by decide) q)
                refine lv_iload hx hb dX5_drift_96 (lv_at hl 2 rfl) ?_
                refine lv_istore_n (lv' := [(3, .int (L i j)), (7, .int (((lnA (leX L) (cuX S) j i) + (L i j)) + (lnB n (leX L) (cuX S) j i))), (6, .int (lnA (leX L) (cuX S) j i)), (5, .int (L i j)), (4, .int (nI j)), (2, .int (nI i)), (0, .ref (aR 0)), (1, .ref (a 0))]) hx hb dX5_drift_98 rfl hl (by decide) rfl (fun ls hl => ?_)
                refine ninc (lv' := [(4, .int (nI (j + 1))), (3, .int (L i j)), (7, .int (((lnA (leX L) (cuX S) j i) + (L i j)) + (lnB n (leX L) (cuX S) j i))), (6, .int (lnA (leX L) (cuX S) j i)), (5, .int (L i j)), (2, .int (nI i)), (0, .ref (aR 0)), (1, .ref (a 0))]) hx hb j 1 dX5_drift_99 hl (k := 4) rfl (by decide) rfl (fun ls hl => ?_)
                refine lv_goto (tgt := 12) hx hb dX5_drift_102 (by decide) ?_
                exact ih12 _ (by omega) (j + 1) L3 (L i j) _ _ _ rfl (by omega) (drift_same hL (by unfold dfX; rw [if_pos ⟨by omega, by omega⟩]; unfold drX; rw [if_neg (fun h9 => h9.2 hk_76)])) (by rw [if_pos (by omega)]; rfl) h (lv_sub hl [0, 1, 5, 6, 7] rfl)
              · refine gasr (z := aR 6) (by rw [hk_76]) ?_
                refine gUi C h (kX3_driftsAlong_2 l D ct (aR 6) ) (va_cwU 0 C.2.2.2.2 (gInU q515 q518 q523 q516 q60 q525) rfl rfl rfl rfl hdX3_driftsAlong ⟨Nat.le_of_ble_eq_true rfl, Nat.le_of_ble_eq_true rfl⟩) 6 rfl rfl rfl (fr_RS_K3 aR a ct _ _ _) rfl hl.1 rfl (Nat.le_of_ble_eq_true rfl) dX5_drift_76 ⟨Nat.zero_le _, Nat.zero_le _⟩ (fun H ll h => ?_)
                have h : gW D ct zA zs _ _ (wRS aR a ct R S L3) := h
                refine lv_if_eq (tgt := 96) hx hb dX5_drift_79 (by decide) (fun q => absurd q (by decide)) (fun _ => ?_)
                refine lv_aload_n hx hb dX5_drift_82 rfl (lv_at hl 7 rfl) ?_
                refine gget C h igX6 8 rfl rfl 1 (by decide) q165 rfl rfl dX5_drift_83 ?_
                refine lv_iload_n hx hb dX5_drift_86 rfl (lv_at hl 5 rfl) ?_
                refine gald C h 10 4 rfl rfl rfl (j := i) (b := a (3 + i)) (by omega) (by decide) (if_pos (by omega)) dX5_drift_87 ?_
                refine lv_iload hx hb dX5_drift_88 (lv_at hl 3 rfl) ?_
                refine lv_iload hx hb dX5_drift_90 (lv_at hl 0 rfl) ?_
                refine gSN C h (kX8_outcomeOf l D ct (((lnA (leX L) (cuX S) j i) + (L i j)) + (lnB n (leX L) (cuX S) j i))) ⟨va_cnB 1 C.2.2.2.2 (gInN q498) rfl rfl rfl hX.1 (C.2.2.2.2 _ (gWs_in q57)) hdX8_outcomeOf ⟨Nat.le_of_ble_eq_true rfl, Nat.le_of_ble_eq_true rfl⟩, C.2.2.2.2 _ (gWs_in q497), trivial⟩ rfl hl.1 rfl (Nat.le_of_ble_eq_true rfl) dX5_drift_92 ⟨Nat.zero_le _, Nat.zero_le _⟩ (fun H ll h => ?_)
                refine gist C h (11 + i) (wRS_row aR a ct _ _ _ (by omega)) (j := j) (by omega) (by decide) dX5_drift_95 (fun H ll h => ?_)
                have h := h.to (wRS_rset aR a ct _ _ _ (by omega) _)
                have h : gW D ct zA zs _ _ (wRS aR a ct R S (va_up L3 i (upd (L3 i) j (sgn (((lnA (leX L) (cuX S) j i) + (L i j)) + (lnB n (leX L) (cuX S) j i)))))) := h
                refine lv_iload hx hb dX5_drift_96 (lv_at hl 2 rfl) ?_
                refine lv_istore_n (lv' := [(3, .int (L i j)), (7, .int (((lnA (leX L) (cuX S) j i) + (L i j)) + (lnB n (leX L) (cuX S) j i))), (6, .int (lnA (leX L) (cuX S) j i)), (5, .int (L i j)), (4, .int (nI j)), (2, .int (nI i)), (0, .ref (aR 0)), (1, .ref (a 0))]) hx hb dX5_drift_98 rfl hl (by decide) rfl (fun ls hl => ?_)
                refine ninc (lv' := [(4, .int (nI (j + 1))), (3, .int (L i j)), (7, .int (((lnA (leX L) (cuX S) j i) + (L i j)) + (lnB n (leX L) (cuX S) j i))), (6, .int (lnA (leX L) (cuX S) j i)), (5, .int (L i j)), (2, .int (nI i)), (0, .ref (aR 0)), (1, .ref (a 0))]) hx hb j 1 dX5_drift_99 hl (k := 4) rfl (by decide) rfl (fun ls hl => ?_)
                refine lv_goto (tgt := 12) hx hb dX5_drift_102 (by decide) ?_
                exact ih12 _ (by omega) (j + 1) (va_up L3 i (upd (L3 i) j (sgn (((lnA (leX L) (cuX S) j i) + (L i j)) + (lnB n (leX L) (cuX S) j i))))) (L i j) _ _ _ rfl (by omega) (drift_step (by omega) (by omega) hL (by unfold dfX; rw [if_pos ⟨by omega, by omega⟩]; unfold drX; rw [if_pos ⟨c_67, by rw [hk_76]; decide⟩])) (by rw [if_pos (by omega)]; rfl) h (lv_sub hl [0, 1, 5, 6, 7] rfl)
              · refine gasr (z := aR 7) (by rw [hk_76]) ?_
                refine gUi C h (kX3_driftsAlong_7 l D ct (aR 7) ) (va_cwU 0 C.2.2.2.2 (gInU q515 q518 q524 q516 q60 q525) rfl rfl rfl rfl hdX3_driftsAlong ⟨Nat.le_of_ble_eq_true rfl, Nat.le_of_ble_eq_true rfl⟩) 7 rfl rfl rfl (fr_RS_K4 aR a ct _ _ _) rfl hl.1 rfl (Nat.le_of_ble_eq_true rfl) dX5_drift_76 ⟨Nat.zero_le _, Nat.zero_le _⟩ (fun H ll h => ?_)
                have h : gW D ct zA zs _ _ (wRS aR a ct R S L3) := h
                refine lv_if_eq (tgt := 96) hx hb dX5_drift_79 (by decide) (fun q => absurd q (by decide)) (fun _ => ?_)
                refine lv_aload_n hx hb dX5_drift_82 rfl (lv_at hl 7 rfl) ?_
                refine gget C h igX6 8 rfl rfl 1 (by decide) q165 rfl rfl dX5_drift_83 ?_
                refine lv_iload_n hx hb dX5_drift_86 rfl (lv_at hl 5 rfl) ?_
                refine gald C h 10 4 rfl rfl rfl (j := i) (b := a (3 + i)) (by omega) (by decide) (if_pos (by omega)) dX5_drift_87 ?_
                refine lv_iload hx hb dX5_drift_88 (lv_at hl 3 rfl) ?_
                refine lv_iload hx hb dX5_drift_90 (lv_at hl 0 rfl) ?_
                refine gSN C h (kX8_outcomeOf l D ct (((lnA (leX L) (cuX S) j i) + (L i j)) + (lnB n (leX L) (cuX S) j i))) ⟨va_cnB 1 C.2.2.2.2 (gInN q498) rfl rfl rfl hX.1 (C.2.2.2.2 _ (gWs_in q57)) hdX8_outcomeOf ⟨Nat.le_of_ble_eq_true rfl, Nat.le_of_ble_eq_true rfl⟩, C.2.2.2.2 _ (gWs_in q497), trivial⟩ rfl hl.1 rfl (Nat.le_of_ble_eq_true rfl) dX5_drift_92 ⟨Nat.zero_le _, Nat.zero_le _⟩ (fun H ll h => ?_)
                refine gist C h (11 + i) (wRS_row aR a ct _ _ _ (by omega)) (j := j) (by omega) (by decide) dX5_drift_95 (fun H ll h => ?_)
                have h := h.to (wRS_rset aR a ct _ _ _ (by omega) _)
                have h : gW D ct zA zs _ _ (wRS aR a ct R S (va_up L3 i (upd (L3 i) j (sgn (((lnA (leX L) (cuX S) j i) + (L i j)) + (lnB n (leX L) (cuX S) j i)))))) := h
                refine lv_iload hx hb dX5_drift_96 (lv_at hl 2 rfl) ?_
                refine lv_istore_n (lv' := [(3, .int (L i j)), (7, .int (((lnA (leX L) (cuX S) j i) + (L i j)) + (lnB n (leX L) (cuX S) j i))), (6, .int (lnA (leX L) (cuX S) j i)), (5, .int (L i j)), (4, .int (nI j)), (2, .int (nI i)), (0, .ref (aR 0)), (1, .ref (a 0))]) hx hb dX5_drift_98 rfl hl (by decide) rfl (fun ls hl => ?_)
                refine ninc (lv' := [(4, .int (nI (j + 1))), (3, .int (L i j)), (7, .int (((lnA (leX L) (cuX S) j i) + (L i j)) + (lnB n (leX L) (cuX S) j i))), (6, .int (lnA (leX L) (cuX S) j i)), (5, .int (L i j)), (2, .int (nI i)), (0, .ref (aR 0)), (1, .ref (a 0))]) hx hb j 1 dX5_drift_99 hl (k := 4) rfl (by decide) rfl (fun ls hl => ?_)
                refine lv_goto (tgt := 12) hx hb dX5_drift_102 (by decide) ?_
                exact ih12 _ (by omega) (j + 1) (va_up L3 i (upd (L3 i) j (sgn (((lnA (leX L) (cuX S) j i) + (L i j)) + (lnB n (leX L) (cuX S) j i))))) (L i j) _ _ _ rfl (by omega) (drift_step (by omega) (by omega) hL (by unfold dfX; rw [if_pos ⟨by omega, by omega⟩]; unfold drX; rw [if_pos ⟨c_67, by rw [hk_76]; decide⟩])) (by rw [if_pos (by omega)]; rfl) h (lv_sub hl [0, 1, 5, 6, 7] rfl)
          · refine lv_iload_n hx hb dX5_drift_42 rfl (lv_at hl 2 rfl) ?_
            refine lv_goto (tgt := 47) hx hb dX5_drift_43 (by decide) ?_
            refine gas (z := lnA (leX L) (cuX S) j i) (lnA_of hla (Or.inl ⟨c_39, rfl⟩)) ?_
            refine lv_istore (lv' := [(6, .int (lnA (leX L) (cuX S) j i)), (5, .int (L i j)), (4, .int (nI j)), (3, .int la), (2, .int (nI i)), (0, .ref (aR 0)), (1, .ref (a 0))]) hx hb dX5_drift_47 hl (by decide) rfl (fun ls hl => ?_)
            refine lv_iload hx hb dX5_drift_49 (lv_at hl 0 rfl) ?_
            refine lv_iload hx hb dX5_drift_51 (lv_at hl 1 rfl) ?_
            refine lv_iadd hx hb dX5_drift_53 ?_
            refine lv_aload_n hx hb dX5_drift_54 rfl (lv_at hl 5 rfl) ?_
            refine lv_aload_n hx hb dX5_drift_55 rfl (lv_at hl 6 rfl) ?_
            refine lv_iload hx hb dX5_drift_56 (lv_at hl 2 rfl) ?_
            refine lv_iload_n hx hb dX5_drift_58 rfl (lv_at hl 4 rfl) ?_
            refine gcallVi C h trivial gNo_ok (kX5_leanBehind l D ct aR a R S L3 n kd hok j i (by omega) (by omega)) (cwV 3 C.2.2.2.2 (gInV q392 q394 q2 q59 q395) rfl rfl rfl hvX5_leanBehind ⟨Nat.le_of_ble_eq_true rfl, Nat.le_of_ble_eq_true rfl⟩) 0 rfl rfl rfl rfl hl.1 rfl (Nat.le_of_ble_eq_true rfl) dX5_drift_59 ⟨Nat.zero_le _, Nat.zero_le _⟩ (fun r9 u9 H ll hw h => ?_)
            have hw : r9 = lnB n (leX L3) (cuX S) j i := hw
            subst hw
            have h : gW D ct zA zs _ _ (wRS aR a ct R S L3) := h
            refine gas (z := lnB n (leX L) (cuX S) j i) (lnB_eq (by rw [hL i (j + 1), if_neg (by omega)])) ?_
            refine lv_iadd hx hb dX5_drift_62 ?_
            refine lv_istore (lv' := [(7, .int (((lnA (leX L) (cuX S) j i) + (L i j)) + (lnB n (leX L) (cuX S) j i))), (6, .int (lnA (leX L) (cuX S) j i)), (5, .int (L i j)), (4, .int (nI j)), (3, .int la), (2, .int (nI i)), (0, .ref (aR 0)), (1, .ref (a 0))]) hx hb dX5_drift_63 hl (by decide) rfl (fun ls hl => ?_)
            refine lv_iload hx hb dX5_drift_65 (lv_at hl 0 rfl) ?_
            refine lv_if_eq (tgt := 96) hx hb dX5_drift_67 (by decide) (fun c_67 => ?_) (fun c_67 => ?_)
            · refine lv_iload hx hb dX5_drift_96 (lv_at hl 2 rfl) ?_
              refine lv_istore_n (lv' := [(3, .int (L i j)), (7, .int (((lnA (leX L) (cuX S) j i) + (L i j)) + (lnB n (leX L) (cuX S) j i))), (6, .int (lnA (leX L) (cuX S) j i)), (5, .int (L i j)), (4, .int (nI j)), (2, .int (nI i)), (0, .ref (aR 0)), (1, .ref (a 0))]) hx hb dX5_drift_98 rfl hl (by decide) rfl (fun ls hl => ?_)
              refine ninc (lv' := [(4, .int (nI (j + 1))), (3, .int (L i j)), (7, .int (((lnA (leX L) (cuX S) j i) + (L i j)) + (lnB n (leX L) (cuX S) j i))), (6, .int (lnA (leX L) (cuX S) j i)), (5, .int (L i j)), (2, .int (nI i)), (0, .ref (aR 0)), (1, .ref (a 0))]) hx hb j 1 dX5_drift_99 hl (k := 4) rfl (by decide) rfl (fun ls hl => ?_)
              refine lv_goto (tgt := 12) hx hb dX5_drift_102 (by decide) ?_
              exact ih12 _ (by omega) (j + 1) L3 (L i j) _ _ _ rfl (by omega) (drift_same hL (by unfold dfX; rw [if_pos ⟨by omega, by omega⟩]; unfold drX; rw [if_neg (fun h9 => h9.1 c_67)])) (by rw [if_pos (by omega)]; rfl) h (lv_sub hl [0, 1, 5, 6, 7] rfl)
            · refine lv_aload_n hx hb dX5_drift_70 rfl (lv_at hl 6 rfl) ?_
              refine lv_iload hx hb dX5_drift_71 (lv_at hl 3 rfl) ?_
              refine gFq C h trivial gNo_ok (kX5_kindOf l D ct aR R n kd hok j (by omega)) (cwV 1 C.2.2.2.2 (gInV q396 q397 q398 q59 q399) rfl rfl rfl hvX5_kindOf ⟨Nat.le_of_ble_eq_true rfl, Nat.le_of_ble_eq_true rfl⟩) 0 rfl rfl rfl (fr_RS_R aR a ct _ _ _) rfl hl.1 rfl (Nat.le_of_ble_eq_true rfl) dX5_drift_73 ⟨Nat.zero_le _, Nat.zero_le _⟩ (fun H ll h => ?_)
              have h : gW D ct zA zs _ _ (wRS aR a ct R S L3) := h
              rcases (show kd j = 0 ∨ kd j = 1 ∨ kd j = 2 ∨ kd j = 3 ∨ kd j = 4 by have := hung_lt hok (m := j) (by omega); omega) with hk_76 | hk_76 | hk_76 | hk_76 | hk_76
              · refine gasr (z := aR 3) (by rw [hk_76]) ?_
                refine gFi C h trivial gNo_ok (kX3_driftsAlong_3 l D ct (aR 3) ) (cwV 0 C.2.2.2.2 (gInV q515 q516 q517 q60 q525) rfl rfl rfl hvX3_driftsAlong ⟨Nat.le_of_ble_eq_true rfl, Nat.le_of_ble_eq_true rfl⟩) 3 rfl rfl rfl (fr_RS_K0 aR a ct _ _ _) rfl hl.1 rfl (Nat.le_of_ble_eq_true rfl) dX5_drift_76 ⟨Nat.zero_le _, Nat.zero_le _⟩ (fun r9 u9 H ll hw h => ?_)
                subst hw
                have h : gW D ct zA zs _ _ (wRS aR a ct R S L3) := h
                refine lv_if_eq (tgt := 96) hx hb dX5_drift_79 (by decide) (fun q => absurd q (by decide)) (fun _ => ?_)
                refine lv_aload_n hx hb dX5_drift_82 rfl (lv_at hl 7 rfl) ?_
                refine gget C h igX6 8 rfl rfl 1 (by decide) q165 rfl rfl dX5_drift_83 ?_
                refine lv_iload_n hx hb dX5_drift_86 rfl (lv_at hl 5 rfl) ?_
                refine gald C h 10 4 rfl rfl rfl (j := i) (b := a (3 + i)) (by omega) (by decide) (if_pos (by omega)) dX5_drift_87 ?_
                refine lv_iload hx hb dX5_drift_88 (lv_at hl 3 rfl) ?_
                refine lv_iload hx hb dX5_drift_90 (lv_at hl 0 rfl) ?_
                refine gSN C h (kX8_outcomeOf l D ct (((lnA (leX L) (cuX S) j i) + (L i j)) + (lnB n (leX L) (cuX S) j i))) ⟨va_cnB 1 C.2.2.2.2 (gInN q498) rfl rfl rfl hX.1 (C.2.2.2.2 _ (gWs_in q57)) hdX8_outcomeOf ⟨Nat.le_of_ble_eq_true rfl, Nat.le_of_ble_eq_true rfl⟩, C.2.2.2.2 _ (gWs_in q497), trivial⟩ rfl hl.1 rfl (Nat.le_of_ble_eq_true rfl) dX5_drift_92 ⟨Nat.zero_le _, Nat.zero_le _⟩ (fun H ll h => ?_)
                refine gist C h (11 + i) (wRS_row aR a ct _ _ _ (by omega)) (j := j) (by omega) (by decide) dX5_drift_95 (fun H ll h => ?_)
                have h := h.to (wRS_rset aR a ct _ _ _ (by omega) _)
                have h : gW D ct zA zs _ _ (wRS aR a ct R S (va_up L3 i (upd (L3 i) j (sgn (((lnA (leX L) (cuX S) j i) + (L i j)) + (lnB n (leX L) (cuX S) j i)))))) := h
                refine lv_iload hx hb dX5_drift_96 (lv_at hl 2 rfl) ?_
                refine lv_istore_n (lv' := [(3, .int (L i j)), (7, .int (((lnA (leX L) (cuX S) j i) + (L i j)) + (lnB n (leX L) (cuX S) j i))), (6, .int (lnA (leX L) (cuX S) j i)), (5, .int (L i j)), (4, .int (nI j)), (2, .int (nI i)), (0, .ref (aR 0)), (1, .ref (a 0))]) hx hb dX5_drift_98 rfl hl (by decide) rfl (fun ls hl => ?_)
                refine ninc (lv' := [(4, .int (nI (j + 1))), (3, .int (L i j)), (7, .int (((lnA (leX L) (cuX S) j i) + (L i j)) + (lnB n (leX L) (cuX S) j i))), (6, .int (lnA (leX L) (cuX S) j i)), (5, .int (L i j)), (2, .int (nI i)), (0, .ref (aR 0)), (1, .ref (a 0))]) hx hb j 1 dX5_drift_99 hl (k := 4) rfl (by decide) rfl (fun ls hl => ?_)
                refine lv_goto (tgt := 12) hx hb dX5_drift_102 (by decide) ?_
                exact ih12 _ (by omega) (j + 1) (va_up L3 i (upd (L3 i) j (sgn (((lnA (leX L) (cuX S) j i) + (L i j)) + (lnB n (leX L) (cuX S) j i))))) (L i j) _ _ _ rfl (by omega) (drift_step (by omega) (by omega) hL (by unfold dfX; rw [if_pos ⟨by omega, by omega⟩]; unfold drX; rw [if_pos ⟨c_67, by rw [hk_76]; decide⟩])) (by rw [if_pos (by omega)]; rfl) h (lv_sub hl [0, 1, 5, 6, 7] rfl)
              · refine gasr (z := aR 4) (by rw [hk_76]) ?_
                refine gUi C h (kX3_driftsAlong_1 l D ct (aR 4) ) (va_cwU 0 C.2.2.2.2 (gInU q515 q518 q522 q516 q60 q525) rfl rfl rfl rfl hdX3_driftsAlong ⟨Nat.le_of_ble_eq_true rfl, Nat.le_of_ble_eq_true rfl⟩) 4 rfl rfl rfl (fr_RS_K1 aR a ct _ _ _) rfl hl.1 rfl (Nat.le_of_ble_eq_true rfl) dX5_drift_76 ⟨Nat.zero_le _, Nat.zero_le _⟩ (fun H ll h => ?_)
                have h : gW D ct zA zs _ _ (wRS aR a ct R S L3) := h
                refine lv_if_eq (tgt := 96) hx hb dX5_drift_79 (by decide) (fun q => absurd q (by decide)) (fun _ => ?_)
                refine lv_aload_n hx hb dX5_drift_82 rfl (lv_at hl 7 rfl) ?_
                refine gget C h igX6 8 rfl rfl 1 (by decide) q165 rfl rfl dX5_drift_83 ?_
                refine lv_iload_n hx hb dX5_drift_86 rfl (lv_at hl 5 rfl) ?_
                refine gald C h 10 4 rfl rfl rfl (j := i) (b := a (3 + i)) (by omega) (by decide) (if_pos (by omega)) dX5_drift_87 ?_
                refine lv_iload hx hb dX5_drift_88 (lv_at hl 3 rfl) ?_
                refine lv_iload hx hb dX5_drift_90 (lv_at hl 0 rfl) ?_
                refine gSN C h (kX8_outcomeOf l D ct (((lnA (leX L) (cuX S) j i) + (L i j)) + (lnB n (leX L) (cuX S) j i))) ⟨va_cnB 1 C.2.2.2.2 (gInN q498) rfl rfl rfl hX.1 (C.2.2.2.2 _ (gWs_in q57)) hdX8_outcomeOf ⟨Nat.le_of_ble_eq_true rfl, Nat.le_of_ble_eq_true rfl⟩, C.2.2.2.2 _ (gWs_in q497), trivial⟩ rfl hl.1 rfl (Nat.le_of_ble_eq_true rfl) dX5_drift_92 ⟨Nat.zero_le _, Nat.zero_le _⟩ (fun H ll h => ?_)
                refine gist C h (11 + i) (wRS_row aR a ct _ _ _ (by omega)) (j := j) (by omega) (by decide) dX5_drift_95 (fun H ll h => ?_)
                have h := h.to (wRS_rset aR a ct _ _ _ (by omega) _)
                have h : gW D ct zA zs _ _ (wRS aR a ct R S (va_up L3 i (upd (L3 i) j (sgn (((lnA (leX L) (cuX S) j i) + (L i j)) + (lnB n (leX L) (cuX S) j i)))))) := h
                refine lv_iload hx hb dX5_drift_96 (lv_at hl 2 rfl) ?_
                refine lv_istore_n (lv' := [(3, .int (L i j)), (7, .int (((lnA (leX L) (cuX S) j i) + (L i j)) + (lnB n (leX L) (cuX S) j i))), (6, .int (lnA (leX L) (cuX S) j i)), (5, .int (L i j)), (4, .int (nI j)), (2, .int (nI i)), (0, .ref (aR 0)), (1, .ref (a 0))]) hx hb dX5_drift_98 rfl hl (by decide) rfl (fun ls hl => ?_)
                refine ninc (lv' := [(4, .int (nI (j + 1))), (3, .int (L i j)), (7, .int (((lnA (leX L) (cuX S) j i) + (L i j)) + (lnB n (leX L) (cuX S) j i))), (6, .int (lnA (leX L) (cuX S) j i)), (5, .int (L i j)), (2, .int (nI i)), (0, .ref (aR 0)), (1, .ref (a 0))]) hx hb j 1 dX5_drift_99 hl (k := 4) rfl (by decide) rfl (fun ls hl => ?_)
                refine lv_goto (tgt := 12) hx hb dX5_drift_102 (by decide) ?_
                exact ih12 _ (by omega) (j + 1) (va_up L3 i (upd (L3 i) j (sgn (((lnA (leX L) (cuX S) j i) + (L i j)) + (lnB n (leX L) (cuX S) j i))))) (L i j) _ _ _ rfl (by omega) (drift_step (by omega) (by omega) hL (by unfold dfX; rw [if_pos ⟨by omega, by omega⟩]; unfold drX; rw [if_pos ⟨c_67, by rw [hk_76]; decide⟩])) (by rw [if_pos (by omega)]; rfl) h (lv_sub hl [0, 1, 5, 6, 7] rfl)
              · refine gasr (z := aR 5) (by rw [hk_76]) ?_
                refine gUi C h (kX0_driftsAlong l D ct (aR 5) ) (va_cwO 0 C.2.2.2.2 (gInO q515 q518 q516 q519 q520 q62 q521) rfl rfl rfl (gWs_in q525) hdX3_driftsAlong ⟨Nat.le_of_ble_eq_true rfl, Nat.le_of_ble_eq_true rfl⟩) 5 rfl rfl rfl (fr_RS_K2 aR a ct _ _ _) rfl hl.1 rfl (Nat.le_of_ble_eq_true rfl) dX5_drift_76 ⟨Nat.zero_le _, Nat.zero_le _⟩ (fun H ll h => ?_)
                have h : gW D ct zA zs _ _ (wRS aR a ct R S L3) := h
                refine lv_if_eq (tgt := 96) hx hb dX5_drift_79 (by decide) (fun _ => ?_) (fun q => absurd (by decide) q)
                refine lv_iload hx hb dX5_drift_96 (lv_at hl 2 rfl) ?_
                refine lv_istore_n (lv' := [(3, .int (L i j)), (7, .int (((lnA (leX L) (cuX S) j i) + (L i j)) + (lnB n (leX L) (cuX S) j i))), (6, .int (lnA (leX L) (cuX S) j i)), (5, .int (L i j)), (4, .int (nI j)), (2, .int (nI i)), (0, .ref (aR 0)), (1, .ref (a 0))]) hx hb dX5_drift_98 rfl hl (by decide) rfl (fun ls hl => ?_)
                refine ninc (lv' := [(4, .int (nI (j + 1))), (3, .int (L i j)), (7, .int (((lnA (leX L) (cuX S) j i) + (L i j)) + (lnB n (leX L) (cuX S) j i))), (6, .int (lnA (leX L) (cuX S) j i)), (5, .int (L i j)), (2, .int (nI i)), (0, .ref (aR 0)), (1, .ref (a 0))]) hx hb j 1 dX5_drift_99 hl (k := 4) rfl (by decide) rfl (fun ls hl => ?_)
                refine lv_goto (tgt := 12) hx hb dX5_drift_102 (by decide) ?_
                exact ih12 _ (by omega) (j + 1) L3 (L i j) _ _ _ rfl (by omega) (drift_same hL (by unfold dfX; rw [if_pos ⟨by omega, by omega⟩]; unfold drX; rw [if_neg (fun h9 => h9.2 hk_76)])) (by rw [if_pos (by omega)]; rfl) h (lv_sub hl [0, 1, 5, 6, 7] rfl)
              · refine gasr (z := aR 6) (by rw [hk_76]) ?_
                refine gUi C h (kX3_driftsAlong_2 l D ct (aR 6) ) (va_cwU 0 C.2.2.2.2 (gInU q515 q518 q523 q516 q60 q525) rfl rfl rfl rfl hdX3_driftsAlong ⟨Nat.le_of_ble_eq_true rfl, Nat.le_of_ble_eq_true rfl⟩) 6 rfl rfl rfl (fr_RS_K3 aR a ct _ _ _) rfl hl.1 rfl (Nat.le_of_ble_eq_true rfl) dX5_drift_76 ⟨Nat.zero_le _, Nat.zero_le _⟩ (fun H ll h => ?_)
                have h : gW D ct zA zs _ _ (wRS aR a ct R S L3) := h
                refine lv_if_eq (tgt := 96) hx hb dX5_drift_79 (by decide) (fun q => absurd q (by decide)) (fun _ => ?_)
                refine lv_aload_n hx hb dX5_drift_82 rfl (lv_at hl 7 rfl) ?_
                refine gget C h igX6 8 rfl rfl 1 (by decide) q165 rfl rfl dX5_drift_83 ?_
                refine lv_iload_n hx hb dX5_drift_86 rfl (lv_at hl 5 rfl) ?_
                refine gald C h 10 4 rfl rfl rfl (j := i) (b := a (3 + i)) (by omega) (by decide) (if_pos (by omega)) dX5_drift_87 ?_
                refine lv_iload hx hb dX5_drift_88 (lv_at hl 3 rfl) ?_
                refine lv_iload hx hb dX5_drift_90 (lv_at hl 0 rfl) ?_
                refine gSN C h (kX8_outcomeOf l D ct (((lnA (leX L) (cuX S) j i) + (L i j)) + (lnB n (leX L) (cuX S) j i))) ⟨va_cnB 1 C.2.2.2.2 (gInN q498) rfl rfl rfl hX.1 (C.2.2.2.2 _ (gWs_in q57)) hdX8_outcomeOf ⟨Nat.le_of_ble_eq_true rfl, Nat.le_of_ble_eq_true rfl⟩, C.2.2.2.2 _ (gWs_in q497), trivial⟩ rfl hl.1 rfl (Nat.le_of_ble_eq_true rfl) dX5_drift_92 ⟨Nat.zero_le _, Nat.zero_le _⟩ (fun H ll h => ?_)
                refine gist C h (11 + i) (wRS_row aR a ct _ _ _ (by omega)) (j := j) (by omega) (by decide) dX5_drift_95 (fun H ll h => ?_)
                have h := h.to (wRS_rset aR a ct _ _ _ (by omega) _)
                have h : gW D ct zA zs _ _ (wRS aR a ct R S (va_up L3 i (upd (L3 i) j (sgn (((lnA (leX L) (cuX S) j i) + (L i j)) + (lnB n (leX L) (cuX S) j i)))))) := h
                refine lv_iload hx hb dX5_drift_96 (lv_at hl 2 rfl) ?_
                refine lv_istore_n (lv' := [(3, .int (L i j)), (7, .int (((lnA (leX L) (cuX S) j i) + (L i j)) + (lnB n (leX L) (cuX S) j i))), (6, .int (lnA (leX L) (cuX S) j i)), (5, .int (L i j)), (4, .int (nI j)), (2, .int (nI i)), (0, .ref (aR 0)), (1, .ref (a 0))]) hx hb dX5_drift_98 rfl hl (by decide) rfl (fun ls hl => ?_)
                refine ninc (lv' := [(4, .int (nI (j + 1))), (3, .int (L i j)), (7, .int (((lnA (leX L) (cuX S) j i) + (L i j)) + (lnB n (leX L) (cuX S) j i))), (6, .int (lnA (leX L) (cuX S) j i)), (5, .int (L i j)), (2, .int (nI i)), (0, .ref (aR 0)), (1, .ref (a 0))]) hx hb j 1 dX5_drift_99 hl (k := 4) rfl (by decide) rfl (fun ls hl => ?_)
                refine lv_goto (tgt := 12) hx hb dX5_drift_102 (by decide) ?_
                exact ih12 _ (by omega) (j + 1) (va_up L3 i (upd (L3 i) j (sgn (((lnA (leX L) (cuX S) j i) + (L i j)) + (lnB n (leX L) (cuX S) j i))))) (L i j) _ _ _ rfl (by omega) (drift_step (by omega) (by omega) hL (by unfold dfX; rw [if_pos ⟨by omega, by omega⟩]; unfold drX; rw [if_pos ⟨c_67, by rw [hk_76]; decide⟩])) (by rw [if_pos (by omega)]; rfl) h (lv_sub hl [0, 1, 5, 6, 7] rfl)
              · refine gasr (z := aR 7) (by rw [hk_76]) ?_
                refine gUi C h (kX3_driftsAlong_7 l D ct (aR 7) ) (va_cwU 0 C.2.2.2.2 (gInU q515 q518 q524 q516 q60 q525) rfl rfl rfl rfl hdX3_driftsAlong ⟨Nat.le_of_ble_eq_true rfl, Nat.le_of_ble_eq_true rfl⟩) 7 rfl rfl rfl (fr_RS_K4 aR a ct _ _ _) rfl hl.1 rfl (Nat.le_of_ble_eq_true rfl) dX5_drift_76 ⟨Nat.zero_le _, Nat.zero_le _⟩ (fun H ll h => ?_)
                have h : gW D ct zA zs _ _ (wRS aR a ct R S L3) := h
                refine lv_if_eq (tgt := 96) hx hb dX5_drift_79 (by decide) (fun q => absurd q (by decide)) (fun _ => ?_)
                refine lv_aload_n hx hb dX5_drift_82 rfl (lv_at hl 7 rfl) ?_
                refine gget C h igX6 8 rfl rfl 1 (by decide) q165 rfl rfl dX5_drift_83 ?_
                refine lv_iload_n hx hb dX5_drift_86 rfl (lv_at hl 5 rfl) ?_
                refine gald C h 10 4 rfl rfl rfl (j := i) (b := a (3 + i)) (by omega) (by decide) (if_pos (by omega)) dX5_drift_87 ?_
                refine lv_iload hx hb dX5_drift_88 (lv_at hl 3 rfl) ?_
                refine lv_iload hx hb dX5_drift_90 (lv_at hl 0 rfl) ?_
                refine gSN C h (kX8_outcomeOf l D ct (((lnA (leX L) (cuX S) j i) + (L i j)) + (lnB n (leX L) (cuX S) j i))) ⟨va_cnB 1 C.2.2.2.2 (gInN q498) rfl rfl rfl hX.1 (C.2.2.2.2 _ (gWs_in q57)) hdX8_outcomeOf ⟨Nat.le_of_ble_eq_true rfl, Nat.le_of_ble_eq_true rfl⟩, C.2.2.2.2 _ (gWs_in q497), trivial⟩ rfl hl.1 rfl (Nat.le_of_ble_eq_true rfl) dX5_drift_92 ⟨Nat.zero_le _, Nat.zero_le _⟩ (fun H ll h => ?_)
                refine gist C h (11 + i) (wRS_row aR a ct _ _ _ (by omega)) (j := j) (by omega) (by decide) dX5_drift_95 (fun H ll h => ?_)
                have h := h.to (wRS_rset aR a ct _ _ _ (by omega) _)
                have h : gW D ct zA zs _ _ (wRS aR a ct R S (va_up L3 i (upd (L3 i) j (sgn (((lnA (leX L) (cuX S) j i) + (L i j)) + (lnB n (leX L) (cuX S) j i)))))) := h
                refine lv_iload hx hb dX5_drift_96 (lv_at hl 2 rfl) ?_
                refine lv_istore_n (lv' := [(3, .int (L i j)), (7, .int (((lnA (leX L) (cuX S) j i) + (L i j)) + (lnB n (leX L) (cuX S) j i))), (6, .int (lnA (leX L) (cuX S) j i)), (5, .int (L i j)), (4, .int (nI j)), (2, .int (nI i)), (0, .ref (aR 0)), (1, .ref (a 0))]) hx hb dX5_drift_98 rfl hl (by decide) rfl (fun ls hl => ?_)
                refine ninc (lv' := [(4, .int (nI (j + 1))), (3, .int (L i j)), (7, .int (((lnA (leX L) (cuX S) j i) + (L i j)) + (lnB n (leX L) (cuX S) j i))), (6, .int (lnA (leX L) (cuX S) j i)), (5, .int (L i j)), (2, .int (nI i)), (0, .ref (aR 0)), (1, .ref (a 0))]) hx hb j 1 dX5_drift_99 hl (k := 4) rfl (by decide) rfl (fun ls hl => ?_)
                refine lv_goto (tgt := 12) hx hb dX5_drift_102 (by decide) ?_
                exact ih12 _ (by omega) (j + 1) (va_up L3 i (upd (L3 i) j (sgn (((lnA (leX L) (cuX S) j i) + (L i j)) + (lnB n (leX L) (cuX S) j i))))) (L i j) _ _ _ rfl (by omega) (drift_step (by omega) (by omega) hL (by unfold dfX; rw [if_pos ⟨by omega, by omega⟩]; unfold drX; rw [if_pos ⟨c_67, by rw [hk_76]; decide⟩])) (by rw [if_pos (by omega)]; rfl) h (lv_sub hl [0, 1, 5, 6, 7] rfl)
      exact L12_1 _ 0 L2 0 _ _ _ rfl (by omega) (fun q m => by rw [hL q m]; by_cases h9 : q < i; (rw [if_pos h9, if_pos (Or.inl h9)]); (rw [if_neg h9, if_neg (fun h8 => h8.elim h9 (fun h8 => absurd h8.2 (by omega)))])) rfl h (lv_sub hl [0, 1, 2, 3, 4] rfl)
  exact L2_0 _ 0 L _ _ _ rfl (by omega) (fun q m => by rw [if_neg (by omega)]) h (lv_sub hl [0, 1, 2] rfl)
