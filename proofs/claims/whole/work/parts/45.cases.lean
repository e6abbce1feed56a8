/-! ===== the law's calls ===== -/
theorem gG_tbl : ∀ w ∈ gG, w ∈ lw_tbl := fun w hw => (List.mem_filter.mp hw).1
theorem gInVL {Cn : String} {idx maxL : Nat} {y : MethodName} {bytes : ByteArray} {ret : Option FieldType} (h1 : Cond.methodLink RL idx y ∈ gG) (h2 : Cond.instanceMethod y ∈ gG) (h3 : Cond.selects Cn y y ∈ gG) (h4 : Cond.initialized Cn ∈ gG) (h5 : Cond.code y bytes maxL ret ∈ gG) : GoodIn lw_tbl (wsV RL idx Cn y (gWs y bytes maxL ret)) := gG_good (fun w hw => by
  simp only [wsV, gWs, List.mem_append, List.mem_cons, List.not_mem_nil, or_false] at hw
  rcases hw with (rfl | rfl | rfl | rfl) | rfl | hw <;> assumption) gG_tbl
theorem rng_map2 (wa wb : va_W) : ((List.range wb.length).map (fun i => wa.length + i)).map (fun i => (wa ++ wb)[i]?) = wb.map some := by
  rw [List.map_map]
  apply List.ext_getElem?
  intro i
  rw [List.getElem?_map, List.getElem?_map]
  by_cases h : i < wb.length
  · rw [List.getElem?_range h, Option.map_some]
    show some ((wa ++ wb)[wa.length + i]?) = _
    rw [List.getElem?_append_right (Nat.le_add_right _ _), Nat.add_sub_cancel_left, List.getElem?_eq_getElem h]; rfl
  · rw [List.getElem?_eq_none (by rw [List.length_range]; omega), List.getElem?_eq_none (by omega)]; rfl
theorem nd_shift (k n : Nat) : va_nd ((List.range n).map (fun i => k + i)) = true := nd_of (List.pairwise_map.mpr (List.Pairwise.imp (fun h q => h (Nat.add_left_cancel q)) List.nodup_range))
theorem dis_shift (k n : Nat) : ∀ i ∈ (List.range n).map (fun i => k + i), i ∉ List.range k := fun i hi q => by
  obtain ⟨j, -, rfl⟩ := List.mem_map.mp hi
  have := List.mem_range.mp q
  omega
section LRows
variable {p : Program} {l : Launch} {e : Env} {R : Room} {s : State} {m : MethodId} {args : Array Value} {below : List Frame} {meth : Method} {c : Code} {H : Heap} {ll : List Loc} {cells slots : Nat} {Q : State → Prop}
variable {cc : ByteArray} {pc nL : Nat} {ls : Array Slot} {rest : List Value} {D : va_G} {ct : Nat → ClassId} {A : Nat → Prop} {a : Nat} {ws : va_W} {Ts : List Cond} {own : String}
/-- a call over the first part of the world; what comes of it stands behind the rest -/
theorem hVi {S : Type} {X : gX} {y : MethodName} {bytes : ByteArray} {maxL n idx : Nat} {ret : Option FieldType} {rm : Room} {b : Nat} {As : List Value} {w1 w2 : va_W} {wo : S → va_W} {post : Int32 → S → Prop} {Cn : String} (C : CallFix p m c cc nL s args Ts own) (h : gW D ct A s H ll (w1 ++ w2)) (hX : X A s) (hXo : gXok X) (hM : MI l y (gWs y bytes maxL ret) rm D ct X (.ref b :: As) w1 wo post) (cw : CallW R s args own Cn idx y bytes maxL ret (gWs y bytes maxL ret) rm 0 0 n) {ci : Nat} {fs : List Value} {q : vw_C} (he : w1[0]? = some (b, .inr (ci, fs))) (hc : vwCl[ci]? = some q) (hq : q.1 = Cn) (hn : As.length = n) (hsz : ls.size = nL) {st : List Value} (hst : st = As.reverse ++ .ref b :: rest) (hw : (rest.map fun v => v.category).sum ≤ 8) (hdg : decode cc pc = .ok (.invokevirtual idx, 3)) (hcs : cells ≤ R.cells ∧ slots ≤ R.slots)
    (kk : ∀ (r : Int32) (u : S) (H : Heap) (ll : List Loc), post r u → gW D ct A s H ll (w2 ++ wo u) → W p l e R s m args below meth c H ll cells slots Q (F0 m (pc + 3) ls (.int r :: rest))) : W p l e R s m args below meth c H ll cells slots Q (F0 m pc ls st) := by
  have hC : (List.range w1.length).map (fun i => (w1 ++ w2)[i]?) = w1.map some := rng_map w1 w2
  have hR := rng_map2 w1 w2
  have hPc : va_P D vwCl w1 H := h.2.1.sub _ (gsub hC)
  have hDc : va_D A w1 := h.2.2.1.sub _ (nd_range _) hC
  have hF : ∀ q : Nat, va_A w1 H.size q → A q := va_free h.2.2.1 h.2.2.2.1 h.2.2.2.2 _ hC
  refine va_calli (va_runV C (hM H.size) cw ⟨gBlind hXo, hq ▸ va_recv h.1 hPc hc he, fun U hU hW => ⟨rfl, by rw [hU], by rw [hU]; exact hPc, va_K.moved hW.alike h.1, hDc.weaken (fun _ _ _ _ => trivial), hXo.2 A _ s U hX hW (fun q h1 h2 => by rw [hU]; exact h.2.2.2.1.2.1 q h1 h2) hF⟩⟩ rfl hn hsz hst (lv_room hw) hdg hcs) h.2.2.2.1 (fun q _ hq => hF q hq) hF (fun r u t H1 l1 ht hvm hw1 hB hz1 hk1 hS => ?_)
  have hP1 := hB.1
  rw [ht] at hP1
  obtain ⟨hP2, hD2⟩ := va_join h.2.1 h.2.2.1 (List.range w1.length) _ hC hR (nd_shift _ _) (dis_shift _ _) hk1 hF hP1 hB.2.2
  exact kk r u H1 l1 hw1 ⟨h.1, hP2, hD2, hS, h.2.2.2.2⟩
theorem hVl {S : Type} {X : gX} {y : MethodName} {bytes : ByteArray} {maxL n idx : Nat} {ret : Option FieldType} {rm : Room} {b : Nat} {As : List Value} {w1 w2 : va_W} {wo : S → va_W} {post : Int64 → S → Prop} {Cn : String} (C : CallFix p m c cc nL s args Ts own) (h : gW D ct A s H ll (w1 ++ w2)) (hX : X A s) (hXo : gXok X) (hM : ML l y (gWs y bytes maxL ret) rm D ct X (.ref b :: As) w1 wo post) (cw : CallW R s args own Cn idx y bytes maxL ret (gWs y bytes maxL ret) rm 0 0 n) {ci : Nat} {fs : List Value} {q : vw_C} (he : w1[0]? = some (b, .inr (ci, fs))) (hc : vwCl[ci]? = some q) (hq : q.1 = Cn) (hn : As.length = n) (hsz : ls.size = nL) {st : List Value} (hst : st = As.reverse ++ .ref b :: rest) (hw : (rest.map fun v => v.category).sum ≤ 8) (hdg : decode cc pc = .ok (.invokevirtual idx, 3)) (hcs : cells ≤ R.cells ∧ slots ≤ R.slots)
    (kk : ∀ (r : Int64) (u : S) (H : Heap) (ll : List Loc), post r u → gW D ct A s H ll (w2 ++ wo u) → W p l e R s m args below meth c H ll cells slots Q (F0 m (pc + 3) ls (.long r :: rest))) : W p l e R s m args below meth c H ll cells slots Q (F0 m pc ls st) := by
  have hC : (List.range w1.length).map (fun i => (w1 ++ w2)[i]?) = w1.map some := rng_map w1 w2
  have hR := rng_map2 w1 w2
  have hPc : va_P D vwCl w1 H := h.2.1.sub _ (gsub hC)
  have hDc : va_D A w1 := h.2.2.1.sub _ (nd_range _) hC
  have hF : ∀ q : Nat, va_A w1 H.size q → A q := va_free h.2.2.1 h.2.2.2.1 h.2.2.2.2 _ hC
  refine va_calll (va_runV C (hM H.size) cw ⟨gBlind hXo, hq ▸ va_recv h.1 hPc hc he, fun U hU hW => ⟨rfl, by rw [hU], by rw [hU]; exact hPc, va_K.moved hW.alike h.1, hDc.weaken (fun _ _ _ _ => trivial), hXo.2 A _ s U hX hW (fun q h1 h2 => by rw [hU]; exact h.2.2.2.1.2.1 q h1 h2) hF⟩⟩ rfl hn hsz hst (lv_room hw) hdg hcs) h.2.2.2.1 (fun q _ hq => hF q hq) hF (fun r u t H1 l1 ht hvm hw1 hB hz1 hk1 hS => ?_)
  have hP1 := hB.1
  rw [ht] at hP1
  obtain ⟨hP2, hD2⟩ := va_join h.2.1 h.2.2.1 (List.range w1.length) _ hC hR (nd_shift _ _) (dis_shift _ _) hk1 hF hP1 hB.2.2
  exact kk r u H1 l1 hw1 ⟨h.1, hP2, hD2, hS, h.2.2.2.2⟩
/-- a place of the script -/
theorem lsld (C : CallFix p m c cc nL s args Ts own) (h : gW D ct A s H ll ws) {b L : Nat} {xs : Nat → Int32} (hXs : va_X b L xs s s.heap) (hbl : b < s.heap.size) (hbA : ¬ A b) {j : Nat} (hj : j < L) (hL : L < 2 ^ 31) (hdg : decode cc pc = .ok (.iaload, 1))
    (kk : W p l e R s m args below meth c H ll cells slots Q (F0 m (pc + 1) ls (.int (xs j) :: rest))) : W p l e R s m args below meth c H ll cells slots Q (F0 m pc ls (.int (nI j) :: .ref b :: rest)) := by
  refine va_sld C.1 C.2.1 hXs hbl hbA h.2.2.2.1 (vp_in_nI hj hL) hdg ?_
  rw [nI_clamp (Nat.lt_trans hj hL)]; exact kk
end LRows
/-- what stays while the law runs -/
def LCx (p : Program) (s : State) (m : MethodId) (c : Code) (b L : Nat) (xs : Nat → Int32) (dt : Nat → Nat) (A : Nat → Prop) : Prop := CallFix p m c cL_law 4 s #[Value.ref b] lw_tbl RL ∧ va_X b L xs s s.heap ∧ b < s.heap.size ∧ ¬ A b ∧ L ≤ 2048 ∧ stX dt A s
abbrev lLoc (b x m i : Nat) : List (Nat × Value) := [(0, .ref b), (1, .ref x), (2, .ref m), (3, .int (nI i))]
section LCases
variable {p : Program} {l : Launch} {e : Env} {s : State} {m : MethodId} {below : List Frame} {meth : Method} {c : Code} {H : Heap} {ll : List Loc} {Q : State → Prop} {ls : Array Slot}
variable {D : va_G} {ct : Nat → ClassId} {dt : Nat → Nat} {A : Nat → Prop} {ad : Nat → Nat → Nat} {bd : Nat → Nat} {b L i k : Nat} {xs : Nat → Int32} {σ lm : Nat → Nat → Nat → Int32} {τ : Nat → Int64} {ρ : Nat → Nat → Int32} {θ : Nat → Nat → Int64}
theorem lcmp_self (r : Int64) : lg_cmp r r = 0 := by unfold lg_cmp; simp
theorem lc_letter (X : LCx p s m c b L xs dt A) (hi : i + 3 < L) (hB : k < 2 ^ 20) (hR : Rel k σ lm ρ) (h : gW D ct A s H ll (wX ad ct σ lm τ ++ wM bd ct ρ θ)) (hl : lv_has ls 4 (lLoc b (ad 0 0) (bd 0) i)) (K : ∀ (σ lm : Nat → Nat → Nat → Int32) (τ : Nat → Int64) (ρ : Nat → Nat → Int32) (θ : Nat → Nat → Int64) (H : Heap) (ll : List Loc), Rel (k + 1) σ lm ρ → gW D ct A s H ll (wX ad ct σ lm τ ++ wM bd ct ρ θ) → W p l e room_1 s m #[Value.ref b] below meth c H ll 600000 7302250 Q (F0 m 824 ls [])) : W p l e room_1 s m #[Value.ref b] below meth c H ll 600000 7302250 Q (F0 m 148 ls []) := by
  obtain ⟨C, hXs, hbl, hbA, hL, hst⟩ := X
  have hx := C.1
  have hb := C.2.1
  obtain ⟨PM, hM, hS⟩ := pr_letter l D ct dt ad bd hB (τ := τ) (θ := θ) hR (xs (i + 1))
  refine lv_aload_n hx hb dL_law_148 rfl (lv_at hl 1 rfl) ?_
  refine lv_aload_n hx hb dL_law_149 rfl (lv_at hl 0 rfl) ?_
  refine lv_iload_n hx hb dL_law_150 rfl (lv_at hl 3 rfl) ?_
  refine lv_iconst (v := 1) hx hb dL_law_151 (by decide) ?_
  refine nadd hx hb i 1 dL_law_152 ?_
  refine lsld C h hXs hbl hbA (show i + 1 < L by omega) (by omega) dL_law_153 ?_
  refine hVi C h hst (stX_ok dt) hS (cwV 1 C.2.2.2.2 (gInVL q239 q240 q241 q57 q242) rfl rfl rfl hvX8_letter ⟨Nat.le_of_ble_eq_true rfl, Nat.le_of_ble_eq_true rfl⟩) rfl rfl rfl rfl hl.1 rfl (Nat.le_of_ble_eq_true rfl) dL_law_154 ⟨Nat.le_refl _, Nat.le_refl _⟩ (fun r8 u8 H ll hp8 h => ?_)
  have h : gW D ct A s H ll (wM bd ct ρ θ ++ wX ad ct u8.1 u8.2.1 u8.2.2) := h
  refine lv_aload_n hx hb dL_law_157 rfl (lv_at hl 2 rfl) ?_
  refine lv_aload_n hx hb dL_law_158 rfl (lv_at hl 0 rfl) ?_
  refine lv_iload_n hx hb dL_law_159 rfl (lv_at hl 3 rfl) ?_
  refine lv_iconst (v := 1) hx hb dL_law_160 (by decide) ?_
  refine nadd hx hb i 1 dL_law_161 ?_
  refine lsld C h hXs hbl hbA (show i + 1 < L by omega) (by omega) dL_law_162 ?_
  refine hVi C h trivial gNo_ok hM (cwV 1 C.2.2.2.2 (gInVL q813 q814 q815 q66 q816) rfl rfl rfl hvX9_letter ⟨Nat.le_of_ble_eq_true rfl, Nat.le_of_ble_eq_true rfl⟩) rfl rfl rfl rfl hl.1 rfl (Nat.le_of_ble_eq_true rfl) dL_law_163 ⟨Nat.le_refl _, Nat.le_refl _⟩ (fun r9 u9 H ll hp9 h => ?_)
  have h : gW D ct A s H ll (wX ad ct u8.1 u8.2.1 u8.2.2 ++ wM bd ct u9.1 u9.2) := h
  obtain ⟨er, hR2⟩ := hp8 r9 u9 hp9
  refine lv_icmp_eq (tgt := 824) hx hb dL_law_166 (by decide) (fun _ => ?_) (fun q => absurd er q)
  exact K _ _ _ _ _ _ _ hR2 h
theorem lc_blank (X : LCx p s m c b L xs dt A) (hi : i + 3 < L) (hB : k < 2 ^ 20) (hR : Rel k σ lm ρ) (h : gW D ct A s H ll (wX ad ct σ lm τ ++ wM bd ct ρ θ)) (hl : lv_has ls 4 (lLoc b (ad 0 0) (bd 0) i)) (K : ∀ (σ lm : Nat → Nat → Nat → Int32) (τ : Nat → Int64) (ρ : Nat → Nat → Int32) (θ : Nat → Nat → Int64) (H : Heap) (ll : List Loc), Rel (k + 1) σ lm ρ → gW D ct A s H ll (wX ad ct σ lm τ ++ wM bd ct ρ θ) → W p l e room_1 s m #[Value.ref b] below meth c H ll 600000 7302250 Q (F0 m 824 ls [])) : W p l e room_1 s m #[Value.ref b] below meth c H ll 600000 7302250 Q (F0 m 171 ls []) := by
  obtain ⟨C, hXs, hbl, hbA, hL, hst⟩ := X
  have hx := C.1
  have hb := C.2.1
  obtain ⟨PM, hM, hS⟩ := pr_blank l D ct dt ad bd hB (τ := τ) (θ := θ) hR
  refine lv_aload_n hx hb dL_law_171 rfl (lv_at hl 1 rfl) ?_
  refine hVi C h hst (stX_ok dt) hS (cwV 0 C.2.2.2.2 (gInVL q243 q244 q245 q57 q246) rfl rfl rfl hvX8_blank ⟨Nat.le_of_ble_eq_true rfl, Nat.le_of_ble_eq_true rfl⟩) rfl rfl rfl rfl hl.1 rfl (Nat.le_of_ble_eq_true rfl) dL_law_172 ⟨Nat.le_refl _, Nat.le_refl _⟩ (fun r8 u8 H ll hp8 h => ?_)
  have h : gW D ct A s H ll (wM bd ct ρ θ ++ wX ad ct u8.1 u8.2.1 u8.2.2) := h
  refine lv_aload_n hx hb dL_law_175 rfl (lv_at hl 2 rfl) ?_
  refine hVi C h trivial gNo_ok hM (cwV 0 C.2.2.2.2 (gInVL q820 q821 q822 q66 q823) rfl rfl rfl hvX9_blank ⟨Nat.le_of_ble_eq_true rfl, Nat.le_of_ble_eq_true rfl⟩) rfl rfl rfl rfl hl.1 rfl (Nat.le_of_ble_eq_true rfl) dL_law_176 ⟨Nat.le_refl _, Nat.le_refl _⟩ (fun r9 u9 H ll hp9 h => ?_)
  have h : gW D ct A s H ll (wX ad ct u8.1 u8.2.1 u8.2.2 ++ wM bd ct u9.1 u9.2) := h
  obtain ⟨er, hR2⟩ := hp8 r9 u9 hp9
  refine lv_icmp_eq (tgt := 824) hx hb dL_law_179 (by decide) (fun _ => ?_) (fun q => absurd er q)
  exact K _ _ _ _ _ _ _ hR2 h
theorem lc_fault (X : LCx p s m c b L xs dt A) (hi : i + 3 < L) (hB : k < 2 ^ 20) (hR : Rel k σ lm ρ) (h : gW D ct A s H ll (wX ad ct σ lm τ ++ wM bd ct ρ θ)) (hl : lv_has ls 4 (lLoc b (ad 0 0) (bd 0) i)) (K : ∀ (σ lm : Nat → Nat → Nat → Int32) (τ : Nat → Int64) (ρ : Nat → Nat → Int32) (θ : Nat → Nat → Int64) (H : Heap) (ll : List Loc), Rel (k + 1) σ lm ρ → gW D ct A s H ll (wX ad ct σ lm τ ++ wM bd ct ρ θ) → W p l e room_1 s m #[Value.ref b] below meth c H ll 600000 7302250 Q (F0 m 824 ls [])) : W p l e room_1 s m #[Value.ref b] below meth c H ll 600000 7302250 Q (F0 m 184 ls []) := by
  obtain ⟨C, hXs, hbl, hbA, hL, hst⟩ := X
  have hx := C.1
  have hb := C.2.1
  obtain ⟨PM, hM, hS⟩ := pr_fault l D ct dt ad bd hB (τ := τ) (θ := θ) hR
  refine lv_aload_n hx hb dL_law_184 rfl (lv_at hl 1 rfl) ?_
  refine hVi C h hst (stX_ok dt) hS (cwV 0 C.2.2.2.2 (gInVL q247 q248 q249 q57 q250) rfl rfl rfl hvX8_fault ⟨Nat.le_of_ble_eq_true rfl, Nat.le_of_ble_eq_true rfl⟩) rfl rfl rfl rfl hl.1 rfl (Nat.le_of_ble_eq_true rfl) dL_law_185 ⟨Nat.le_refl _, Nat.le_refl _⟩ (fun r8 u8 H ll hp8 h => ?_)
  have h : gW D ct A s H ll (wM bd ct ρ θ ++ wX ad ct u8.1 u8.2.1 u8.2.2) := h
  refine lv_aload_n hx hb dL_law_188 rfl (lv_at hl 2 rfl) ?_
  refine hVi C h trivial gNo_ok hM (cwV 0 C.2.2.2.2 (gInVL q824 q825 q826 q66 q827) rfl rfl rfl hvX9_fault ⟨Nat.le_of_ble_eq_true rfl, Nat.le_of_ble_eq_true rfl⟩) rfl rfl rfl rfl hl.1 rfl (Nat.le_of_ble_eq_true rfl) dL_law_189 ⟨Nat.le_refl _, Nat.le_refl _⟩ (fun r9 u9 H ll hp9 h => ?_)
  have h : gW D ct A s H ll (wX ad ct u8.1 u8.2.1 u8.2.2 ++ wM bd ct u9.1 u9.2) := h
  obtain ⟨er, hR2⟩ := hp8 r9 u9 hp9
  refine lv_icmp_eq (tgt := 824) hx hb dL_law_192 (by decide) (fun _ => ?_) (fun q => absurd er q)
  exact K _ _ _ _ _ _ _ hR2 h
theorem lc_rope (X : LCx p s m c b L xs dt A) (hi : i + 3 < L) (hB : k < 2 ^ 20) (hR : Rel k σ lm ρ) (h : gW D ct A s H ll (wX ad ct σ lm τ ++ wM bd ct ρ θ)) (hl : lv_has ls 4 (lLoc b (ad 0 0) (bd 0) i)) (K : ∀ (σ lm : Nat → Nat → Nat → Int32) (τ : Nat → Int64) (ρ : Nat → Nat → Int32) (θ : Nat → Nat → Int64) (H : Heap) (ll : List Loc), Rel (k + 1) σ lm ρ → gW D ct A s H ll (wX ad ct σ lm τ ++ wM bd ct ρ θ) → W p l e room_1 s m #[Value.ref b] below meth c H ll 600000 7302250 Q (F0 m 824 ls [])) : W p l e room_1 s m #[Value.ref b] below meth c H ll 600000 7302250 Q (F0 m 197 ls []) := by
  obtain ⟨C, hXs, hbl, hbA, hL, hst⟩ := X
  have hx := C.1
  have hb := C.2.1
  obtain ⟨PM, hM, hS⟩ := pr_rope l D ct dt ad bd hB (τ := τ) (θ := θ) hR
  refine lv_aload_n hx hb dL_law_197 rfl (lv_at hl 1 rfl) ?_
  refine hVi C h hst (stX_ok dt) hS (cwV 0 C.2.2.2.2 (gInVL q347 q348 q349 q57 q350) rfl rfl rfl hvX8_rope ⟨Nat.le_of_ble_eq_true rfl, Nat.le_of_ble_eq_true rfl⟩) rfl rfl rfl rfl hl.1 rfl (Nat.le_of_ble_eq_true rfl) dL_law_198 ⟨Nat.le_refl _, Nat.le_refl _⟩ (fun r8 u8 H ll hp8 h => ?_)
  have h : gW D ct A s H ll (wM bd ct ρ θ ++ wX ad ct u8.1 u8.2.1 u8.2.2) := h
  refine lv_aload_n hx hb dL_law_201 rfl (lv_at hl 2 rfl) ?_
  refine hVi C h trivial gNo_ok hM (cwV 0 C.2.2.2.2 (gInVL q846 q847 q848 q66 q849) rfl rfl rfl hvX9_rope ⟨Nat.le_of_ble_eq_true rfl, Nat.le_of_ble_eq_true rfl⟩) rfl rfl rfl rfl hl.1 rfl (Nat.le_of_ble_eq_true rfl) dL_law_202 ⟨Nat.le_refl _, Nat.le_refl _⟩ (fun r9 u9 H ll hp9 h => ?_)
  have h : gW D ct A s H ll (wX ad ct u8.1 u8.2.1 u8.2.2 ++ wM bd ct u9.1 u9.2) := h
  obtain ⟨er, hR2⟩ := hp8 r9 u9 hp9
  refine lv_icmp_eq (tgt := 824) hx hb dL_law_205 (by decide) (fun _ => ?_) (fun q => absurd er q)
  exact K _ _ _ _ _ _ _ hR2 h
theorem lc_mussel (X : LCx p s m c b L xs dt A) (hi : i + 3 < L) (hB : k < 2 ^ 20) (hR : Rel k σ lm ρ) (h : gW D ct A s H ll (wX ad ct σ lm τ ++ wM bd ct ρ θ)) (hl : lv_has ls 4 (lLoc b (ad 0 0) (bd 0) i)) (K : ∀ (σ lm : Nat → Nat → Nat → Int32) (τ : Nat → Int64) (ρ : Nat → Nat → Int32) (θ : Nat → Nat → Int64) (H : Heap) (ll : List Loc), Rel (k + 1) σ lm ρ → gW D ct A s H ll (wX ad ct σ lm τ ++ wM bd ct ρ θ) → W p l e room_1 s m #[Value.ref b] below meth c H ll 600000 7302250 Q (F0 m 824 ls [])) : W p l e room_1 s m #[Value.ref b] below meth c H ll 600000 7302250 Q (F0 m 210 ls []) := by
  obtain ⟨C, hXs, hbl, hbA, hL, hst⟩ := X
  have hx := C.1
  have hb := C.2.1
  obtain ⟨PM, hM, hS⟩ := pr_mussel l D ct dt ad bd hB (τ := τ) (θ := θ) hR (xs (i + 1)) (xs (i + 2))
  refine lv_aload_n hx hb dL_law_210 rfl (lv_at hl 1 rfl) ?_
  refine lv_aload_n hx hb dL_law_211 rfl (lv_at hl 0 rfl) ?_
  refine lv_iload_n hx hb dL_law_212 rfl (lv_at hl 3 rfl) ?_
  refine lv_iconst (v := 1) hx hb dL_law_213 (by decide) ?_
  refine nadd hx hb i 1 dL_law_214 ?_
  refine lsld C h hXs hbl hbA (show i + 1 < L by omega) (by omega) dL_law_215 ?_
  refine lv_aload_n hx hb dL_law_216 rfl (lv_at hl 0 rfl) ?_
  refine lv_iload_n hx hb dL_law_217 rfl (lv_at hl 3 rfl) ?_
  refine lv_iconst (v := 2) hx hb dL_law_218 (by decide) ?_
  refine nadd hx hb i 2 dL_law_219 ?_
  refine lsld C h hXs hbl hbA (show i + 2 < L by omega) (by omega) dL_law_220 ?_
  refine hVi C h hst (stX_ok dt) hS (cwV 2 C.2.2.2.2 (gInVL q376 q377 q378 q57 q379) rfl rfl rfl hvX8_mussel ⟨Nat.le_of_ble_eq_true rfl, Nat.le_of_ble_eq_true rfl⟩) rfl rfl rfl rfl hl.1 rfl (Nat.le_of_ble_eq_true rfl) dL_law_221 ⟨Nat.le_refl _, Nat.le_refl _⟩ (fun r8 u8 H ll hp8 h => ?_)
  have h : gW D ct A s H ll (wM bd ct ρ θ ++ wX ad ct u8.1 u8.2.1 u8.2.2) := h
  refine lv_aload_n hx hb dL_law_224 rfl (lv_at hl 2 rfl) ?_
  refine lv_aload_n hx hb dL_law_225 rfl (lv_at hl 0 rfl) ?_
  refine lv_iload_n hx hb dL_law_226 rfl (lv_at hl 3 rfl) ?_
  refine lv_iconst (v := 1) hx hb dL_law_227 (by decide) ?_
  refine nadd hx hb i 1 dL_law_228 ?_
  refine lsld C h hXs hbl hbA (show i + 1 < L by omega) (by omega) dL_law_229 ?_
  refine lv_aload_n hx hb dL_law_230 rfl (lv_at hl 0 rfl) ?_
  refine lv_iload_n hx hb dL_law_231 rfl (lv_at hl 3 rfl) ?_
  refine lv_iconst (v := 2) hx hb dL_law_232 (by decide) ?_
  refine nadd hx hb i 2 dL_law_233 ?_
  refine lsld C h hXs hbl hbA (show i + 2 < L by omega) (by omega) dL_law_234 ?_
  refine hVi C h trivial gNo_ok hM (cwV 2 C.2.2.2.2 (gInVL q850 q851 q852 q66 q853) rfl rfl rfl hvX9_mussel ⟨Nat.le_of_ble_eq_true rfl, Nat.le_of_ble_eq_true rfl⟩) rfl rfl rfl rfl hl.1 rfl (Nat.le_of_ble_eq_true rfl) dL_law_235 ⟨Nat.le_refl _, Nat.le_refl _⟩ (fun r9 u9 H ll hp9 h => ?_)
  have h : gW D ct A s H ll (wX ad ct u8.1 u8.2.1 u8.2.2 ++ wM bd ct u9.1 u9.2) := h
  obtain ⟨er, hR2⟩ := hp8 r9 u9 hp9
  refine lv_icmp_eq (tgt := 824) hx hb dL_law_238 (by decide) (fun _ => ?_) (fun q => absurd er q)
  exact K _ _ _ _ _ _ _ hR2 h
theorem lc_as (X : LCx p s m c b L xs dt A) (hi : i + 3 < L) (hB : k < 2 ^ 20) (hR : Rel k σ lm ρ) (h : gW D ct A s H ll (wX ad ct σ lm τ ++ wM bd ct ρ θ)) (hl : lv_has ls 4 (lLoc b (ad 0 0) (bd 0) i)) (K : ∀ (σ lm : Nat → Nat → Nat → Int32) (τ : Nat → Int64) (ρ : Nat → Nat → Int32) (θ : Nat → Nat → Int64) (H : Heap) (ll : List Loc), Rel (k + 1) σ lm ρ → gW D ct A s H ll (wX ad ct σ lm τ ++ wM bd ct ρ θ) → W p l e room_1 s m #[Value.ref b] below meth c H ll 600000 7302250 Q (F0 m 824 ls [])) : W p l e room_1 s m #[Value.ref b] below meth c H ll 600000 7302250 Q (F0 m 243 ls []) := by
  obtain ⟨C, hXs, hbl, hbA, hL, hst⟩ := X
  have hx := C.1
  have hb := C.2.1
  obtain ⟨PM, hM, hS⟩ := pr_as l D ct dt ad bd hB (τ := τ) (θ := θ) hR (xs (i + 1)) (xs (i + 2))
  refine lv_aload_n hx hb dL_law_243 rfl (lv_at hl 1 rfl) ?_
  refine lv_aload_n hx hb dL_law_244 rfl (lv_at hl 0 rfl) ?_
  refine lv_iload_n hx hb dL_law_245 rfl (lv_at hl 3 rfl) ?_
  refine lv_iconst (v := 1) hx hb dL_law_246 (by decide) ?_
  refine nadd hx hb i 1 dL_law_247 ?_
  refine lsld C h hXs hbl hbA (show i + 1 < L by omega) (by omega) dL_law_248 ?_
  refine lv_aload_n hx hb dL_law_249 rfl (lv_at hl 0 rfl) ?_
  refine lv_iload_n hx hb dL_law_250 rfl (lv_at hl 3 rfl) ?_
  refine lv_iconst (v := 2) hx hb dL_law_251 (by decide) ?_
  refine nadd hx hb i 2 dL_law_252 ?_
  refine lsld C h hXs hbl hbA (show i + 2 < L by omega) (by omega) dL_law_253 ?_
  refine hVi C h hst (stX_ok dt) hS (cwV 2 C.2.2.2.2 (gInVL q475 q476 q477 q57 q478) rfl rfl rfl hvX8_as ⟨Nat.le_of_ble_eq_true rfl, Nat.le_of_ble_eq_true rfl⟩) rfl rfl rfl rfl hl.1 rfl (Nat.le_of_ble_eq_true rfl) dL_law_254 ⟨Nat.le_refl _, Nat.le_refl _⟩ (fun r8 u8 H ll hp8 h => ?_)
  have h : gW D ct A s H ll (wM bd ct ρ θ ++ wX ad ct u8.1 u8.2.1 u8.2.2) := h
  refine lv_aload_n hx hb dL_law_257 rfl (lv_at hl 2 rfl) ?_
  refine lv_aload_n hx hb dL_law_258 rfl (lv_at hl 0 rfl) ?_
  refine lv_iload_n hx hb dL_law_259 rfl (lv_at hl 3 rfl) ?_
  refine lv_iconst (v := 1) hx hb dL_law_260 (by decide) ?_
  refine nadd hx hb i 1 dL_law_261 ?_
  refine lsld C h hXs hbl hbA (show i + 1 < L by omega) (by omega) dL_law_262 ?_
  refine lv_aload_n hx hb dL_law_263 rfl (lv_at hl 0 rfl) ?_
  refine lv_iload_n hx hb dL_law_264 rfl (lv_at hl 3 rfl) ?_
  refine lv_iconst (v := 2) hx hb dL_law_265 (by decide) ?_
  refine nadd hx hb i 2 dL_law_266 ?_
  refine lsld C h hXs hbl hbA (show i + 2 < L by omega) (by omega) dL_law_267 ?_
  refine hVi C h trivial gNo_ok hM (cwV 2 C.2.2.2.2 (gInVL q908 q909 q910 q66 q911) rfl rfl rfl hvX9_as ⟨Nat.le_of_ble_eq_true rfl, Nat.le_of_ble_eq_true rfl⟩) rfl rfl rfl rfl hl.1 rfl (Nat.le_of_ble_eq_true rfl) dL_law_268 ⟨Nat.le_refl _, Nat.le_refl _⟩ (fun r9 u9 H ll hp9 h => ?_)
  have h : gW D ct A s H ll (wX ad ct u8.1 u8.2.1 u8.2.2 ++ wM bd ct u9.1 u9.2) := h
  obtain ⟨er, hR2⟩ := hp8 r9 u9 hp9
  refine lv_icmp_eq (tgt := 824) hx hb dL_law_271 (by decide) (fun _ => ?_) (fun q => absurd er q)
  exact K _ _ _ _ _ _ _ hR2 h
theorem lc_question (X : LCx p s m c b L xs dt A) (hi : i + 3 < L) (hB : k < 2 ^ 20) (hR : Rel k σ lm ρ) (h : gW D ct A s H ll (wX ad ct σ lm τ ++ wM bd ct ρ θ)) (hl : lv_has ls 4 (lLoc b (ad 0 0) (bd 0) i)) (K : ∀ (σ lm : Nat → Nat → Nat → Int32) (τ : Nat → Int64) (ρ : Nat → Nat → Int32) (θ : Nat → Nat → Int64) (H : Heap) (ll : List Loc), Rel (k + 1) σ lm ρ → gW D ct A s H ll (wX ad ct σ lm τ ++ wM bd ct ρ θ) → W p l e room_1 s m #[Value.ref b] below meth c H ll 600000 7302250 Q (F0 m 824 ls [])) : W p l e room_1 s m #[Value.ref b] below meth c H ll 600000 7302250 Q (F0 m 276 ls []) := by
  obtain ⟨C, hXs, hbl, hbA, hL, hst⟩ := X
  have hx := C.1
  have hb := C.2.1
  obtain ⟨PM, hM, hS⟩ := pr_question l D ct dt ad bd hB (τ := τ) (θ := θ) hR (xs (i + 1)) (xs (i + 2))
  refine lv_aload_n hx hb dL_law_276 rfl (lv_at hl 1 rfl) ?_
  refine lv_aload_n hx hb dL_law_277 rfl (lv_at hl 0 rfl) ?_
  refine lv_iload_n hx hb dL_law_278 rfl (lv_at hl 3 rfl) ?_
  refine lv_iconst (v := 1) hx hb dL_law_279 (by decide) ?_
  refine nadd hx hb i 1 dL_law_280 ?_
  refine lsld C h hXs hbl hbA (show i + 1 < L by omega) (by omega) dL_law_281 ?_
  refine lv_aload_n hx hb dL_law_282 rfl (lv_at hl 0 rfl) ?_
  refine lv_iload_n hx hb dL_law_283 rfl (lv_at hl 3 rfl) ?_
  refine lv_iconst (v := 2) hx hb dL_law_284 (by decide) ?_
  refine nadd hx hb i 2 dL_law_285 ?_
  refine lsld C h hXs hbl hbA (show i + 2 < L by omega) (by omega) dL_law_286 ?_
  refine hVi C h hst (stX_ok dt) hS (cwV 2 C.2.2.2.2 (gInVL q488 q489 q490 q57 q491) rfl rfl rfl hvX8_question ⟨Nat.le_of_ble_eq_true rfl, Nat.le_of_ble_eq_true rfl⟩) rfl rfl rfl rfl hl.1 rfl (Nat.le_of_ble_eq_true rfl) dL_law_287 ⟨Nat.le_refl _, Nat.le_refl _⟩ (fun r8 u8 H ll hp8 h => ?_)
  have h : gW D ct A s H ll (wM bd ct ρ θ ++ wX ad ct u8.1 u8.2.1 u8.2.2) := h
  refine lv_aload_n hx hb dL_law_290 rfl (lv_at hl 2 rfl) ?_
  refine lv_aload_n hx hb dL_law_291 rfl (lv_at hl 0 rfl) ?_
  refine lv_iload_n hx hb dL_law_292 rfl (lv_at hl 3 rfl) ?_
  refine lv_iconst (v := 1) hx hb dL_law_293 (by decide) ?_
  refine nadd hx hb i 1 dL_law_294 ?_
  refine lsld C h hXs hbl hbA (show i + 1 < L by omega) (by omega) dL_law_295 ?_
  refine lv_aload_n hx hb dL_law_296 rfl (lv_at hl 0 rfl) ?_
  refine lv_iload_n hx hb dL_law_297 rfl (lv_at hl 3 rfl) ?_
  refine lv_iconst (v := 2) hx hb dL_law_298 (by decide) ?_
  refine nadd hx hb i 2 dL_law_299 ?_
  refine lsld C h hXs hbl hbA (show i + 2 < L by omega) (by omega) dL_law_300 ?_
  refine hVi C h trivial gNo_ok hM (cwV 2 C.2.2.2.2 (gInVL q912 q913 q914 q66 q915) rfl rfl rfl hvX9_question ⟨Nat.le_of_ble_eq_true rfl, Nat.le_of_ble_eq_true rfl⟩) rfl rfl rfl rfl hl.1 rfl (Nat.le_of_ble_eq_true rfl) dL_law_301 ⟨Nat.le_refl _, Nat.le_refl _⟩ (fun r9 u9 H ll hp9 h => ?_)
  have h : gW D ct A s H ll (wX ad ct u8.1 u8.2.1 u8.2.2 ++ wM bd ct u9.1 u9.2) := h
  obtain ⟨er, hR2⟩ := hp8 r9 u9 hp9
  refine lv_icmp_eq (tgt := 824) hx hb dL_law_304 (by decide) (fun _ => ?_) (fun q => absurd er q)
  exact K _ _ _ _ _ _ _ hR2 h
theorem lc_ask (X : LCx p s m c b L xs dt A) (hi : i + 3 < L) (hB : k < 2 ^ 20) (hR : Rel k σ lm ρ) (h : gW D ct A s H ll (wX ad ct σ lm τ ++ wM bd ct ρ θ)) (hl : lv_has ls 4 (lLoc b (ad 0 0) (bd 0) i)) (K : ∀ (σ lm : Nat → Nat → Nat → Int32) (τ : Nat → Int64) (ρ : Nat → Nat → Int32) (θ : Nat → Nat → Int64) (H : Heap) (ll : List Loc), Rel (k + 1) σ lm ρ → gW D ct A s H ll (wX ad ct σ lm τ ++ wM bd ct ρ θ) → W p l e room_1 s m #[Value.ref b] below meth c H ll 600000 7302250 Q (F0 m 824 ls [])) : W p l e room_1 s m #[Value.ref b] below meth c H ll 600000 7302250 Q (F0 m 309 ls []) := by
  obtain ⟨C, hXs, hbl, hbA, hL, hst⟩ := X
  have hx := C.1
  have hb := C.2.1
  obtain ⟨PM, hM, hS⟩ := pr_ask l D ct dt ad bd hB (τ := τ) (θ := θ) hR (xs (i + 1))
  refine lv_aload_n hx hb dL_law_309 rfl (lv_at hl 1 rfl) ?_
  refine lv_aload_n hx hb dL_law_310 rfl (lv_at hl 0 rfl) ?_
  refine lv_iload_n hx hb dL_law_311 rfl (lv_at hl 3 rfl) ?_
  refine lv_iconst (v := 1) hx hb dL_law_312 (by decide) ?_
  refine nadd hx hb i 1 dL_law_313 ?_
  refine lsld C h hXs hbl hbA (show i + 1 < L by omega) (by omega) dL_law_314 ?_
  refine hVi C h hst (stX_ok dt) hS (cwV 1 C.2.2.2.2 (gInVL q503 q504 q505 q57 q506) rfl rfl rfl hvX8_ask ⟨Nat.le_of_ble_eq_true rfl, Nat.le_of_ble_eq_true rfl⟩) rfl rfl rfl rfl hl.1 rfl (Nat.le_of_ble_eq_true rfl) dL_law_315 ⟨Nat.le_refl _, Nat.le_refl _⟩ (fun r8 u8 H ll hp8 h => ?_)
  have h : gW D ct A s H ll (wM bd ct ρ θ ++ wX ad ct u8.1 u8.2.1 u8.2.2) := h
  refine lv_aload_n hx hb dL_law_318 rfl (lv_at hl 2 rfl) ?_
  refine lv_aload_n hx hb dL_law_319 rfl (lv_at hl 0 rfl) ?_
  refine lv_iload_n hx hb dL_law_320 rfl (lv_at hl 3 rfl) ?_
  refine lv_iconst (v := 1) hx hb dL_law_321 (by decide) ?_
  refine nadd hx hb i 1 dL_law_322 ?_
  refine lsld C h hXs hbl hbA (show i + 1 < L by omega) (by omega) dL_law_323 ?_
  refine hVi C h trivial gNo_ok hM (cwV 1 C.2.2.2.2 (gInVL q932 q933 q934 q66 q935) rfl rfl rfl hvX9_ask ⟨Nat.le_of_ble_eq_true rfl, Nat.le_of_ble_eq_true rfl⟩) rfl rfl rfl rfl hl.1 rfl (Nat.le_of_ble_eq_true rfl) dL_law_324 ⟨Nat.le_refl _, Nat.le_refl _⟩ (fun r9 u9 H ll hp9 h => ?_)
  have h : gW D ct A s H ll (wX ad ct u8.1 u8.2.1 u8.2.2 ++ wM bd ct u9.1 u9.2) := h
  obtain ⟨er, hR2⟩ := hp8 r9 u9 hp9
  refine lv_icmp_eq (tgt := 824) hx hb dL_law_327 (by decide) (fun _ => ?_) (fun q => absurd er q)
  exact K _ _ _ _ _ _ _ hR2 h
theorem lc_tide (X : LCx p s m c b L xs dt A) (hi : i + 3 < L) (hB : k < 2 ^ 20) (hR : Rel k σ lm ρ) (h : gW D ct A s H ll (wX ad ct σ lm τ ++ wM bd ct ρ θ)) (hl : lv_has ls 4 (lLoc b (ad 0 0) (bd 0) i)) (K : ∀ (σ lm : Nat → Nat → Nat → Int32) (τ : Nat → Int64) (ρ : Nat → Nat → Int32) (θ : Nat → Nat → Int64) (H : Heap) (ll : List Loc), Rel (k + 1) σ lm ρ → gW D ct A s H ll (wX ad ct σ lm τ ++ wM bd ct ρ θ) → W p l e room_1 s m #[Value.ref b] below meth c H ll 600000 7302250 Q (F0 m 824 ls [])) : W p l e room_1 s m #[Value.ref b] below meth c H ll 600000 7302250 Q (F0 m 332 ls []) := by
  obtain ⟨C, hXs, hbl, hbA, hL, hst⟩ := X
  have hx := C.1
  have hb := C.2.1
  obtain ⟨PM, hM, hS⟩ := pr_tide l D ct dt ad bd hB (τ := τ) (θ := θ) hR
  refine lv_aload_n hx hb dL_law_332 rfl (lv_at hl 1 rfl) ?_
  refine hVi C h hst (stX_ok dt) hS (cwV 0 C.2.2.2.2 (gInVL q507 q508 q509 q57 q510) rfl rfl rfl hvX8_tide ⟨Nat.le_of_ble_eq_true rfl, Nat.le_of_ble_eq_true rfl⟩) rfl rfl rfl rfl hl.1 rfl (Nat.le_of_ble_eq_true rfl) dL_law_333 ⟨Nat.le_refl _, Nat.le_refl _⟩ (fun r8 u8 H ll hp8 h => ?_)
  have h : gW D ct A s H ll (wM bd ct ρ θ ++ wX ad ct u8.1 u8.2.1 u8.2.2) := h
  refine lv_aload_n hx hb dL_law_336 rfl (lv_at hl 2 rfl) ?_
  refine hVi C h trivial gNo_ok hM (cwV 0 C.2.2.2.2 (gInVL q936 q937 q938 q66 q939) rfl rfl rfl hvX9_tide ⟨Nat.le_of_ble_eq_true rfl, Nat.le_of_ble_eq_true rfl⟩) rfl rfl rfl rfl hl.1 rfl (Nat.le_of_ble_eq_true rfl) dL_law_337 ⟨Nat.le_refl _, Nat.le_refl _⟩ (fun r9 u9 H ll hp9 h => ?_)
  have h : gW D ct A s H ll (wX ad ct u8.1 u8.2.1 u8.2.2 ++ wM bd ct u9.1 u9.2) := h
  obtain ⟨er, hR2⟩ := hp8 r9 u9 hp9
  refine lv_icmp_eq (tgt := 824) hx hb dL_law_340 (by decide) (fun _ => ?_) (fun q => absurd er q)
  exact K _ _ _ _ _ _ _ hR2 h
theorem lc_cut (X : LCx p s m c b L xs dt A) (hi : i + 3 < L) (hB : k < 2 ^ 20) (hR : Rel k σ lm ρ) (h : gW D ct A s H ll (wX ad ct σ lm τ ++ wM bd ct ρ θ)) (hl : lv_has ls 4 (lLoc b (ad 0 0) (bd 0) i)) (K : ∀ (σ lm : Nat → Nat → Nat → Int32) (τ : Nat → Int64) (ρ : Nat → Nat → Int32) (θ : Nat → Nat → Int64) (H : Heap) (ll : List Loc), Rel (k + 1) σ lm ρ → gW D ct A s H ll (wX ad ct σ lm τ ++ wM bd ct ρ θ) → W p l e room_1 s m #[Value.ref b] below meth c H ll 600000 7302250 Q (F0 m 824 ls [])) : W p l e room_1 s m #[Value.ref b] below meth c H ll 600000 7302250 Q (F0 m 345 ls []) := by
  obtain ⟨C, hXs, hbl, hbA, hL, hst⟩ := X
  have hx := C.1
  have hb := C.2.1
  obtain ⟨PM, hM, hS⟩ := pr_cut l D ct dt ad bd hB (τ := τ) (θ := θ) hR (xs (i + 1))
  refine lv_aload_n hx hb dL_law_345 rfl (lv_at hl 1 rfl) ?_
  refine lv_aload_n hx hb dL_law_346 rfl (lv_at hl 0 rfl) ?_
  refine lv_iload_n hx hb dL_law_347 rfl (lv_at hl 3 rfl) ?_
  refine lv_iconst (v := 1) hx hb dL_law_348 (by decide) ?_
  refine nadd hx hb i 1 dL_law_349 ?_
  refine lsld C h hXs hbl hbA (show i + 1 < L by omega) (by omega) dL_law_350 ?_
  refine hVi C h hst (stX_ok dt) hS (cwV 1 C.2.2.2.2 (gInVL q527 q528 q529 q57 q530) rfl rfl rfl hvX8_cut ⟨Nat.le_of_ble_eq_true rfl, Nat.le_of_ble_eq_true rfl⟩) rfl rfl rfl rfl hl.1 rfl (Nat.le_of_ble_eq_true rfl) dL_law_351 ⟨Nat.le_refl _, Nat.le_refl _⟩ (fun r8 u8 H ll hp8 h => ?_)
  have h : gW D ct A s H ll (wM bd ct ρ θ ++ wX ad ct u8.1 u8.2.1 u8.2.2) := h
  refine lv_aload_n hx hb dL_law_354 rfl (lv_at hl 2 rfl) ?_
  refine lv_aload_n hx hb dL_law_355 rfl (lv_at hl 0 rfl) ?_
  refine lv_iload_n hx hb dL_law_356 rfl (lv_at hl 3 rfl) ?_
  refine lv_iconst (v := 1) hx hb dL_law_357 (by decide) ?_
  refine nadd hx hb i 1 dL_law_358 ?_
  refine lsld C h hXs hbl hbA (show i + 1 < L by omega) (by omega) dL_law_359 ?_
  refine hVi C h trivial gNo_ok hM (cwV 1 C.2.2.2.2 (gInVL q944 q945 q946 q66 q947) rfl rfl rfl hvX9_cut ⟨Nat.le_of_ble_eq_true rfl, Nat.le_of_ble_eq_true rfl⟩) rfl rfl rfl rfl hl.1 rfl (Nat.le_of_ble_eq_true rfl) dL_law_360 ⟨Nat.le_refl _, Nat.le_refl _⟩ (fun r9 u9 H ll hp9 h => ?_)
  have h : gW D ct A s H ll (wX ad ct u8.1 u8.2.1 u8.2.2 ++ wM bd ct u9.1 u9.2) := h
  obtain ⟨er, hR2⟩ := hp8 r9 u9 hp9
  refine lv_icmp_eq (tgt := 824) hx hb dL_law_363 (by decide) (fun _ => ?_) (fun q => absurd er q)
  exact K _ _ _ _ _ _ _ hR2 h
theorem lc_tie (X : LCx p s m c b L xs dt A) (hi : i + 3 < L) (hB : k < 2 ^ 20) (hR : Rel k σ lm ρ) (h : gW D ct A s H ll (wX ad ct σ lm τ ++ wM bd ct ρ θ)) (hl : lv_has ls 4 (lLoc b (ad 0 0) (bd 0) i)) (K : ∀ (σ lm : Nat → Nat → Nat → Int32) (τ : Nat → Int64) (ρ : Nat → Nat → Int32) (θ : Nat → Nat → Int64) (H : Heap) (ll : List Loc), Rel (k + 1) σ lm ρ → gW D ct A s H ll (wX ad ct σ lm τ ++ wM bd ct ρ θ) → W p l e room_1 s m #[Value.ref b] below meth c H ll 600000 7302250 Q (F0 m 824 ls [])) : W p l e room_1 s m #[Value.ref b] below meth c H ll 600000 7302250 Q (F0 m 368 ls []) := by
  obtain ⟨C, hXs, hbl, hbA, hL, hst⟩ := X
  have hx := C.1
  have hb := C.2.1
  obtain ⟨PM, hM, hS⟩ := pr_tie l D ct dt ad bd hB (τ := τ) (θ := θ) hR (xs (i + 1))
  refine lv_aload_n hx hb dL_law_368 rfl (lv_at hl 1 rfl) ?_
  refine lv_aload_n hx hb dL_law_369 rfl (lv_at hl 0 rfl) ?_
  refine lv_iload_n hx hb dL_law_370 rfl (lv_at hl 3 rfl) ?_
  refine lv_iconst (v := 1) hx hb dL_law_371 (by decide) ?_
  refine nadd hx hb i 1 dL_law_372 ?_
  refine lsld C h hXs hbl hbA (show i + 1 < L by omega) (by omega) dL_law_373 ?_
  refine hVi C h hst (stX_ok dt) hS (cwV 1 C.2.2.2.2 (gInVL q531 q532 q533 q57 q534) rfl rfl rfl hvX8_tie ⟨Nat.le_of_ble_eq_true rfl, Nat.le_of_ble_eq_true rfl⟩) rfl rfl rfl rfl hl.1 rfl (Nat.le_of_ble_eq_true rfl) dL_law_374 ⟨Nat.le_refl _, Nat.le_refl _⟩ (fun r8 u8 H ll hp8 h => ?_)
  have h : gW D ct A s H ll (wM bd ct ρ θ ++ wX ad ct u8.1 u8.2.1 u8.2.2) := h
  refine lv_aload_n hx hb dL_law_377 rfl (lv_at hl 2 rfl) ?_
  refine lv_aload_n hx hb dL_law_378 rfl (lv_at hl 0 rfl) ?_
  refine lv_iload_n hx hb dL_law_379 rfl (lv_at hl 3 rfl) ?_
  refine lv_iconst (v := 1) hx hb dL_law_380 (by decide) ?_
  refine nadd hx hb i 1 dL_law_381 ?_
  refine lsld C h hXs hbl hbA (show i + 1 < L by omega) (by omega) dL_law_382 ?_
  refine hVi C h trivial gNo_ok hM (cwV 1 C.2.2.2.2 (gInVL q952 q953 q954 q66 q955) rfl rfl rfl hvX9_tie ⟨Nat.le_of_ble_eq_true rfl, Nat.le_of_ble_eq_true rfl⟩) rfl rfl rfl rfl hl.1 rfl (Nat.le_of_ble_eq_true rfl) dL_law_383 ⟨Nat.le_refl _, Nat.le_refl _⟩ (fun r9 u9 H ll hp9 h => ?_)
  have h : gW D ct A s H ll (wX ad ct u8.1 u8.2.1 u8.2.2 ++ wM bd ct u9.1 u9.2) := h
  obtain ⟨er, hR2⟩ := hp8 r9 u9 hp9
  refine lv_icmp_eq (tgt := 824) hx hb dL_law_386 (by decide) (fun _ => ?_) (fun q => absurd er q)
  exact K _ _ _ _ _ _ _ hR2 h
theorem lc_turn (X : LCx p s m c b L xs dt A) (hi : i + 3 < L) (hB : k < 2 ^ 20) (hR : Rel k σ lm ρ) (h : gW D ct A s H ll (wX ad ct σ lm τ ++ wM bd ct ρ θ)) (hl : lv_has ls 4 (lLoc b (ad 0 0) (bd 0) i)) (K : ∀ (σ lm : Nat → Nat → Nat → Int32) (τ : Nat → Int64) (ρ : Nat → Nat → Int32) (θ : Nat → Nat → Int64) (H : Heap) (ll : List Loc), Rel (k + 1) σ lm ρ → gW D ct A s H ll (wX ad ct σ lm τ ++ wM bd ct ρ θ) → W p l e room_1 s m #[Value.ref b] below meth c H ll 600000 7302250 Q (F0 m 824 ls [])) : W p l e room_1 s m #[Value.ref b] below meth c H ll 600000 7302250 Q (F0 m 391 ls []) := by
  obtain ⟨C, hXs, hbl, hbA, hL, hst⟩ := X
  have hx := C.1
  have hb := C.2.1
  obtain ⟨PM, hM, hS⟩ := pr_turn l D ct dt ad bd hB (τ := τ) (θ := θ) hR (xs (i + 1)) (xs (i + 2)) (xs (i + 3))
  refine lv_aload_n hx hb dL_law_391 rfl (lv_at hl 1 rfl) ?_
  refine lv_aload_n hx hb dL_law_392 rfl (lv_at hl 0 rfl) ?_
  refine lv_iload_n hx hb dL_law_393 rfl (lv_at hl 3 rfl) ?_
  refine lv_iconst (v := 1) hx hb dL_law_394 (by decide) ?_
  refine nadd hx hb i 1 dL_law_395 ?_
  refine lsld C h hXs hbl hbA (show i + 1 < L by omega) (by omega) dL_law_396 ?_
  refine lv_aload_n hx hb dL_law_397 rfl (lv_at hl 0 rfl) ?_
  refine lv_iload_n hx hb dL_law_398 rfl (lv_at hl 3 rfl) ?_
  refine lv_iconst (v := 2) hx hb dL_law_399 (by decide) ?_
  refine nadd hx hb i 2 dL_law_400 ?_
  refine lsld C h hXs hbl hbA (show i + 2 < L by omega) (by omega) dL_law_401 ?_
  refine lv_aload_n hx hb dL_law_402 rfl (lv_at hl 0 rfl) ?_
  refine lv_iload_n hx hb dL_law_403 rfl (lv_at hl 3 rfl) ?_
  refine lv_iconst (v := 3) hx hb dL_law_404 (by decide) ?_
  refine nadd hx hb i 3 dL_law_405 ?_
  refine lsld C h hXs hbl hbA (show i + 3 < L by omega) (by omega) dL_law_406 ?_
  refine hVi C h hst (stX_ok dt) hS (cwV 3 C.2.2.2.2 (gInVL q535 q536 q537 q57 q538) rfl rfl rfl hvX8_turn ⟨Nat.le_of_ble_eq_true rfl, Nat.le_of_ble_eq_true rfl⟩) rfl rfl rfl rfl hl.1 rfl (Nat.le_of_ble_eq_true rfl) dL_law_407 ⟨Nat.le_refl _, Nat.le_refl _⟩ (fun r8 u8 H ll hp8 h => ?_)
  have h : gW D ct A s H ll (wM bd ct ρ θ ++ wX ad ct u8.1 u8.2.1 u8.2.2) := h
  refine lv_aload_n hx hb dL_law_410 rfl (lv_at hl 2 rfl) ?_
  refine lv_aload_n hx hb dL_law_411 rfl (lv_at hl 0 rfl) ?_
  refine lv_iload_n hx hb dL_law_412 rfl (lv_at hl 3 rfl) ?_
  refine lv_iconst (v := 1) hx hb dL_law_413 (by decide) ?_
  refine nadd hx hb i 1 dL_law_414 ?_
  refine lsld C h hXs hbl hbA (show i + 1 < L by omega) (by omega) dL_law_415 ?_
  refine lv_aload_n hx hb dL_law_416 rfl (lv_at hl 0 rfl) ?_
  refine lv_iload_n hx hb dL_law_417 rfl (lv_at hl 3 rfl) ?_
  refine lv_iconst (v := 2) hx hb dL_law_418 (by decide) ?_
  refine nadd hx hb i 2 dL_law_419 ?_
  refine lsld C h hXs hbl hbA (show i + 2 < L by omega) (by omega) dL_law_420 ?_
  refine lv_aload_n hx hb dL_law_421 rfl (lv_at hl 0 rfl) ?_
  refine lv_iload_n hx hb dL_law_422 rfl (lv_at hl 3 rfl) ?_
  refine lv_iconst (v := 3) hx hb dL_law_423 (by decide) ?_
  refine nadd hx hb i 3 dL_law_424 ?_
  refine lsld C h hXs hbl hbA (show i + 3 < L by omega) (by omega) dL_law_425 ?_
  refine hVi C h trivial gNo_ok hM (cwV 3 C.2.2.2.2 (gInVL q956 q957 q958 q66 q959) rfl rfl rfl hvX9_turn ⟨Nat.le_of_ble_eq_true rfl, Nat.le_of_ble_eq_true rfl⟩) rfl rfl rfl rfl hl.1 rfl (Nat.le_of_ble_eq_true rfl) dL_law_426 ⟨Nat.le_refl _, Nat.le_refl _⟩ (fun r9 u9 H ll hp9 h => ?_)
  have h : gW D ct A s H ll (wX ad ct u8.1 u8.2.1 u8.2.2 ++ wM bd ct u9.1 u9.2) := h
  obtain ⟨er, hR2⟩ := hp8 r9 u9 hp9
  refine lv_icmp_eq (tgt := 824) hx hb dL_law_429 (by decide) (fun _ => ?_) (fun q => absurd er q)
  exact K _ _ _ _ _ _ _ hR2 h
theorem lc_grow (X : LCx p s m c b L xs dt A) (hi : i + 3 < L) (hB : k < 2 ^ 20) (hR : Rel k σ lm ρ) (h : gW D ct A s H ll (wX ad ct σ lm τ ++ wM bd ct ρ θ)) (hl : lv_has ls 4 (lLoc b (ad 0 0) (bd 0) i)) (K : ∀ (σ lm : Nat → Nat → Nat → Int32) (τ : Nat → Int64) (ρ : Nat → Nat → Int32) (θ : Nat → Nat → Int64) (H : Heap) (ll : List Loc), Rel (k + 1) σ lm ρ → gW D ct A s H ll (wX ad ct σ lm τ ++ wM bd ct ρ θ) → W p l e room_1 s m #[Value.ref b] below meth c H ll 600000 7302250 Q (F0 m 824 ls [])) : W p l e room_1 s m #[Value.ref b] below meth c H ll 600000 7302250 Q (F0 m 434 ls []) := by
  obtain ⟨C, hXs, hbl, hbA, hL, hst⟩ := X
  have hx := C.1
  have hb := C.2.1
  obtain ⟨PM, hM, hS⟩ := pr_grow l D ct dt ad bd hB (τ := τ) (θ := θ) hR (xs (i + 1)) (xs (i + 2))
  refine lv_aload_n hx hb dL_law_434 rfl (lv_at hl 1 rfl) ?_
  refine lv_aload_n hx hb dL_law_435 rfl (lv_at hl 0 rfl) ?_
  refine lv_iload_n hx hb dL_law_436 rfl (lv_at hl 3 rfl) ?_
  refine lv_iconst (v := 1) hx hb dL_law_437 (by decide) ?_
  refine nadd hx hb i 1 dL_law_438 ?_
  refine lsld C h hXs hbl hbA (show i + 1 < L by omega) (by omega) dL_law_439 ?_
  refine lv_aload_n hx hb dL_law_440 rfl (lv_at hl 0 rfl) ?_
  refine lv_iload_n hx hb dL_law_441 rfl (lv_at hl 3 rfl) ?_
  refine lv_iconst (v := 2) hx hb dL_law_442 (by decide) ?_
  refine nadd hx hb i 2 dL_law_443 ?_
  refine lsld C h hXs hbl hbA (show i + 2 < L by omega) (by omega) dL_law_444 ?_
  refine hVi C h hst (stX_ok dt) hS (cwV 2 C.2.2.2.2 (gInVL q542 q543 q544 q57 q545) rfl rfl rfl hvX8_grow ⟨Nat.le_of_ble_eq_true rfl, Nat.le_of_ble_eq_true rfl⟩) rfl rfl rfl rfl hl.1 rfl (Nat.le_of_ble_eq_true rfl) dL_law_445 ⟨Nat.le_refl _, Nat.le_refl _⟩ (fun r8 u8 H ll hp8 h => ?_)
  have h : gW D ct A s H ll (wM bd ct ρ θ ++ wX ad ct u8.1 u8.2.1 u8.2.2) := h
  refine lv_aload_n hx hb dL_law_448 rfl (lv_at hl 2 rfl) ?_
  refine lv_aload_n hx hb dL_law_449 rfl (lv_at hl 0 rfl) ?_
  refine lv_iload_n hx hb dL_law_450 rfl (lv_at hl 3 rfl) ?_
  refine lv_iconst (v := 1) hx hb dL_law_451 (by decide) ?_
  refine nadd hx hb i 1 dL_law_452 ?_
  refine lsld C h hXs hbl hbA (show i + 1 < L by omega) (by omega) dL_law_453 ?_
  refine lv_aload_n hx hb dL_law_454 rfl (lv_at hl 0 rfl) ?_
  refine lv_iload_n hx hb dL_law_455 rfl (lv_at hl 3 rfl) ?_
  refine lv_iconst (v := 2) hx hb dL_law_456 (by decide) ?_
  refine nadd hx hb i 2 dL_law_457 ?_
  refine lsld C h hXs hbl hbA (show i + 2 < L by omega) (by omega) dL_law_458 ?_
  refine hVi C h trivial gNo_ok hM (cwV 2 C.2.2.2.2 (gInVL q960 q961 q962 q66 q963) rfl rfl rfl hvX9_grow ⟨Nat.le_of_ble_eq_true rfl, Nat.le_of_ble_eq_true rfl⟩) rfl rfl rfl rfl hl.1 rfl (Nat.le_of_ble_eq_true rfl) dL_law_459 ⟨Nat.le_refl _, Nat.le_refl _⟩ (fun r9 u9 H ll hp9 h => ?_)
  have h : gW D ct A s H ll (wX ad ct u8.1 u8.2.1 u8.2.2 ++ wM bd ct u9.1 u9.2) := h
  obtain ⟨er, hR2⟩ := hp8 r9 u9 hp9
  refine lv_icmp_eq (tgt := 824) hx hb dL_law_462 (by decide) (fun _ => ?_) (fun q => absurd er q)
  exact K _ _ _ _ _ _ _ hR2 h
theorem lc_say (X : LCx p s m c b L xs dt A) (hi : i + 3 < L) (hB : k < 2 ^ 20) (hR : Rel k σ lm ρ) (h : gW D ct A s H ll (wX ad ct σ lm τ ++ wM bd ct ρ θ)) (hl : lv_has ls 4 (lLoc b (ad 0 0) (bd 0) i)) (K : ∀ (σ lm : Nat → Nat → Nat → Int32) (τ : Nat → Int64) (ρ : Nat → Nat → Int32) (θ : Nat → Nat → Int64) (H : Heap) (ll : List Loc), Rel (k + 1) σ lm ρ → gW D ct A s H ll (wX ad ct σ lm τ ++ wM bd ct ρ θ) → W p l e room_1 s m #[Value.ref b] below meth c H ll 600000 7302250 Q (F0 m 824 ls [])) : W p l e room_1 s m #[Value.ref b] below meth c H ll 600000 7302250 Q (F0 m 467 ls []) := by
  obtain ⟨C, hXs, hbl, hbA, hL, hst⟩ := X
  have hx := C.1
  have hb := C.2.1
  obtain ⟨PM, hM, hS⟩ := pr_say l D ct dt ad bd hB (τ := τ) (θ := θ) hR (xs (i + 1)) (xs (i + 2)) (xs (i + 3))
  refine lv_aload_n hx hb dL_law_467 rfl (lv_at hl 1 rfl) ?_
  refine lv_aload_n hx hb dL_law_468 rfl (lv_at hl 0 rfl) ?_
  refine lv_iload_n hx hb dL_law_469 rfl (lv_at hl 3 rfl) ?_
  refine lv_iconst (v := 1) hx hb dL_law_470 (by decide) ?_
  refine nadd hx hb i 1 dL_law_471 ?_
  refine lsld C h hXs hbl hbA (show i + 1 < L by omega) (by omega) dL_law_472 ?_
  refine lv_aload_n hx hb dL_law_473 rfl (lv_at hl 0 rfl) ?_
  refine lv_iload_n hx hb dL_law_474 rfl (lv_at hl 3 rfl) ?_
  refine lv_iconst (v := 2) hx hb dL_law_475 (by decide) ?_
  refine nadd hx hb i 2 dL_law_476 ?_
  refine lsld C h hXs hbl hbA (show i + 2 < L by omega) (by omega) dL_law_477 ?_
  refine lv_aload_n hx hb dL_law_478 rfl (lv_at hl 0 rfl) ?_
  refine lv_iload_n hx hb dL_law_479 rfl (lv_at hl 3 rfl) ?_
  refine lv_iconst (v := 3) hx hb dL_law_480 (by decide) ?_
  refine nadd hx hb i 3 dL_law_481 ?_
  refine lsld C h hXs hbl hbA (show i + 3 < L by omega) (by omega) dL_law_482 ?_
  refine hVi C h hst (stX_ok dt) hS (cwV 3 C.2.2.2.2 (gInVL q546 q547 q548 q57 q549) rfl rfl rfl hvX8_say ⟨Nat.le_of_ble_eq_true rfl, Nat.le_of_ble_eq_true rfl⟩) rfl rfl rfl rfl hl.1 rfl (Nat.le_of_ble_eq_true rfl) dL_law_483 ⟨Nat.le_refl _, Nat.le_refl _⟩ (fun r8 u8 H ll hp8 h => ?_)
  have h : gW D ct A s H ll (wM bd ct ρ θ ++ wX ad ct u8.1 u8.2.1 u8.2.2) := h
  refine lv_aload_n hx hb dL_law_486 rfl (lv_at hl 2 rfl) ?_
  refine lv_aload_n hx hb dL_law_487 rfl (lv_at hl 0 rfl) ?_
  refine lv_iload_n hx hb dL_law_488 rfl (lv_at hl 3 rfl) ?_
  refine lv_iconst (v := 1) hx hb dL_law_489 (by decide) ?_
  refine nadd hx hb i 1 dL_law_490 ?_
  refine lsld C h hXs hbl hbA (show i + 1 < L by omega) (by omega) dL_law_491 ?_
  refine lv_aload_n hx hb dL_law_492 rfl (lv_at hl 0 rfl) ?_
  refine lv_iload_n hx hb dL_law_493 rfl (lv_at hl 3 rfl) ?_
  refine lv_iconst (v := 2) hx hb dL_law_494 (by decide) ?_
  refine nadd hx hb i 2 dL_law_495 ?_
  refine lsld C h hXs hbl hbA (show i + 2 < L by omega) (by omega) dL_law_496 ?_
  refine lv_aload_n hx hb dL_law_497 rfl (lv_at hl 0 rfl) ?_
  refine lv_iload_n hx hb dL_law_498 rfl (lv_at hl 3 rfl) ?_
  refine lv_iconst (v := 3) hx hb dL_law_499 (by decide) ?_
  refine nadd hx hb i 3 dL_law_500 ?_
  refine lsld C h hXs hbl hbA (show i + 3 < L by omega) (by omega) dL_law_501 ?_
  refine hVi C h trivial gNo_ok hM (cwV 3 C.2.2.2.2 (gInVL q964 q965 q966 q66 q967) rfl rfl rfl hvX9_say ⟨Nat.le_of_ble_eq_true rfl, Nat.le_of_ble_eq_true rfl⟩) rfl rfl rfl rfl hl.1 rfl (Nat.le_of_ble_eq_true rfl) dL_law_502 ⟨Nat.le_refl _, Nat.le_refl _⟩ (fun r9 u9 H ll hp9 h => ?_)
  have h : gW D ct A s H ll (wX ad ct u8.1 u8.2.1 u8.2.2 ++ wM bd ct u9.1 u9.2) := h
  obtain ⟨er, hR2⟩ := hp8 r9 u9 hp9
  refine lv_icmp_eq (tgt := 824) hx hb dL_law_505 (by decide) (fun _ => ?_) (fun q => absurd er q)
  exact K _ _ _ _ _ _ _ hR2 h
theorem lc_chance (X : LCx p s m c b L xs dt A) (hi : i + 3 < L) (hB : k < 2 ^ 20) (hR : Rel k σ lm ρ) (h : gW D ct A s H ll (wX ad ct σ lm τ ++ wM bd ct ρ θ)) (hl : lv_has ls 4 (lLoc b (ad 0 0) (bd 0) i)) (K : ∀ (σ lm : Nat → Nat → Nat → Int32) (τ : Nat → Int64) (ρ : Nat → Nat → Int32) (θ : Nat → Nat → Int64) (H : Heap) (ll : List Loc), Rel (k + 1) σ lm ρ → gW D ct A s H ll (wX ad ct σ lm τ ++ wM bd ct ρ θ) → W p l e room_1 s m #[Value.ref b] below meth c H ll 600000 7302250 Q (F0 m 824 ls [])) : W p l e room_1 s m #[Value.ref b] below meth c H ll 600000 7302250 Q (F0 m 510 ls []) := by
  obtain ⟨C, hXs, hbl, hbA, hL, hst⟩ := X
  have hx := C.1
  have hb := C.2.1
  obtain ⟨PM, hM, hS⟩ := pr_chance l D ct dt ad bd hB (τ := τ) (θ := θ) hR (xs (i + 1)) (xs (i + 2)) (xs (i + 3))
  refine lv_aload_n hx hb dL_law_510 rfl (lv_at hl 1 rfl) ?_
  refine lv_aload_n hx hb dL_law_511 rfl (lv_at hl 0 rfl) ?_
  refine lv_iload_n hx hb dL_law_512 rfl (lv_at hl 3 rfl) ?_
  refine lv_iconst (v := 1) hx hb dL_law_513 (by decide) ?_
  refine nadd hx hb i 1 dL_law_514 ?_
  refine lsld C h hXs hbl hbA (show i + 1 < L by omega) (by omega) dL_law_515 ?_
  refine lv_aload_n hx hb dL_law_516 rfl (lv_at hl 0 rfl) ?_
  refine lv_iload_n hx hb dL_law_517 rfl (lv_at hl 3 rfl) ?_
  refine lv_iconst (v := 2) hx hb dL_law_518 (by decide) ?_
  refine nadd hx hb i 2 dL_law_519 ?_
  refine lsld C h hXs hbl hbA (show i + 2 < L by omega) (by omega) dL_law_520 ?_
  refine lv_aload_n hx hb dL_law_521 rfl (lv_at hl 0 rfl) ?_
  refine lv_iload_n hx hb dL_law_522 rfl (lv_at hl 3 rfl) ?_
  refine lv_iconst (v := 3) hx hb dL_law_523 (by decide) ?_
  refine nadd hx hb i 3 dL_law_524 ?_
  refine lsld C h hXs hbl hbA (show i + 3 < L by omega) (by omega) dL_law_525 ?_
  refine hVi C h hst (stX_ok dt) hS (cwV 3 C.2.2.2.2 (gInVL q569 q570 q571 q57 q572) rfl rfl rfl hvX8_chance ⟨Nat.le_of_ble_eq_true rfl, Nat.le_of_ble_eq_true rfl⟩) rfl rfl rfl rfl hl.1 rfl (Nat.le_of_ble_eq_true rfl) dL_law_526 ⟨Nat.le_refl _, Nat.le_refl _⟩ (fun r8 u8 H ll hp8 h => ?_)
  have h : gW D ct A s H ll (wM bd ct ρ θ ++ wX ad ct u8.1 u8.2.1 u8.2.2) := h
  refine lv_aload_n hx hb dL_law_529 rfl (lv_at hl 2 rfl) ?_
  refine lv_aload_n hx hb dL_law_530 rfl (lv_at hl 0 rfl) ?_
  refine lv_iload_n hx hb dL_law_531 rfl (lv_at hl 3 rfl) ?_
  refine lv_iconst (v := 1) hx hb dL_law_532 (by decide) ?_
  refine nadd hx hb i 1 dL_law_533 ?_
  refine lsld C h hXs hbl hbA (show i + 1 < L by omega) (by omega) dL_law_534 ?_
  refine lv_aload_n hx hb dL_law_535 rfl (lv_at hl 0 rfl) ?_
  refine lv_iload_n hx hb dL_law_536 rfl (lv_at hl 3 rfl) ?_
  refine lv_iconst (v := 2) hx hb dL_law_537 (by decide) ?_
  refine nadd hx hb i 2 dL_law_538 ?_
  refine lsld C h hXs hbl hbA (show i + 2 < L by omega) (by omega) dL_law_539 ?_
  refine lv_aload_n hx hb dL_law_540 rfl (lv_at hl 0 rfl) ?_
  refine lv_iload_n hx hb dL_law_541 rfl (lv_at hl 3 rfl) ?_
  refine lv_iconst (v := 3) hx hb dL_law_542 (by decide) ?_
  refine nadd hx hb i 3 dL_law_543 ?_
  refine lsld C h hXs hbl hbA (show i + 3 < L by omega) (by omega) dL_law_544 ?_
  refine hVi C h trivial gNo_ok hM (cwV 3 C.2.2.2.2 (gInVL q985 q986 q987 q66 q988) rfl rfl rfl hvX9_chance ⟨Nat.le_of_ble_eq_true rfl, Nat.le_of_ble_eq_true rfl⟩) rfl rfl rfl rfl hl.1 rfl (Nat.le_of_ble_eq_true rfl) dL_law_545 ⟨Nat.le_refl _, Nat.le_refl _⟩ (fun r9 u9 H ll hp9 h => ?_)
  have h : gW D ct A s H ll (wX ad ct u8.1 u8.2.1 u8.2.2 ++ wM bd ct u9.1 u9.2) := h
  obtain ⟨er, hR2⟩ := hp8 r9 u9 hp9
  refine lv_icmp_eq (tgt := 824) hx hb dL_law_548 (by decide) (fun _ => ?_) (fun q => absurd er q)
  exact K _ _ _ _ _ _ _ hR2 h
theorem lc_cuts (X : LCx p s m c b L xs dt A) (hi : i + 3 < L) (hB : k < 2 ^ 20) (hR : Rel k σ lm ρ) (h : gW D ct A s H ll (wX ad ct σ lm τ ++ wM bd ct ρ θ)) (hl : lv_has ls 4 (lLoc b (ad 0 0) (bd 0) i)) (K : ∀ (σ lm : Nat → Nat → Nat → Int32) (τ : Nat → Int64) (ρ : Nat → Nat → Int32) (θ : Nat → Nat → Int64) (H : Heap) (ll : List Loc), Rel (k + 1) σ lm ρ → gW D ct A s H ll (wX ad ct σ lm τ ++ wM bd ct ρ θ) → W p l e room_1 s m #[Value.ref b] below meth c H ll 600000 7302250 Q (F0 m 824 ls [])) : W p l e room_1 s m #[Value.ref b] below meth c H ll 600000 7302250 Q (F0 m 553 ls []) := by
  obtain ⟨C, hXs, hbl, hbA, hL, hst⟩ := X
  have hx := C.1
  have hb := C.2.1
  obtain ⟨PM, hM, hS⟩ := pr_cuts l D ct dt ad bd hB (τ := τ) (θ := θ) hR (xs (i + 1)) (xs (i + 2)) (xs (i + 3))
  refine lv_aload_n hx hb dL_law_553 rfl (lv_at hl 1 rfl) ?_
  refine lv_aload_n hx hb dL_law_554 rfl (lv_at hl 0 rfl) ?_
  refine lv_iload_n hx hb dL_law_555 rfl (lv_at hl 3 rfl) ?_
  refine lv_iconst (v := 1) hx hb dL_law_556 (by decide) ?_
  refine nadd hx hb i 1 dL_law_557 ?_
  refine lsld C h hXs hbl hbA (show i + 1 < L by omega) (by omega) dL_law_558 ?_
  refine lv_aload_n hx hb dL_law_559 rfl (lv_at hl 0 rfl) ?_
  refine lv_iload_n hx hb dL_law_560 rfl (lv_at hl 3 rfl) ?_
  refine lv_iconst (v := 2) hx hb dL_law_561 (by decide) ?_
  refine nadd hx hb i 2 dL_law_562 ?_
  refine lsld C h hXs hbl hbA (show i + 2 < L by omega) (by omega) dL_law_563 ?_
  refine lv_aload_n hx hb dL_law_564 rfl (lv_at hl 0 rfl) ?_
  refine lv_iload_n hx hb dL_law_565 rfl (lv_at hl 3 rfl) ?_
  refine lv_iconst (v := 3) hx hb dL_law_566 (by decide) ?_
  refine nadd hx hb i 3 dL_law_567 ?_
  refine lsld C h hXs hbl hbA (show i + 3 < L by omega) (by omega) dL_law_568 ?_
  refine hVi C h hst (stX_ok dt) hS (cwV 3 C.2.2.2.2 (gInVL q580 q581 q582 q57 q583) rfl rfl rfl hvX8_cuts ⟨Nat.le_of_ble_eq_true rfl, Nat.le_of_ble_eq_true rfl⟩) rfl rfl rfl rfl hl.1 rfl (Nat.le_of_ble_eq_true rfl) dL_law_569 ⟨Nat.le_refl _, Nat.le_refl _⟩ (fun r8 u8 H ll hp8 h => ?_)
  have h : gW D ct A s H ll (wM bd ct ρ θ ++ wX ad ct u8.1 u8.2.1 u8.2.2) := h
  refine lv_aload_n hx hb dL_law_572 rfl (lv_at hl 2 rfl) ?_
  refine lv_aload_n hx hb dL_law_573 rfl (lv_at hl 0 rfl) ?_
  refine lv_iload_n hx hb dL_law_574 rfl (lv_at hl 3 rfl) ?_
  refine lv_iconst (v := 1) hx hb dL_law_575 (by decide) ?_
  refine nadd hx hb i 1 dL_law_576 ?_
  refine lsld C h hXs hbl hbA (show i + 1 < L by omega) (by omega) dL_law_577 ?_
  refine lv_aload_n hx hb dL_law_578 rfl (lv_at hl 0 rfl) ?_
  refine lv_iload_n hx hb dL_law_579 rfl (lv_at hl 3 rfl) ?_
  refine lv_iconst (v := 2) hx hb dL_law_580 (by decide) ?_
  refine nadd hx hb i 2 dL_law_581 ?_
  refine lsld C h hXs hbl hbA (show i + 2 < L by omega) (by omega) dL_law_582 ?_
  refine lv_aload_n hx hb dL_law_583 rfl (lv_at hl 0 rfl) ?_
  refine lv_iload_n hx hb dL_law_584 rfl (lv_at hl 3 rfl) ?_
  refine lv_iconst (v := 3) hx hb dL_law_585 (by decide) ?_
  refine nadd hx hb i 3 dL_law_586 ?_
  refine lsld C h hXs hbl hbA (show i + 3 < L by omega) (by omega) dL_law_587 ?_
  refine hVi C h trivial gNo_ok hM (cwV 3 C.2.2.2.2 (gInVL q993 q994 q995 q66 q996) rfl rfl rfl hvX9_cuts ⟨Nat.le_of_ble_eq_true rfl, Nat.le_of_ble_eq_true rfl⟩) rfl rfl rfl rfl hl.1 rfl (Nat.le_of_ble_eq_true rfl) dL_law_588 ⟨Nat.le_refl _, Nat.le_refl _⟩ (fun r9 u9 H ll hp9 h => ?_)
  have h : gW D ct A s H ll (wX ad ct u8.1 u8.2.1 u8.2.2 ++ wM bd ct u9.1 u9.2) := h
  obtain ⟨er, hR2⟩ := hp8 r9 u9 hp9
  refine lv_icmp_eq (tgt := 824) hx hb dL_law_591 (by decide) (fun _ => ?_) (fun q => absurd er q)
  exact K _ _ _ _ _ _ _ hR2 h
theorem lc_fewTurns (X : LCx p s m c b L xs dt A) (hi : i + 3 < L) (hB : k < 2 ^ 20) (hR : Rel k σ lm ρ) (h : gW D ct A s H ll (wX ad ct σ lm τ ++ wM bd ct ρ θ)) (hl : lv_has ls 4 (lLoc b (ad 0 0) (bd 0) i)) (K : ∀ (σ lm : Nat → Nat → Nat → Int32) (τ : Nat → Int64) (ρ : Nat → Nat → Int32) (θ : Nat → Nat → Int64) (H : Heap) (ll : List Loc), Rel (k + 1) σ lm ρ → gW D ct A s H ll (wX ad ct σ lm τ ++ wM bd ct ρ θ) → W p l e room_1 s m #[Value.ref b] below meth c H ll 600000 7302250 Q (F0 m 824 ls [])) : W p l e room_1 s m #[Value.ref b] below meth c H ll 600000 7302250 Q (F0 m 596 ls []) := by
  obtain ⟨C, hXs, hbl, hbA, hL, hst⟩ := X
  have hx := C.1
  have hb := C.2.1
  obtain ⟨PM, hM, hS⟩ := pr_fewTurns l D ct dt ad bd hB (τ := τ) (θ := θ) hR (xs (i + 1)) (xs (i + 2)) (xs (i + 3))
  refine lv_aload_n hx hb dL_law_596 rfl (lv_at hl 1 rfl) ?_
  refine lv_aload_n hx hb dL_law_597 rfl (lv_at hl 0 rfl) ?_
  refine lv_iload_n hx hb dL_law_598 rfl (lv_at hl 3 rfl) ?_
  refine lv_iconst (v := 1) hx hb dL_law_599 (by decide) ?_
  refine nadd hx hb i 1 dL_law_600 ?_
  refine lsld C h hXs hbl hbA (show i + 1 < L by omega) (by omega) dL_law_601 ?_
  refine lv_aload_n hx hb dL_law_602 rfl (lv_at hl 0 rfl) ?_
  refine lv_iload_n hx hb dL_law_603 rfl (lv_at hl 3 rfl) ?_
  refine lv_iconst (v := 2) hx hb dL_law_604 (by decide) ?_
  refine nadd hx hb i 2 dL_law_605 ?_
  refine lsld C h hXs hbl hbA (show i + 2 < L by omega) (by omega) dL_law_606 ?_
  refine lv_aload_n hx hb dL_law_607 rfl (lv_at hl 0 rfl) ?_
  refine lv_iload_n hx hb dL_law_608 rfl (lv_at hl 3 rfl) ?_
  refine lv_iconst (v := 3) hx hb dL_law_609 (by decide) ?_
  refine nadd hx hb i 3 dL_law_610 ?_
  refine lsld C h hXs hbl hbA (show i + 3 < L by omega) (by omega) dL_law_611 ?_
  refine hVi C h hst (stX_ok dt) hS (cwV 3 C.2.2.2.2 (gInVL q591 q592 q593 q57 q594) rfl rfl rfl hvX8_fewTurns ⟨Nat.le_of_ble_eq_true rfl, Nat.le_of_ble_eq_true rfl⟩) rfl rfl rfl rfl hl.1 rfl (Nat.le_of_ble_eq_true rfl) dL_law_612 ⟨Nat.le_refl _, Nat.le_refl _⟩ (fun r8 u8 H ll hp8 h => ?_)
  have h : gW D ct A s H ll (wM bd ct ρ θ ++ wX ad ct u8.1 u8.2.1 u8.2.2) := h
  refine lv_aload_n hx hb dL_law_615 rfl (lv_at hl 2 rfl) ?_
  refine lv_aload_n hx hb dL_law_616 rfl (lv_at hl 0 rfl) ?_
  refine lv_iload_n hx hb dL_law_617 rfl (lv_at hl 3 rfl) ?_
  refine lv_iconst (v := 1) hx hb dL_law_618 (by decide) ?_
  refine nadd hx hb i 1 dL_law_619 ?_
  refine lsld C h hXs hbl hbA (show i + 1 < L by omega) (by omega) dL_law_620 ?_
  refine lv_aload_n hx hb dL_law_621 rfl (lv_at hl 0 rfl) ?_
  refine lv_iload_n hx hb dL_law_622 rfl (lv_at hl 3 rfl) ?_
  refine lv_iconst (v := 2) hx hb dL_law_623 (by decide) ?_
  refine nadd hx hb i 2 dL_law_624 ?_
  refine lsld C h hXs hbl hbA (show i + 2 < L by omega) (by omega) dL_law_625 ?_
  refine lv_aload_n hx hb dL_law_626 rfl (lv_at hl 0 rfl) ?_
  refine lv_iload_n hx hb dL_law_627 rfl (lv_at hl 3 rfl) ?_
  refine lv_iconst (v := 3) hx hb dL_law_628 (by decide) ?_
  refine nadd hx hb i 3 dL_law_629 ?_
  refine lsld C h hXs hbl hbA (show i + 3 < L by omega) (by omega) dL_law_630 ?_
  refine hVi C h trivial gNo_ok hM (cwV 3 C.2.2.2.2 (gInVL q1001 q1002 q1003 q66 q1004) rfl rfl rfl hvX9_fewTurns ⟨Nat.le_of_ble_eq_true rfl, Nat.le_of_ble_eq_true rfl⟩) rfl rfl rfl rfl hl.1 rfl (Nat.le_of_ble_eq_true rfl) dL_law_631 ⟨Nat.le_refl _, Nat.le_refl _⟩ (fun r9 u9 H ll hp9 h => ?_)
  have h : gW D ct A s H ll (wX ad ct u8.1 u8.2.1 u8.2.2 ++ wM bd ct u9.1 u9.2) := h
  obtain ⟨er, hR2⟩ := hp8 r9 u9 hp9
  refine lv_icmp_eq (tgt := 824) hx hb dL_law_634 (by decide) (fun _ => ?_) (fun q => absurd er q)
  exact K _ _ _ _ _ _ _ hR2 h
theorem lc_settle (X : LCx p s m c b L xs dt A) (hi : i + 3 < L) (hB : k < 2 ^ 20) (hR : Rel k σ lm ρ) (h : gW D ct A s H ll (wX ad ct σ lm τ ++ wM bd ct ρ θ)) (hl : lv_has ls 4 (lLoc b (ad 0 0) (bd 0) i)) (K : ∀ (σ lm : Nat → Nat → Nat → Int32) (τ : Nat → Int64) (ρ : Nat → Nat → Int32) (θ : Nat → Nat → Int64) (H : Heap) (ll : List Loc), Rel (k + 1) σ lm ρ → gW D ct A s H ll (wX ad ct σ lm τ ++ wM bd ct ρ θ) → W p l e room_1 s m #[Value.ref b] below meth c H ll 600000 7302250 Q (F0 m 824 ls [])) : W p l e room_1 s m #[Value.ref b] below meth c H ll 600000 7302250 Q (F0 m 639 ls []) := by
  obtain ⟨C, hXs, hbl, hbA, hL, hst⟩ := X
  have hx := C.1
  have hb := C.2.1
  obtain ⟨PM, hM, hS⟩ := pr_settle l D ct dt ad bd hB (τ := τ) (θ := θ) hR (xs (i + 1))
  refine lv_aload_n hx hb dL_law_639 rfl (lv_at hl 1 rfl) ?_
  refine lv_aload_n hx hb dL_law_640 rfl (lv_at hl 0 rfl) ?_
  refine lv_iload_n hx hb dL_law_641 rfl (lv_at hl 3 rfl) ?_
  refine lv_iconst (v := 1) hx hb dL_law_642 (by decide) ?_
  refine nadd hx hb i 1 dL_law_643 ?_
  refine lsld C h hXs hbl hbA (show i + 1 < L by omega) (by omega) dL_law_644 ?_
  refine hVi C h hst (stX_ok dt) hS (cwV 1 C.2.2.2.2 (gInVL q607 q608 q609 q57 q610) rfl rfl rfl hvX8_settle ⟨Nat.le_of_ble_eq_true rfl, Nat.le_of_ble_eq_true rfl⟩) rfl rfl rfl rfl hl.1 rfl (Nat.le_of_ble_eq_true rfl) dL_law_645 ⟨Nat.le_refl _, Nat.le_refl _⟩ (fun r8 u8 H ll hp8 h => ?_)
  have h : gW D ct A s H ll (wM bd ct ρ θ ++ wX ad ct u8.1 u8.2.1 u8.2.2) := h
  refine lv_aload_n hx hb dL_law_648 rfl (lv_at hl 2 rfl) ?_
  refine lv_aload_n hx hb dL_law_649 rfl (lv_at hl 0 rfl) ?_
  refine lv_iload_n hx hb dL_law_650 rfl (lv_at hl 3 rfl) ?_
  refine lv_iconst (v := 1) hx hb dL_law_651 (by decide) ?_
  refine nadd hx hb i 1 dL_law_652 ?_
  refine lsld C h hXs hbl hbA (show i + 1 < L by omega) (by omega) dL_law_653 ?_
  refine hVi C h trivial gNo_ok hM (cwV 1 C.2.2.2.2 (gInVL q1021 q1022 q1023 q66 q1024) rfl rfl rfl hvX9_settle ⟨Nat.le_of_ble_eq_true rfl, Nat.le_of_ble_eq_true rfl⟩) rfl rfl rfl rfl hl.1 rfl (Nat.le_of_ble_eq_true rfl) dL_law_654 ⟨Nat.le_refl _, Nat.le_refl _⟩ (fun r9 u9 H ll hp9 h => ?_)
  have h : gW D ct A s H ll (wX ad ct u8.1 u8.2.1 u8.2.2 ++ wM bd ct u9.1 u9.2) := h
  obtain ⟨er, hR2⟩ := hp8 r9 u9 hp9
  refine lv_icmp_eq (tgt := 824) hx hb dL_law_657 (by decide) (fun _ => ?_) (fun q => absurd er q)
  exact K _ _ _ _ _ _ _ hR2 h
theorem lc_see (X : LCx p s m c b L xs dt A) (hi : i + 3 < L) (hB : k < 2 ^ 20) (hR : Rel k σ lm ρ) (h : gW D ct A s H ll (wX ad ct σ lm τ ++ wM bd ct ρ θ)) (hl : lv_has ls 4 (lLoc b (ad 0 0) (bd 0) i)) (K : ∀ (σ lm : Nat → Nat → Nat → Int32) (τ : Nat → Int64) (ρ : Nat → Nat → Int32) (θ : Nat → Nat → Int64) (H : Heap) (ll : List Loc), Rel (k + 1) σ lm ρ → gW D ct A s H ll (wX ad ct σ lm τ ++ wM bd ct ρ θ) → W p l e room_1 s m #[Value.ref b] below meth c H ll 600000 7302250 Q (F0 m 824 ls [])) : W p l e room_1 s m #[Value.ref b] below meth c H ll 600000 7302250 Q (F0 m 662 ls []) := by
  obtain ⟨C, hXs, hbl, hbA, hL, hst⟩ := X
  have hx := C.1
  have hb := C.2.1
  obtain ⟨PM, hM, hS⟩ := pr_see l D ct dt ad bd hB (τ := τ) (θ := θ) hR (xs (i + 1)) (xs (i + 2)) (xs (i + 3))
  refine lv_aload_n hx hb dL_law_662 rfl (lv_at hl 1 rfl) ?_
  refine lv_aload_n hx hb dL_law_663 rfl (lv_at hl 0 rfl) ?_
  refine lv_iload_n hx hb dL_law_664 rfl (lv_at hl 3 rfl) ?_
  refine lv_iconst (v := 1) hx hb dL_law_665 (by decide) ?_
  refine nadd hx hb i 1 dL_law_666 ?_
  refine lsld C h hXs hbl hbA (show i + 1 < L by omega) (by omega) dL_law_667 ?_
  refine lv_aload_n hx hb dL_law_668 rfl (lv_at hl 0 rfl) ?_
  refine lv_iload_n hx hb dL_law_669 rfl (lv_at hl 3 rfl) ?_
  refine lv_iconst (v := 2) hx hb dL_law_670 (by decide) ?_
  refine nadd hx hb i 2 dL_law_671 ?_
  refine lsld C h hXs hbl hbA (show i + 2 < L by omega) (by omega) dL_law_672 ?_
  refine lv_aload_n hx hb dL_law_673 rfl (lv_at hl 0 rfl) ?_
  refine lv_iload_n hx hb dL_law_674 rfl (lv_at hl 3 rfl) ?_
  refine lv_iconst (v := 3) hx hb dL_law_675 (by decide) ?_
  refine nadd hx hb i 3 dL_law_676 ?_
  refine lsld C h hXs hbl hbA (show i + 3 < L by omega) (by omega) dL_law_677 ?_
  refine hVi C h hst (stX_ok dt) hS (cwV 3 C.2.2.2.2 (gInVL q624 q625 q626 q57 q627) rfl rfl rfl hvX8_see ⟨Nat.le_of_ble_eq_true rfl, Nat.le_of_ble_eq_true rfl⟩) rfl rfl rfl rfl hl.1 rfl (Nat.le_of_ble_eq_true rfl) dL_law_678 ⟨Nat.le_refl _, Nat.le_refl _⟩ (fun r8 u8 H ll hp8 h => ?_)
  have h : gW D ct A s H ll (wM bd ct ρ θ ++ wX ad ct u8.1 u8.2.1 u8.2.2) := h
  refine lv_aload_n hx hb dL_law_681 rfl (lv_at hl 2 rfl) ?_
  refine lv_aload_n hx hb dL_law_682 rfl (lv_at hl 0 rfl) ?_
  refine lv_iload_n hx hb dL_law_683 rfl (lv_at hl 3 rfl) ?_
  refine lv_iconst (v := 1) hx hb dL_law_684 (by decide) ?_
  refine nadd hx hb i 1 dL_law_685 ?_
  refine lsld C h hXs hbl hbA (show i + 1 < L by omega) (by omega) dL_law_686 ?_
  refine lv_aload_n hx hb dL_law_687 rfl (lv_at hl 0 rfl) ?_
  refine lv_iload_n hx hb dL_law_688 rfl (lv_at hl 3 rfl) ?_
  refine lv_iconst (v := 2) hx hb dL_law_689 (by decide) ?_
  refine nadd hx hb i 2 dL_law_690 ?_
  refine lsld C h hXs hbl hbA (show i + 2 < L by omega) (by omega) dL_law_691 ?_
  refine lv_aload_n hx hb dL_law_692 rfl (lv_at hl 0 rfl) ?_
  refine lv_iload_n hx hb dL_law_693 rfl (lv_at hl 3 rfl) ?_
  refine lv_iconst (v := 3) hx hb dL_law_694 (by decide) ?_
  refine nadd hx hb i 3 dL_law_695 ?_
  refine lsld C h hXs hbl hbA (show i + 3 < L by omega) (by omega) dL_law_696 ?_
  refine hVi C h trivial gNo_ok hM (cwV 3 C.2.2.2.2 (gInVL q1034 q1035 q1036 q66 q1037) rfl rfl rfl hvX9_see ⟨Nat.le_of_ble_eq_true rfl, Nat.le_of_ble_eq_true rfl⟩) rfl rfl rfl rfl hl.1 rfl (Nat.le_of_ble_eq_true rfl) dL_law_697 ⟨Nat.le_refl _, Nat.le_refl _⟩ (fun r9 u9 H ll hp9 h => ?_)
  have h : gW D ct A s H ll (wX ad ct u8.1 u8.2.1 u8.2.2 ++ wM bd ct u9.1 u9.2) := h
  obtain ⟨er, hR2⟩ := hp8 r9 u9 hp9
  refine lv_icmp_eq (tgt := 824) hx hb dL_law_700 (by decide) (fun _ => ?_) (fun q => absurd er q)
  exact K _ _ _ _ _ _ _ hR2 h
theorem lc_forget (X : LCx p s m c b L xs dt A) (hi : i + 3 < L) (hB : k < 2 ^ 20) (hR : Rel k σ lm ρ) (h : gW D ct A s H ll (wX ad ct σ lm τ ++ wM bd ct ρ θ)) (hl : lv_has ls 4 (lLoc b (ad 0 0) (bd 0) i)) (K : ∀ (σ lm : Nat → Nat → Nat → Int32) (τ : Nat → Int64) (ρ : Nat → Nat → Int32) (θ : Nat → Nat → Int64) (H : Heap) (ll : List Loc), Rel (k + 1) σ lm ρ → gW D ct A s H ll (wX ad ct σ lm τ ++ wM bd ct ρ θ) → W p l e room_1 s m #[Value.ref b] below meth c H ll 600000 7302250 Q (F0 m 824 ls [])) : W p l e room_1 s m #[Value.ref b] below meth c H ll 600000 7302250 Q (F0 m 705 ls []) := by
  obtain ⟨C, hXs, hbl, hbA, hL, hst⟩ := X
  have hx := C.1
  have hb := C.2.1
  obtain ⟨PM, hM, hS⟩ := pr_forget l D ct dt ad bd hB (τ := τ) (θ := θ) hR
  refine lv_aload_n hx hb dL_law_705 rfl (lv_at hl 1 rfl) ?_
  refine hVi C h hst (stX_ok dt) hS (cwV 0 C.2.2.2.2 (gInVL q632 q633 q634 q57 q635) rfl rfl rfl hvX8_forget ⟨Nat.le_of_ble_eq_true rfl, Nat.le_of_ble_eq_true rfl⟩) rfl rfl rfl rfl hl.1 rfl (Nat.le_of_ble_eq_true rfl) dL_law_706 ⟨Nat.le_refl _, Nat.le_refl _⟩ (fun r8 u8 H ll hp8 h => ?_)
  have h : gW D ct A s H ll (wM bd ct ρ θ ++ wX ad ct u8.1 u8.2.1 u8.2.2) := h
  refine lv_aload_n hx hb dL_law_709 rfl (lv_at hl 2 rfl) ?_
  refine hVi C h trivial gNo_ok hM (cwV 0 C.2.2.2.2 (gInVL q1038 q1039 q1040 q66 q1041) rfl rfl rfl hvX9_forget ⟨Nat.le_of_ble_eq_true rfl, Nat.le_of_ble_eq_true rfl⟩) rfl rfl rfl rfl hl.1 rfl (Nat.le_of_ble_eq_true rfl) dL_law_710 ⟨Nat.le_refl _, Nat.le_refl _⟩ (fun r9 u9 H ll hp9 h => ?_)
  have h : gW D ct A s H ll (wX ad ct u8.1 u8.2.1 u8.2.2 ++ wM bd ct u9.1 u9.2) := h
  obtain ⟨er, hR2⟩ := hp8 r9 u9 hp9
  refine lv_icmp_eq (tgt := 824) hx hb dL_law_713 (by decide) (fun _ => ?_) (fun q => absurd er q)
  exact K _ _ _ _ _ _ _ hR2 h
theorem lc_tides (X : LCx p s m c b L xs dt A) (hi : i + 3 < L) (hB : k < 2 ^ 20) (hR : Rel k σ lm ρ) (h : gW D ct A s H ll (wX ad ct σ lm τ ++ wM bd ct ρ θ)) (hl : lv_has ls 4 (lLoc b (ad 0 0) (bd 0) i)) (K : ∀ (σ lm : Nat → Nat → Nat → Int32) (τ : Nat → Int64) (ρ : Nat → Nat → Int32) (θ : Nat → Nat → Int64) (H : Heap) (ll : List Loc), Rel (k + 1) σ lm ρ → gW D ct A s H ll (wX ad ct σ lm τ ++ wM bd ct ρ θ) → W p l e room_1 s m #[Value.ref b] below meth c H ll 600000 7302250 Q (F0 m 824 ls [])) : W p l e room_1 s m #[Value.ref b] below meth c H ll 600000 7302250 Q (F0 m 718 ls []) := by
  obtain ⟨C, hXs, hbl, hbA, hL, hst⟩ := X
  have hx := C.1
  have hb := C.2.1
  obtain ⟨PM, hM, hS⟩ := pr_tides l D ct dt ad bd hB (τ := τ) (θ := θ) hR (xs (i + 1)) (xs (i + 2)) (xs (i + 3))
  refine lv_aload_n hx hb dL_law_718 rfl (lv_at hl 1 rfl) ?_
  refine lv_aload_n hx hb dL_law_719 rfl (lv_at hl 0 rfl) ?_
  refine lv_iload_n hx hb dL_law_720 rfl (lv_at hl 3 rfl) ?_
  refine lv_iconst (v := 1) hx hb dL_law_721 (by decide) ?_
  refine nadd hx hb i 1 dL_law_722 ?_
  refine lsld C h hXs hbl hbA (show i + 1 < L by omega) (by omega) dL_law_723 ?_
  refine lv_aload_n hx hb dL_law_724 rfl (lv_at hl 0 rfl) ?_
  refine lv_iload_n hx hb dL_law_725 rfl (lv_at hl 3 rfl) ?_
  refine lv_iconst (v := 2) hx hb dL_law_726 (by decide) ?_
  refine nadd hx hb i 2 dL_law_727 ?_
  refine lsld C h hXs hbl hbA (show i + 2 < L by omega) (by omega) dL_law_728 ?_
  refine lv_aload_n hx hb dL_law_729 rfl (lv_at hl 0 rfl) ?_
  refine lv_iload_n hx hb dL_law_730 rfl (lv_at hl 3 rfl) ?_
  refine lv_iconst (v := 3) hx hb dL_law_731 (by decide) ?_
  refine nadd hx hb i 3 dL_law_732 ?_
  refine lsld C h hXs hbl hbA (show i + 3 < L by omega) (by omega) dL_law_733 ?_
  refine hVi C h hst (stX_ok dt) hS (cwV 3 C.2.2.2.2 (gInVL q636 q637 q638 q57 q639) rfl rfl rfl hvX8_tides ⟨Nat.le_of_ble_eq_true rfl, Nat.le_of_ble_eq_true rfl⟩) rfl rfl rfl rfl hl.1 rfl (Nat.le_of_ble_eq_true rfl) dL_law_734 ⟨Nat.le_refl _, Nat.le_refl _⟩ (fun r8 u8 H ll hp8 h => ?_)
  have h : gW D ct A s H ll (wM bd ct ρ θ ++ wX ad ct u8.1 u8.2.1 u8.2.2) := h
  refine lv_aload_n hx hb dL_law_737 rfl (lv_at hl 2 rfl) ?_
  refine lv_aload_n hx hb dL_law_738 rfl (lv_at hl 0 rfl) ?_
  refine lv_iload_n hx hb dL_law_739 rfl (lv_at hl 3 rfl) ?_
  refine lv_iconst (v := 1) hx hb dL_law_740 (by decide) ?_
  refine nadd hx hb i 1 dL_law_741 ?_
  refine lsld C h hXs hbl hbA (show i + 1 < L by omega) (by omega) dL_law_742 ?_
  refine lv_aload_n hx hb dL_law_743 rfl (lv_at hl 0 rfl) ?_
  refine lv_iload_n hx hb dL_law_744 rfl (lv_at hl 3 rfl) ?_
  refine lv_iconst (v := 2) hx hb dL_law_745 (by decide) ?_
  refine nadd hx hb i 2 dL_law_746 ?_
  refine lsld C h hXs hbl hbA (show i + 2 < L by omega) (by omega) dL_law_747 ?_
  refine lv_aload_n hx hb dL_law_748 rfl (lv_at hl 0 rfl) ?_
  refine lv_iload_n hx hb dL_law_749 rfl (lv_at hl 3 rfl) ?_
  refine lv_iconst (v := 3) hx hb dL_law_750 (by decide) ?_
  refine nadd hx hb i 3 dL_law_751 ?_
  refine lsld C h hXs hbl hbA (show i + 3 < L by omega) (by omega) dL_law_752 ?_
  refine hVi C h trivial gNo_ok hM (cwV 3 C.2.2.2.2 (gInVL q1042 q1043 q1044 q66 q1045) rfl rfl rfl hvX9_tides ⟨Nat.le_of_ble_eq_true rfl, Nat.le_of_ble_eq_true rfl⟩) rfl rfl rfl rfl hl.1 rfl (Nat.le_of_ble_eq_true rfl) dL_law_753 ⟨Nat.le_refl _, Nat.le_refl _⟩ (fun r9 u9 H ll hp9 h => ?_)
  have h : gW D ct A s H ll (wX ad ct u8.1 u8.2.1 u8.2.2 ++ wM bd ct u9.1 u9.2) := h
  obtain ⟨er, hR2⟩ := hp8 r9 u9 hp9
  refine lv_icmp_eq (tgt := 824) hx hb dL_law_756 (by decide) (fun _ => ?_) (fun q => absurd er q)
  exact K _ _ _ _ _ _ _ hR2 h
theorem lc_image (X : LCx p s m c b L xs dt A) (hi : i + 3 < L) (hB : k < 2 ^ 20) (hR : Rel k σ lm ρ) (h : gW D ct A s H ll (wX ad ct σ lm τ ++ wM bd ct ρ θ)) (hl : lv_has ls 4 (lLoc b (ad 0 0) (bd 0) i)) (K : ∀ (σ lm : Nat → Nat → Nat → Int32) (τ : Nat → Int64) (ρ : Nat → Nat → Int32) (θ : Nat → Nat → Int64) (H : Heap) (ll : List Loc), Rel (k + 1) σ lm ρ → gW D ct A s H ll (wX ad ct σ lm τ ++ wM bd ct ρ θ) → W p l e room_1 s m #[Value.ref b] below meth c H ll 600000 7302250 Q (F0 m 824 ls [])) : W p l e room_1 s m #[Value.ref b] below meth c H ll 600000 7302250 Q (F0 m 761 ls []) := by
  obtain ⟨C, hXs, hbl, hbA, hL, hst⟩ := X
  have hx := C.1
  have hb := C.2.1
  obtain ⟨PM, hM, hS⟩ := pr_image l D ct dt ad bd hB (τ := τ) (θ := θ) hR
  refine lv_aload_n hx hb dL_law_761 rfl (lv_at hl 1 rfl) ?_
  refine hVi C h hst (stX_ok dt) hS (cwV 0 C.2.2.2.2 (gInVL q654 q655 q656 q57 q657) rfl rfl rfl hvX8_image ⟨Nat.le_of_ble_eq_true rfl, Nat.le_of_ble_eq_true rfl⟩) rfl rfl rfl rfl hl.1 rfl (Nat.le_of_ble_eq_true rfl) dL_law_762 ⟨Nat.le_refl _, Nat.le_refl _⟩ (fun r8 u8 H ll hp8 h => ?_)
  have h : gW D ct A s H ll (wM bd ct ρ θ ++ wX ad ct u8.1 u8.2.1 u8.2.2) := h
  refine lv_aload_n hx hb dL_law_765 rfl (lv_at hl 2 rfl) ?_
  refine hVi C h trivial gNo_ok hM (cwV 0 C.2.2.2.2 (gInVL q1058 q1059 q1060 q66 q1061) rfl rfl rfl hvX9_image ⟨Nat.le_of_ble_eq_true rfl, Nat.le_of_ble_eq_true rfl⟩) rfl rfl rfl rfl hl.1 rfl (Nat.le_of_ble_eq_true rfl) dL_law_766 ⟨Nat.le_refl _, Nat.le_refl _⟩ (fun r9 u9 H ll hp9 h => ?_)
  have h : gW D ct A s H ll (wX ad ct u8.1 u8.2.1 u8.2.2 ++ wM bd ct u9.1 u9.2) := h
  obtain ⟨er, hR2⟩ := hp8 r9 u9 hp9
  refine lv_icmp_eq (tgt := 824) hx hb dL_law_769 (by decide) (fun _ => ?_) (fun q => absurd er q)
  exact K _ _ _ _ _ _ _ hR2 h
theorem lc_restore (X : LCx p s m c b L xs dt A) (hi : i + 3 < L) (hB : k < 2 ^ 20) (hR : Rel k σ lm ρ) (h : gW D ct A s H ll (wX ad ct σ lm τ ++ wM bd ct ρ θ)) (hl : lv_has ls 4 (lLoc b (ad 0 0) (bd 0) i)) (K : ∀ (σ lm : Nat → Nat → Nat → Int32) (τ : Nat → Int64) (ρ : Nat → Nat → Int32) (θ : Nat → Nat → Int64) (H : Heap) (ll : List Loc), Rel (k + 1) σ lm ρ → gW D ct A s H ll (wX ad ct σ lm τ ++ wM bd ct ρ θ) → W p l e room_1 s m #[Value.ref b] below meth c H ll 600000 7302250 Q (F0 m 824 ls [])) : W p l e room_1 s m #[Value.ref b] below meth c H ll 600000 7302250 Q (F0 m 774 ls []) := by
  obtain ⟨C, hXs, hbl, hbA, hL, hst⟩ := X
  have hx := C.1
  have hb := C.2.1
  obtain ⟨PM, hM, hS⟩ := pr_restore l D ct dt ad bd hB (τ := τ) (θ := θ) hR
  refine lv_aload_n hx hb dL_law_774 rfl (lv_at hl 1 rfl) ?_
  refine hVi C h hst (stX_ok dt) hS (cwV 0 C.2.2.2.2 (gInVL q658 q659 q660 q57 q661) rfl rfl rfl hvX8_restore ⟨Nat.le_of_ble_eq_true rfl, Nat.le_of_ble_eq_true rfl⟩) rfl rfl rfl rfl hl.1 rfl (Nat.le_of_ble_eq_true rfl) dL_law_775 ⟨Nat.le_refl _, Nat.le_refl _⟩ (fun r8 u8 H ll hp8 h => ?_)
  have h : gW D ct A s H ll (wM bd ct ρ θ ++ wX ad ct u8.1 u8.2.1 u8.2.2) := h
  refine lv_aload_n hx hb dL_law_778 rfl (lv_at hl 2 rfl) ?_
  refine hVi C h trivial gNo_ok hM (cwV 0 C.2.2.2.2 (gInVL q1062 q1063 q1064 q66 q1065) rfl rfl rfl hvX9_restore ⟨Nat.le_of_ble_eq_true rfl, Nat.le_of_ble_eq_true rfl⟩) rfl rfl rfl rfl hl.1 rfl (Nat.le_of_ble_eq_true rfl) dL_law_779 ⟨Nat.le_refl _, Nat.le_refl _⟩ (fun r9 u9 H ll hp9 h => ?_)
  have h : gW D ct A s H ll (wX ad ct u8.1 u8.2.1 u8.2.2 ++ wM bd ct u9.1 u9.2) := h
  obtain ⟨er, hR2⟩ := hp8 r9 u9 hp9
  refine lv_icmp_eq (tgt := 824) hx hb dL_law_782 (by decide) (fun _ => ?_) (fun q => absurd er q)
  exact K _ _ _ _ _ _ _ hR2 h
theorem lc_count (X : LCx p s m c b L xs dt A) (hi : i + 3 < L) (hB : k < 2 ^ 20) (hR : Rel k σ lm ρ) (h : gW D ct A s H ll (wX ad ct σ lm τ ++ wM bd ct ρ θ)) (hl : lv_has ls 4 (lLoc b (ad 0 0) (bd 0) i)) (K : ∀ (σ lm : Nat → Nat → Nat → Int32) (τ : Nat → Int64) (ρ : Nat → Nat → Int32) (θ : Nat → Nat → Int64) (H : Heap) (ll : List Loc), Rel (k + 1) σ lm ρ → gW D ct A s H ll (wX ad ct σ lm τ ++ wM bd ct ρ θ) → W p l e room_1 s m #[Value.ref b] below meth c H ll 600000 7302250 Q (F0 m 824 ls [])) : W p l e room_1 s m #[Value.ref b] below meth c H ll 600000 7302250 Q (F0 m 787 ls []) := by
  obtain ⟨C, hXs, hbl, hbA, hL, hst⟩ := X
  have hx := C.1
  have hb := C.2.1
  obtain ⟨PM, hM, hS⟩ := pr_count l D ct dt ad bd hB (τ := τ) (θ := θ) hR (xs (i + 1))
  refine lv_aload_n hx hb dL_law_787 rfl (lv_at hl 1 rfl) ?_
  refine lv_aload_n hx hb dL_law_788 rfl (lv_at hl 0 rfl) ?_
  refine lv_iload_n hx hb dL_law_789 rfl (lv_at hl 3 rfl) ?_
  refine lv_iconst (v := 1) hx hb dL_law_790 (by decide) ?_
  refine nadd hx hb i 1 dL_law_791 ?_
  refine lsld C h hXs hbl hbA (show i + 1 < L by omega) (by omega) dL_law_792 ?_
  refine hVi C h hst (stX_ok dt) hS (cwV 1 C.2.2.2.2 (gInVL q662 q663 q664 q57 q665) rfl rfl rfl hvX8_count ⟨Nat.le_of_ble_eq_true rfl, Nat.le_of_ble_eq_true rfl⟩) rfl rfl rfl rfl hl.1 rfl (Nat.le_of_ble_eq_true rfl) dL_law_793 ⟨Nat.le_refl _, Nat.le_refl _⟩ (fun r8 u8 H ll hp8 h => ?_)
  have h : gW D ct A s H ll (wM bd ct ρ θ ++ wX ad ct u8.1 u8.2.1 u8.2.2) := h
  refine lv_aload_n hx hb dL_law_796 rfl (lv_at hl 2 rfl) ?_
  refine lv_aload_n hx hb dL_law_797 rfl (lv_at hl 0 rfl) ?_
  refine lv_iload_n hx hb dL_law_798 rfl (lv_at hl 3 rfl) ?_
  refine lv_iconst (v := 1) hx hb dL_law_799 (by decide) ?_
  refine nadd hx hb i 1 dL_law_800 ?_
  refine lsld C h hXs hbl hbA (show i + 1 < L by omega) (by omega) dL_law_801 ?_
  refine hVi C h trivial gNo_ok hM (cwV 1 C.2.2.2.2 (gInVL q1066 q1067 q1068 q66 q1069) rfl rfl rfl hvX9_count ⟨Nat.le_of_ble_eq_true rfl, Nat.le_of_ble_eq_true rfl⟩) rfl rfl rfl rfl hl.1 rfl (Nat.le_of_ble_eq_true rfl) dL_law_802 ⟨Nat.le_refl _, Nat.le_refl _⟩ (fun r9 u9 H ll hp9 h => ?_)
  have h : gW D ct A s H ll (wX ad ct u8.1 u8.2.1 u8.2.2 ++ wM bd ct u9.1 u9.2) := h
  obtain ⟨er, hR2⟩ := hp8 r9 u9 hp9
  refine lv_icmp_eq (tgt := 824) hx hb dL_law_805 (by decide) (fun _ => ?_) (fun q => absurd er q)
  exact K _ _ _ _ _ _ _ hR2 h
theorem lc_digest (X : LCx p s m c b L xs dt A) (hi : i + 3 < L) (hB : k < 2 ^ 20) (hR : Rel k σ lm ρ) (h : gW D ct A s H ll (wX ad ct σ lm τ ++ wM bd ct ρ θ)) (hl : lv_has ls 4 (lLoc b (ad 0 0) (bd 0) i)) (K : ∀ (σ lm : Nat → Nat → Nat → Int32) (τ : Nat → Int64) (ρ : Nat → Nat → Int32) (θ : Nat → Nat → Int64) (H : Heap) (ll : List Loc), Rel (k + 1) σ lm ρ → gW D ct A s H ll (wX ad ct σ lm τ ++ wM bd ct ρ θ) → W p l e room_1 s m #[Value.ref b] below meth c H ll 600000 7302250 Q (F0 m 824 ls [])) : W p l e room_1 s m #[Value.ref b] below meth c H ll 600000 7302250 Q (F0 m 810 ls []) := by
  obtain ⟨C, hXs, hbl, hbA, hL, hst⟩ := X
  have hx := C.1
  have hb := C.2.1
  obtain ⟨PM, hM, hS⟩ := pr_digest l D ct dt ad bd hB (τ := τ) (θ := θ) hR
  refine lv_aload_n hx hb dL_law_810 rfl (lv_at hl 1 rfl) ?_
  refine hVl C h hst (stX_ok dt) hS (cwV 0 C.2.2.2.2 (gInVL q673 q674 q675 q57 q676) rfl rfl rfl hvX8_digest ⟨Nat.le_of_ble_eq_true rfl, Nat.le_of_ble_eq_true rfl⟩) rfl rfl rfl rfl hl.1 rfl (Nat.le_of_ble_eq_true rfl) dL_law_811 ⟨Nat.le_refl _, Nat.le_refl _⟩ (fun r8 u8 H ll hp8 h => ?_)
  have h : gW D ct A s H ll (wM bd ct ρ θ ++ wX ad ct u8.1 u8.2.1 u8.2.2) := h
  refine lv_aload_n hx hb dL_law_814 rfl (lv_at hl 2 rfl) ?_
  refine hVl C h trivial gNo_ok hM (cwV 0 C.2.2.2.2 (gInVL q1082 q1083 q1084 q66 q1085) rfl rfl rfl hvX9_digest ⟨Nat.le_of_ble_eq_true rfl, Nat.le_of_ble_eq_true rfl⟩) rfl rfl rfl rfl hl.1 rfl (Nat.le_of_ble_eq_true rfl) dL_law_815 ⟨Nat.le_refl _, Nat.le_refl _⟩ (fun r9 u9 H ll hp9 h => ?_)
  have h : gW D ct A s H ll (wX ad ct u8.1 u8.2.1 u8.2.2 ++ wM bd ct u9.1 u9.2) := h
  obtain ⟨er, hR2⟩ := hp8 r9 u9 hp9
  subst er
  refine W.lcmp hx hb dL_law_818 ?_
  refine gas (lcmp_self r8) ?_
  refine lv_if_eq (tgt := 824) hx hb dL_law_819 (by decide) (fun _ => ?_) (fun q => absurd rfl q)
  exact K _ _ _ _ _ _ _ hR2 h
end LCases
