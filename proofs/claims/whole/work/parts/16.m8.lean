def isLn (x : Int32) : Prop := x = 43 ∨ x = 45 ∨ x = 48
/-- past leans, at most d -/
def ldn (a : Nat → Int32) : Nat → Nat → Nat
  | k, 0 => k
  | k, d + 1 => if a k = 43 ∨ a k = 45 ∨ a k = 48 then ldn a (k + 1) d else k
def rd1 (a : Nat → Int32) (f : Nat) : Nat := if kindC (a f) = -1 then f else if 1 ≤ a (f + 1) - 48 ∧ a (f + 1) - 48 ≤ 9 then ldn a (f + 2) 3 else f + 1
theorem ldn_le (a : Nat → Int32) : ∀ d k, ldn a k d ≤ k + d
  | 0, k => Nat.le_refl k
  | d + 1, k => by simp only [ldn]; have := ldn_le a d (k + 1); split <;> omega
theorem rd1_le (a : Nat → Int32) (f : Nat) : rd1 a f ≤ f + 5 := by
  unfold rd1
  have := ldn_le a 3 (f + 2)
  split
  · omega
  · split <;> omega
def rdF (a : Nat → Int32) (pg : Nat) : Nat → Nat → Bool → Nat × Nat × Bool
  | 0, nm, wh => (6 * nm, nm, wh)
  | f + 1, nm, wh => if rd1 a (6 * nm) = 6 * nm + 5 then (if nm + 1 = 8 ∨ ¬ a (6 * nm + 5) = 44 then (6 * nm + 5, nm + 1, decide (6 * nm + 5 = pg ∧ 1 < nm + 1)) else rdF a pg f (nm + 1) (decide (6 * nm + 5 = pg ∧ 1 < nm + 1))) else (rd1 a (6 * nm), nm, wh)
abbrev rdM (σ : Nat → Nat → Int32) (pg : Nat) : Nat × Nat × Bool := rdF (atM σ pg) pg 8 0 false
theorem kin {x : Int32} : kindC x = 0 ∨ kindC x = 1 ∨ kindC x = 2 ∨ kindC x = 3 ∨ kindC x = 4 ∨ kindC x = -1 := by
  unfold kindC
  split
  · exact Or.inl rfl
  · split
    · exact Or.inr (Or.inl rfl)
    · split
      · exact Or.inr (Or.inr (Or.inl rfl))
      · split
        · exact Or.inr (Or.inr (Or.inr (Or.inl rfl)))
        · split
          · exact Or.inr (Or.inr (Or.inr (Or.inr (Or.inl rfl))))
          · exact Or.inr (Or.inr (Or.inr (Or.inr (Or.inr rfl))))
set_option maxHeartbeats 4000000 in
set_option maxRecDepth 100000 in
theorem kX9_tidesNow (l : Launch) (D : va_G) (ct : Nat → ClassId) (ad : Nat → Nat) (σ : Nat → Nat → Int32) (τ : Nat → Nat → Int64) (n c : Nat) (kd : Nat → Nat) (hok : MOK σ n c kd) (tm sd t : Nat) (htm : tm ≤ 60) (hsd : sd < 2 ^ 31) (ht : t < 3) (hn0 : 0 < n) : MI l yX9_tidesNow (gWs yX9_tidesNow cX9_tidesNow 10 (some .int)) rmX9_tidesNow D ct gNo [.ref (ad 0), .int (nI tm), .int (nI sd), .int (nI t)] (wM ad ct σ τ) (fun u : (Nat → Nat → Int32) × (Nat → Nat → Int64) => wM ad ct u.1 u.2) (fun r u => r = tsR σ n c kd tm sd t ∧ ∃ (g18 : Nat → Int32) (g22 : Int64), u = (va_up (va_up (va_up σ 23 (σ 4)) 18 g18) 4 (σ 4), va_up τ 22 (fun _ => g22))) := by
  refine MI.ofI RX9 rfl (by decide) (Nat.le_of_ble_eq_true rfl) ?_
  intro zp ze zs zm za zb zt zc zA ls zQ C h hX hl hret
  have hx := C.1
  have hb := C.2.1
  have hl : lv_has ls 10 [(0, .ref (ad 0)), (1, .int (nI tm)), (2, .int (nI sd)), (3, .int (nI t))] := hl
  have hok0 := hok
  obtain ⟨hn, hn8, hc, hc8, hkd⟩ := hok0
  refine lv_iconst (v := 0) hx hb dX9_tidesNow_0 (by decide) ?_
  refine lv_istore (lv' := [(4, .int 0), (0, .ref (ad 0)), (1, .int (nI tm)), (2, .int (nI sd)), (3, .int (nI t))]) hx hb dX9_tidesNow_1 hl (by decide) rfl (fun ls hl => ?_)
  have L3_0 : ∀ (kk : Nat) (i : Nat) (g : Nat → Int32) (H : Heap) (ll : List Loc) (ls : Array Slot), 24 - i = kk → (i ≤ 24) → (∀ j, j < i → g j = σ 4 j) → gW D ct zA zs H ll (wM ad ct (va_up σ 23 g) τ) → lv_has ls 10 [(4, .int (nI i)), (0, .ref (ad 0)), (1, .int (nI tm)), (2, .int (nI sd)), (3, .int (nI t))] → W zp l ze rmX9_tidesNow zs zm za zb zt zc H ll 0 0 zQ (F0 zm 3 ls []) := by
    intro kk3
    induction kk3 using Nat.strongRecOn with
    | _ kk3 ih3 =>
    intro i g H ll ls hk3 hi hg h hl
    refine lv_iload hx hb dX9_tidesNow_3 (lv_at hl 0 rfl) ?_
    refine lv_bipush (v := 24) hx hb dX9_tidesNow_5 (by decide) ?_
    refine nb_ge hx hb i 24 (by omega) (by omega) (tgt := 30) dX9_tidesNow_7 (by decide) (fun c_7 => ?_) (fun c_7 => ?_)
    · have h := mc_keptNow h (σ 4) (fun j hj => hg j (by omega))
      have h : gW D ct zA zs _ _ (wM ad ct (va_up σ 23 (σ 4)) τ) := h
      refine lv_aload_n hx hb dX9_tidesNow_30 rfl (lv_at hl 1 rfl) ?_
      refine lv_iload_n hx hb dX9_tidesNow_31 rfl (lv_at hl 3 rfl) ?_
      refine lv_i2l (v := (nI sd).toInt64) hx hb dX9_tidesNow_32 rfl ?_
      refine gasl (z := lN sd) (nI_l hsd) ?_
      refine mp_seedNow C h dX9_tidesNow_33 (fun H ll h => ?_)
      refine lv_iconst (v := 0) hx hb dX9_tidesNow_36 (by decide) ?_
      refine lv_istore (lv' := [(4, .int 0), (0, .ref (ad 0)), (1, .int (nI tm)), (2, .int (nI sd)), (3, .int (nI t))]) hx hb dX9_tidesNow_37 hl (by decide) rfl (fun ls hl => ?_)
      refine lv_iconst (v := 0) hx hb dX9_tidesNow_39 (by decide) ?_
      refine lv_istore (lv' := [(5, .int 0), (4, .int 0), (0, .ref (ad 0)), (1, .int (nI tm)), (2, .int (nI sd)), (3, .int (nI t))]) hx hb dX9_tidesNow_40 hl (by decide) rfl (fun ls hl => ?_)
      refine lv_iconst (v := 0) hx hb dX9_tidesNow_42 (by decide) ?_
      refine lv_istore (lv' := [(6, .int 0), (5, .int 0), (4, .int 0), (0, .ref (ad 0)), (1, .int (nI tm)), (2, .int (nI sd)), (3, .int (nI t))]) hx hb dX9_tidesNow_43 hl (by decide) rfl (fun ls hl => ?_)
      have L45_1 : ∀ (kk : Nat) (k : Nat) (g : Nat → Int32) (H : Heap) (ll : List Loc) (ls : Array Slot), tm - k = kk → (k ≤ tm) → gW D ct zA zs H ll (wM ad ct (va_up (va_up (va_up σ 23 (σ 4)) 4 ((tsM σ n c kd sd k).1)) 18 g) (va_up τ 22 (fun _ => lN (tsM σ n c kd sd k).2.1))) → lv_has ls 10 [(6, .int (nI k)), (5, .int ((tsM σ n c kd sd k).2.2.2)), (4, .int (nI ((tsM σ n c kd sd k).2.2.1))), (0, .ref (ad 0)), (1, .int (nI tm)), (2, .int (nI sd)), (3, .int (nI t))] → W zp l ze rmX9_tidesNow zs zm za zb zt zc H ll 0 0 zQ (F0 zm 45 ls []) := by
        intro kk45
        induction kk45 using Nat.strongRecOn with
        | _ kk45 ih45 =>
        intro k g H ll ls hk45 hk h hl
        refine lv_iload hx hb dX9_tidesNow_45 (lv_at hl 0 rfl) ?_
        refine lv_iload_n hx hb dX9_tidesNow_47 rfl (lv_at hl 4 rfl) ?_
        refine nb_ge hx hb k tm (by omega) (by omega) (tgt := 149) dX9_tidesNow_48 (by decide) (fun c_48 => ?_) (fun c_48 => ?_)
        · have e17 : k = tm := by omega
          rw [e17] at hl h
          refine lv_iconst (v := 0) hx hb dX9_tidesNow_149 (by decide) ?_
          refine lv_istore (lv' := [(6, .int 0), (5, .int ((tsM σ n c kd sd tm).2.2.2)), (4, .int (nI ((tsM σ n c kd sd tm).2.2.1))), (0, .ref (ad 0)), (1, .int (nI tm)), (2, .int (nI sd)), (3, .int (nI t))]) hx hb dX9_tidesNow_150 hl (by decide) rfl (fun ls hl => ?_)
          have L152_2 : ∀ (kk : Nat) (i : Nat) (g2 : Nat → Int32) (H : Heap) (ll : List Loc) (ls : Array Slot), 24 - i = kk → (i ≤ 24) → (∀ j, j < i → g2 j = σ 4 j) → gW D ct zA zs H ll (wM ad ct (va_up (va_up (va_up σ 23 (σ 4)) 4 g2) 18 g) (va_up τ 22 (fun _ => lN (tsM σ n c kd sd tm).2.1))) → lv_has ls 10 [(6, .int (nI i)), (5, .int ((tsM σ n c kd sd tm).2.2.2)), (4, .int (nI ((tsM σ n c kd sd tm).2.2.1))), (0, .ref (ad 0)), (1, .int (nI tm)), (2, .int (nI sd)), (3, .int (nI t))] → W zp l ze rmX9_tidesNow zs zm za zb zt zc H ll 0 0 zQ (F0 zm 152 ls []) := by
            intro kk152
            induction kk152 using Nat.strongRecOn with
            | _ kk152 ih152 =>
            intro i g2 H ll ls hk152 hi hg h hl
            refine lv_iload hx hb dX9_tidesNow_152 (lv_at hl 0 rfl) ?_
            refine lv_bipush (v := 24) hx hb dX9_tidesNow_154 (by decide) ?_
            refine nb_ge hx hb i 24 (by omega) (by omega) (tgt := 179) dX9_tidesNow_156 (by decide) (fun c_156 => ?_) (fun c_156 => ?_)
            · have h := mc_leanOf h (σ 4) (fun j hj => hg j (by omega))
              refine lv_iload_n hx hb dX9_tidesNow_179 rfl (lv_at hl 6 rfl) ?_
              refine nz_ne hx hb t (by omega) (tgt := 188) dX9_tidesNow_180 (by decide) (fun c_180 => ?_) (fun c_180 => ?_)
              · refine lv_iload_n hx hb dX9_tidesNow_188 rfl (lv_at hl 6 rfl) ?_
                refine lv_iconst (v := 1) hx hb dX9_tidesNow_189 (by decide) ?_
                refine nb_ne hx hb t 1 (by omega) (by omega) (tgt := 202) dX9_tidesNow_190 (by decide) (fun c_190 => ?_) (fun c_190 => ?_)
                · refine lv_aload_n hx hb dX9_tidesNow_202 rfl (lv_at hl 3 rfl) ?_
                  refine mg_seedNow C h dX9_tidesNow_203 ?_
                  refine lv_l2i (v := (lN (tsM σ n c kd sd tm).2.1).toInt32) hx hb dX9_tidesNow_206 rfl ?_
                  have h : gW D ct zA zs _ _ (wM ad ct (va_up (va_up (va_up σ 23 (σ 4)) 18 g) 4 (σ 4)) (va_up τ 22 (fun _ => lN (tsM σ n c kd sd tm).2.1))) := h
                  exact hret _ (va_up (va_up (va_up σ 23 (σ 4)) 18 g) 4 (σ 4), va_up τ 22 (fun _ => lN (tsM σ n c kd sd tm).2.1)) _ _ _ _ h ⟨(by unfold tsR; first | rw [if_pos c_180] | rw [if_neg c_180, if_pos c_190] | (rw [if_neg c_180, if_neg c_190, lN_i])), g, (lN (tsM σ n c kd sd tm).2.1), rfl⟩ dX9_tidesNow_207
                · refine lv_iload hx hb dX9_tidesNow_193 (lv_at hl 1 rfl) ?_
                  refine lv_sipush (v := 10000) hx hb dX9_tidesNow_195 (by decide) ?_
                  refine lv_iadd hx hb dX9_tidesNow_198 ?_
                  refine lv_goto (tgt := 207) hx hb dX9_tidesNow_199 (by decide) ?_
                  have h : gW D ct zA zs _ _ (wM ad ct (va_up (va_up (va_up σ 23 (σ 4)) 18 g) 4 (σ 4)) (va_up τ 22 (fun _ => lN (tsM σ n c kd sd tm).2.1))) := h
                  exact hret _ (va_up (va_up (va_up σ 23 (σ 4)) 18 g) 4 (σ 4), va_up τ 22 (fun _ => lN (tsM σ n c kd sd tm).2.1)) _ _ _ _ h ⟨(by unfold tsR; first | rw [if_pos c_180] | rw [if_neg c_180, if_pos c_190] | (rw [if_neg c_180, if_neg c_190, lN_i])), g, (lN (tsM σ n c kd sd tm).2.1), rfl⟩ dX9_tidesNow_207
              · refine lv_iload hx hb dX9_tidesNow_183 (lv_at hl 2 rfl) ?_
                refine lv_goto (tgt := 207) hx hb dX9_tidesNow_185 (by decide) ?_
                have h : gW D ct zA zs _ _ (wM ad ct (va_up (va_up (va_up σ 23 (σ 4)) 18 g) 4 (σ 4)) (va_up τ 22 (fun _ => lN (tsM σ n c kd sd tm).2.1))) := h
                exact hret _ (va_up (va_up (va_up σ 23 (σ 4)) 18 g) 4 (σ 4), va_up τ 22 (fun _ => lN (tsM σ n c kd sd tm).2.1)) _ _ _ _ h ⟨(by unfold tsR; first | rw [if_pos c_180] | rw [if_neg c_180, if_pos c_190] | (rw [if_neg c_180, if_neg c_190, lN_i])), g, (lN (tsM σ n c kd sd tm).2.1), rfl⟩ dX9_tidesNow_207
            · refine lv_aload_n hx hb dX9_tidesNow_159 rfl (lv_at hl 3 rfl) ?_
              refine mg_leanOf C h dX9_tidesNow_160 ?_
              refine lv_iload hx hb dX9_tidesNow_163 (lv_at hl 0 rfl) ?_
              refine lv_aload_n hx hb dX9_tidesNow_165 rfl (lv_at hl 3 rfl) ?_
              refine mg_keptNow C h dX9_tidesNow_166 ?_
              refine lv_iload hx hb dX9_tidesNow_169 (lv_at hl 0 rfl) ?_
              refine ml_keptNow C h (j := i) (by omega) dX9_tidesNow_171 ?_
              refine gas (z := σ 4 i) rfl ?_
              refine ms_leanOf C h (j := i) (by omega) dX9_tidesNow_172 (fun H ll h => ?_)
              have h : gW D ct zA zs _ _ (wM ad ct (va_up (va_up (va_up σ 23 (σ 4)) 4 (upd g2 i (σ 4 i))) 18 g) (va_up τ 22 (fun _ => lN (tsM σ n c kd sd tm).2.1))) := h
              refine ninc (lv' := [(6, .int (nI (i + 1))), (5, .int ((tsM σ n c kd sd tm).2.2.2)), (4, .int (nI ((tsM σ n c kd sd tm).2.2.1))), (0, .ref (ad 0)), (1, .int (nI tm)), (2, .int (nI sd)), (3, .int (nI t))]) hx hb i 1 dX9_tidesNow_173 hl (k := 0) rfl (by decide) rfl (fun ls hl => ?_)
              refine lv_goto (tgt := 152) hx hb dX9_tidesNow_176 (by decide) ?_
              exact ih152 _ (by omega) (i + 1) (upd g2 i (σ 4 i)) _ _ _ rfl (by omega) (updk hg rfl) h (lv_sub hl [0, 1, 2, 3, 4, 5, 6] rfl)
          exact L152_2 _ 0 ((tsM σ n c kd sd tm).1) _ _ _ rfl (by omega) (fun j hj => absurd hj (by omega)) h (lv_sub hl [0, 1, 2, 3, 4, 5, 6] rfl)
        · refine lv_aload_n hx hb dX9_tidesNow_51 rfl (lv_at hl 3 rfl) ?_
          refine lv_iconst (v := 3) hx hb dX9_tidesNow_52 (by decide) ?_
          refine gcallVi C h trivial gNo_ok (kX9_draw l D ct ad (va_up (va_up (va_up σ 23 (σ 4)) 4 ((tsM σ n c kd sd k).1)) 18 g) (va_up τ 22 (fun _ => lN (tsM σ n c kd sd k).2.1)) ((tsM σ n c kd sd k).2.1) rfl 3 (by omega) (by omega)) (cwV 1 C.2.2.2.2 (gInV q1050 q1052 q50 q66 q1053) rfl rfl rfl hvX9_draw ⟨Nat.le_of_ble_eq_true rfl, Nat.le_of_ble_eq_true rfl⟩) 0 (wM_o ad ct (va_up (va_up (va_up σ 23 (σ 4)) 4 ((tsM σ n c kd sd k).1)) 18 g) (va_up τ 22 (fun _ => lN (tsM σ n c kd sd k).2.1))) rfl rfl rfl hl.1 rfl (Nat.le_of_ble_eq_true rfl) dX9_tidesNow_53 ⟨Nat.zero_le _, Nat.zero_le _⟩ (fun r9 u9 H ll hw h => ?_)
          obtain ⟨hw, rfl⟩ := hw
          have hw : r9 = nI (nxs ((tsM σ n c kd sd k).2.1) / 65536 % 3) := hw
          subst hw
          have h : gW D ct zA zs _ _ (wM ad ct (va_up (va_up (va_up σ 23 (σ 4)) 4 ((tsM σ n c kd sd k).1)) 18 g) (va_up τ 22 (fun _ => lN (nxs ((tsM σ n c kd sd k).2.1))))) := h
          refine lv_istore (lv' := [(7, .int (nI (nxs ((tsM σ n c kd sd k).2.1) / 65536 % 3))), (6, .int (nI k)), (5, .int ((tsM σ n c kd sd k).2.2.2)), (4, .int (nI ((tsM σ n c kd sd k).2.2.1))), (0, .ref (ad 0)), (1, .int (nI tm)), (2, .int (nI sd)), (3, .int (nI t))]) hx hb dX9_tidesNow_56 hl (by decide) rfl (fun ls hl => ?_)
          have hQ : nxs (tsM σ n c kd sd k).2.1 / 65536 % 3 < 3 := Nat.mod_lt _ (by decide)
          refine lv_iload hx hb dX9_tidesNow_58 (lv_at hl 3 rfl) ?_
          refine lv_aload_n hx hb dX9_tidesNow_60 rfl (lv_at hl 4 rfl) ?_
          refine lv_iload hx hb dX9_tidesNow_61 (lv_at hl 0 rfl) ?_
          refine gcallVi C h trivial gNo_ok (kX9_outOf l D ct ad (va_up (va_up (va_up σ 23 (σ 4)) 4 ((tsM σ n c kd sd k).1)) 18 g) (va_up τ 22 (fun _ => lN (nxs ((tsM σ n c kd sd k).2.1)))) n c kd hok (nxs ((tsM σ n c kd sd k).2.1) / 65536 % 3) (by omega)) (cwV 1 C.2.2.2.2 (gInV q924 q926 q35 q66 q927) rfl rfl rfl hvX9_outOf ⟨Nat.le_of_ble_eq_true rfl, Nat.le_of_ble_eq_true rfl⟩) 0 (wM_o ad ct (va_up (va_up (va_up σ 23 (σ 4)) 4 ((tsM σ n c kd sd k).1)) 18 g) (va_up τ 22 (fun _ => lN (nxs ((tsM σ n c kd sd k).2.1))))) rfl rfl rfl hl.1 rfl (Nat.le_of_ble_eq_true rfl) dX9_tidesNow_63 ⟨Nat.zero_le _, Nat.zero_le _⟩ (fun r9 u9 H ll hw h => ?_)
          have hw : r9 = sgn (smM (va_up σ 4 ((tsM σ n c kd sd k).1)) n c kd (nxs ((tsM σ n c kd sd k).2.1) / 65536 % 3)) := hw
          subst hw
          have h : gW D ct zA zs _ _ (wM ad ct (va_up (va_up (va_up σ 23 (σ 4)) 4 ((tsM σ n c kd sd k).1)) 18 g) (va_up τ 22 (fun _ => lN (nxs ((tsM σ n c kd sd k).2.1))))) := h
          refine lv_iconst (v := 1) hx hb dX9_tidesNow_66 (by decide) ?_
          refine lv_icmp_ne (tgt := 74) hx hb dX9_tidesNow_67 (by decide) (fun c_67 => ?_) (fun c_67 => ?_)
          · refine lv_iconst (v := 0) hx hb dX9_tidesNow_74 (by decide) ?_
            refine gas (z := nI (if sgn (smM (va_up σ 4 (tsM σ n c kd sd k).1) n c kd (nxs (tsM σ n c kd sd k).2.1 / 65536 % 3)) = 1 then 1 else 0)) (by rw [if_neg c_67]; rfl) ?_
            refine nadd hx hb ((tsM σ n c kd sd k).2.2.1) (if sgn (smM (va_up σ 4 (tsM σ n c kd sd k).1) n c kd (nxs (tsM σ n c kd sd k).2.1 / 65536 % 3)) = 1 then 1 else 0) dX9_tidesNow_75 ?_
            refine lv_istore (lv' := [(4, .int (nI (((tsM σ n c kd sd k).2.2.1) + (if sgn (smM (va_up σ 4 (tsM σ n c kd sd k).1) n c kd (nxs (tsM σ n c kd sd k).2.1 / 65536 % 3)) = 1 then 1 else 0)))), (7, .int (nI (nxs ((tsM σ n c kd sd k).2.1) / 65536 % 3))), (6, .int (nI k)), (5, .int ((tsM σ n c kd sd k).2.2.2)), (0, .ref (ad 0)), (1, .int (nI tm)), (2, .int (nI sd)), (3, .int (nI t))]) hx hb dX9_tidesNow_76 hl (by decide) rfl (fun ls hl => ?_)
            refine lv_iload hx hb dX9_tidesNow_78 (lv_at hl 3 rfl) ?_
            refine lv_aload_n hx hb dX9_tidesNow_80 rfl (lv_at hl 4 rfl) ?_
            refine lv_iload hx hb dX9_tidesNow_81 (lv_at hl 1 rfl) ?_
            refine gcallVi C h trivial gNo_ok (kX9_sumOf l D ct ad (va_up (va_up (va_up σ 23 (σ 4)) 4 ((tsM σ n c kd sd k).1)) 18 g) (va_up τ 22 (fun _ => lN (nxs ((tsM σ n c kd sd k).2.1)))) n c kd hok (nxs ((tsM σ n c kd sd k).2.1) / 65536 % 3) (by omega)) (cwV 1 C.2.2.2.2 (gInV q873 q875 q26 q66 q876) rfl rfl rfl hvX9_sumOf ⟨Nat.le_of_ble_eq_true rfl, Nat.le_of_ble_eq_true rfl⟩) 0 (wM_o ad ct (va_up (va_up (va_up σ 23 (σ 4)) 4 ((tsM σ n c kd sd k).1)) 18 g) (va_up τ 22 (fun _ => lN (nxs ((tsM σ n c kd sd k).2.1))))) rfl rfl rfl hl.1 rfl (Nat.le_of_ble_eq_true rfl) dX9_tidesNow_83 ⟨Nat.zero_le _, Nat.zero_le _⟩ (fun r9 u9 H ll hw h => ?_)
            have hw : r9 = smM (va_up σ 4 ((tsM σ n c kd sd k).1)) n c kd (nxs ((tsM σ n c kd sd k).2.1) / 65536 % 3) := hw
            subst hw
            have h : gW D ct zA zs _ _ (wM ad ct (va_up (va_up (va_up σ 23 (σ 4)) 4 ((tsM σ n c kd sd k).1)) 18 g) (va_up τ 22 (fun _ => lN (nxs ((tsM σ n c kd sd k).2.1))))) := h
            refine lv_iadd hx hb dX9_tidesNow_86 ?_
            refine lv_istore (lv' := [(5, .int (((tsM σ n c kd sd k).2.2.2) + (smM (va_up σ 4 ((tsM σ n c kd sd k).1)) n c kd (nxs ((tsM σ n c kd sd k).2.1) / 65536 % 3)))), (4, .int (nI (((tsM σ n c kd sd k).2.2.1) + (if sgn (smM (va_up σ 4 (tsM σ n c kd sd k).1) n c kd (nxs (tsM σ n c kd sd k).2.1 / 65536 % 3)) = 1 then 1 else 0)))), (7, .int (nI (nxs ((tsM σ n c kd sd k).2.1) / 65536 % 3))), (6, .int (nI k)), (0, .ref (ad 0)), (1, .int (nI tm)), (2, .int (nI sd)), (3, .int (nI t))]) hx hb dX9_tidesNow_87 hl (by decide) rfl (fun ls hl => ?_)
            refine lv_aload_n hx hb dX9_tidesNow_89 rfl (lv_at hl 4 rfl) ?_
            refine lv_aload_n hx hb dX9_tidesNow_90 rfl (lv_at hl 4 rfl) ?_
            refine mg_mussels C h dX9_tidesNow_91 ?_
            refine gas hn ?_
            refine gcallVi C h trivial gNo_ok (kX9_draw l D ct ad (va_up (va_up (va_up σ 23 (σ 4)) 4 ((tsM σ n c kd sd k).1)) 18 g) (va_up τ 22 (fun _ => lN (nxs ((tsM σ n c kd sd k).2.1)))) (nxs ((tsM σ n c kd sd k).2.1)) rfl n (by omega) (by omega)) (cwV 1 C.2.2.2.2 (gInV q1050 q1052 q50 q66 q1053) rfl rfl rfl hvX9_draw ⟨Nat.le_of_ble_eq_true rfl, Nat.le_of_ble_eq_true rfl⟩) 0 (wM_o ad ct (va_up (va_up (va_up σ 23 (σ 4)) 4 ((tsM σ n c kd sd k).1)) 18 g) (va_up τ 22 (fun _ => lN (nxs ((tsM σ n c kd sd k).2.1))))) rfl rfl rfl hl.1 rfl (Nat.le_of_ble_eq_true rfl) dX9_tidesNow_94 ⟨Nat.zero_le _, Nat.zero_le _⟩ (fun r9 u9 H ll hw h => ?_)
            obtain ⟨hw, rfl⟩ := hw
            have hw : r9 = nI (nxs (nxs ((tsM σ n c kd sd k).2.1)) / 65536 % n) := hw
            subst hw
            have h : gW D ct zA zs _ _ (wM ad ct (va_up (va_up (va_up σ 23 (σ 4)) 4 ((tsM σ n c kd sd k).1)) 18 g) (va_up τ 22 (fun _ => lN (nxs (nxs ((tsM σ n c kd sd k).2.1)))))) := h
            refine lv_istore (lv' := [(8, .int (nI (nxs (nxs ((tsM σ n c kd sd k).2.1)) / 65536 % n))), (5, .int (((tsM σ n c kd sd k).2.2.2) + (smM (va_up σ 4 ((tsM σ n c kd sd k).1)) n c kd (nxs ((tsM σ n c kd sd k).2.1) / 65536 % 3)))), (4, .int (nI (((tsM σ n c kd sd k).2.2.1) + (if sgn (smM (va_up σ 4 (tsM σ n c kd sd k).1) n c kd (nxs (tsM σ n c kd sd k).2.1 / 65536 % 3)) = 1 then 1 else 0)))), (7, .int (nI (nxs ((tsM σ n c kd sd k).2.1) / 65536 % 3))), (6, .int (nI k)), (0, .ref (ad 0)), (1, .int (nI tm)), (2, .int (nI sd)), (3, .int (nI t))]) hx hb dX9_tidesNow_97 hl (by decide) rfl (fun ls hl => ?_)
            have hM : nxs (nxs (tsM σ n c kd sd k).2.1) / 65536 % n < n := Nat.mod_lt _ hn0
            refine lv_aload_n hx hb dX9_tidesNow_99 rfl (lv_at hl 5 rfl) ?_
            refine mg_leanOf C h dX9_tidesNow_100 ?_
            refine lv_iconst (v := 3) hx hb dX9_tidesNow_103 (by decide) ?_
            refine lv_iload hx hb dX9_tidesNow_104 (lv_at hl 0 rfl) ?_
            refine nmul hx hb 3 (nxs (nxs ((tsM σ n c kd sd k).2.1)) / 65536 % n) dX9_tidesNow_106 ?_
            refine lv_iload hx hb dX9_tidesNow_107 (lv_at hl 3 rfl) ?_
            refine nadd hx hb (3 * (nxs (nxs ((tsM σ n c kd sd k).2.1)) / 65536 % n)) (nxs ((tsM σ n c kd sd k).2.1) / 65536 % 3) dX9_tidesNow_109 ?_
            refine ml_leanOf C h (j := (3 * (nxs (nxs ((tsM σ n c kd sd k).2.1)) / 65536 % n)) + (nxs ((tsM σ n c kd sd k).2.1) / 65536 % 3)) (by omega) dX9_tidesNow_110 ?_
            refine gas (z := ((tsM σ n c kd sd k).1) ((3 * (nxs (nxs ((tsM σ n c kd sd k).2.1)) / 65536 % n)) + (nxs ((tsM σ n c kd sd k).2.1) / 65536 % 3))) rfl ?_
            refine lv_istore (lv' := [(9, .int (((tsM σ n c kd sd k).1) ((3 * (nxs (nxs ((tsM σ n c kd sd k).2.1)) / 65536 % n)) + (nxs ((tsM σ n c kd sd k).2.1) / 65536 % 3)))), (8, .int (nI (nxs (nxs ((tsM σ n c kd sd k).2.1)) / 65536 % n))), (5, .int (((tsM σ n c kd sd k).2.2.2) + (smM (va_up σ 4 ((tsM σ n c kd sd k).1)) n c kd (nxs ((tsM σ n c kd sd k).2.1) / 65536 % 3)))), (4, .int (nI (((tsM σ n c kd sd k).2.2.1) + (if sgn (smM (va_up σ 4 (tsM σ n c kd sd k).1) n c kd (nxs (tsM σ n c kd sd k).2.1 / 65536 % 3)) = 1 then 1 else 0)))), (7, .int (nI (nxs ((tsM σ n c kd sd k).2.1) / 65536 % 3))), (6, .int (nI k)), (0, .ref (ad 0)), (1, .int (nI tm)), (2, .int (nI sd)), (3, .int (nI t))]) hx hb dX9_tidesNow_111 hl (by decide) rfl (fun ls hl => ?_)
            refine lv_aload_n hx hb dX9_tidesNow_113 rfl (lv_at hl 6 rfl) ?_
            refine mg_leanOf C h dX9_tidesNow_114 ?_
            refine lv_iconst (v := 3) hx hb dX9_tidesNow_117 (by decide) ?_
            refine lv_iload hx hb dX9_tidesNow_118 (lv_at hl 1 rfl) ?_
            refine nmul hx hb 3 (nxs (nxs ((tsM σ n c kd sd k).2.1)) / 65536 % n) dX9_tidesNow_120 ?_
            refine lv_iload hx hb dX9_tidesNow_121 (lv_at hl 4 rfl) ?_
            refine nadd hx hb (3 * (nxs (nxs ((tsM σ n c kd sd k).2.1)) / 65536 % n)) (nxs ((tsM σ n c kd sd k).2.1) / 65536 % 3) dX9_tidesNow_123 ?_
            refine lv_iload hx hb dX9_tidesNow_124 (lv_at hl 0 rfl) ?_
            refine lv_iconst (v := 1) hx hb dX9_tidesNow_126 (by decide) ?_
            refine lv_icmp_ne (tgt := 134) hx hb dX9_tidesNow_127 (by decide) (fun c_127 => ?_) (fun c_127 => ?_)
            · refine lv_iload hx hb dX9_tidesNow_134 (lv_at hl 0 rfl) ?_
              refine lv_iconst (v := 1) hx hb dX9_tidesNow_136 (by decide) ?_
              refine lv_iadd hx hb dX9_tidesNow_137 ?_
              refine gas (z := trnL (((tsM σ n c kd sd k).1) ((3 * (nxs (nxs ((tsM σ n c kd sd k).2.1)) / 65536 % n)) + (nxs ((tsM σ n c kd sd k).2.1) / 65536 % 3)))) (by unfold trnL; rw [if_neg c_127]) ?_
              refine ms_leanOf C h (j := (3 * (nxs (nxs ((tsM σ n c kd sd k).2.1)) / 65536 % n)) + (nxs ((tsM σ n c kd sd k).2.1) / 65536 % 3)) (by omega) dX9_tidesNow_138 (fun H ll h => ?_)
              have h : gW D ct zA zs _ _ (wM ad ct (va_up (va_up (va_up σ 23 (σ 4)) 4 (upd ((tsM σ n c kd sd k).1) ((3 * (nxs (nxs ((tsM σ n c kd sd k).2.1)) / 65536 % n)) + (nxs ((tsM σ n c kd sd k).2.1) / 65536 % 3)) (trnL (((tsM σ n c kd sd k).1) ((3 * (nxs (nxs ((tsM σ n c kd sd k).2.1)) / 65536 % n)) + (nxs ((tsM σ n c kd sd k).2.1) / 65536 % 3)))))) 18 g) (va_up τ 22 (fun _ => lN (nxs (nxs ((tsM σ n c kd sd k).2.1)))))) := h
              refine lv_aload_n hx hb dX9_tidesNow_139 rfl (lv_at hl 6 rfl) ?_
              refine gcallVv C h trivial gNo_ok (kX9_turnTide l D ct ad (va_up (va_up (va_up σ 23 (σ 4)) 4 (upd ((tsM σ n c kd sd k).1) ((3 * (nxs (nxs ((tsM σ n c kd sd k).2.1)) / 65536 % n)) + (nxs ((tsM σ n c kd sd k).2.1) / 65536 % 3)) (trnL (((tsM σ n c kd sd k).1) ((3 * (nxs (nxs ((tsM σ n c kd sd k).2.1)) / 65536 % n)) + (nxs ((tsM σ n c kd sd k).2.1) / 65536 % 3)))))) 18 g) (va_up τ 22 (fun _ => lN (nxs (nxs ((tsM σ n c kd sd k).2.1))))) n c kd hok) (cwV 0 C.2.2.2.2 (gInV q940 q942 q37 q66 q943) rfl rfl rfl hvX9_turnTide ⟨Nat.le_of_ble_eq_true rfl, Nat.le_of_ble_eq_true rfl⟩) 0 (wM_o ad ct (va_up (va_up (va_up σ 23 (σ 4)) 4 (upd ((tsM σ n c kd sd k).1) ((3 * (nxs (nxs ((tsM σ n c kd sd k).2.1)) / 65536 % n)) + (nxs ((tsM σ n c kd sd k).2.1) / 65536 % 3)) (trnL (((tsM σ n c kd sd k).1) ((3 * (nxs (nxs ((tsM σ n c kd sd k).2.1)) / 65536 % n)) + (nxs ((tsM σ n c kd sd k).2.1) / 65536 % 3)))))) 18 g) (va_up τ 22 (fun _ => lN (nxs (nxs ((tsM σ n c kd sd k).2.1)))))) rfl rfl rfl hl.1 rfl (Nat.le_of_ble_eq_true rfl) dX9_tidesNow_140 ⟨Nat.zero_le _, Nat.zero_le _⟩ (fun u9 H ll hw h => ?_)
              obtain ⟨g18_6, rfl⟩ := hw
              have h : gW D ct zA zs _ _ (wM ad ct (va_up (va_up (va_up σ 23 (σ 4)) 4 (td4 (va_up σ 4 (upd ((tsM σ n c kd sd k).1) ((3 * (nxs (nxs ((tsM σ n c kd sd k).2.1)) / 65536 % n)) + (nxs ((tsM σ n c kd sd k).2.1) / 65536 % 3)) (trnL (((tsM σ n c kd sd k).1) ((3 * (nxs (nxs ((tsM σ n c kd sd k).2.1)) / 65536 % n)) + (nxs ((tsM σ n c kd sd k).2.1) / 65536 % 3)))))) n c kd)) 18 g18_6) (va_up τ 22 (fun _ => lN (nxs (nxs ((tsM σ n c kd sd k).2.1)))))) := h
              refine ninc (lv' := [(6, .int (nI (k + 1))), (9, .int (((tsM σ n c kd sd k).1) ((3 * (nxs (nxs ((tsM σ n c kd sd k).2.1)) / 65536 % n)) + (nxs ((tsM σ n c kd sd k).2.1) / 65536 % 3)))), (8, .int (nI (nxs (nxs ((tsM σ n c kd sd k).2.1)) / 65536 % n))), (5, .int (((tsM σ n c kd sd k).2.2.2) + (smM (va_up σ 4 ((tsM σ n c kd sd k).1)) n c kd (nxs ((tsM σ n c kd sd k).2.1) / 65536 % 3)))), (4, .int (nI (((tsM σ n c kd sd k).2.2.1) + (if sgn (smM (va_up σ 4 (tsM σ n c kd sd k).1) n c kd (nxs (tsM σ n c kd sd k).2.1 / 65536 % 3)) = 1 then 1 else 0)))), (7, .int (nI (nxs ((tsM σ n c kd sd k).2.1) / 65536 % 3))), (0, .ref (ad 0)), (1, .int (nI tm)), (2, .int (nI sd)), (3, .int (nI t))]) hx hb k 1 dX9_tidesNow_143 hl (k := 5) rfl (by decide) rfl (fun ls hl => ?_)
              refine lv_goto (tgt := 45) hx hb dX9_tidesNow_146 (by decide) ?_
              exact ih45 _ (by omega) (k + 1) g18_6 _ _ _ rfl (by omega) h (lv_sub hl [0, 3, 4, 6, 7, 8, 9] rfl)
            · refine lv_iconst (v := -1) hx hb dX9_tidesNow_130 (by decide) ?_
              refine lv_goto (tgt := 138) hx hb dX9_tidesNow_131 (by decide) ?_
              refine gas (z := trnL (((tsM σ n c kd sd k).1) ((3 * (nxs (nxs ((tsM σ n c kd sd k).2.1)) / 65536 % n)) + (nxs ((tsM σ n c kd sd k).2.1) / 65536 % 3)))) (by unfold trnL; rw [if_pos c_127]) ?_
              refine ms_leanOf C h (j := (3 * (nxs (nxs ((tsM σ n c kd sd k).2.1)) / 65536 % n)) + (nxs ((tsM σ n c kd sd k).2.1) / 65536 % 3)) (by omega) dX9_tidesNow_138 (fun H ll h => ?_)
              have h : gW D ct zA zs _ _ (wM ad ct (va_up (va_up (va_up σ 23 (σ 4)) 4 (upd ((tsM σ n c kd sd k).1) ((3 * (nxs (nxs ((tsM σ n c kd sd k).2.1)) / 65536 % n)) + (nxs ((tsM σ n c kd sd k).2.1) / 65536 % 3)) (trnL (((tsM σ n c kd sd k).1) ((3 * (nxs (nxs ((tsM σ n c kd sd k).2.1)) / 65536 % n)) + (nxs ((tsM σ n c kd sd k).2.1) / 65536 % 3)))))) 18 g) (va_up τ 22 (fun _ => lN (nxs (nxs ((tsM σ n c kd sd k).2.1)))))) := h
              refine lv_aload_n hx hb dX9_tidesNow_139 rfl (lv_at hl 6 rfl) ?_
              refine gcallVv C h trivial gNo_ok (kX9_turnTide l D ct ad (va_up (va_up (va_up σ 23 (σ 4)) 4 (upd ((tsM σ n c kd sd k).1) ((3 * (nxs (nxs ((tsM σ n c kd sd k).2.1)) / 65536 % n)) + (nxs ((tsM σ n c kd sd k).2.1) / 65536 % 3)) (trnL (((tsM σ n c kd sd k).1) ((3 * (nxs (nxs ((tsM σ n c kd sd k).2.1)) / 65536 % n)) + (nxs ((tsM σ n c kd sd k).2.1) / 65536 % 3)))))) 18 g) (va_up τ 22 (fun _ => lN (nxs (nxs ((tsM σ n c kd sd k).2.1))))) n c kd hok) (cwV 0 C.2.2.2.2 (gInV q940 q942 q37 q66 q943) rfl rfl rfl hvX9_turnTide ⟨Nat.le_of_ble_eq_true rfl, Nat.le_of_ble_eq_true rfl⟩) 0 (wM_o ad ct (va_up (va_up (va_up σ 23 (σ 4)) 4 (upd ((tsM σ n c kd sd k).1) ((3 * (nxs (nxs ((tsM σ n c kd sd k).2.1)) / 65536 % n)) + (nxs ((tsM σ n c kd sd k).2.1) / 65536 % 3)) (trnL (((tsM σ n c kd sd k).1) ((3 * (nxs (nxs ((tsM σ n c kd sd k).2.1)) / 65536 % n)) + (nxs ((tsM σ n c kd sd k).2.1) / 65536 % 3)))))) 18 g) (va_up τ 22 (fun _ => lN (nxs (nxs ((tsM σ n c kd sd k).2.1)))))) rfl rfl rfl hl.1 rfl (Nat.le_of_ble_eq_true rfl) dX9_tidesNow_140 ⟨Nat.zero_le _, Nat.zero_le _⟩ (fun u9 H ll hw h => ?_)
              obtain ⟨g18_7, rfl⟩ := hw
              have h : gW D ct zA zs _ _ (wM ad ct (va_up (va_up (va_up σ 23 (σ 4)) 4 (td4 (va_up σ 4 (upd ((tsM σ n c kd sd k).1) ((3 * (nxs (nxs ((tsM σ n c kd sd k).2.1)) / 65536 % n)) + (nxs ((tsM σ n c kd sd k).2.1) / 65536 % 3)) (trnL (((tsM σ n c kd sd k).1) ((3 * (nxs (nxs ((tsM σ n c kd sd k).2.1)) / 65536 % n)) + (nxs ((tsM σ n c kd sd k).2.1) / 65536 % 3)))))) n c kd)) 18 g18_7) (va_up τ 22 (fun _ => lN (nxs (nxs ((tsM σ n c kd sd k).2.1)))))) := h
              refine ninc (lv' := [(6, .int (nI (k + 1))), (9, .int (((tsM σ n c kd sd k).1) ((3 * (nxs (nxs ((tsM σ n c kd sd k).2.1)) / 65536 % n)) + (nxs ((tsM σ n c kd sd k).2.1) / 65536 % 3)))), (8, .int (nI (nxs (nxs ((tsM σ n c kd sd k).2.1)) / 65536 % n))), (5, .int (((tsM σ n c kd sd k).2.2.2) + (smM (va_up σ 4 ((tsM σ n c kd sd k).1)) n c kd (nxs ((tsM σ n c kd sd k).2.1) / 65536 % 3)))), (4, .int (nI (((tsM σ n c kd sd k).2.2.1) + (if sgn (smM (va_up σ 4 (tsM σ n c kd sd k).1) n c kd (nxs (tsM σ n c kd sd k).2.1 / 65536 % 3)) = 1 then 1 else 0)))), (7, .int (nI (nxs ((tsM σ n c kd sd k).2.1) / 65536 % 3))), (0, .ref (ad 0)), (1, .int (nI tm)), (2, .int (nI sd)), (3, .int (nI t))]) hx hb k 1 dX9_tidesNow_143 hl (k := 5) rfl (by decide) rfl (fun ls hl => ?_)
              refine lv_goto (tgt := 45) hx hb dX9_tidesNow_146 (by decide) ?_
              exact ih45 _ (by omega) (k + 1) g18_7 _ _ _ rfl (by omega) h (lv_sub hl [0, 3, 4, 6, 7, 8, 9] rfl)
          · refine lv_iconst (v := 1) hx hb dX9_tidesNow_70 (by decide) ?_
            refine lv_goto (tgt := 75) hx hb dX9_tidesNow_71 (by decide) ?_
            refine gas (z := nI (if sgn (smM (va_up σ 4 (tsM σ n c kd sd k).1) n c kd (nxs (tsM σ n c kd sd k).2.1 / 65536 % 3)) = 1 then 1 else 0)) (by rw [if_pos c_67]; rfl) ?_
            refine nadd hx hb ((tsM σ n c kd sd k).2.2.1) (if sgn (smM (va_up σ 4 (tsM σ n c kd sd k).1) n c kd (nxs (tsM σ n c kd sd k).2.1 / 65536 % 3)) = 1 then 1 else 0) dX9_tidesNow_75 ?_
            refine lv_istore (lv' := [(4, .int (nI (((tsM σ n c kd sd k).2.2.1) + (if sgn (smM (va_up σ 4 (tsM σ n c kd sd k).1) n c kd (nxs (tsM σ n c kd sd k).2.1 / 65536 % 3)) = 1 then 1 else 0)))), (7, .int (nI (nxs ((tsM σ n c kd sd k).2.1) / 65536 % 3))), (6, .int (nI k)), (5, .int ((tsM σ n c kd sd k).2.2.2)), (0, .ref (ad 0)), (1, .int (nI tm)), (2, .int (nI sd)), (3, .int (nI t))]) hx hb dX9_tidesNow_76 hl (by decide) rfl (fun ls hl => ?_)
            refine lv_iload hx hb dX9_tidesNow_78 (lv_at hl 3 rfl) ?_
            refine lv_aload_n hx hb dX9_tidesNow_80 rfl (lv_at hl 4 rfl) ?_
            refine lv_iload hx hb dX9_tidesNow_81 (lv_at hl 1 rfl) ?_
            refine gcallVi C h trivial gNo_ok (kX9_sumOf l D ct ad (va_up (va_up (va_up σ 23 (σ 4)) 4 ((tsM σ n c kd sd k).1)) 18 g) (va_up τ 22 (fun _ => lN (nxs ((tsM σ n c kd sd k).2.1)))) n c kd hok (nxs ((tsM σ n c kd sd k).2.1) / 65536 % 3) (by omega)) (cwV 1 C.2.2.2.2 (gInV q873 q875 q26 q66 q876) rfl rfl rfl hvX9_sumOf ⟨Nat.le_of_ble_eq_true rfl, Nat.le_of_ble_eq_true rfl⟩) 0 (wM_o ad ct (va_up (va_up (va_up σ 23 (σ 4)) 4 ((tsM σ n c kd sd k).1)) 18 g) (va_up τ 22 (fun _ => lN (nxs ((tsM σ n c kd sd k).2.1))))) rfl rfl rfl hl.1 rfl (Nat.le_of_ble_eq_true rfl) dX9_tidesNow_83 ⟨Nat.zero_le _, Nat.zero_le _⟩ (fun r9 u9 H ll hw h => ?_)
            have hw : r9 = smM (va_up σ 4 ((tsM σ n c kd sd k).1)) n c kd (nxs ((tsM σ n c kd sd k).2.1) / 65536 % 3) := hw
            subst hw
            have h : gW D ct zA zs _ _ (wM ad ct (va_up (va_up (va_up σ 23 (σ 4)) 4 ((tsM σ n c kd sd k).1)) 18 g) (va_up τ 22 (fun _ => lN (nxs ((tsM σ n c kd sd k).2.1))))) := h
            refine lv_iadd hx hb dX9_tidesNow_86 ?_
            refine lv_istore (lv' := [(5, .int (((tsM σ n c kd sd k).2.2.2) + (smM (va_up σ 4 ((tsM σ n c kd sd k).1)) n c kd (nxs ((tsM σ n c kd sd k).2.1) / 65536 % 3)))), (4, .int (nI (((tsM σ n c kd sd k).2.2.1) + (if sgn (smM (va_up σ 4 (tsM σ n c kd sd k).1) n c kd (nxs (tsM σ n c kd sd k).2.1 / 65536 % 3)) = 1 then 1 else 0)))), (7, .int (nI (nxs ((tsM σ n c kd sd k).2.1) / 65536 % 3))), (6, .int (nI k)), (0, .ref (ad 0)), (1, .int (nI tm)), (2, .int (nI sd)), (3, .int (nI t))]) hx hb dX9_tidesNow_87 hl (by decide) rfl (fun ls hl => ?_)
            refine lv_aload_n hx hb dX9_tidesNow_89 rfl (lv_at hl 4 rfl) ?_
            refine lv_aload_n hx hb dX9_tidesNow_90 rfl (lv_at hl 4 rfl) ?_
            refine mg_mussels C h dX9_tidesNow_91 ?_
            refine gas hn ?_
            refine gcallVi C h trivial gNo_ok (kX9_draw l D ct ad (va_up (va_up (va_up σ 23 (σ 4)) 4 ((tsM σ n c kd sd k).1)) 18 g) (va_up τ 22 (fun _ => lN (nxs ((tsM σ n c kd sd k).2.1)))) (nxs ((tsM σ n c kd sd k).2.1)) rfl n (by omega) (by omega)) (cwV 1 C.2.2.2.2 (gInV q1050 q1052 q50 q66 q1053) rfl rfl rfl hvX9_draw ⟨Nat.le_of_ble_eq_true rfl, Nat.le_of_ble_eq_true rfl⟩) 0 (wM_o ad ct (va_up (va_up (va_up σ 23 (σ 4)) 4 ((tsM σ n c kd sd k).1)) 18 g) (va_up τ 22 (fun _ => lN (nxs ((tsM σ n c kd sd k).2.1))))) rfl rfl rfl hl.1 rfl (Nat.le_of_ble_eq_true rfl) dX9_tidesNow_94 ⟨Nat.zero_le _, Nat.zero_le _⟩ (fun r9 u9 H ll hw h => ?_)
            obtain ⟨hw, rfl⟩ := hw
            have hw : r9 = nI (nxs (nxs ((tsM σ n c kd sd k).2.1)) / 65536 % n) := hw
            subst hw
            have h : gW D ct zA zs _ _ (wM ad ct (va_up (va_up (va_up σ 23 (σ 4)) 4 ((tsM σ n c kd sd k).1)) 18 g) (va_up τ 22 (fun _ => lN (nxs (nxs ((tsM σ n c kd sd k).2.1)))))) := h
            refine lv_istore (lv' := [(8, .int (nI (nxs (nxs ((tsM σ n c kd sd k).2.1)) / 65536 % n))), (5, .int (((tsM σ n c kd sd k).2.2.2) + (smM (va_up σ 4 ((tsM σ n c kd sd k).1)) n c kd (nxs ((tsM σ n c kd sd k).2.1) / 65536 % 3)))), (4, .int (nI (((tsM σ n c kd sd k).2.2.1) + (if sgn (smM (va_up σ 4 (tsM σ n c kd sd k).1) n c kd (nxs (tsM σ n c kd sd k).2.1 / 65536 % 3)) = 1 then 1 else 0)))), (7, .int (nI (nxs ((tsM σ n c kd sd k).2.1) / 65536 % 3))), (6, .int (nI k)), (0, .ref (ad 0)), (1, .int (nI tm)), (2, .int (nI sd)), (3, .int (nI t))]) hx hb dX9_tidesNow_97 hl (by decide) rfl (fun ls hl => ?_)
            have hM : nxs (nxs (tsM σ n c kd sd k).2.1) / 65536 % n < n := Nat.mod_lt _ hn0
            refine lv_aload_n hx hb dX9_tidesNow_99 rfl (lv_at hl 5 rfl) ?_
            refine mg_leanOf C h dX9_tidesNow_100 ?_
            refine lv_iconst (v := 3) hx hb dX9_tidesNow_103 (by decide) ?_
            refine lv_iload hx hb dX9_tidesNow_104 (lv_at hl 0 rfl) ?_
            refine nmul hx hb 3 (nxs (nxs ((tsM σ n c kd sd k).2.1)) / 65536 % n) dX9_tidesNow_106 ?_
            refine lv_iload hx hb dX9_tidesNow_107 (lv_at hl 3 rfl) ?_
            refine nadd hx hb (3 * (nxs (nxs ((tsM σ n c kd sd k).2.1)) / 65536 % n)) (nxs ((tsM σ n c kd sd k).2.1) / 65536 % 3) dX9_tidesNow_109 ?_
            refine ml_leanOf C h (j := (3 * (nxs (nxs ((tsM σ n c kd sd k).2.1)) / 65536 % n)) + (nxs ((tsM σ n c kd sd k).2.1) / 65536 % 3)) (by omega) dX9_tidesNow_110 ?_
            refine gas (z := ((tsM σ n c kd sd k).1) ((3 * (nxs (nxs ((tsM σ n c kd sd k).2.1)) / 65536 % n)) + (nxs ((tsM σ n c kd sd k).2.1) / 65536 % 3))) rfl ?_
            refine lv_istore (lv' := [(9, .int (((tsM σ n c kd sd k).1) ((3 * (nxs (nxs ((tsM σ n c kd sd k).2.1)) / 65536 % n)) + (nxs ((tsM σ n c kd sd k).2.1) / 65536 % 3)))), (8, .int (nI (nxs (nxs ((tsM σ n c kd sd k).2.1)) / 65536 % n))), (5, .int (((tsM σ n c kd sd k).2.2.2) + (smM (va_up σ 4 ((tsM σ n c kd sd k).1)) n c kd (nxs ((tsM σ n c kd sd k).2.1) / 65536 % 3)))), (4, .int (nI (((tsM σ n c kd sd k).2.2.1) + (if sgn (smM (va_up σ 4 (tsM σ n c kd sd k).1) n c kd (nxs (tsM σ n c kd sd k).2.1 / 65536 % 3)) = 1 then 1 else 0)))), (7, .int (nI (nxs ((tsM σ n c kd sd k).2.1) / 65536 % 3))), (6, .int (nI k)), (0, .ref (ad 0)), (1, .int (nI tm)), (2, .int (nI sd)), (3, .int (nI t))]) hx hb dX9_tidesNow_111 hl (by decide) rfl (fun ls hl => ?_)
            refine lv_aload_n hx hb dX9_tidesNow_113 rfl (lv_at hl 6 rfl) ?_
            refine mg_leanOf C h dX9_tidesNow_114 ?_
            refine lv_iconst (v := 3) hx hb dX9_tidesNow_117 (by decide) ?_
            refine lv_iload hx hb dX9_tidesNow_118 (lv_at hl 1 rfl) ?_
            refine nmul hx hb 3 (nxs (nxs ((tsM σ n c kd sd k).2.1)) / 65536 % n) dX9_tidesNow_120 ?_
            refine lv_iload hx hb dX9_tidesNow_121 (lv_at hl 4 rfl) ?_
            refine nadd hx hb (3 * (nxs (nxs ((tsM σ n c kd sd k).2.1)) / 65536 % n)) (nxs ((tsM σ n c kd sd k).2.1) / 65536 % 3) dX9_tidesNow_123 ?_
            refine lv_iload hx hb dX9_tidesNow_124 (lv_at hl 0 rfl) ?_
            refine lv_iconst (v := 1) hx hb dX9_tidesNow_126 (by decide) ?_
            refine lv_icmp_ne (tgt := 134) hx hb dX9_tidesNow_127 (by decide) (fun c_127 => ?_) (fun c_127 => ?_)
            · refine lv_iload hx hb dX9_tidesNow_134 (lv_at hl 0 rfl) ?_
              refine lv_iconst (v := 1) hx hb dX9_tidesNow_136 (by decide) ?_
              refine lv_iadd hx hb dX9_tidesNow_137 ?_
              refine gas (z := trnL (((tsM σ n c kd sd k).1) ((3 * (nxs (nxs ((tsM σ n c kd sd k).2.1)) / 65536 % n)) + (nxs ((tsM σ n c kd sd k).2.1) / 65536 % 3)))) (by unfold trnL; rw [if_neg c_127]) ?_
              refine ms_leanOf C h (j := (3 * (nxs (nxs ((tsM σ n c kd sd k).2.1)) / 65536 % n)) + (nxs ((tsM σ n c kd sd k).2.1) / 65536 % 3)) (by omega) dX9_tidesNow_138 (fun H ll h => ?_)
              have h : gW D ct zA zs _ _ (wM ad ct (va_up (va_up (va_up σ 23 (σ 4)) 4 (upd ((tsM σ n c kd sd k).1) ((3 * (nxs (nxs ((tsM σ n c kd sd k).2.1)) / 65536 % n)) + (nxs ((tsM σ n c kd sd k).2.1) / 65536 % 3)) (trnL (((tsM σ n c kd sd k).1) ((3 * (nxs (nxs ((tsM σ n c kd sd k).2.1)) / 65536 % n)) + (nxs ((tsM σ n c kd sd k).2.1) / 65536 % 3)))))) 18 g) (va_up τ 22 (fun _ => lN (nxs (nxs ((tsM σ n c kd sd k).2.1)))))) := h
              refine lv_aload_n hx hb dX9_tidesNow_139 rfl (lv_at hl 6 rfl) ?_
              refine gcallVv C h trivial gNo_ok (kX9_turnTide l D ct ad (va_up (va_up (va_up σ 23 (σ 4)) 4 (upd ((tsM σ n c kd sd k).1) ((3 * (nxs (nxs ((tsM σ n c kd sd k).2.1)) / 65536 % n)) + (nxs ((tsM σ n c kd sd k).2.1) / 65536 % 3)) (trnL (((tsM σ n c kd sd k).1) ((3 * (nxs (nxs ((tsM σ n c kd sd k).2.1)) / 65536 % n)) + (nxs ((tsM σ n c kd sd k).2.1) / 65536 % 3)))))) 18 g) (va_up τ 22 (fun _ => lN (nxs (nxs ((tsM σ n c kd sd k).2.1))))) n c kd hok) (cwV 0 C.2.2.2.2 (gInV q940 q942 q37 q66 q943) rfl rfl rfl hvX9_turnTide ⟨Nat.le_of_ble_eq_true rfl, Nat.le_of_ble_eq_true rfl⟩) 0 (wM_o ad ct (va_up (va_up (va_up σ 23 (σ 4)) 4 (upd ((tsM σ n c kd sd k).1) ((3 * (nxs (nxs ((tsM σ n c kd sd k).2.1)) / 65536 % n)) + (nxs ((tsM σ n c kd sd k).2.1) / 65536 % 3)) (trnL (((tsM σ n c kd sd k).1) ((3 * (nxs (nxs ((tsM σ n c kd sd k).2.1)) / 65536 % n)) + (nxs ((tsM σ n c kd sd k).2.1) / 65536 % 3)))))) 18 g) (va_up τ 22 (fun _ => lN (nxs (nxs ((tsM σ n c kd sd k).2.1)))))) rfl rfl rfl hl.1 rfl (Nat.le_of_ble_eq_true rfl) dX9_tidesNow_140 ⟨Nat.zero_le _, Nat.zero_le _⟩ (fun u9 H ll hw h => ?_)
              obtain ⟨g18_9, rfl⟩ := hw
              have h : gW D ct zA zs _ _ (wM ad ct (va_up (va_up (va_up σ 23 (σ 4)) 4 (td4 (va_up σ 4 (upd ((tsM σ n c kd sd k).1) ((3 * (nxs (nxs ((tsM σ n c kd sd k).2.1)) / 65536 % n)) + (nxs ((tsM σ n c kd sd k).2.1) / 65536 % 3)) (trnL (((tsM σ n c kd sd k).1) ((3 * (nxs (nxs ((tsM σ n c kd sd k).2.1)) / 65536 % n)) + (nxs ((tsM σ n c kd sd k).2.1) / 65536 % 3)))))) n c kd)) 18 g18_9) (va_up τ 22 (fun _ => lN (nxs (nxs ((tsM σ n c kd sd k).2.1)))))) := h
              refine ninc (lv' := [(6, .int (nI (k + 1))), (9, .int (((tsM σ n c kd sd k).1) ((3 * (nxs (nxs ((tsM σ n c kd sd k).2.1)) / 65536 % n)) + (nxs ((tsM σ n c kd sd k).2.1) / 65536 % 3)))), (8, .int (nI (nxs (nxs ((tsM σ n c kd sd k).2.1)) / 65536 % n))), (5, .int (((tsM σ n c kd sd k).2.2.2) + (smM (va_up σ 4 ((tsM σ n c kd sd k).1)) n c kd (nxs ((tsM σ n c kd sd k).2.1) / 65536 % 3)))), (4, .int (nI (((tsM σ n c kd sd k).2.2.1) + (if sgn (smM (va_up σ 4 (tsM σ n c kd sd k).1) n c kd (nxs (tsM σ n c kd sd k).2.1 / 65536 % 3)) = 1 then 1 else 0)))), (7, .int (nI (nxs ((tsM σ n c kd sd k).2.1) / 65536 % 3))), (0, .ref (ad 0)), (1, .int (nI tm)), (2, .int (nI sd)), (3, .int (nI t))]) hx hb k 1 dX9_tidesNow_143 hl (k := 5) rfl (by decide) rfl (fun ls hl => ?_)
              refine lv_goto (tgt := 45) hx hb dX9_tidesNow_146 (by decide) ?_
              exact ih45 _ (by omega) (k + 1) g18_9 _ _ _ rfl (by omega) h (lv_sub hl [0, 3, 4, 6, 7, 8, 9] rfl)
            · refine lv_iconst (v := -1) hx hb dX9_tidesNow_130 (by decide) ?_
              refine lv_goto (tgt := 138) hx hb dX9_tidesNow_131 (by decide) ?_
              refine gas (z := trnL (((tsM σ n c kd sd k).1) ((3 * (nxs (nxs ((tsM σ n c kd sd k).2.1)) / 65536 % n)) + (nxs ((tsM σ n c kd sd k).2.1) / 65536 % 3)))) (by unfold trnL; rw [if_pos c_127]) ?_
              refine ms_leanOf C h (j := (3 * (nxs (nxs ((tsM σ n c kd sd k).2.1)) / 65536 % n)) + (nxs ((tsM σ n c kd sd k).2.1) / 65536 % 3)) (by omega) dX9_tidesNow_138 (fun H ll h => ?_)
              have h : gW D ct zA zs _ _ (wM ad ct (va_up (va_up (va_up σ 23 (σ 4)) 4 (upd ((tsM σ n c kd sd k).1) ((3 * (nxs (nxs ((tsM σ n c kd sd k).2.1)) / 65536 % n)) + (nxs ((tsM σ n c kd sd k).2.1) / 65536 % 3)) (trnL (((tsM σ n c kd sd k).1) ((3 * (nxs (nxs ((tsM σ n c kd sd k).2.1)) / 65536 % n)) + (nxs ((tsM σ n c kd sd k).2.1) / 65536 % 3)))))) 18 g) (va_up τ 22 (fun _ => lN (nxs (nxs ((tsM σ n c kd sd k).2.1)))))) := h
              refine lv_aload_n hx hb dX9_tidesNow_139 rfl (lv_at hl 6 rfl) ?_
              refine gcallVv C h trivial gNo_ok (kX9_turnTide l D ct ad (va_up (va_up (va_up σ 23 (σ 4)) 4 (upd ((tsM σ n c kd sd k).1) ((3 * (nxs (nxs ((tsM σ n c kd sd k).2.1)) / 65536 % n)) + (nxs ((tsM σ n c kd sd k).2.1) / 65536 % 3)) (trnL (((tsM σ n c kd sd k).1) ((3 * (nxs (nxs ((tsM σ n c kd sd k).2.1)) / 65536 % n)) + (nxs ((tsM σ n c kd sd k).2.1) / 65536 % 3)))))) 18 g) (va_up τ 22 (fun _ => lN (nxs (nxs ((tsM σ n c kd sd k).2.1))))) n c kd hok) (cwV 0 C.2.2.2.2 (gInV q940 q942 q37 q66 q943) rfl rfl rfl hvX9_turnTide ⟨Nat.le_of_ble_eq_true rfl, Nat.le_of_ble_eq_true rfl⟩) 0 (wM_o ad ct (va_up (va_up (va_up σ 23 (σ 4)) 4 (upd ((tsM σ n c kd sd k).1) ((3 * (nxs (nxs ((tsM σ n c kd sd k).2.1)) / 65536 % n)) + (nxs ((tsM σ n c kd sd k).2.1) / 65536 % 3)) (trnL (((tsM σ n c kd sd k).1) ((3 * (nxs (nxs ((tsM σ n c kd sd k).2.1)) / 65536 % n)) + (nxs ((tsM σ n c kd sd k).2.1) / 65536 % 3)))))) 18 g) (va_up τ 22 (fun _ => lN (nxs (nxs ((tsM σ n c kd sd k).2.1)))))) rfl rfl rfl hl.1 rfl (Nat.le_of_ble_eq_true rfl) dX9_tidesNow_140 ⟨Nat.zero_le _, Nat.zero_le _⟩ (fun u9 H ll hw h => ?_)
              obtain ⟨g18_10, rfl⟩ := hw
              have h : gW D ct zA zs _ _ (wM ad ct (va_up (va_up (va_up σ 23 (σ 4)) 4 (td4 (va_up σ 4 (upd ((tsM σ n c kd sd k).1) ((3 * (nxs (nxs ((tsM σ n c kd sd k).2.1)) / 65536 % n)) + (nxs ((tsM σ n c kd sd k).2.1) / 65536 % 3)) (trnL (((tsM σ n c kd sd k).1) ((3 * (nxs (nxs ((tsM σ n c kd sd k).2.1)) / 65536 % n)) + (nxs ((tsM σ n c kd sd k).2.1) / 65536 % 3)))))) n c kd)) 18 g18_10) (va_up τ 22 (fun _ => lN (nxs (nxs ((tsM σ n c kd sd k).2.1)))))) := h
              refine ninc (lv' := [(6, .int (nI (k + 1))), (9, .int (((tsM σ n c kd sd k).1) ((3 * (nxs (nxs ((tsM σ n c kd sd k).2.1)) / 65536 % n)) + (nxs ((tsM σ n c kd sd k).2.1) / 65536 % 3)))), (8, .int (nI (nxs (nxs ((tsM σ n c kd sd k).2.1)) / 65536 % n))), (5, .int (((tsM σ n c kd sd k).2.2.2) + (smM (va_up σ 4 ((tsM σ n c kd sd k).1)) n c kd (nxs ((tsM σ n c kd sd k).2.1) / 65536 % 3)))), (4, .int (nI (((tsM σ n c kd sd k).2.2.1) + (if sgn (smM (va_up σ 4 (tsM σ n c kd sd k).1) n c kd (nxs (tsM σ n c kd sd k).2.1 / 65536 % 3)) = 1 then 1 else 0)))), (7, .int (nI (nxs ((tsM σ n c kd sd k).2.1) / 65536 % 3))), (0, .ref (ad 0)), (1, .int (nI tm)), (2, .int (nI sd)), (3, .int (nI t))]) hx hb k 1 dX9_tidesNow_143 hl (k := 5) rfl (by decide) rfl (fun ls hl => ?_)
              refine lv_goto (tgt := 45) hx hb dX9_tidesNow_146 (by decide) ?_
              exact ih45 _ (by omega) (k + 1) g18_10 _ _ _ rfl (by omega) h (lv_sub hl [0, 3, 4, 6, 7, 8, 9] rfl)
      exact L45_1 _ 0 (σ 18) _ _ _ rfl (by omega) h (lv_sub hl [0, 1, 2, 3, 4, 5, 6] rfl)
    · refine lv_aload_n hx hb dX9_tidesNow_10 rfl (lv_at hl 1 rfl) ?_
      refine mg_keptNow C h dX9_tidesNow_11 ?_
      refine lv_iload hx hb dX9_tidesNow_14 (lv_at hl 0 rfl) ?_
      refine lv_aload_n hx hb dX9_tidesNow_16 rfl (lv_at hl 1 rfl) ?_
      refine mg_leanOf C h dX9_tidesNow_17 ?_
      refine lv_iload hx hb dX9_tidesNow_20 (lv_at hl 0 rfl) ?_
      refine ml_leanOf C h (j := i) (by omega) dX9_tidesNow_22 ?_
      refine gas (z := σ 4 i) rfl ?_
      refine ms_keptNow C h (j := i) (by omega) dX9_tidesNow_23 (fun H ll h => ?_)
      have h : gW D ct zA zs _ _ (wM ad ct (va_up σ 23 (upd g i (σ 4 i))) τ) := h
      refine ninc (lv' := [(4, .int (nI (i + 1))), (0, .ref (ad 0)), (1, .int (nI tm)), (2, .int (nI sd)), (3, .int (nI t))]) hx hb i 1 dX9_tidesNow_24 hl (k := 0) rfl (by decide) rfl (fun ls hl => ?_)
      refine lv_goto (tgt := 3) hx hb dX9_tidesNow_27 (by decide) ?_
      exact ih3 _ (by omega) (i + 1) (upd g i (σ 4 i)) _ _ _ rfl (by omega) (updk hg rfl) h (lv_sub hl [0, 1, 2, 3, 4] rfl)
  exact L3_0 _ 0 (σ 23) _ _ _ rfl (by omega) (fun j hj => absurd hj (by omega)) h (lv_sub hl [0, 1, 2, 3, 4] rfl)
set_option maxHeartbeats 4000000 in
set_option maxRecDepth 100000 in
theorem kX9_at (l : Launch) (D : va_G) (ct : Nat → ClassId) (ad : Nat → Nat) (σ : Nat → Nat → Int32) (τ : Nat → Nat → Int64) (pg : Nat) (hpg : σ 14 0 = nI pg) (hpg50 : pg ≤ 50) (k : Nat) (hk : k < 100) : MI l yX9_at (gWs yX9_at cX9_at 2 (some .int)) rmX9_at D ct gNo [.ref (ad 0), .int (nI k)] (wM ad ct σ τ) (fun _ : Unit => (wM ad ct σ τ)) (fun r _ => r = atM σ pg k) := by
  refine MI.ofI RX9 rfl (by decide) (Nat.le_of_ble_eq_true rfl) ?_
  intro zp ze zs zm za zb zt zc zA ls zQ C h hX hl hret
  have hx := C.1
  have hb := C.2.1
  have hl : lv_has ls 2 [(0, .ref (ad 0)), (1, .int (nI k))] := hl
  refine lv_iload_n hx hb dX9_at_0 rfl (lv_at hl 1 rfl) ?_
  refine lv_aload_n hx hb dX9_at_1 rfl (lv_at hl 0 rfl) ?_
  refine mg_pageLength C h dX9_at_2 ?_
  refine gas hpg ?_
  refine nb_ge hx hb k pg (by omega) (by omega) (tgt := 17) dX9_at_5 (by decide) (fun c_5 => ?_) (fun c_5 => ?_)
  · refine lv_iconst (v := 0) hx hb dX9_at_17 (by decide) ?_
    exact hret _ () _ _ _ _ h (by unfold atM; first | rw [if_pos (by omega)] | rw [if_neg (by omega)]) dX9_at_18
  · refine lv_aload_n hx hb dX9_at_8 rfl (lv_at hl 0 rfl) ?_
    refine mg_page C h dX9_at_9 ?_
    refine lv_iload_n hx hb dX9_at_12 rfl (lv_at hl 1 rfl) ?_
    refine ml_page C h (j := k) (by omega) dX9_at_13 ?_
    refine lv_goto (tgt := 18) hx hb dX9_at_14 (by decide) ?_
    exact hret _ () _ _ _ _ h (by unfold atM; first | rw [if_pos (by omega)] | rw [if_neg (by omega)]) dX9_at_18
set_option maxHeartbeats 4000000 in
set_option maxRecDepth 100000 in
theorem kX9_kindBy (l : Launch) (D : va_G) (ct : Nat → ClassId) (x : Int32) : MI l yX9_kindBy (gWs yX9_kindBy cX9_kindBy 1 (some .int)) rmX9_kindBy D ct gNo [.int x] [] (fun _ : Unit => []) (fun r _ => r = kindC x) := by
  refine MI.ofI RX9 rfl (by decide) (Nat.le_of_ble_eq_true rfl) ?_
  intro zp ze zs zm za zb zt zc zA ls zQ C h hX hl hret
  have hx := C.1
  have hb := C.2.1
  have hl : lv_has ls 1 [(0, .int x)] := hl
  refine lv_iload_n hx hb dX9_kindBy_0 rfl (lv_at hl 0 rfl) ?_
  by_cases w_109 : x = 109
  · refine gas w_109 ?_
    refine lv_lookup (tgt := 52) (off := 51) hx hb dX9_kindBy_1 (by decide) (by decide) (by decide) ?_
    refine lv_iconst (v := 0) hx hb dX9_kindBy_52 (by decide) ?_
    exact hret _ () _ _ _ _ h (by simp [kindC, w_109]) dX9_kindBy_53
  by_cases w_101 : x = 101
  · refine gas w_101 ?_
    refine lv_lookup (tgt := 54) (off := 53) hx hb dX9_kindBy_1 (by decide) (by decide) (by decide) ?_
    refine lv_iconst (v := 1) hx hb dX9_kindBy_54 (by decide) ?_
    exact hret _ () _ _ _ _ h (by simp [kindC, w_109, w_101]) dX9_kindBy_55
  by_cases w_99 : x = 99
  · refine gas w_99 ?_
    refine lv_lookup (tgt := 56) (off := 55) hx hb dX9_kindBy_1 (by decide) (by decide) (by decide) ?_
    refine lv_iconst (v := 2) hx hb dX9_kindBy_56 (by decide) ?_
    exact hret _ () _ _ _ _ h (by simp [kindC, w_109, w_101, w_99]) dX9_kindBy_57
  by_cases w_107 : x = 107
  · refine gas w_107 ?_
    refine lv_lookup (tgt := 58) (off := 57) hx hb dX9_kindBy_1 (by decide) (by decide) (by decide) ?_
    refine lv_iconst (v := 3) hx hb dX9_kindBy_58 (by decide) ?_
    exact hret _ () _ _ _ _ h (by simp [kindC, w_109, w_101, w_99, w_107]) dX9_kindBy_59
  by_cases w_115 : x = 115
  · refine gas w_115 ?_
    refine lv_lookup (tgt := 60) (off := 59) hx hb dX9_kindBy_1 (by decide) (by decide) (by decide) ?_
    refine lv_iconst (v := 4) hx hb dX9_kindBy_60 (by decide) ?_
    exact hret _ () _ _ _ _ h (by simp [kindC, w_109, w_101, w_99, w_107, w_115]) dX9_kindBy_61
  have t_109 : ¬ (109 : Int) = (x).toInt := fun q => w_109 (Int32.toInt_inj.mp q.symm)
  have t_101 : ¬ (101 : Int) = (x).toInt := fun q => w_101 (Int32.toInt_inj.mp q.symm)
  have t_99 : ¬ (99 : Int) = (x).toInt := fun q => w_99 (Int32.toInt_inj.mp q.symm)
  have t_107 : ¬ (107 : Int) = (x).toInt := fun q => w_107 (Int32.toInt_inj.mp q.symm)
  have t_115 : ¬ (115 : Int) = (x).toInt := fun q => w_115 (Int32.toInt_inj.mp q.symm)
  refine lv_lookup (tgt := 62) (off := 61) hx hb dX9_kindBy_1 (by decide) (by show Op.lookupswitch.offset [(99, 55), (101, 53), (107, 57), (109, 51), (115, 59)] (61) (x).toInt = 61; simp [Op.lookupswitch.offset, t_109, t_101, t_99, t_107, t_115]) (by decide) ?_
  refine lv_iconst (v := -1) hx hb dX9_kindBy_62 (by decide) ?_
  exact hret _ () _ _ _ _ h (by simp [kindC, w_109, w_101, w_99, w_107, w_115]) dX9_kindBy_63
set_option maxHeartbeats 4000000 in
set_option maxRecDepth 100000 in
theorem kX9_readOne (l : Launch) (D : va_G) (ct : Nat → ClassId) (ad : Nat → Nat) (σ : Nat → Nat → Int32) (τ : Nat → Nat → Int64) (pg : Nat) (hpg : σ 14 0 = nI pg) (hpg50 : pg ≤ 50) (f : Nat) (hf : f < 60) : MI l yX9_readOne (gWs yX9_readOne cX9_readOne 3 (some .int)) rmX9_readOne D ct gNo [.ref (ad 0), .int (nI f)] (wM ad ct σ τ) (fun _ : Unit => (wM ad ct σ τ)) (fun r _ => r = nI (rd1 (atM σ pg) f)) := by
  refine MI.ofI RX9 rfl (by decide) (Nat.le_of_ble_eq_true rfl) ?_
  intro zp ze zs zm za zb zt zc zA ls zQ C h hX hl hret
  have hx := C.1
  have hb := C.2.1
  have hl : lv_has ls 3 [(0, .ref (ad 0)), (1, .int (nI f))] := hl
  refine lv_aload_n hx hb dX9_readOne_0 rfl (lv_at hl 0 rfl) ?_
  refine lv_iload_n hx hb dX9_readOne_1 rfl (lv_at hl 1 rfl) ?_
  refine gcallVi C h trivial gNo_ok (kX9_at l D ct ad σ τ pg hpg hpg50 f (by omega)) (cwV 1 C.2.2.2.2 (gInV q836 q838 q21 q66 q839) rfl rfl rfl hvX9_at ⟨Nat.le_of_ble_eq_true rfl, Nat.le_of_ble_eq_true rfl⟩) 0 (wM_o ad ct σ τ) rfl rfl rfl hl.1 rfl (Nat.le_of_ble_eq_true rfl) dX9_readOne_2 ⟨Nat.zero_le _, Nat.zero_le _⟩ (fun r9 u9 H ll hw h => ?_)
  have hw : r9 = atM σ pg f := hw
  subst hw
  have h : gW D ct zA zs _ _ (wM ad ct σ τ) := h
  refine gcallSi C h (kX9_kindBy l D ct (atM σ pg f)) (va_cwS 1 C.2.2.2.2 (gInS q840 q841 q66 q842) rfl rfl rfl hdX9_kindBy ⟨Nat.le_of_ble_eq_true rfl, Nat.le_of_ble_eq_true rfl⟩) rfl hl.1 rfl (Nat.le_of_ble_eq_true rfl) dX9_readOne_5 ⟨Nat.zero_le _, Nat.zero_le _⟩ (fun H ll h => ?_)
  refine lv_iconst (v := -1) hx hb dX9_readOne_8 (by decide) ?_
  refine lv_icmp_ne (tgt := 14) hx hb dX9_readOne_9 (by decide) (fun c_9 => ?_) (fun c_9 => ?_)
  · refine lv_aload_n hx hb dX9_readOne_14 rfl (lv_at hl 0 rfl) ?_
    refine lv_iload_n hx hb dX9_readOne_15 rfl (lv_at hl 1 rfl) ?_
    refine lv_iconst (v := 1) hx hb dX9_readOne_16 (by decide) ?_
    refine nadd hx hb f 1 dX9_readOne_17 ?_
    refine gcallVi C h trivial gNo_ok (kX9_at l D ct ad σ τ pg hpg hpg50 (f + 1) (by omega)) (cwV 1 C.2.2.2.2 (gInV q836 q838 q21 q66 q839) rfl rfl rfl hvX9_at ⟨Nat.le_of_ble_eq_true rfl, Nat.le_of_ble_eq_true rfl⟩) 0 (wM_o ad ct σ τ) rfl rfl rfl hl.1 rfl (Nat.le_of_ble_eq_true rfl) dX9_readOne_18 ⟨Nat.zero_le _, Nat.zero_le _⟩ (fun r9 u9 H ll hw h => ?_)
    have hw : r9 = atM σ pg (f + 1) := hw
    subst hw
    have h : gW D ct zA zs _ _ (wM ad ct σ τ) := h
    refine lv_bipush (v := 48) hx hb dX9_readOne_21 (by decide) ?_
    refine lv_isub hx hb dX9_readOne_23 ?_
    refine lv_iconst (v := 1) hx hb dX9_readOne_24 (by decide) ?_
    refine lv_bipush (v := 9) hx hb dX9_readOne_25 (by decide) ?_
    refine gcallSi C h (kX9_within l D ct ((atM σ pg (f + 1)) - 48) 1 9) (va_cwS 3 C.2.2.2.2 (gInS q817 q818 q66 q819) rfl rfl rfl hdX9_within ⟨Nat.le_of_ble_eq_true rfl, Nat.le_of_ble_eq_true rfl⟩) rfl hl.1 rfl (Nat.le_of_ble_eq_true rfl) dX9_readOne_27 ⟨Nat.zero_le _, Nat.zero_le _⟩ (fun H ll h => ?_)
    refine bz_ne hx hb (1 ≤ ((atM σ pg (f + 1)) - 48) ∧ ((atM σ pg (f + 1)) - 48) ≤ 9) (tgt := 37) dX9_readOne_30 (by decide) (fun c_30 => ?_) (fun c_30 => ?_)
    · refine lv_iload_n hx hb dX9_readOne_37 rfl (lv_at hl 1 rfl) ?_
      refine lv_iconst (v := 2) hx hb dX9_readOne_38 (by decide) ?_
      refine nadd hx hb f 2 dX9_readOne_39 ?_
      refine lv_istore_n (lv' := [(2, .int (nI (f + 2))), (0, .ref (ad 0)), (1, .int (nI f))]) hx hb dX9_readOne_40 rfl hl (by decide) rfl (fun ls hl => ?_)
      have L41_0 : ∀ (kk : Nat) (i : Nat) (H : Heap) (ll : List Loc) (ls : Array Slot), 3 - i = kk → (i ≤ 3) → (ldn (atM σ pg) (f + 2) 3 = ldn (atM σ pg) (f + 2 + i) (3 - i)) → gW D ct zA zs H ll (wM ad ct σ τ) → lv_has ls 3 [(2, .int (nI (f + 2 + i))), (0, .ref (ad 0)), (1, .int (nI f))] → W zp l ze rmX9_readOne zs zm za zb zt zc H ll 0 0 zQ (F0 zm 41 ls []) := by
        intro kk41
        induction kk41 using Nat.strongRecOn with
        | _ kk41 ih41 =>
        intro i H ll ls hk41 hi hr h hl
        refine lv_iload_n hx hb dX9_readOne_41 rfl (lv_at hl 0 rfl) ?_
        refine lv_iload_n hx hb dX9_readOne_42 rfl (lv_at hl 2 rfl) ?_
        refine lv_iconst (v := 5) hx hb dX9_readOne_43 (by decide) ?_
        refine nadd hx hb f 5 dX9_readOne_44 ?_
        refine nb_ge hx hb (f + 2 + i) (f + 5) (by omega) (by omega) (tgt := 65) dX9_readOne_45 (by decide) (fun c_45 => ?_) (fun c_45 => ?_)
        · refine lv_iload_n hx hb dX9_readOne_65 rfl (lv_at hl 0 rfl) ?_
          exact hret _ () _ _ _ _ h (by unfold rd1; rw [if_neg c_9, if_pos c_30, hr]; first | rw [show i = 3 by omega]; rfl | (rw [show 3 - i = (3 - (i + 1)) + 1 by omega]; exact congrArg nI (if_neg c_56).symm)) dX9_readOne_66
        · refine lv_aload_n hx hb dX9_readOne_48 rfl (lv_at hl 1 rfl) ?_
          refine lv_iload_n hx hb dX9_readOne_49 rfl (lv_at hl 0 rfl) ?_
          refine gcallVi C h trivial gNo_ok (kX9_at l D ct ad σ τ pg hpg hpg50 (f + 2 + i) (by omega)) (cwV 1 C.2.2.2.2 (gInV q836 q838 q21 q66 q839) rfl rfl rfl hvX9_at ⟨Nat.le_of_ble_eq_true rfl, Nat.le_of_ble_eq_true rfl⟩) 0 (wM_o ad ct σ τ) rfl rfl rfl hl.1 rfl (Nat.le_of_ble_eq_true rfl) dX9_readOne_50 ⟨Nat.zero_le _, Nat.zero_le _⟩ (fun r9 u9 H ll hw h => ?_)
          have hw : r9 = atM σ pg (f + 2 + i) := hw
          subst hw
          have h : gW D ct zA zs _ _ (wM ad ct σ τ) := h
          refine gcallSi C h (kX9_isLean l D ct (atM σ pg (f + 2 + i))) (va_cwS 1 C.2.2.2.2 (gInS q843 q844 q66 q845) rfl rfl rfl hdX9_isLean ⟨Nat.le_of_ble_eq_true rfl, Nat.le_of_ble_eq_true rfl⟩) rfl hl.1 rfl (Nat.le_of_ble_eq_true rfl) dX9_readOne_53 ⟨Nat.zero_le _, Nat.zero_le _⟩ (fun H ll h => ?_)
          refine bz_eq hx hb ((atM σ pg (f + 2 + i)) = 43 ∨ (atM σ pg (f + 2 + i)) = 45 ∨ (atM σ pg (f + 2 + i)) = 48) (tgt := 65) dX9_readOne_56 (by decide) (fun c_56 => ?_) (fun c_56 => ?_)
          · refine lv_iload_n hx hb dX9_readOne_65 rfl (lv_at hl 0 rfl) ?_
            exact hret _ () _ _ _ _ h (by unfold rd1; rw [if_neg c_9, if_pos c_30, hr]; first | rw [show i = 3 by omega]; rfl | (rw [show 3 - i = (3 - (i + 1)) + 1 by omega]; exact congrArg nI (if_neg c_56).symm)) dX9_readOne_66
          · refine ninc (lv' := [(2, .int (nI (f + 2 + i + 1))), (0, .ref (ad 0)), (1, .int (nI f))]) hx hb (f + 2 + i) 1 dX9_readOne_59 hl (k := 0) rfl (by decide) rfl (fun ls hl => ?_)
            refine lv_goto (tgt := 41) hx hb dX9_readOne_62 (by decide) ?_
            exact ih41 _ (by omega) (i + 1) _ _ _ rfl (by omega) (by rw [hr, show 3 - i = (3 - (i + 1)) + 1 by omega]; exact if_pos c_56) h (lv_sub hl [0, 1, 2] rfl)
      exact L41_0 _ 0 _ _ _ rfl (by omega) rfl h (lv_sub hl [0, 1, 2] rfl)
    · refine lv_iload_n hx hb dX9_readOne_33 rfl (lv_at hl 1 rfl) ?_
      refine lv_iconst (v := 1) hx hb dX9_readOne_34 (by decide) ?_
      refine nadd hx hb f 1 dX9_readOne_35 ?_
      exact hret _ () _ _ _ _ h (by unfold rd1; rw [if_neg c_9, if_neg c_30]) dX9_readOne_36
  · refine lv_iload_n hx hb dX9_readOne_12 rfl (lv_at hl 1 rfl) ?_
    exact hret _ () _ _ _ _ h (by unfold rd1; rw [if_pos c_9]) dX9_readOne_13
set_option maxHeartbeats 4000000 in
set_option maxRecDepth 100000 in
theorem kX9_read (l : Launch) (D : va_G) (ct : Nat → ClassId) (ad : Nat → Nat) (σ : Nat → Nat → Int32) (τ : Nat → Nat → Int64) (pg : Nat) (hpg : σ 14 0 = nI pg) (hpg50 : pg ≤ 50)  : MI l yX9_read (gWs yX9_read cX9_read 3 (some .int)) rmX9_read D ct gNo [.ref (ad 0)] (wM ad ct σ τ) (fun u : (Nat → Nat → Int32) × (Nat → Nat → Int64) => wM ad ct u.1 u.2) (fun r u => r = nI ((rdM σ pg).1) ∧ u = (va_up (va_up σ 16 (fun _ => (if (rdM σ pg).2.2 = true then 1 else 0))) 17 (fun _ => nI (rdM σ pg).2.1), τ)) := by
  refine MI.ofI RX9 rfl (by decide) (Nat.le_of_ble_eq_true rfl) ?_
  intro zp ze zs zm za zb zt zc zA ls zQ C h hX hl hret
  have hx := C.1
  have hb := C.2.1
  have hl : lv_has ls 3 [(0, .ref (ad 0))] := hl
  refine lv_aload_n hx hb dX9_read_0 rfl (lv_at hl 0 rfl) ?_
  refine lv_iconst (v := 0) hx hb dX9_read_1 (by decide) ?_
  refine mp_isWhole C h (by decide) dX9_read_2 (fun H ll h => ?_)
  refine lv_aload_n hx hb dX9_read_5 rfl (lv_at hl 0 rfl) ?_
  refine lv_iconst (v := 0) hx hb dX9_read_6 (by decide) ?_
  refine mp_newMussels C h dX9_read_7 (fun H ll h => ?_)
  refine lv_iconst (v := 0) hx hb dX9_read_10 (by decide) ?_
  refine lv_istore_n (lv' := [(1, .int 0), (0, .ref (ad 0))]) hx hb dX9_read_11 rfl hl (by decide) rfl (fun ls hl => ?_)
  have L12_0 : ∀ (kk : Nat) (nm : Nat) (wh : Bool) (H : Heap) (ll : List Loc) (ls : Array Slot), 8 - nm = kk → (nm ≤ 7) → (rdM σ pg = rdF (atM σ pg) pg (8 - nm) nm wh) → gW D ct zA zs H ll (wM ad ct (va_up (va_up σ 16 (fun _ => (if wh = true then 1 else 0))) 17 (fun _ => nI nm)) τ) → lv_has ls 3 [(1, .int (nI (6 * nm))), (0, .ref (ad 0))] → W zp l ze rmX9_read zs zm za zb zt zc H ll 0 0 zQ (F0 zm 12 ls []) := by
    intro kk12
    induction kk12 using Nat.strongRecOn with
    | _ kk12 ih12 =>
    intro nm wh H ll ls hk12 hnm hF h hl
    refine lv_aload_n hx hb dX9_read_12 rfl (lv_at hl 1 rfl) ?_
    refine mg_newMussels C h dX9_read_13 ?_
    refine lv_bipush (v := 8) hx hb dX9_read_16 (by decide) ?_
    refine nb_ge hx hb nm 8 (by omega) (by omega) (tgt := 100) dX9_read_18 (by decide) (fun c_18 => absurd c_18 (by omega)) (fun c_18 => ?_)
    refine lv_aload_n hx hb dX9_read_21 rfl (lv_at hl 1 rfl) ?_
    refine lv_iload_n hx hb dX9_read_22 rfl (lv_at hl 0 rfl) ?_
    refine gcallVi C h trivial gNo_ok (kX9_readOne l D ct ad (va_up (va_up σ 16 (fun _ => (if wh = true then 1 else 0))) 17 (fun _ => nI nm)) τ pg hpg hpg50 (6 * nm) (by omega)) (cwV 1 C.2.2.2.2 (gInV q832 q834 q20 q66 q835) rfl rfl rfl hvX9_readOne ⟨Nat.le_of_ble_eq_true rfl, Nat.le_of_ble_eq_true rfl⟩) 0 (wM_o ad ct (va_up (va_up σ 16 (fun _ => (if wh = true then 1 else 0))) 17 (fun _ => nI nm)) τ) rfl rfl rfl hl.1 rfl (Nat.le_of_ble_eq_true rfl) dX9_read_23 ⟨Nat.zero_le _, Nat.zero_le _⟩ (fun r9 u9 H ll hw h => ?_)
    have hw : r9 = nI (rd1 (atM σ pg) (6 * nm)) := hw
    subst hw
    have h : gW D ct zA zs _ _ (wM ad ct (va_up (va_up σ 16 (fun _ => (if wh = true then 1 else 0))) 17 (fun _ => nI nm)) τ) := h
    refine lv_istore_n (lv' := [(2, .int (nI (rd1 (atM σ pg) (6 * nm)))), (1, .int (nI (6 * nm))), (0, .ref (ad 0))]) hx hb dX9_read_26 rfl hl (by decide) rfl (fun ls hl => ?_)
    have h5 := rd1_le (atM σ pg) (6 * nm)
    refine lv_iload_n hx hb dX9_read_27 rfl (lv_at hl 0 rfl) ?_
    refine lv_iload_n hx hb dX9_read_28 rfl (lv_at hl 1 rfl) ?_
    refine lv_iconst (v := 5) hx hb dX9_read_29 (by decide) ?_
    refine nadd hx hb (6 * nm) 5 dX9_read_30 ?_
    refine nb_eq hx hb (rd1 (atM σ pg) (6 * nm)) ((6 * nm) + 5) (by omega) (by omega) (tgt := 36) dX9_read_31 (by decide) (fun c_31 => ?_) (fun c_31 => ?_)
    · refine lv_aload_n hx hb dX9_read_36 rfl (lv_at hl 2 rfl) ?_
      refine lv_dup hx hb dX9_read_37 rfl ?_
      refine mg_newMussels C h dX9_read_38 ?_
      refine lv_iconst (v := 1) hx hb dX9_read_41 (by decide) ?_
      refine nadd hx hb nm 1 dX9_read_42 ?_
      refine mp_newMussels C h dX9_read_43 (fun H ll h => ?_)
      have h : gW D ct zA zs _ _ (wM ad ct (va_up (va_up σ 16 (fun _ => (if wh = true then 1 else 0))) 17 (fun _ => nI (nm + 1))) τ) := h
      refine lv_iload_n hx hb dX9_read_46 rfl (lv_at hl 0 rfl) ?_
      refine lv_istore_n (lv' := [(1, .int (nI (rd1 (atM σ pg) (6 * nm)))), (2, .int (nI (rd1 (atM σ pg) (6 * nm)))), (0, .ref (ad 0))]) hx hb dX9_read_47 rfl hl (by decide) rfl (fun ls hl => ?_)
      rw [c_31] at hl
      refine lv_aload_n hx hb dX9_read_48 rfl (lv_at hl 2 rfl) ?_
      refine lv_iload_n hx hb dX9_read_49 rfl (lv_at hl 0 rfl) ?_
      refine lv_aload_n hx hb dX9_read_50 rfl (lv_at hl 2 rfl) ?_
      refine mg_pageLength C h dX9_read_51 ?_
      refine gas hpg ?_
      refine nb_ne hx hb (6 * nm + 5) pg (by omega) (by omega) (tgt := 69) dX9_read_54 (by decide) (fun c_54 => ?_) (fun c_54 => ?_)
      · refine lv_iconst (v := 0) hx hb dX9_read_69 (by decide) ?_
        refine gas (z := if decide (6 * nm + 5 = pg ∧ 1 < nm + 1) = true then 1 else 0) (by rw [if_neg (by simp; omega)]) ?_
        refine mp_isWhole C h (gnz _) dX9_read_70 (fun H ll h => ?_)
        have h : gW D ct zA zs _ _ (wM ad ct (va_up (va_up σ 16 (fun _ => (if decide (6 * nm + 5 = pg ∧ 1 < nm + 1) = true then 1 else 0))) 17 (fun _ => nI (nm + 1))) τ) := h
        refine lv_aload_n hx hb dX9_read_73 rfl (lv_at hl 2 rfl) ?_
        refine mg_newMussels C h dX9_read_74 ?_
        refine lv_bipush (v := 8) hx hb dX9_read_77 (by decide) ?_
        refine nb_eq hx hb (nm + 1) 8 (by omega) (by omega) (tgt := 92) dX9_read_79 (by decide) (fun c_79 => ?_) (fun c_79 => ?_)
        · have hRD : rdM σ pg = (6 * nm + 5, nm + 1, decide (6 * nm + 5 = pg ∧ 1 < nm + 1)) := by rw [hF, show 8 - nm = (8 - (nm + 1)) + 1 by omega]; exact (if_pos c_31).trans (if_pos (Or.inl c_79))
          refine lv_iload_n hx hb dX9_read_92 rfl (lv_at hl 0 rfl) ?_
          have h : gW D ct zA zs _ _ (wM ad ct (va_up (va_up σ 16 (fun _ => (if (rdM σ pg).2.2 = true then 1 else 0))) 17 (fun _ => nI (rdM σ pg).2.1)) τ) := h.to (by rw [hRD])
          exact hret _ (va_up (va_up σ 16 (fun _ => (if (rdM σ pg).2.2 = true then 1 else 0))) 17 (fun _ => nI (rdM σ pg).2.1), τ) _ _ _ _ h ⟨(by rw [hRD]), rfl⟩ dX9_read_93
        · refine lv_aload_n hx hb dX9_read_82 rfl (lv_at hl 2 rfl) ?_
          refine lv_iload_n hx hb dX9_read_83 rfl (lv_at hl 0 rfl) ?_
          refine gcallVi C h trivial gNo_ok (kX9_at l D ct ad (va_up (va_up σ 16 (fun _ => (if decide (6 * nm + 5 = pg ∧ 1 < nm + 1) = true then 1 else 0))) 17 (fun _ => nI (nm + 1))) τ pg hpg hpg50 (6 * nm + 5) (by omega)) (cwV 1 C.2.2.2.2 (gInV q836 q838 q21 q66 q839) rfl rfl rfl hvX9_at ⟨Nat.le_of_ble_eq_true rfl, Nat.le_of_ble_eq_true rfl⟩) 0 (wM_o ad ct (va_up (va_up σ 16 (fun _ => (if decide (6 * nm + 5 = pg ∧ 1 < nm + 1) = true then 1 else 0))) 17 (fun _ => nI (nm + 1))) τ) rfl rfl rfl hl.1 rfl (Nat.le_of_ble_eq_true rfl) dX9_read_84 ⟨Nat.zero_le _, Nat.zero_le _⟩ (fun r9 u9 H ll hw h => ?_)
          have hw : r9 = atM σ pg (6 * nm + 5) := hw
          subst hw
          have h : gW D ct zA zs _ _ (wM ad ct (va_up (va_up σ 16 (fun _ => (if decide (6 * nm + 5 = pg ∧ 1 < nm + 1) = true then 1 else 0))) 17 (fun _ => nI (nm + 1))) τ) := h
          refine lv_bipush (v := 44) hx hb dX9_read_87 (by decide) ?_
          refine lv_icmp_eq (tgt := 94) hx hb dX9_read_89 (by decide) (fun c_89 => ?_) (fun c_89 => ?_)
          · refine ninc (lv' := [(1, .int (nI (6 * nm + 5 + 1))), (2, .int (nI (6 * nm + 5))), (0, .ref (ad 0))]) hx hb (6 * nm + 5) 1 dX9_read_94 hl (k := 0) rfl (by decide) rfl (fun ls hl => ?_)
            refine lv_goto (tgt := 12) hx hb dX9_read_97 (by decide) ?_
            exact ih12 _ (by omega) (nm + 1) (decide (6 * nm + 5 = pg ∧ 1 < nm + 1)) _ _ _ rfl (by omega) (by rw [hF, show 8 - nm = (8 - (nm + 1)) + 1 by omega]; exact (if_pos c_31).trans (if_neg (fun h9 => h9.elim c_79 (fun h9 => h9 c_89)))) h (lv_sub hl [0, 2] rfl)
          · have hRD : rdM σ pg = (6 * nm + 5, nm + 1, decide (6 * nm + 5 = pg ∧ 1 < nm + 1)) := by rw [hF, show 8 - nm = (8 - (nm + 1)) + 1 by omega]; exact (if_pos c_31).trans (if_pos (Or.inr c_89))
            refine lv_iload_n hx hb dX9_read_92 rfl (lv_at hl 0 rfl) ?_
            have h : gW D ct zA zs _ _ (wM ad ct (va_up (va_up σ 16 (fun _ => (if (rdM σ pg).2.2 = true then 1 else 0))) 17 (fun _ => nI (rdM σ pg).2.1)) τ) := h.to (by rw [hRD])
            exact hret _ (va_up (va_up σ 16 (fun _ => (if (rdM σ pg).2.2 = true then 1 else 0))) 17 (fun _ => nI (rdM σ pg).2.1), τ) _ _ _ _ h ⟨(by rw [hRD]), rfl⟩ dX9_read_93
      · refine lv_aload_n hx hb dX9_read_57 rfl (lv_at hl 2 rfl) ?_
        refine mg_newMussels C h dX9_read_58 ?_
        refine lv_iconst (v := 1) hx hb dX9_read_61 (by decide) ?_
        refine nb_le hx hb (nm + 1) 1 (by omega) (by omega) (tgt := 69) dX9_read_62 (by decide) (fun c_62 => ?_) (fun c_62 => ?_)
        · refine lv_iconst (v := 0) hx hb dX9_read_69 (by decide) ?_
          refine gas (z := if decide (6 * nm + 5 = pg ∧ 1 < nm + 1) = true then 1 else 0) (by rw [if_neg (by simp; omega)]) ?_
          refine mp_isWhole C h (gnz _) dX9_read_70 (fun H ll h => ?_)
          have h : gW D ct zA zs _ _ (wM ad ct (va_up (va_up σ 16 (fun _ => (if decide (6 * nm + 5 = pg ∧ 1 < nm + 1) = true then 1 else 0))) 17 (fun _ => nI (nm + 1))) τ) := h
          refine lv_aload_n hx hb dX9_read_73 rfl (lv_at hl 2 rfl) ?_
          refine mg_newMussels C h dX9_read_74 ?_
          refine lv_bipush (v := 8) hx hb dX9_read_77 (by decide) ?_
          refine nb_eq hx hb (nm + 1) 8 (by omega) (by omega) (tgt := 92) dX9_read_79 (by decide) (fun c_79 => ?_) (fun c_79 => ?_)
          · have hRD : rdM σ pg = (6 * nm + 5, nm + 1, decide (6 * nm + 5 = pg ∧ 1 < nm + 1)) := by rw [hF, show 8 - nm = (8 - (nm + 1)) + 1 by omega]; exact (if_pos c_31).trans (if_pos (Or.inl c_79))
            refine lv_iload_n hx hb dX9_read_92 rfl (lv_at hl 0 rfl) ?_
            have h : gW D ct zA zs _ _ (wM ad ct (va_up (va_up σ 16 (fun _ => (if (rdM σ pg).2.2 = true then 1 else 0))) 17 (fun _ => nI (rdM σ pg).2.1)) τ) := h.to (by rw [hRD])
            exact hret _ (va_up (va_up σ 16 (fun _ => (if (rdM σ pg).2.2 = true then 1 else 0))) 17 (fun _ => nI (rdM σ pg).2.1), τ) _ _ _ _ h ⟨(by rw [hRD]), rfl⟩ dX9_read_93
          · refine lv_aload_n hx hb dX9_read_82 rfl (lv_at hl 2 rfl) ?_
            refine lv_iload_n hx hb dX9_read_83 rfl (lv_at hl 0 rfl) ?_
            refine gcallVi C h trivial gNo_ok (kX9_at l D ct ad (va_up (va_up σ 16 (fun _ => (if decide (6 * nm + 5 = pg ∧ 1 < nm + 1) = true then 1 else 0))) 17 (fun _ => nI (nm + 1))) τ pg hpg hpg50 (6 * nm + 5) (by omega)) (cwV 1 C.2.2.2.2 (gInV q836 q838 q21 q66 q839) rfl rfl rfl hvX9_at ⟨Nat.le_of_ble_eq_true rfl, Nat.le_of_ble_eq_true rfl⟩) 0 (wM_o ad ct (va_up (va_up σ 16 (fun _ => (if decide (6 * nm + 5 = pg ∧ 1 < nm + 1) = true then 1 else 0))) 17 (fun _ => nI (nm + 1))) τ) rfl rfl rfl hl.1 rfl (Nat.le_of_ble_eq_true rfl) dX9_read_84 ⟨Nat.zero_le _, Nat.zero_le _⟩ (fun r9 u9 H ll hw h => ?_)
            have hw : r9 = atM σ pg (6 * nm + 5) := hw
            subst hw
            have h : gW D ct zA zs _ _ (wM ad ct (va_up (va_up σ 16 (fun _ => (if decide (6 * nm + 5 = pg ∧ 1 < nm + 1) = true then 1 else 0))) 17 (fun _ => nI (nm + 1))) τ) := h
            refine lv_bipush (v := 44) hx hb dX9_read_87 (by decide) ?_
            refine lv_icmp_eq (tgt := 94) hx hb dX9_read_89 (by decide) (fun c_89 => ?_) (fun c_89 => ?_)
            · refine ninc (lv' := [(1, .int (nI (6 * nm + 5 + 1))), (2, .int (nI (6 * nm + 5))), (0, .ref (ad 0))]) hx hb (6 * nm + 5) 1 dX9_read_94 hl (k := 0) rfl (by decide) rfl (fun ls hl => ?_)
              refine lv_goto (tgt := 12) hx hb dX9_read_97 (by decide) ?_
              exact ih12 _ (by omega) (nm + 1) (decide (6 * nm + 5 = pg ∧ 1 < nm + 1)) _ _ _ rfl (by omega) (by rw [hF, show 8 - nm = (8 - (nm + 1)) + 1 by omega]; exact (if_pos c_31).trans (if_neg (fun h9 => h9.elim c_79 (fun h9 => h9 c_89)))) h (lv_sub hl [0, 2] rfl)
            · have hRD : rdM σ pg = (6 * nm + 5, nm + 1, decide (6 * nm + 5 = pg ∧ 1 < nm + 1)) := by rw [hF, show 8 - nm = (8 - (nm + 1)) + 1 by omega]; exact (if_pos c_31).trans (if_pos (Or.inr c_89))
              refine lv_iload_n hx hb dX9_read_92 rfl (lv_at hl 0 rfl) ?_
              have h : gW D ct zA zs _ _ (wM ad ct (va_up (va_up σ 16 (fun _ => (if (rdM σ pg).2.2 = true then 1 else 0))) 17 (fun _ => nI (rdM σ pg).2.1)) τ) := h.to (by rw [hRD])
              exact hret _ (va_up (va_up σ 16 (fun _ => (if (rdM σ pg).2.2 = true then 1 else 0))) 17 (fun _ => nI (rdM σ pg).2.1), τ) _ _ _ _ h ⟨(by rw [hRD]), rfl⟩ dX9_read_93
        · refine lv_iconst (v := 1) hx hb dX9_read_65 (by decide) ?_
          refine lv_goto (tgt := 70) hx hb dX9_read_66 (by decide) ?_
          refine gas (z := if decide (6 * nm + 5 = pg ∧ 1 < nm + 1) = true then 1 else 0) (by rw [if_pos (by simp; omega)]) ?_
          refine mp_isWhole C h (gnz _) dX9_read_70 (fun H ll h => ?_)
          have h : gW D ct zA zs _ _ (wM ad ct (va_up (va_up σ 16 (fun _ => (if decide (6 * nm + 5 = pg ∧ 1 < nm + 1) = true then 1 else 0))) 17 (fun _ => nI (nm + 1))) τ) := h
          refine lv_aload_n hx hb dX9_read_73 rfl (lv_at hl 2 rfl) ?_
          refine mg_newMussels C h dX9_read_74 ?_
          refine lv_bipush (v := 8) hx hb dX9_read_77 (by decide) ?_
          refine nb_eq hx hb (nm + 1) 8 (by omega) (by omega) (tgt := 92) dX9_read_79 (by decide) (fun c_79 => ?_) (fun c_79 => ?_)
          · have hRD : rdM σ pg = (6 * nm + 5, nm + 1, decide (6 * nm + 5 = pg ∧ 1 < nm + 1)) := by rw [hF, show 8 - nm = (8 - (nm + 1)) + 1 by omega]; exact (if_pos c_31).trans (if_pos (Or.inl c_79))
            refine lv_iload_n hx hb dX9_read_92 rfl (lv_at hl 0 rfl) ?_
            have h : gW D ct zA zs _ _ (wM ad ct (va_up (va_up σ 16 (fun _ => (if (rdM σ pg).2.2 = true then 1 else 0))) 17 (fun _ => nI (rdM σ pg).2.1)) τ) := h.to (by rw [hRD])
            exact hret _ (va_up (va_up σ 16 (fun _ => (if (rdM σ pg).2.2 = true then 1 else 0))) 17 (fun _ => nI (rdM σ pg).2.1), τ) _ _ _ _ h ⟨(by rw [hRD]), rfl⟩ dX9_read_93
          · refine lv_aload_n hx hb dX9_read_82 rfl (lv_at hl 2 rfl) ?_
            refine lv_iload_n hx hb dX9_read_83 rfl (lv_at hl 0 rfl) ?_
            refine gcallVi C h trivial gNo_ok (kX9_at l D ct ad (va_up (va_up σ 16 (fun _ => (if decide (6 * nm + 5 = pg ∧ 1 < nm + 1) = true then 1 else 0))) 17 (fun _ => nI (nm + 1))) τ pg hpg hpg50 (6 * nm + 5) (by omega)) (cwV 1 C.2.2.2.2 (gInV q836 q838 q21 q66 q839) rfl rfl rfl hvX9_at ⟨Nat.le_of_ble_eq_true rfl, Nat.le_of_ble_eq_true rfl⟩) 0 (wM_o ad ct (va_up (va_up σ 16 (fun _ => (if decide (6 * nm + 5 = pg ∧ 1 < nm + 1) = true then 1 else 0))) 17 (fun _ => nI (nm + 1))) τ) rfl rfl rfl hl.1 rfl (Nat.le_of_ble_eq_true rfl) dX9_read_84 ⟨Nat.zero_le _, Nat.zero_le _⟩ (fun r9 u9 H ll hw h => ?_)
            have hw : r9 = atM σ pg (6 * nm + 5) := hw
            subst hw
            have h : gW D ct zA zs _ _ (wM ad ct (va_up (va_up σ 16 (fun _ => (if decide (6 * nm + 5 = pg ∧ 1 < nm + 1) = true then 1 else 0))) 17 (fun _ => nI (nm + 1))) τ) := h
            refine lv_bipush (v := 44) hx hb dX9_read_87 (by decide) ?_
            refine lv_icmp_eq (tgt := 94) hx hb dX9_read_89 (by decide) (fun c_89 => ?_) (fun c_89 => ?_)
            · refine ninc (lv' := [(1, .int (nI (6 * nm + 5 + 1))), (2, .int (nI (6 * nm + 5))), (0, .ref (ad 0))]) hx hb (6 * nm + 5) 1 dX9_read_94 hl (k := 0) rfl (by decide) rfl (fun ls hl => ?_)
              refine lv_goto (tgt := 12) hx hb dX9_read_97 (by decide) ?_
              exact ih12 _ (by omega) (nm + 1) (decide (6 * nm + 5 = pg ∧ 1 < nm + 1)) _ _ _ rfl (by omega) (by rw [hF, show 8 - nm = (8 - (nm + 1)) + 1 by omega]; exact (if_pos c_31).trans (if_neg (fun h9 => h9.elim c_79 (fun h9 => h9 c_89)))) h (lv_sub hl [0, 2] rfl)
            · have hRD : rdM σ pg = (6 * nm + 5, nm + 1, decide (6 * nm + 5 = pg ∧ 1 < nm + 1)) := by rw [hF, show 8 - nm = (8 - (nm + 1)) + 1 by omega]; exact (if_pos c_31).trans (if_pos (Or.inr c_89))
              refine lv_iload_n hx hb dX9_read_92 rfl (lv_at hl 0 rfl) ?_
              have h : gW D ct zA zs _ _ (wM ad ct (va_up (va_up σ 16 (fun _ => (if (rdM σ pg).2.2 = true then 1 else 0))) 17 (fun _ => nI (rdM σ pg).2.1)) τ) := h.to (by rw [hRD])
              exact hret _ (va_up (va_up σ 16 (fun _ => (if (rdM σ pg).2.2 = true then 1 else 0))) 17 (fun _ => nI (rdM σ pg).2.1), τ) _ _ _ _ h ⟨(by rw [hRD]), rfl⟩ dX9_read_93
    · have hRD : rdM σ pg = (rd1 (atM σ pg) (6 * nm), nm, wh) := by rw [hF, show 8 - nm = (8 - (nm + 1)) + 1 by omega]; exact if_neg c_31
      refine lv_iload_n hx hb dX9_read_34 rfl (lv_at hl 0 rfl) ?_
      have h : gW D ct zA zs _ _ (wM ad ct (va_up (va_up σ 16 (fun _ => (if (rdM σ pg).2.2 = true then 1 else 0))) 17 (fun _ => nI (rdM σ pg).2.1)) τ) := h.to (by rw [hRD])
      exact hret _ (va_up (va_up σ 16 (fun _ => (if (rdM σ pg).2.2 = true then 1 else 0))) 17 (fun _ => nI (rdM σ pg).2.1), τ) _ _ _ _ h ⟨(by rw [hRD]), rfl⟩ dX9_read_35
  exact L12_0 _ 0 false _ _ _ rfl (by omega) rfl h (lv_sub hl [0, 1] rfl)
set_option maxHeartbeats 4000000 in
set_option maxRecDepth 100000 in
theorem kX9_fault (l : Launch) (D : va_G) (ct : Nat → ClassId) (ad : Nat → Nat) (σ : Nat → Nat → Int32) (τ : Nat → Nat → Int64) (pg : Nat) (hpg : σ 14 0 = nI pg) (hpg50 : pg ≤ 50)  : MI l yX9_fault (gWs yX9_fault cX9_fault 1 (some .int)) rmX9_fault D ct gNo [.ref (ad 0)] (wM ad ct σ τ) (fun u : (Nat → Nat → Int32) × (Nat → Nat → Int64) => wM ad ct u.1 u.2) (fun r u => r = nI ((rdM σ pg).1) ∧ ∃ (g16 : Int32) (g17 : Int32), u = (va_up (va_up σ 16 (fun _ => g16)) 17 (fun _ => g17), τ)) := by
  refine MI.ofI RX9 rfl (by decide) (Nat.le_of_ble_eq_true rfl) ?_
  intro zp ze zs zm za zb zt zc zA ls zQ C h hX hl hret
  have hx := C.1
  have hb := C.2.1
  have hl : lv_has ls 1 [(0, .ref (ad 0))] := hl
  refine lv_aload_n hx hb dX9_fault_0 rfl (lv_at hl 0 rfl) ?_
  refine gcallVi C h trivial gNo_ok (kX9_read l D ct ad σ τ pg hpg hpg50) (cwV 0 C.2.2.2.2 (gInV q828 q830 q19 q66 q831) rfl rfl rfl hvX9_read ⟨Nat.le_of_ble_eq_true rfl, Nat.le_of_ble_eq_true rfl⟩) 0 (wM_o ad ct σ τ) rfl rfl rfl hl.1 rfl (Nat.le_of_ble_eq_true rfl) dX9_fault_1 ⟨Nat.zero_le _, Nat.zero_le _⟩ (fun r9 u9 H ll hw h => ?_)
  obtain ⟨hw, rfl⟩ := hw
  have hw : r9 = nI ((rdM σ pg).1) := hw
  subst hw
  have h : gW D ct zA zs _ _ (wM ad ct (va_up (va_up σ 16 (fun _ => (if (rdM σ pg).2.2 = true then 1 else 0))) 17 (fun _ => nI ((rdM σ pg).2.1))) τ) := h
  have h : gW D ct zA zs _ _ (wM ad ct (va_up (va_up σ 16 (fun _ => (if (rdM σ pg).2.2 = true then 1 else 0))) 17 (fun _ => nI ((rdM σ pg).2.1))) τ) := h
  exact hret _ (va_up (va_up σ 16 (fun _ => (if (rdM σ pg).2.2 = true then 1 else 0))) 17 (fun _ => nI ((rdM σ pg).2.1)), τ) _ _ _ _ h ⟨rfl, (if (rdM σ pg).2.2 = true then 1 else 0), (nI ((rdM σ pg).2.1)), rfl⟩ dX9_fault_4
