theorem hasI {m n : Nat} (hm : m < n) (hn : n ≤ 8) : 0 ≤ nI m ∧ nI m < nI n := ⟨nI_le (Nat.zero_le m) (by omega), nI_lt hm (by omega)⟩
theorem isqI {n q : Nat} (hn : 0 < n) (hq : q < 3) : 0 < n ∧ 0 ≤ nI q ∧ nI q < 3 := ⟨hn, nI_le (Nat.zero_le q) (by omega), nI_lt (b := 3) hq (by omega)⟩
theorem halfI {t : Nat} (ht : t < 2) : nI t = 0 ∨ nI t = 1 := by
  rcases (show t = 0 ∨ t = 1 by omega) with rfl | rfl
  · exact Or.inl rfl
  · exact Or.inr rfl
def mnX (S L : Nat → Nat → Int32) (n : Nat) (kd : Nat → Nat) (sn m x : Nat) : Int32 := if 20 ≤ x then nI (lvX S L n kd sn m (x - 20) 3) else if 10 ≤ x then 100 + plX S L n kd (x - 10) m else if x = 0 then nI (kd m) else if x = 1 then S 1 m else if x ≤ 4 then L (x - 2) m else if x = 5 then (if m < ffe (cuX S) n 0 then 1 else 0) else if x = 6 then 1 - S 6 m else bI (akX S L n kd sn m 3).1
def qnX (S L : Nat → Nat → Int32) (n : Nat) (kd : Nat → Nat) (q x : Nat) : Int32 := if x = 0 then 200 + smX S L n kd q else if x = 1 then sgn (smX S L n kd q) else if x = 2 then S 7 q else if x = 3 then S 8 q else if x = 4 then nI (cntTo (fun m => L q m = 1) n) else nI (cntTo (fun m => L q m = -1) n)
def sayX (S L : Nat → Nat → Int32) (n : Nat) (kd : Nat → Nat) (m q t : Nat) : Nat := (if t = 0 then ordX (pfX true S L n kd q) m (ffe (cuX S) n 0) else fac (ffe (cuX S) n 0)) / Nat.gcd (ordX (pfX true S L n kd q) m (ffe (cuX S) n 0)) (fac (ffe (cuX S) n 0))
def chX (S L : Nat → Nat → Int32) (n : Nat) (kd : Nat → Nat) (q t w : Nat) : Nat := (if w = 0 then parX (pfX false S L n kd q) t (ffe (cuX S) n 0) else 10 ^ ffe (cuX S) n 0) / Nat.gcd (parX (pfX false S L n kd q) t (ffe (cuX S) n 0)) (10 ^ ffe (cuX S) n 0)
def tuX (S L : Nat → Nat → Int32) (n : Nat) (kd : Nat → Nat) (q : Nat) (o : Int32) : Option Nat := tmX (cmX S L n kd q o) (ffe (cuX S) n 0) (ffe (cuX S) n 0 + 1) 0
def stX1 (h : Nat → Int64) (t : Nat) : Nat := if t = 0 then tlX h 62 0 else flX h (tlX h 62 0) (tlX h 62 0) 0
def tsX (S L : Nat → Nat → Int32) (n : Nat) (kd : Nat → Nat) (sd : Nat) : Nat → (Nat → Nat → Int32) × Nat × Nat × Int32
  | 0 => (L, sd, 0, 0)
  | k + 1 => (dfX S (va_up (tsX S L n kd sd k).1 (nxs (tsX S L n kd sd k).2.1 / 65536 % 3) (upd ((tsX S L n kd sd k).1 (nxs (tsX S L n kd sd k).2.1 / 65536 % 3)) (nxs (nxs (tsX S L n kd sd k).2.1) / 65536 % n) (trnL ((tsX S L n kd sd k).1 (nxs (tsX S L n kd sd k).2.1 / 65536 % 3) (nxs (nxs (tsX S L n kd sd k).2.1) / 65536 % n))))) n kd,
      nxs (nxs (tsX S L n kd sd k).2.1),
      (tsX S L n kd sd k).2.2.1 + (if 0 < smX S (tsX S L n kd sd k).1 n kd (nxs (tsX S L n kd sd k).2.1 / 65536 % 3) then 1 else 0),
      (tsX S L n kd sd k).2.2.2 + smX S (tsX S L n kd sd k).1 n kd (nxs (tsX S L n kd sd k).2.1 / 65536 % 3))
def tsRX (S L : Nat → Nat → Int32) (n : Nat) (kd : Nat → Nat) (tm sd t : Nat) : Int32 := if t = 0 then nI (tsX S L n kd sd tm).2.2.1 else if t = 1 then 10000 + (tsX S L n kd sd tm).2.2.2 else nI (tsX S L n kd sd tm).2.1
def hmX (o1 o2 p0 : Int32) (S L : Nat → Nat → Int32) (n : Nat) (kd : Nat → Nat) (x : Nat) : Int32 := if x = 0 then nI n else if x = 1 then nI (ffe (cuX S) n 0) else if x = 2 then bx_sum (S 6) 8 else if x = 3 then bx_sum (S 1) 8 else if x = 4 then S 12 0 else if x = 5 then bx_sum (S 7) 3 else if x = 6 then bx_sum (S 8) 3 else if x = 7 then nI (cntTo (fun q => 0 < smX S L n kd q) 3) else if x = 8 then S 0 0 else if x = 9 then p0 else if x = 10 then o1 else o2
theorem tlX_le (h : Nat → Int64) : ∀ d i, tlX h d i ≤ i + d + 1
  | 0, i => Nat.le_refl _
  | d + 1, i => by simp only [tlX]; have := tlX_le h d (i + 1); split <;> omega
theorem tm_lt {C : Nat → Bool} {f : Nat} : ∀ d k {j : Nat}, tmX C f d k = some j → j < 2 ^ f := by
  have tw : ∀ k d x {j : Nat}, twX C k d x = some j → j < x + d := by
    intro k d
    induction d with
    | zero => intro x j h; cases h
    | succ d ih =>
      intro x j h
      simp only [twX] at h
      split at h
      · cases h; omega
      · have := ih (x + 1) h; omega
  intro d
  induction d with
  | zero => intro k j h; cases h
  | succ d ih =>
    intro k j h
    simp only [tmX] at h
    split at h
    · exact ih _ h
    · have := tw k _ 0 h; omega
theorem ct_lt {S L : Nat → Nat → Int32} {n : Nat} {kd : Nat → Nat} {q : Nat} {o : Int32} (hn : n ≤ 8) {j : Nat} (h : ctX S L n kd q o = some j) : j < 256 := by
  have key : ∀ d i {j : Nat}, i + d ≤ 8 → fcX S L n kd q o d i = some j → j < 256 := by
    intro d
    induction d with
    | zero => intro i j _ h; cases h
    | succ d ih =>
      intro i j hi h
      simp only [fcX] at h
      split at h
      · cases h
        have : 2 ^ i ≤ 128 := Nat.pow_le_pow_right (n := 2) (by decide) (show i ≤ 7 by omega)
        omega
      · exact ih (i + 1) (by omega) h
  unfold ctX at h
  split at h
  · cases h; decide
  · exact key _ 0 (by have := ffe_le (cuX S) n 0; omega) h
set_option maxHeartbeats 1000000 in
set_option maxRecDepth 100000 in
theorem kX8_letter (l : Launch) (D : va_G) (ct : Nat → ClassId) (ad : Nat → Nat → Nat) (σ lm : Nat → Nat → Nat → Int32) (τ : Nat → Int64) (n : Nat) (kd : Nat → Nat) (hok : ROK (σ 2) n kd) (pn : Nat) (hpn : σ 1 0 0 = nI pn) (hpn50 : pn ≤ 50) (c : Nat) (hc1 : 32 ≤ c) (hc2 : c ≤ 126) (hpl : pn < 50) : MI l yX8_letter (gWs yX8_letter cX8_letter 2 (some .int)) rmX8_letter D ct gNo [.ref (ad 0 0), .int (nI c)] (wX ad ct σ lm τ) (fun u : (Nat → Nat → Nat → Int32) × (Nat → Nat → Nat → Int32) × (Nat → Int64) => wX ad ct u.1 u.2.1 u.2.2) (fun r u => r = nI (pn + 1) ∧ u = (va_up σ 1 (va_up (va_up (σ 1) 1 (upd (σ 1 1) pn (nI c))) 0 (fun _ => nI (pn + 1))), lm, τ)) := by
  refine MI.ofI RX8 rfl (by decide) (Nat.le_of_ble_eq_true rfl) ?_
  intro zp ze zs zm za zb zt zc zA ls zQ C h hX hl hret
  have hx := C.1
  have hb := C.2.1
  have hl : lv_has ls 2 [(0, .ref (ad 0 0)), (1, .int (nI c))] := hl
  have hok0 := hok
  obtain ⟨hn, hn8, hkd⟩ := hok0
  refine lv_iload_n hx hb dX8_letter_0 rfl (lv_at hl 1 rfl) ?_
  refine lv_bipush (v := 32) hx hb dX8_letter_1 (by decide) ?_
  refine nb_lt hx hb c 32 (by omega) (by omega) (tgt := 12) dX8_letter_3 (by decide) (fun c_3 => absurd c_3 (by omega)) (fun c_3 => ?_)
  refine lv_iload_n hx hb dX8_letter_6 rfl (lv_at hl 1 rfl) ?_
  refine lv_bipush (v := 126) hx hb dX8_letter_7 (by decide) ?_
  refine nb_le hx hb c 126 (by omega) (by omega) (tgt := 15) dX8_letter_9 (by decide) (fun c_9 => ?_) (fun c_9 => absurd c_9 (by omega))
  refine lv_aload_n hx hb dX8_letter_15 rfl (lv_at hl 0 rfl) ?_
  refine gget C h igX8 0 rfl rfl 0 (by decide) q201 rfl rfl dX8_letter_16 ?_
  refine gget C h igX4 1 rfl rfl 1 (by decide) q92 rfl rfl dX8_letter_19 ?_
  refine gas hpn ?_
  refine lv_bipush (v := 50) hx hb dX8_letter_22 (by decide) ?_
  refine nb_lt hx hb pn 50 (by omega) (by omega) (tgt := 30) dX8_letter_24 (by decide) (fun c_24 => ?_) (fun c_24 => absurd c_24 (by omega))
  refine lv_aload_n hx hb dX8_letter_30 rfl (lv_at hl 0 rfl) ?_
  refine gget C h igX8 0 rfl rfl 0 (by decide) q201 rfl rfl dX8_letter_31 ?_
  refine gget C h igX4 1 rfl rfl 0 (by decide) q90 rfl rfl dX8_letter_34 ?_
  refine lv_aload_n hx hb dX8_letter_37 rfl (lv_at hl 0 rfl) ?_
  refine gget C h igX8 0 rfl rfl 0 (by decide) q201 rfl rfl dX8_letter_38 ?_
  refine gget C h igX4 1 rfl rfl 1 (by decide) q92 rfl rfl dX8_letter_41 ?_
  refine gas hpn ?_
  refine lv_iload_n hx hb dX8_letter_44 rfl (lv_at hl 1 rfl) ?_
  refine gist C h 2 rfl (j := pn) (by omega) (by decide) dX8_letter_45 (fun H ll h => ?_)
  have h : gW D ct zA zs _ _ (wX ad ct (va_up σ 1 (va_up (σ 1) 1 (upd (σ 1 1) pn (nI c)))) lm τ) := h
  refine lv_aload_n hx hb dX8_letter_46 rfl (lv_at hl 0 rfl) ?_
  refine gget C h igX8 0 rfl rfl 0 (by decide) q201 rfl rfl dX8_letter_47 ?_
  refine lv_dup hx hb dX8_letter_50 rfl ?_
  refine gget C h igX4 1 rfl rfl 1 (by decide) q92 rfl rfl dX8_letter_51 ?_
  refine gas hpn ?_
  refine lv_iconst (v := 1) hx hb dX8_letter_54 (by decide) ?_
  refine nadd hx hb pn 1 dX8_letter_55 ?_
  refine gput C h igX4 tyX4 tyX4_ok nmX4 1 rfl rfl 1 (by decide) q92 rfl rfl (ty := .int) (by decide +kernel) rfl rfl (Nat.le_of_ble_eq_true rfl) dX8_letter_56 (fun H ll h => ?_)
  have h : gW D ct zA zs _ _ (wX ad ct (va_up σ 1 (va_up (va_up (σ 1) 1 (upd (σ 1 1) pn (nI c))) 0 (fun _ => nI (pn + 1)))) lm τ) := h
  refine lv_aload_n hx hb dX8_letter_59 rfl (lv_at hl 0 rfl) ?_
  refine gget C h igX8 0 rfl rfl 0 (by decide) q201 rfl rfl dX8_letter_60 ?_
  refine gget C h igX4 1 rfl rfl 1 (by decide) q92 rfl rfl dX8_letter_63 ?_
  have h : gW D ct zA zs _ _ ((fun u : (Nat → Nat → Nat → Int32) × (Nat → Nat → Nat → Int32) × (Nat → Int64) => wX ad ct u.1 u.2.1 u.2.2) ((va_up σ 1 (va_up (va_up (σ 1) 1 (upd (σ 1 1) pn (nI c))) 0 (fun _ => nI (pn + 1))), lm, τ))) := h
  exact hret _ ((va_up σ 1 (va_up (va_up (σ 1) 1 (upd (σ 1 1) pn (nI c))) 0 (fun _ => nI (pn + 1))), lm, τ)) _ _ _ _ h ⟨rfl, rfl⟩ dX8_letter_66
set_option maxHeartbeats 1000000 in
set_option maxRecDepth 100000 in
theorem kX8_blank (l : Launch) (D : va_G) (ct : Nat → ClassId) (ad : Nat → Nat → Nat) (σ lm : Nat → Nat → Nat → Int32) (τ : Nat → Int64) (n : Nat) (kd : Nat → Nat) (hok : ROK (σ 2) n kd) (pn : Nat) (hpn : σ 1 0 0 = nI pn) (hpn50 : pn ≤ 50) : MI l yX8_blank (gWs yX8_blank cX8_blank 2 (some .int)) rmX8_blank D ct gNo [.ref (ad 0 0)] (wX ad ct σ lm τ) (fun u : (Nat → Nat → Nat → Int32) × (Nat → Nat → Nat → Int32) × (Nat → Int64) => wX ad ct u.1 u.2.1 u.2.2) (fun r u => r = nI pn ∧ u = (va_up σ 1 (va_up (σ 1) 0 (fun _ => 0)), lm, τ)) := by
  refine MI.ofI RX8 rfl (by decide) (Nat.le_of_ble_eq_true rfl) ?_
  intro zp ze zs zm za zb zt zc zA ls zQ C h hX hl hret
  have hx := C.1
  have hb := C.2.1
  have hl : lv_has ls 2 [(0, .ref (ad 0 0))] := hl
  have hok0 := hok
  obtain ⟨hn, hn8, hkd⟩ := hok0
  refine lv_aload_n hx hb dX8_blank_0 rfl (lv_at hl 0 rfl) ?_
  refine gget C h igX8 0 rfl rfl 0 (by decide) q201 rfl rfl dX8_blank_1 ?_
  refine gget C h igX4 1 rfl rfl 1 (by decide) q92 rfl rfl dX8_blank_4 ?_
  refine gas hpn ?_
  refine lv_istore_n (lv' := [(1, .int (nI pn)), (0, .ref (ad 0 0))]) hx hb dX8_blank_7 rfl hl (by decide) rfl (fun ls hl => ?_)
  refine lv_aload_n hx hb dX8_blank_8 rfl (lv_at hl 1 rfl) ?_
  refine gget C h igX8 0 rfl rfl 0 (by decide) q201 rfl rfl dX8_blank_9 ?_
  refine lv_iconst (v := 0) hx hb dX8_blank_12 (by decide) ?_
  refine gput C h igX4 tyX4 tyX4_ok nmX4 1 rfl rfl 1 (by decide) q92 rfl rfl (ty := .int) (by decide +kernel) rfl rfl (Nat.le_of_ble_eq_true rfl) dX8_blank_13 (fun H ll h => ?_)
  have h : gW D ct zA zs _ _ (wX ad ct (va_up σ 1 (va_up (σ 1) 0 (fun _ => 0))) lm τ) := h
  refine lv_iload_n hx hb dX8_blank_16 rfl (lv_at hl 0 rfl) ?_
  have h : gW D ct zA zs _ _ ((fun u : (Nat → Nat → Nat → Int32) × (Nat → Nat → Nat → Int32) × (Nat → Int64) => wX ad ct u.1 u.2.1 u.2.2) ((va_up σ 1 (va_up (σ 1) 0 (fun _ => 0)), lm, τ))) := h
  exact hret _ ((va_up σ 1 (va_up (σ 1) 0 (fun _ => 0)), lm, τ)) _ _ _ _ h ⟨rfl, rfl⟩ dX8_blank_17
set_option maxHeartbeats 1000000 in
set_option maxRecDepth 100000 in
theorem kX8_fault (l : Launch) (D : va_G) (ct : Nat → ClassId) (ad : Nat → Nat → Nat) (σ lm : Nat → Nat → Nat → Int32) (τ : Nat → Int64) (dt : Nat → Nat) (n : Nat) (kd : Nat → Nat) (hok : ROK (σ 2) n kd) (pn : Nat) (pg : Nat → Nat) (hpk : POK (σ 1) pn pg) : MI l yX8_fault (gWs yX8_fault cX8_fault 1 (some .int)) rmX8_fault D ct (stX dt) [.ref (ad 0 0)] (wX ad ct σ lm τ) (fun _ : Unit => (wX ad ct σ lm τ)) (fun r _ => r = nI (ffe (fun j => !fitX (σ 1 1) j) pn 0)) := by
  refine MI.ofI RX8 rfl (by decide) (Nat.le_of_ble_eq_true rfl) ?_
  intro zp ze zs zm za zb zt zc zA ls zQ C h hX hl hret
  have hx := C.1
  have hb := C.2.1
  have hl : lv_has ls 1 [(0, .ref (ad 0 0))] := hl
  have hok0 := hok
  obtain ⟨hn, hn8, hkd⟩ := hok0
  have hpk0 := hpk
  obtain ⟨hpn, hpn50, hpg⟩ := hpk0
  refine lv_aload_n hx hb dX8_fault_0 rfl (lv_at hl 0 rfl) ?_
  refine gget C h igX8 0 rfl rfl 0 (by decide) q201 rfl rfl dX8_fault_1 ?_
  refine gFi C h hX (stX_ok _) (kX4_firstFault l D ct (ad 1) (σ 1) dt pn pg hpk) (cwV 0 C.2.2.2.2 (gInV q251 q252 q253 q58 q254) rfl rfl rfl hvX4_firstFault ⟨Nat.le_of_ble_eq_true rfl, Nat.le_of_ble_eq_true rfl⟩) 1 rfl rfl rfl (fr_X_P ad ct _ _ _) rfl hl.1 rfl (Nat.le_of_ble_eq_true rfl) dX8_fault_4 ⟨Nat.zero_le _, Nat.zero_le _⟩ (fun r9 u9 H ll hw h => ?_)
  have hw : r9 = nI (ffe (fun j => !fitX ((σ 1) 1) j) pn 0) := hw
  subst hw
  have h : gW D ct zA zs _ _ (wX ad ct σ lm τ) := h
  exact hret _ () _ _ _ _ h rfl dX8_fault_7
set_option maxHeartbeats 1000000 in
set_option maxRecDepth 100000 in
theorem kX8_mussel (l : Launch) (D : va_G) (ct : Nat → ClassId) (ad : Nat → Nat → Nat) (σ lm : Nat → Nat → Nat → Int32) (τ : Nat → Int64) (n : Nat) (kd : Nat → Nat) (hok : ROK (σ 2) n kd) (sn : Nat) (hsn : σ 3 0 0 = nI sn) (hsn6 : sn ≤ 6) (m x : Nat) (hm : m < n) (hx9 : x ≤ 7 ∨ (10 ≤ x ∧ x ≤ 12) ∨ (20 ≤ x ∧ x ≤ 22)) : MI l yX8_mussel (gWs yX8_mussel cX8_mussel 3 (some .int)) rmX8_mussel D ct gNo [.ref (ad 0 0), .int (nI m), .int (nI x)] (wX ad ct σ lm τ) (fun u : (Nat → Nat → Nat → Int32) × (Nat → Nat → Nat → Int32) × (Nat → Int64) => wX ad ct u.1 u.2.1 u.2.2) (fun r u => r = mnX (σ 3) (lm 3) n kd sn m x ∧ ∃ (g5 : Nat → Nat → Int32) (L5 : Nat → Nat → Int32) (g0_5 : Nat → Int32), u = (va_up (va_up σ 5 g5) 0 (va_up (σ 0) 5 g0_5), va_up lm 5 L5, τ)) := by
  refine MI.ofI RX8 rfl (by decide) (Nat.le_of_ble_eq_true rfl) ?_
  intro zp ze zs zm za zb zt zc zA ls zQ C h hX hl hret
  have hx := C.1
  have hb := C.2.1
  have hl : lv_has ls 3 [(0, .ref (ad 0 0)), (1, .int (nI m)), (2, .int (nI x))] := hl
  have hok0 := hok
  obtain ⟨hn, hn8, hkd⟩ := hok0
  refine lv_aload_n hx hb dX8_mussel_0 rfl (lv_at hl 0 rfl) ?_
  refine gget C h igX8 0 rfl rfl 1 (by decide) q202 rfl rfl dX8_mussel_1 ?_
  refine lv_iload_n hx hb dX8_mussel_4 rfl (lv_at hl 1 rfl) ?_
  refine gFi C h trivial gNo_ok (kX5_has l D ct (ad 2) (σ 2) n hn hn8 (nI m)) (cwV 1 C.2.2.2.2 (gInV q380 q381 q382 q59 q383) rfl rfl rfl hvX5_has ⟨Nat.le_of_ble_eq_true rfl, Nat.le_of_ble_eq_true rfl⟩) 3 rfl rfl rfl (fr_X_R ad ct _ _ _) rfl hl.1 rfl (Nat.le_of_ble_eq_true rfl) dX8_mussel_5 ⟨Nat.zero_le _, Nat.zero_le _⟩ (fun r9 u9 H ll hw h => ?_)
  have hw : r9 = (if 0 ≤ (nI m) ∧ (nI m) < nI n then 1 else 0) := hw
  subst hw
  have h : gW D ct zA zs _ _ (wX ad ct σ lm τ) := h
  refine bz_ne hx hb (0 ≤ (nI m) ∧ (nI m) < nI n) (tgt := 14) dX8_mussel_8 (by decide) (fun c_8 => ?_) (fun c_8 => absurd c_8 (fun q9 => q9 (hasI hm hn8)))
  refine lv_iload_n hx hb dX8_mussel_14 rfl (lv_at hl 2 rfl) ?_
  refine lv_bipush (v := 10) hx hb dX8_mussel_15 (by decide) ?_
  refine nb_lt hx hb x 10 (by omega) (by omega) (tgt := 46) dX8_mussel_17 (by decide) (fun c_17 => ?_) (fun c_17 => ?_)
  · refine lv_iload_n hx hb dX8_mussel_46 rfl (lv_at hl 2 rfl) ?_
    refine lv_bipush (v := 20) hx hb dX8_mussel_47 (by decide) ?_
    refine nb_lt hx hb x 20 (by omega) (by omega) (tgt := 68) dX8_mussel_49 (by decide) (fun c_49 => ?_) (fun c_49 => ?_)
    · refine lv_iload_n hx hb dX8_mussel_68 rfl (lv_at hl 2 rfl) ?_
      rcases (show x = 0 ∨ x = 1 ∨ x = 2 ∨ x = 3 ∨ x = 4 ∨ x = 5 ∨ x = 6 ∨ x = 7 by omega) with hk_69 | hk_69 | hk_69 | hk_69 | hk_69 | hk_69 | hk_69 | hk_69
      · refine gas (show nI x = nI 0 by rw [hk_69]) ?_
        refine lv_tableIn (tgt := 116) (off := 47) hx hb dX8_mussel_69 (by decide) (by decide) (by decide) (by decide) ?_
        refine lv_aload_n hx hb dX8_mussel_116 rfl (lv_at hl 0 rfl) ?_
        refine gget C h igX8 0 rfl rfl 1 (by decide) q202 rfl rfl dX8_mussel_117 ?_
        refine lv_iload_n hx hb dX8_mussel_120 rfl (lv_at hl 1 rfl) ?_
        refine gFq C h trivial gNo_ok (kX5_kindOf l D ct (ad 2) (σ 2) n kd hok m (by omega)) (cwV 1 C.2.2.2.2 (gInV q441 q397 q398 q59 q399) rfl rfl rfl hvX5_kindOf ⟨Nat.le_of_ble_eq_true rfl, Nat.le_of_ble_eq_true rfl⟩) 3 rfl rfl rfl (fr_X_R ad ct _ _ _) rfl hl.1 rfl (Nat.le_of_ble_eq_true rfl) dX8_mussel_121 ⟨Nat.zero_le _, Nat.zero_le _⟩ (fun H ll h => ?_)
        have h : gW D ct zA zs _ _ (wX ad ct σ lm τ) := h
        rcases (show kd m = 0 ∨ kd m = 1 ∨ kd m = 2 ∨ kd m = 3 ∨ kd m = 4 by have := hung_lt hok (m := m) (by omega); omega) with hk_124 | hk_124 | hk_124 | hk_124 | hk_124
        · refine gasr (z := ad 2 3) (by rw [hk_124]) ?_
          refine gFi C h trivial gNo_ok (kX3_number l D ct (ad 2 3) ) (cwV 0 C.2.2.2.2 (gInV q442 q443 q444 q60 q458) rfl rfl rfl hvX3_number ⟨Nat.le_of_ble_eq_true rfl, Nat.le_of_ble_eq_true rfl⟩) 6 rfl rfl rfl (fr_X_K0 ad ct _ _ _) rfl hl.1 rfl (Nat.le_of_ble_eq_true rfl) dX8_mussel_124 ⟨Nat.zero_le _, Nat.zero_le _⟩ (fun r9 u9 H ll hw h => ?_)
          subst hw
          have h : gW D ct zA zs _ _ (wX ad ct σ lm τ) := h
          have h : gW D ct zA zs _ _ ((fun u : (Nat → Nat → Nat → Int32) × (Nat → Nat → Nat → Int32) × (Nat → Int64) => wX ad ct u.1 u.2.1 u.2.2) ((va_up (va_up σ 5 (σ 5)) 0 (va_up (σ 0) 5 (σ 0 5)), va_up lm 5 (lm 5), τ))) := h
          exact hret _ ((va_up (va_up σ 5 (σ 5)) 0 (va_up (σ 0) 5 (σ 0 5)), va_up lm 5 (lm 5), τ)) _ _ _ _ h ⟨(by first | (exfalso; omega) | (unfold mnX; rw [hk_69]; show _ = nI (kd m); rw [hk_124]; rfl)), (σ 5), (lm 5), (σ 0 5), rfl⟩ dX8_mussel_127
        · refine gasr (z := ad 2 4) (by rw [hk_124]) ?_
          refine gUi C h (kX1_number l D ct (ad 2 4) ) (va_cwO 0 C.2.2.2.2 (gInO q442 q445 q443 q449 q450 q61 q451) rfl rfl rfl (gWs_in q458) hdX3_number ⟨Nat.le_of_ble_eq_true rfl, Nat.le_of_ble_eq_true rfl⟩) 7 rfl rfl rfl (fr_X_K1 ad ct _ _ _) rfl hl.1 rfl (Nat.le_of_ble_eq_true rfl) dX8_mussel_124 ⟨Nat.zero_le _, Nat.zero_le _⟩ (fun H ll h => ?_)
          have h : gW D ct zA zs _ _ (wX ad ct σ lm τ) := h
          have h : gW D ct zA zs _ _ ((fun u : (Nat → Nat → Nat → Int32) × (Nat → Nat → Nat → Int32) × (Nat → Int64) => wX ad ct u.1 u.2.1 u.2.2) ((va_up (va_up σ 5 (σ 5)) 0 (va_up (σ 0) 5 (σ 0 5)), va_up lm 5 (lm 5), τ))) := h
          exact hret _ ((va_up (va_up σ 5 (σ 5)) 0 (va_up (σ 0) 5 (σ 0 5)), va_up lm 5 (lm 5), τ)) _ _ _ _ h ⟨(by first | (exfalso; omega) | (unfold mnX; rw [hk_69]; show _ = nI (kd m); rw [hk_124]; rfl)), (σ 5), (lm 5), (σ 0 5), rfl⟩ dX8_mussel_127
        · refine gasr (z := ad 2 5) (by rw [hk_124]) ?_
          refine gUi C h (kX0_number l D ct (ad 2 5) ) (va_cwO 0 C.2.2.2.2 (gInO q442 q445 q443 q446 q447 q62 q448) rfl rfl rfl (gWs_in q458) hdX3_number ⟨Nat.le_of_ble_eq_true rfl, Nat.le_of_ble_eq_true rfl⟩) 8 rfl rfl rfl (fr_X_K2 ad ct _ _ _) rfl hl.1 rfl (Nat.le_of_ble_eq_true rfl) dX8_mussel_124 ⟨Nat.zero_le _, Nat.zero_le _⟩ (fun H ll h => ?_)
          have h : gW D ct zA zs _ _ (wX ad ct σ lm τ) := h
          have h : gW D ct zA zs _ _ ((fun u : (Nat → Nat → Nat → Int32) × (Nat → Nat → Nat → Int32) × (Nat → Int64) => wX ad ct u.1 u.2.1 u.2.2) ((va_up (va_up σ 5 (σ 5)) 0 (va_up (σ 0) 5 (σ 0 5)), va_up lm 5 (lm 5), τ))) := h
          exact hret _ ((va_up (va_up σ 5 (σ 5)) 0 (va_up (σ 0) 5 (σ 0 5)), va_up lm 5 (lm 5), τ)) _ _ _ _ h ⟨(by first | (exfalso; omega) | (unfold mnX; rw [hk_69]; show _ = nI (kd m); rw [hk_124]; rfl)), (σ 5), (lm 5), (σ 0 5), rfl⟩ dX8_mussel_127
        · refine gasr (z := ad 2 6) (by rw [hk_124]) ?_
          refine gUi C h (kX2_number l D ct (ad 2 6) ) (va_cwO 0 C.2.2.2.2 (gInO q442 q445 q443 q452 q453 q63 q454) rfl rfl rfl (gWs_in q458) hdX3_number ⟨Nat.le_of_ble_eq_true rfl, Nat.le_of_ble_eq_true rfl⟩) 9 rfl rfl rfl (fr_X_K3 ad ct _ _ _) rfl hl.1 rfl (Nat.le_of_ble_eq_true rfl) dX8_mussel_124 ⟨Nat.zero_le _, Nat.zero_le _⟩ (fun H ll h => ?_)
          have h : gW D ct zA zs _ _ (wX ad ct σ lm τ) := h
          have h : gW D ct zA zs _ _ ((fun u : (Nat → Nat → Nat → Int32) × (Nat → Nat → Nat → Int32) × (Nat → Int64) => wX ad ct u.1 u.2.1 u.2.2) ((va_up (va_up σ 5 (σ 5)) 0 (va_up (σ 0) 5 (σ 0 5)), va_up lm 5 (lm 5), τ))) := h
          exact hret _ ((va_up (va_up σ 5 (σ 5)) 0 (va_up (σ 0) 5 (σ 0 5)), va_up lm 5 (lm 5), τ)) _ _ _ _ h ⟨(by first | (exfalso; omega) | (unfold mnX; rw [hk_69]; show _ = nI (kd m); rw [hk_124]; rfl)), (σ 5), (lm 5), (σ 0 5), rfl⟩ dX8_mussel_127
        · refine gasr (z := ad 2 7) (by rw [hk_124]) ?_
          refine gUi C h (kX7_number l D ct (ad 2 7) ) (va_cwO 0 C.2.2.2.2 (gInO q442 q445 q443 q455 q456 q64 q457) rfl rfl rfl (gWs_in q458) hdX3_number ⟨Nat.le_of_ble_eq_true rfl, Nat.le_of_ble_eq_true rfl⟩) 10 rfl rfl rfl (fr_X_K4 ad ct _ _ _) rfl hl.1 rfl (Nat.le_of_ble_eq_true rfl) dX8_mussel_124 ⟨Nat.zero_le _, Nat.zero_le _⟩ (fun H ll h => ?_)
          have h : gW D ct zA zs _ _ (wX ad ct σ lm τ) := h
          have h : gW D ct zA zs _ _ ((fun u : (Nat → Nat → Nat → Int32) × (Nat → Nat → Nat → Int32) × (Nat → Int64) => wX ad ct u.1 u.2.1 u.2.2) ((va_up (va_up σ 5 (σ 5)) 0 (va_up (σ 0) 5 (σ 0 5)), va_up lm 5 (lm 5), τ))) := h
          exact hret _ ((va_up (va_up σ 5 (σ 5)) 0 (va_up (σ 0) 5 (σ 0 5)), va_up lm 5 (lm 5), τ)) _ _ _ _ h ⟨(by first | (exfalso; omega) | (unfold mnX; rw [hk_69]; show _ = nI (kd m); rw [hk_124]; rfl)), (σ 5), (lm 5), (σ 0 5), rfl⟩ dX8_mussel_127
      · refine gas (show nI x = nI 1 by rw [hk_69]) ?_
        refine lv_tableIn (tgt := 128) (off := 59) hx hb dX8_mussel_69 (by decide) (by decide) (by decide) (by decide) ?_
        refine lv_aload_n hx hb dX8_mussel_128 rfl (lv_at hl 0 rfl) ?_
        refine gget C h igX8 0 rfl rfl 2 (by decide) q203 rfl rfl dX8_mussel_129 ?_
        refine gget C h igX6 11 rfl rfl 0 (by decide) q161 rfl rfl dX8_mussel_132 ?_
        refine lv_iload_n hx hb dX8_mussel_135 rfl (lv_at hl 1 rfl) ?_
        refine gild C h 12 rfl (j := m) (by omega) (by decide) dX8_mussel_136 ?_
        refine gas (z := σ 3 1 m) rfl ?_
        have h : gW D ct zA zs _ _ ((fun u : (Nat → Nat → Nat → Int32) × (Nat → Nat → Nat → Int32) × (Nat → Int64) => wX ad ct u.1 u.2.1 u.2.2) ((va_up (va_up σ 5 (σ 5)) 0 (va_up (σ 0) 5 (σ 0 5)), va_up lm 5 (lm 5), τ))) := h
        exact hret _ ((va_up (va_up σ 5 (σ 5)) 0 (va_up (σ 0) 5 (σ 0 5)), va_up lm 5 (lm 5), τ)) _ _ _ _ h ⟨(by first | (exfalso; omega) | (unfold mnX; rw [hk_69]; rfl)), (σ 5), (lm 5), (σ 0 5), rfl⟩ dX8_mussel_137
      · refine gas (show nI x = nI 2 by rw [hk_69]) ?_
        refine lv_tableIn (tgt := 138) (off := 69) hx hb dX8_mussel_69 (by decide) (by decide) (by decide) (by decide) ?_
        refine lv_aload_n hx hb dX8_mussel_138 rfl (lv_at hl 0 rfl) ?_
        refine gget C h igX8 0 rfl rfl 2 (by decide) q203 rfl rfl dX8_mussel_139 ?_
        refine gget C h igX6 11 rfl rfl 1 (by decide) q164 rfl rfl dX8_mussel_142 ?_
        refine lv_iload_n hx hb dX8_mussel_145 rfl (lv_at hl 2 rfl) ?_
        refine lv_iconst (v := 2) hx hb dX8_mussel_146 (by decide) ?_
        refine nsub hx hb x 2 (by omega) dX8_mussel_147 ?_
        refine gald C h 13 4 rfl rfl rfl (j := x - 2) (b := ad 3 (3 + (x - 2))) (by omega) (by decide) (if_pos (by omega)) dX8_mussel_148 ?_
        refine lv_iload_n hx hb dX8_mussel_149 rfl (lv_at hl 1 rfl) ?_
        refine gild C h (14 + (x - 2)) (wX_row3 ad ct _ _ _ (by omega)) (j := m) (by omega) (by decide) dX8_mussel_150 ?_
        refine gas (z := lm 3 (x - 2) m) rfl ?_
        have h : gW D ct zA zs _ _ ((fun u : (Nat → Nat → Nat → Int32) × (Nat → Nat → Nat → Int32) × (Nat → Int64) => wX ad ct u.1 u.2.1 u.2.2) ((va_up (va_up σ 5 (σ 5)) 0 (va_up (σ 0) 5 (σ 0 5)), va_up lm 5 (lm 5), τ))) := h
        exact hret _ ((va_up (va_up σ 5 (σ 5)) 0 (va_up (σ 0) 5 (σ 0 5)), va_up lm 5 (lm 5), τ)) _ _ _ _ h ⟨(by first | (exfalso; omega) | (unfold mnX; rw [if_neg (by omega), if_neg (by omega), if_neg (by omega), if_neg (by omega), if_pos (by omega)])), (σ 5), (lm 5), (σ 0 5), rfl⟩ dX8_mussel_151
      · refine gas (show nI x = nI 3 by rw [hk_69]) ?_
        refine lv_tableIn (tgt := 138) (off := 69) hx hb dX8_mussel_69 (by decide) (by decide) (by decide) (by decide) ?_
        refine lv_aload_n hx hb dX8_mussel_138 rfl (lv_at hl 0 rfl) ?_
        refine gget C h igX8 0 rfl rfl 2 (by decide) q203 rfl rfl dX8_mussel_139 ?_
        refine gget C h igX6 11 rfl rfl 1 (by decide) q164 rfl rfl dX8_mussel_142 ?_
        refine lv_iload_n hx hb dX8_mussel_145 rfl (lv_at hl 2 rfl) ?_
        refine lv_iconst (v := 2) hx hb dX8_mussel_146 (by decide) ?_
        refine nsub hx hb x 2 (by omega) dX8_mussel_147 ?_
        refine gald C h 13 4 rfl rfl rfl (j := x - 2) (b := ad 3 (3 + (x - 2))) (by omega) (by decide) (if_pos (by omega)) dX8_mussel_148 ?_
        refine lv_iload_n hx hb dX8_mussel_149 rfl (lv_at hl 1 rfl) ?_
        refine gild C h (14 + (x - 2)) (wX_row3 ad ct _ _ _ (by omega)) (j := m) (by omega) (by decide) dX8_mussel_150 ?_
        refine gas (z := lm 3 (x - 2) m) rfl ?_
        have h : gW D ct zA zs _ _ ((fun u : (Nat → Nat → Nat → Int32) × (Nat → Nat → Nat → Int32) × (Nat → Int64) => wX ad ct u.1 u.2.1 u.2.2) ((va_up (va_up σ 5 (σ 5)) 0 (va_up (σ 0) 5 (σ 0 5)), va_up lm 5 (lm 5), τ))) := h
        exact hret _ ((va_up (va_up σ 5 (σ 5)) 0 (va_up (σ 0) 5 (σ 0 5)), va_up lm 5 (lm 5), τ)) _ _ _ _ h ⟨(by first | (exfalso; omega) | (unfold mnX; rw [if_neg (by omega), if_neg (by omega), if_neg (by omega), if_neg (by omega), if_pos (by omega)])), (σ 5), (lm 5), (σ 0 5), rfl⟩ dX8_mussel_151
      · refine gas (show nI x = nI 4 by rw [hk_69]) ?_
        refine lv_tableIn (tgt := 138) (off := 69) hx hb dX8_mussel_69 (by decide) (by decide) (by decide) (by decide) ?_
        refine lv_aload_n hx hb dX8_mussel_138 rfl (lv_at hl 0 rfl) ?_
        refine gget C h igX8 0 rfl rfl 2 (by decide) q203 rfl rfl dX8_mussel_139 ?_
        refine gget C h igX6 11 rfl rfl 1 (by decide) q164 rfl rfl dX8_mussel_142 ?_
        refine lv_iload_n hx hb dX8_mussel_145 rfl (lv_at hl 2 rfl) ?_
        refine lv_iconst (v := 2) hx hb dX8_mussel_146 (by decide) ?_
        refine nsub hx hb x 2 (by omega) dX8_mussel_147 ?_
        refine gald C h 13 4 rfl rfl rfl (j := x - 2) (b := ad 3 (3 + (x - 2))) (by omega) (by decide) (if_pos (by omega)) dX8_mussel_148 ?_
        refine lv_iload_n hx hb dX8_mussel_149 rfl (lv_at hl 1 rfl) ?_
        refine gild C h (14 + (x - 2)) (wX_row3 ad ct _ _ _ (by omega)) (j := m) (by omega) (by decide) dX8_mussel_150 ?_
        refine gas (z := lm 3 (x - 2) m) rfl ?_
        have h : gW D ct zA zs _ _ ((fun u : (Nat → Nat → Nat → Int32) × (Nat → Nat → Nat → Int32) × (Nat → Int64) => wX ad ct u.1 u.2.1 u.2.2) ((va_up (va_up σ 5 (σ 5)) 0 (va_up (σ 0) 5 (σ 0 5)), va_up lm 5 (lm 5), τ))) := h
        exact hret _ ((va_up (va_up σ 5 (σ 5)) 0 (va_up (σ 0) 5 (σ 0 5)), va_up lm 5 (lm 5), τ)) _ _ _ _ h ⟨(by first | (exfalso; omega) | (unfold mnX; rw [if_neg (by omega), if_neg (by omega), if_neg (by omega), if_neg (by omega), if_pos (by omega)])), (σ 5), (lm 5), (σ 0 5), rfl⟩ dX8_mussel_151
      · refine gas (show nI x = nI 5 by rw [hk_69]) ?_
        refine lv_tableIn (tgt := 152) (off := 83) hx hb dX8_mussel_69 (by decide) (by decide) (by decide) (by decide) ?_
        refine lv_iload_n hx hb dX8_mussel_152 rfl (lv_at hl 1 rfl) ?_
        refine lv_aload_n hx hb dX8_mussel_153 rfl (lv_at hl 0 rfl) ?_
        refine gget C h igX8 0 rfl rfl 1 (by decide) q202 rfl rfl dX8_mussel_154 ?_
        refine lv_aload_n hx hb dX8_mussel_157 rfl (lv_at hl 0 rfl) ?_
        refine gget C h igX8 0 rfl rfl 2 (by decide) q203 rfl rfl dX8_mussel_158 ?_
        refine gFi C h trivial gNo_ok (kX5_feltIn l D ct (ad 2) (ad 3) (σ 2) (σ 3) (lm 3) n kd hok) (cwV 1 C.2.2.2.2 (gInV q459 q433 q434 q59 q435) rfl rfl rfl hvX5_feltIn ⟨Nat.le_of_ble_eq_true rfl, Nat.le_of_ble_eq_true rfl⟩) 3 rfl rfl rfl (fr_X_RS3 ad ct _ _ _) rfl hl.1 rfl (Nat.le_of_ble_eq_true rfl) dX8_mussel_161 ⟨Nat.zero_le _, Nat.zero_le _⟩ (fun r9 u9 H ll hw h => ?_)
        have hw : r9 = nI (ffe (cuX (σ 3)) n 0) := hw
        subst hw
        have h : gW D ct zA zs _ _ (wX ad ct σ lm τ) := h
        have hfe := ffe_le (cuX (σ 3)) n 0
        refine nb_ge hx hb m (ffe (cuX (σ 3)) n 0) (by omega) (by omega) (tgt := 171) dX8_mussel_164 (by decide) (fun c_164 => ?_) (fun c_164 => ?_)
        · refine lv_iconst (v := 0) hx hb dX8_mussel_171 (by decide) ?_
          have h : gW D ct zA zs _ _ ((fun u : (Nat → Nat → Nat → Int32) × (Nat → Nat → Nat → Int32) × (Nat → Int64) => wX ad ct u.1 u.2.1 u.2.2) ((va_up (va_up σ 5 (σ 5)) 0 (va_up (σ 0) 5 (σ 0 5)), va_up lm 5 (lm 5), τ))) := h
          exact hret _ ((va_up (va_up σ 5 (σ 5)) 0 (va_up (σ 0) 5 (σ 0 5)), va_up lm 5 (lm 5), τ)) _ _ _ _ h ⟨(by first | (exfalso; omega) | (unfold mnX; rw [hk_69]; show _ = (if m < ffe (cuX (σ 3)) n 0 then 1 else 0); first | rw [if_neg (by omega)] | rw [if_pos (by omega)])), (σ 5), (lm 5), (σ 0 5), rfl⟩ dX8_mussel_172
        · refine lv_iconst (v := 1) hx hb dX8_mussel_167 (by decide) ?_
          refine lv_goto (tgt := 172) hx hb dX8_mussel_168 (by decide) ?_
          have h : gW D ct zA zs _ _ ((fun u : (Nat → Nat → Nat → Int32) × (Nat → Nat → Nat → Int32) × (Nat → Int64) => wX ad ct u.1 u.2.1 u.2.2) ((va_up (va_up σ 5 (σ 5)) 0 (va_up (σ 0) 5 (σ 0 5)), va_up lm 5 (lm 5), τ))) := h
          exact hret _ ((va_up (va_up σ 5 (σ 5)) 0 (va_up (σ 0) 5 (σ 0 5)), va_up lm 5 (lm 5), τ)) _ _ _ _ h ⟨(by first | (exfalso; omega) | (unfold mnX; rw [hk_69]; show _ = (if m < ffe (cuX (σ 3)) n 0 then 1 else 0); first | rw [if_neg (by omega)] | rw [if_pos (by omega)])), (σ 5), (lm 5), (σ 0 5), rfl⟩ dX8_mussel_172
      · refine gas (show nI x = nI 6 by rw [hk_69]) ?_
        refine lv_tableIn (tgt := 173) (off := 104) hx hb dX8_mussel_69 (by decide) (by decide) (by decide) (by decide) ?_
        refine lv_iconst (v := 1) hx hb dX8_mussel_173 (by decide) ?_
        refine lv_aload_n hx hb dX8_mussel_174 rfl (lv_at hl 0 rfl) ?_
        refine gget C h igX8 0 rfl rfl 2 (by decide) q203 rfl rfl dX8_mussel_175 ?_
        refine gget C h igX6 11 rfl rfl 2 (by decide) q168 rfl rfl dX8_mussel_178 ?_
        refine lv_iload_n hx hb dX8_mussel_181 rfl (lv_at hl 1 rfl) ?_
        refine gild C h 17 rfl (j := m) (by omega) (by decide) dX8_mussel_182 ?_
        refine gas (z := σ 3 6 m) rfl ?_
        refine lv_isub hx hb dX8_mussel_183 ?_
        have h : gW D ct zA zs _ _ ((fun u : (Nat → Nat → Nat → Int32) × (Nat → Nat → Nat → Int32) × (Nat → Int64) => wX ad ct u.1 u.2.1 u.2.2) ((va_up (va_up σ 5 (σ 5)) 0 (va_up (σ 0) 5 (σ 0 5)), va_up lm 5 (lm 5), τ))) := h
        exact hret _ ((va_up (va_up σ 5 (σ 5)) 0 (va_up (σ 0) 5 (σ 0 5)), va_up lm 5 (lm 5), τ)) _ _ _ _ h ⟨(by first | (exfalso; omega) | (unfold mnX; rw [hk_69]; rfl)), (σ 5), (lm 5), (σ 0 5), rfl⟩ dX8_mussel_184
      · refine gas (show nI x = nI 7 by rw [hk_69]) ?_
        refine lv_tableIn (tgt := 185) (off := 116) hx hb dX8_mussel_69 (by decide) (by decide) (by decide) (by decide) ?_
        refine lv_aload_n hx hb dX8_mussel_185 rfl (lv_at hl 0 rfl) ?_
        refine lv_iload_n hx hb dX8_mussel_186 rfl (lv_at hl 1 rfl) ?_
        refine gcallVi C h trivial gNo_ok (kX8_bestQuestion l D ct ad σ lm τ n kd hok sn hsn hsn6 m (by omega)) (cwV 1 C.2.2.2.2 (gInV q460 q462 q4 q57 q463) rfl rfl rfl hvX8_bestQuestion ⟨Nat.le_of_ble_eq_true rfl, Nat.le_of_ble_eq_true rfl⟩) 0 rfl rfl rfl rfl hl.1 rfl (Nat.le_of_ble_eq_true rfl) dX8_mussel_187 ⟨Nat.zero_le _, Nat.zero_le _⟩ (fun r9 u9 H ll hw h => ?_)
        obtain ⟨hw, g5_c1, L5_c1, g0_5_c1, rfl⟩ := hw
        have hw : r9 = bI (akX (σ 3) (lm 3) n kd sn m 3).1 := hw
        subst hw
        have h : gW D ct zA zs _ _ (wX ad ct (va_up (va_up σ 0 (va_up (σ 0) 5 g0_5_c1)) 5 g5_c1) (va_up lm 5 L5_c1) τ) := h
        have h : gW D ct zA zs _ _ ((fun u : (Nat → Nat → Nat → Int32) × (Nat → Nat → Nat → Int32) × (Nat → Int64) => wX ad ct u.1 u.2.1 u.2.2) ((va_up (va_up σ 5 g5_c1) 0 (va_up (σ 0) 5 g0_5_c1), va_up lm 5 L5_c1, τ))) := h
        exact hret _ ((va_up (va_up σ 5 g5_c1) 0 (va_up (σ 0) 5 g0_5_c1), va_up lm 5 L5_c1, τ)) _ _ _ _ h ⟨(by first | (exfalso; omega) | (unfold mnX; rw [hk_69]; rfl)), g5_c1, L5_c1, g0_5_c1, rfl⟩ dX8_mussel_190
    · refine lv_iload_n hx hb dX8_mussel_52 rfl (lv_at hl 2 rfl) ?_
      refine lv_bipush (v := 23) hx hb dX8_mussel_53 (by decide) ?_
      refine nb_ge hx hb x 23 (by omega) (by omega) (tgt := 68) dX8_mussel_55 (by decide) (fun c_55 => ?_) (fun c_55 => ?_)
      · refine lv_iload_n hx hb dX8_mussel_68 rfl (lv_at hl 2 rfl) ?_
        rcases (show x = 0 ∨ x = 1 ∨ x = 2 ∨ x = 3 ∨ x = 4 ∨ x = 5 ∨ x = 6 ∨ x = 7 by omega) with hk_69 | hk_69 | hk_69 | hk_69 | hk_69 | hk_69 | hk_69 | hk_69
        · refine gas (show nI x = nI 0 by rw [hk_69]) ?_
          refine lv_tableIn (tgt := 116) (off := 47) hx hb dX8_mussel_69 (by decide) (by decide) (by decide) (by decide) ?_
          refine lv_aload_n hx hb dX8_mussel_116 rfl (lv_at hl 0 rfl) ?_
          refine gget C h igX8 0 rfl rfl 1 (by decide) q202 rfl rfl dX8_mussel_117 ?_
          refine lv_iload_n hx hb dX8_mussel_120 rfl (lv_at hl 1 rfl) ?_
          refine gFq C h trivial gNo_ok (kX5_kindOf l D ct (ad 2) (σ 2) n kd hok m (by omega)) (cwV 1 C.2.2.2.2 (gInV q441 q397 q398 q59 q399) rfl rfl rfl hvX5_kindOf ⟨Nat.le_of_ble_eq_true rfl, Nat.le_of_ble_eq_true rfl⟩) 3 rfl rfl rfl (fr_X_R ad ct _ _ _) rfl hl.1 rfl (Nat.le_of_ble_eq_true rfl) dX8_mussel_121 ⟨Nat.zero_le _, Nat.zero_le _⟩ (fun H ll h => ?_)
          have h : gW D ct zA zs _ _ (wX ad ct σ lm τ) := h
          rcases (show kd m = 0 ∨ kd m = 1 ∨ kd m = 2 ∨ kd m = 3 ∨ kd m = 4 by have := hung_lt hok (m := m) (by omega); omega) with hk_124 | hk_124 | hk_124 | hk_124 | hk_124
          · refine gasr (z := ad 2 3) (by rw [hk_124]) ?_
            refine gFi C h trivial gNo_ok (kX3_number l D ct (ad 2 3) ) (cwV 0 C.2.2.2.2 (gInV q442 q443 q444 q60 q458) rfl rfl rfl hvX3_number ⟨Nat.le_of_ble_eq_true rfl, Nat.le_of_ble_eq_true rfl⟩) 6 rfl rfl rfl (fr_X_K0 ad ct _ _ _) rfl hl.1 rfl (Nat.le_of_ble_eq_true rfl) dX8_mussel_124 ⟨Nat.zero_le _, Nat.zero_le _⟩ (fun r9 u9 H ll hw h => ?_)
            subst hw
            have h : gW D ct zA zs _ _ (wX ad ct σ lm τ) := h
            have h : gW D ct zA zs _ _ ((fun u : (Nat → Nat → Nat → Int32) × (Nat → Nat → Nat → Int32) × (Nat → Int64) => wX ad ct u.1 u.2.1 u.2.2) ((va_up (va_up σ 5 (σ 5)) 0 (va_up (σ 0) 5 (σ 0 5)), va_up lm 5 (lm 5), τ))) := h
            exact hret _ ((va_up (va_up σ 5 (σ 5)) 0 (va_up (σ 0) 5 (σ 0 5)), va_up lm 5 (lm 5), τ)) _ _ _ _ h ⟨(by first | (exfalso; omega) | (unfold mnX; rw [hk_69]; show _ = nI (kd m); rw [hk_124]; rfl)), (σ 5), (lm 5), (σ 0 5), rfl⟩ dX8_mussel_127
          · refine gasr (z := ad 2 4) (by rw [hk_124]) ?_
            refine gUi C h (kX1_number l D ct (ad 2 4) ) (va_cwO 0 C.2.2.2.2 (gInO q442 q445 q443 q449 q450 q61 q451) rfl rfl rfl (gWs_in q458) hdX3_number ⟨Nat.le_of_ble_eq_true rfl, Nat.le_of_ble_eq_true rfl⟩) 7 rfl rfl rfl (fr_X_K1 ad ct _ _ _) rfl hl.1 rfl (Nat.le_of_ble_eq_true rfl) dX8_mussel_124 ⟨Nat.zero_le _, Nat.zero_le _⟩ (fun H ll h => ?_)
            have h : gW D ct zA zs _ _ (wX ad ct σ lm τ) := h
            have h : gW D ct zA zs _ _ ((fun u : (Nat → Nat → Nat → Int32) × (Nat → Nat → Nat → Int32) × (Nat → Int64) => wX ad ct u.1 u.2.1 u.2.2) ((va_up (va_up σ 5 (σ 5)) 0 (va_up (σ 0) 5 (σ 0 5)), va_up lm 5 (lm 5), τ))) := h
            exact hret _ ((va_up (va_up σ 5 (σ 5)) 0 (va_up (σ 0) 5 (σ 0 5)), va_up lm 5 (lm 5), τ)) _ _ _ _ h ⟨(by first | (exfalso; omega) | (unfold mnX; rw [hk_69]; show _ = nI (kd m); rw [hk_124]; rfl)), (σ 5), (lm 5), (σ 0 5), rfl⟩ dX8_mussel_127
          · refine gasr (z := ad 2 5) (by rw [hk_124]) ?_
            refine gUi C h (kX0_number l D ct (ad 2 5) ) (va_cwO 0 C.2.2.2.2 (gInO q442 q445 q443 q446 q447 q62 q448) rfl rfl rfl (gWs_in q458) hdX3_number ⟨Nat.le_of_ble_eq_true rfl, Nat.le_of_ble_eq_true rfl⟩) 8 rfl rfl rfl (fr_X_K2 ad ct _ _ _) rfl hl.1 rfl (Nat.le_of_ble_eq_true rfl) dX8_mussel_124 ⟨Nat.zero_le _, Nat.zero_le _⟩ (fun H ll h => ?_)
            have h : gW D ct zA zs _ _ (wX ad ct σ lm τ) := h
            have h : gW D ct zA zs _ _ ((fun u : (Nat → Nat → Nat → Int32) × (Nat → Nat → Nat → Int32) × (Nat → Int64) => wX ad ct u.1 u.2.1 u.2.2) ((va_up (va_up σ 5 (σ 5)) 0 (va_up (σ 0) 5 (σ 0 5)), va_up lm 5 (lm 5), τ))) := h
            exact hret _ ((va_up (va_up σ 5 (σ 5)) 0 (va_up (σ 0) 5 (σ 0 5)), va_up lm 5 (lm 5), τ)) _ _ _ _ h ⟨(by first | (exfalso; omega) | (unfold mnX; rw [hk_69]; show _ = nI (kd m); rw [hk_124]; rfl)), (σ 5), (lm 5), (σ 0 5), rfl⟩ dX8_mussel_127
          · refine gasr (z := ad 2 6) (by rw [hk_124]) ?_
            refine gUi C h (kX2_number l D ct (ad 2 6) ) (va_cwO 0 C.2.2.2.2 (gInO q442 q445 q443 q452 q453 q63 q454) rfl rfl rfl (gWs_in q458) hdX3_number ⟨Nat.le_of_ble_eq_true rfl, Nat.le_of_ble_eq_true rfl⟩) 9 rfl rfl rfl (fr_X_K3 ad ct _ _ _) rfl hl.1 rfl (Nat.le_of_ble_eq_true rfl) dX8_mussel_124 ⟨Nat.zero_le _, Nat.zero_le _⟩ (fun H ll h => ?_)
            have h : gW D ct zA zs _ _ (wX ad ct σ lm τ) := h
            have h : gW D ct zA zs _ _ ((fun u : (Nat → Nat → Nat → Int32) × (Nat → Nat → Nat → Int32) × (Nat → Int64) => wX ad ct u.1 u.2.1 u.2.2) ((va_up (va_up σ 5 (σ 5)) 0 (va_up (σ 0) 5 (σ 0 5)), va_up lm 5 (lm 5), τ))) := h
            exact hret _ ((va_up (va_up σ 5 (σ 5)) 0 (va_up (σ 0) 5 (σ 0 5)), va_up lm 5 (lm 5), τ)) _ _ _ _ h ⟨(by first | (exfalso; omega) | (unfold mnX; rw [hk_69]; show _ = nI (kd m); rw [hk_124]; rfl)), (σ 5), (lm 5), (σ 0 5), rfl⟩ dX8_mussel_127
          · refine gasr (z := ad 2 7) (by rw [hk_124]) ?_
            refine gUi C h (kX7_number l D ct (ad 2 7) ) (va_cwO 0 C.2.2.2.2 (gInO q442 q445 q443 q455 q456 q64 q457) rfl rfl rfl (gWs_in q458) hdX3_number ⟨Nat.le_of_ble_eq_true rfl, Nat.le_of_ble_eq_true rfl⟩) 10 rfl rfl rfl (fr_X_K4 ad ct _ _ _) rfl hl.1 rfl (Nat.le_of_ble_eq_true rfl) dX8_mussel_124 ⟨Nat.zero_le _, Nat.zero_le _⟩ (fun H ll h => ?_)
            have h : gW D ct zA zs _ _ (wX ad ct σ lm τ) := h
            have h : gW D ct zA zs _ _ ((fun u : (Nat → Nat → Nat → Int32) × (Nat → Nat → Nat → Int32) × (Nat → Int64) => wX ad ct u.1 u.2.1 u.2.2) ((va_up (va_up σ 5 (σ 5)) 0 (va_up (σ 0) 5 (σ 0 5)), va_up lm 5 (lm 5), τ))) := h
            exact hret _ ((va_up (va_up σ 5 (σ 5)) 0 (va_up (σ 0) 5 (σ 0 5)), va_up lm 5 (lm 5), τ)) _ _ _ _ h ⟨(by first | (exfalso; omega) | (unfold mnX; rw [hk_69]; show _ = nI (kd m); rw [hk_124]; rfl)), (σ 5), (lm 5), (σ 0 5), rfl⟩ dX8_mussel_127
        · refine gas (show nI x = nI 1 by rw [hk_69]) ?_
          refine lv_tableIn (tgt := 128) (off := 59) hx hb dX8_mussel_69 (by decide) (by decide) (by decide) (by decide) ?_
          refine lv_aload_n hx hb dX8_mussel_128 rfl (lv_at hl 0 rfl) ?_
          refine gget C h igX8 0 rfl rfl 2 (by decide) q203 rfl rfl dX8_mussel_129 ?_
          refine gget C h igX6 11 rfl rfl 0 (by decide) q161 rfl rfl dX8_mussel_132 ?_
          refine lv_iload_n hx hb dX8_mussel_135 rfl (lv_at hl 1 rfl) ?_
          refine gild C h 12 rfl (j := m) (by omega) (by decide) dX8_mussel_136 ?_
          refine gas (z := σ 3 1 m) rfl ?_
          have h : gW D ct zA zs _ _ ((fun u : (Nat → Nat → Nat → Int32) × (Nat → Nat → Nat → Int32) × (Nat → Int64) => wX ad ct u.1 u.2.1 u.2.2) ((va_up (va_up σ 5 (σ 5)) 0 (va_up (σ 0) 5 (σ 0 5)), va_up lm 5 (lm 5), τ))) := h
          exact hret _ ((va_up (va_up σ 5 (σ 5)) 0 (va_up (σ 0) 5 (σ 0 5)), va_up lm 5 (lm 5), τ)) _ _ _ _ h ⟨(by first | (exfalso; omega) | (unfold mnX; rw [hk_69]; rfl)), (σ 5), (lm 5), (σ 0 5), rfl⟩ dX8_mussel_137
        · refine gas (show nI x = nI 2 by rw [hk_69]) ?_
          refine lv_tableIn (tgt := 138) (off := 69) hx hb dX8_mussel_69 (by decide) (by decide) (by decide) (by decide) ?_
          refine lv_aload_n hx hb dX8_mussel_138 rfl (lv_at hl 0 rfl) ?_
          refine gget C h igX8 0 rfl rfl 2 (by decide) q203 rfl rfl dX8_mussel_139 ?_
          refine gget C h igX6 11 rfl rfl 1 (by decide) q164 rfl rfl dX8_mussel_142 ?_
          refine lv_iload_n hx hb dX8_mussel_145 rfl (lv_at hl 2 rfl) ?_
          refine lv_iconst (v := 2) hx hb dX8_mussel_146 (by decide) ?_
          refine nsub hx hb x 2 (by omega) dX8_mussel_147 ?_
          refine gald C h 13 4 rfl rfl rfl (j := x - 2) (b := ad 3 (3 + (x - 2))) (by omega) (by decide) (if_pos (by omega)) dX8_mussel_148 ?_
          refine lv_iload_n hx hb dX8_mussel_149 rfl (lv_at hl 1 rfl) ?_
          refine gild C h (14 + (x - 2)) (wX_row3 ad ct _ _ _ (by omega)) (j := m) (by omega) (by decide) dX8_mussel_150 ?_
          refine gas (z := lm 3 (x - 2) m) rfl ?_
          have h : gW D ct zA zs _ _ ((fun u : (Nat → Nat → Nat → Int32) × (Nat → Nat → Nat → Int32) × (Nat → Int64) => wX ad ct u.1 u.2.1 u.2.2) ((va_up (va_up σ 5 (σ 5)) 0 (va_up (σ 0) 5 (σ 0 5)), va_up lm 5 (lm 5), τ))) := h
          exact hret _ ((va_up (va_up σ 5 (σ 5)) 0 (va_up (σ 0) 5 (σ 0 5)), va_up lm 5 (lm 5), τ)) _ _ _ _ h ⟨(by first | (exfalso; omega) | (unfold mnX; rw [if_neg (by omega), if_neg (by omega), if_neg (by omega), if_neg (by omega), if_pos (by omega)])), (σ 5), (lm 5), (σ 0 5), rfl⟩ dX8_mussel_151
        · refine gas (show nI x = nI 3 by rw [hk_69]) ?_
          refine lv_tableIn (tgt := 138) (off := 69) hx hb dX8_mussel_69 (by decide) (by decide) (by decide) (by decide) ?_
          refine lv_aload_n hx hb dX8_mussel_138 rfl (lv_at hl 0 rfl) ?_
          refine gget C h igX8 0 rfl rfl 2 (by decide) q203 rfl rfl dX8_mussel_139 ?_
          refine gget C h igX6 11 rfl rfl 1 (by decide) q164 rfl rfl dX8_mussel_142 ?_
          refine lv_iload_n hx hb dX8_mussel_145 rfl (lv_at hl 2 rfl) ?_
          refine lv_iconst (v := 2) hx hb dX8_mussel_146 (by decide) ?_
          refine nsub hx hb x 2 (by omega) dX8_mussel_147 ?_
          refine gald C h 13 4 rfl rfl rfl (j := x - 2) (b := ad 3 (3 + (x - 2))) (by omega) (by decide) (if_pos (by omega)) dX8_mussel_148 ?_
          refine lv_iload_n hx hb dX8_mussel_149 rfl (lv_at hl 1 rfl) ?_
          refine gild C h (14 + (x - 2)) (wX_row3 ad ct _ _ _ (by omega)) (j := m) (by omega) (by decide) dX8_mussel_150 ?_
          refine gas (z := lm 3 (x - 2) m) rfl ?_
          have h : gW D ct zA zs _ _ ((fun u : (Nat → Nat → Nat → Int32) × (Nat → Nat → Nat → Int32) × (Nat → Int64) => wX ad ct u.1 u.2.1 u.2.2) ((va_up (va_up σ 5 (σ 5)) 0 (va_up (σ 0) 5 (σ 0 5)), va_up lm 5 (lm 5), τ))) := h
          exact hret _ ((va_up (va_up σ 5 (σ 5)) 0 (va_up (σ 0) 5 (σ 0 5)), va_up lm 5 (lm 5), τ)) _ _ _ _ h ⟨(by first | (exfalso; omega) | (unfold mnX; rw [if_neg (by omega), if_neg (by omega), if_neg (by omega), if_neg (by omega), if_pos (by omega)])), (σ 5), (lm 5), (σ 0 5), rfl⟩ dX8_mussel_151
        · refine gas (show nI x = nI 4 by rw [hk_69]) ?_
          refine lv_tableIn (tgt := 138) (off := 69) hx hb dX8_mussel_69 (by decide) (by decide) (by decide) (by decide) ?_
          refine lv_aload_n hx hb dX8_mussel_138 rfl (lv_at hl 0 rfl) ?_
          refine gget C h igX8 0 rfl rfl 2 (by decide) q203 rfl rfl dX8_mussel_139 ?_
          refine gget C h igX6 11 rfl rfl 1 (by decide) q164 rfl rfl dX8_mussel_142 ?_
          refine lv_iload_n hx hb dX8_mussel_145 rfl (lv_at hl 2 rfl) ?_
          refine lv_iconst (v := 2) hx hb dX8_mussel_146 (by decide) ?_
          refine nsub hx hb x 2 (by omega) dX8_mussel_147 ?_
          refine gald C h 13 4 rfl rfl rfl (j := x - 2) (b := ad 3 (3 + (x - 2))) (by omega) (by decide) (if_pos (by omega)) dX8_mussel_148 ?_
          refine lv_iload_n hx hb dX8_mussel_149 rfl (lv_at hl 1 rfl) ?_
          refine gild C h (14 + (x - 2)) (wX_row3 ad ct _ _ _ (by omega)) (j := m) (by omega) (by decide) dX8_mussel_150 ?_
          refine gas (z := lm 3 (x - 2) m) rfl ?_
          have h : gW D ct zA zs _ _ ((fun u : (Nat → Nat → Nat → Int32) × (Nat → Nat → Nat → Int32) × (Nat → Int64) => wX ad ct u.1 u.2.1 u.2.2) ((va_up (va_up σ 5 (σ 5)) 0 (va_up (σ 0) 5 (σ 0 5)), va_up lm 5 (lm 5), τ))) := h
          exact hret _ ((va_up (va_up σ 5 (σ 5)) 0 (va_up (σ 0) 5 (σ 0 5)), va_up lm 5 (lm 5), τ)) _ _ _ _ h ⟨(by first | (exfalso; omega) | (unfold mnX; rw [if_neg (by omega), if_neg (by omega), if_neg (by omega), if_neg (by omega), if_pos (by omega)])), (σ 5), (lm 5), (σ 0 5), rfl⟩ dX8_mussel_151
        · refine gas (show nI x = nI 5 by rw [hk_69]) ?_
          refine lv_tableIn (tgt := 152) (off := 83) hx hb dX8_mussel_69 (by decide) (by decide) (by decide) (by decide) ?_
          refine lv_iload_n hx hb dX8_mussel_152 rfl (lv_at hl 1 rfl) ?_
          refine lv_aload_n hx hb dX8_mussel_153 rfl (lv_at hl 0 rfl) ?_
          refine gget C h igX8 0 rfl rfl 1 (by decide) q202 rfl rfl dX8_mussel_154 ?_
          refine lv_aload_n hx hb dX8_mussel_157 rfl (lv_at hl 0 rfl) ?_
          refine gget C h igX8 0 rfl rfl 2 (by decide) q203 rfl rfl dX8_mussel_158 ?_
          refine gFi C h trivial gNo_ok (kX5_feltIn l D ct (ad 2) (ad 3) (σ 2) (σ 3) (lm 3) n kd hok) (cwV 1 C.2.2.2.2 (gInV q459 q433 q434 q59 q435) rfl rfl rfl hvX5_feltIn ⟨Nat.le_of_ble_eq_true rfl, Nat.le_of_ble_eq_true rfl⟩) 3 rfl rfl rfl (fr_X_RS3 ad ct _ _ _) rfl hl.1 rfl (Nat.le_of_ble_eq_true rfl) dX8_mussel_161 ⟨Nat.zero_le _, Nat.zero_le _⟩ (fun r9 u9 H ll hw h => ?_)
          have hw : r9 = nI (ffe (cuX (σ 3)) n 0) := hw
          subst hw
          have h : gW D ct zA zs _ _ (wX ad ct σ lm τ) := h
          have hfe := ffe_le (cuX (σ 3)) n 0
          refine nb_ge hx hb m (ffe (cuX (σ 3)) n 0) (by omega) (by omega) (tgt := 171) dX8_mussel_164 (by decide) (fun c_164 => ?_) (fun c_164 => ?_)
          · refine lv_iconst (v := 0) hx hb dX8_mussel_171 (by decide) ?_
            have h : gW D ct zA zs _ _ ((fun u : (Nat → Nat → Nat → Int32) × (Nat → Nat → Nat → Int32) × (Nat → Int64) => wX ad ct u.1 u.2.1 u.2.2) ((va_up (va_up σ 5 (σ 5)) 0 (va_up (σ 0) 5 (σ 0 5)), va_up lm 5 (lm 5), τ))) := h
            exact hret _ ((va_up (va_up σ 5 (σ 5)) 0 (va_up (σ 0) 5 (σ 0 5)), va_up lm 5 (lm 5), τ)) _ _ _ _ h ⟨(by first | (exfalso; omega) | (unfold mnX; rw [hk_69]; show _ = (if m < ffe (cuX (σ 3)) n 0 then 1 else 0); first | rw [if_neg (by omega)] | rw [if_pos (by omega)])), (σ 5), (lm 5), (σ 0 5), rfl⟩ dX8_mussel_172
          · refine lv_iconst (v := 1) hx hb dX8_mussel_167 (by decide) ?_
            refine lv_goto (tgt := 172) hx hb dX8_mussel_168 (by decide) ?_
            have h : gW D ct zA zs _ _ ((fun u : (Nat → Nat → Nat → Int32) × (Nat → Nat → Nat → Int32) × (Nat → Int64) => wX ad ct u.1 u.2.1 u.2.2) ((va_up (va_up σ 5 (σ 5)) 0 (va_up (σ 0) 5 (σ 0 5)), va_up lm 5 (lm 5), τ))) := h
            exact hret _ ((va_up (va_up σ 5 (σ 5)) 0 (va_up (σ 0) 5 (σ 0 5)), va_up lm 5 (lm 5), τ)) _ _ _ _ h ⟨(by first | (exfalso; omega) | (unfold mnX; rw [hk_69]; show _ = (if m < ffe (cuX (σ 3)) n 0 then 1 else 0); first | rw [if_neg (by omega)] | rw [if_pos (by omega)])), (σ 5), (lm 5), (σ 0 5), rfl⟩ dX8_mussel_172
        · refine gas (show nI x = nI 6 by rw [hk_69]) ?_
          refine lv_tableIn (tgt := 173) (off := 104) hx hb dX8_mussel_69 (by decide) (by decide) (by decide) (by decide) ?_
          refine lv_iconst (v := 1) hx hb dX8_mussel_173 (by decide) ?_
          refine lv_aload_n hx hb dX8_mussel_174 rfl (lv_at hl 0 rfl) ?_
          refine gget C h igX8 0 rfl rfl 2 (by decide) q203 rfl rfl dX8_mussel_175 ?_
          refine gget C h igX6 11 rfl rfl 2 (by decide) q168 rfl rfl dX8_mussel_178 ?_
          refine lv_iload_n hx hb dX8_mussel_181 rfl (lv_at hl 1 rfl) ?_
          refine gild C h 17 rfl (j := m) (by omega) (by decide) dX8_mussel_182 ?_
          refine gas (z := σ 3 6 m) rfl ?_
          refine lv_isub hx hb dX8_mussel_183 ?_
          have h : gW D ct zA zs _ _ ((fun u : (Nat → Nat → Nat → Int32) × (Nat → Nat → Nat → Int32) × (Nat → Int64) => wX ad ct u.1 u.2.1 u.2.2) ((va_up (va_up σ 5 (σ 5)) 0 (va_up (σ 0) 5 (σ 0 5)), va_up lm 5 (lm 5), τ))) := h
          exact hret _ ((va_up (va_up σ 5 (σ 5)) 0 (va_up (σ 0) 5 (σ 0 5)), va_up lm 5 (lm 5), τ)) _ _ _ _ h ⟨(by first | (exfalso; omega) | (unfold mnX; rw [hk_69]; rfl)), (σ 5), (lm 5), (σ 0 5), rfl⟩ dX8_mussel_184
        · refine gas (show nI x = nI 7 by rw [hk_69]) ?_
          refine lv_tableIn (tgt := 185) (off := 116) hx hb dX8_mussel_69 (by decide) (by decide) (by decide) (by decide) ?_
          refine lv_aload_n hx hb dX8_mussel_185 rfl (lv_at hl 0 rfl) ?_
          refine lv_iload_n hx hb dX8_mussel_186 rfl (lv_at hl 1 rfl) ?_
          refine gcallVi C h trivial gNo_ok (kX8_bestQuestion l D ct ad σ lm τ n kd hok sn hsn hsn6 m (by omega)) (cwV 1 C.2.2.2.2 (gInV q460 q462 q4 q57 q463) rfl rfl rfl hvX8_bestQuestion ⟨Nat.le_of_ble_eq_true rfl, Nat.le_of_ble_eq_true rfl⟩) 0 rfl rfl rfl rfl hl.1 rfl (Nat.le_of_ble_eq_true rfl) dX8_mussel_187 ⟨Nat.zero_le _, Nat.zero_le _⟩ (fun r9 u9 H ll hw h => ?_)
          obtain ⟨hw, g5_c2, L5_c2, g0_5_c2, rfl⟩ := hw
          have hw : r9 = bI (akX (σ 3) (lm 3) n kd sn m 3).1 := hw
          subst hw
          have h : gW D ct zA zs _ _ (wX ad ct (va_up (va_up σ 0 (va_up (σ 0) 5 g0_5_c2)) 5 g5_c2) (va_up lm 5 L5_c2) τ) := h
          have h : gW D ct zA zs _ _ ((fun u : (Nat → Nat → Nat → Int32) × (Nat → Nat → Nat → Int32) × (Nat → Int64) => wX ad ct u.1 u.2.1 u.2.2) ((va_up (va_up σ 5 g5_c2) 0 (va_up (σ 0) 5 g0_5_c2), va_up lm 5 L5_c2, τ))) := h
          exact hret _ ((va_up (va_up σ 5 g5_c2) 0 (va_up (σ 0) 5 g0_5_c2), va_up lm 5 L5_c2, τ)) _ _ _ _ h ⟨(by first | (exfalso; omega) | (unfold mnX; rw [hk_69]; rfl)), g5_c2, L5_c2, g0_5_c2, rfl⟩ dX8_mussel_190
      · refine lv_aload_n hx hb dX8_mussel_58 rfl (lv_at hl 0 rfl) ?_
        refine lv_iload_n hx hb dX8_mussel_59 rfl (lv_at hl 1 rfl) ?_
        refine lv_iload_n hx hb dX8_mussel_60 rfl (lv_at hl 2 rfl) ?_
        refine lv_bipush (v := 20) hx hb dX8_mussel_61 (by decide) ?_
        refine nsub hx hb x 20 (by omega) dX8_mussel_63 ?_
        refine gcallVi C h trivial gNo_ok (kX8_leansLeft l D ct ad σ lm τ n kd hok sn hsn hsn6 m (x - 20) (by omega) (by omega)) (cwV 2 C.2.2.2.2 (gInV q417 q419 q3 q57 q420) rfl rfl rfl hvX8_leansLeft ⟨Nat.le_of_ble_eq_true rfl, Nat.le_of_ble_eq_true rfl⟩) 0 rfl rfl rfl rfl hl.1 rfl (Nat.le_of_ble_eq_true rfl) dX8_mussel_64 ⟨Nat.zero_le _, Nat.zero_le _⟩ (fun r9 u9 H ll hw h => ?_)
        obtain ⟨hw, L5_c3, g0_5_c3, hp0_c3, rfl⟩ := hw
        have hw : r9 = nI (lvX (σ 3) (lm 3) n kd sn m (x - 20) 3) := hw
        subst hw
        have hp0_c3 : ∀ j, j < 3 → g0_5_c3 j = slX (σ 3) (lm 3) n kd m (x - 20) j := hp0_c3
        have h : gW D ct zA zs _ _ (wX ad ct (va_up (va_up σ 0 (va_up (σ 0) 5 g0_5_c3)) 5 (σ 3)) (va_up lm 5 L5_c3) τ) := h
        have h : gW D ct zA zs _ _ ((fun u : (Nat → Nat → Nat → Int32) × (Nat → Nat → Nat → Int32) × (Nat → Int64) => wX ad ct u.1 u.2.1 u.2.2) ((va_up (va_up σ 5 (σ 3)) 0 (va_up (σ 0) 5 g0_5_c3), va_up lm 5 L5_c3, τ))) := h
        exact hret _ ((va_up (va_up σ 5 (σ 3)) 0 (va_up (σ 0) 5 g0_5_c3), va_up lm 5 L5_c3, τ)) _ _ _ _ h ⟨(by first | (exfalso; omega) | (unfold mnX; first | (rw [if_neg (by omega), if_pos (by omega)]) | (rw [if_pos (by omega)]))), (σ 3), L5_c3, g0_5_c3, rfl⟩ dX8_mussel_67
  · refine lv_iload_n hx hb dX8_mussel_20 rfl (lv_at hl 2 rfl) ?_
    refine lv_bipush (v := 13) hx hb dX8_mussel_21 (by decide) ?_
    refine nb_ge hx hb x 13 (by omega) (by omega) (tgt := 46) dX8_mussel_23 (by decide) (fun c_23 => ?_) (fun c_23 => ?_)
    · refine lv_iload_n hx hb dX8_mussel_46 rfl (lv_at hl 2 rfl) ?_
      refine lv_bipush (v := 20) hx hb dX8_mussel_47 (by decide) ?_
      refine nb_lt hx hb x 20 (by omega) (by omega) (tgt := 68) dX8_mussel_49 (by decide) (fun c_49 => ?_) (fun c_49 => ?_)
      · refine lv_iload_n hx hb dX8_mussel_68 rfl (lv_at hl 2 rfl) ?_
        rcases (show x = 0 ∨ x = 1 ∨ x = 2 ∨ x = 3 ∨ x = 4 ∨ x = 5 ∨ x = 6 ∨ x = 7 by omega) with hk_69 | hk_69 | hk_69 | hk_69 | hk_69 | hk_69 | hk_69 | hk_69
        · refine gas (show nI x = nI 0 by rw [hk_69]) ?_
          refine lv_tableIn (tgt := 116) (off := 47) hx hb dX8_mussel_69 (by decide) (by decide) (by decide) (by decide) ?_
          refine lv_aload_n hx hb dX8_mussel_116 rfl (lv_at hl 0 rfl) ?_
          refine gget C h igX8 0 rfl rfl 1 (by decide) q202 rfl rfl dX8_mussel_117 ?_
          refine lv_iload_n hx hb dX8_mussel_120 rfl (lv_at hl 1 rfl) ?_
          refine gFq C h trivial gNo_ok (kX5_kindOf l D ct (ad 2) (σ 2) n kd hok m (by omega)) (cwV 1 C.2.2.2.2 (gInV q441 q397 q398 q59 q399) rfl rfl rfl hvX5_kindOf ⟨Nat.le_of_ble_eq_true rfl, Nat.le_of_ble_eq_true rfl⟩) 3 rfl rfl rfl (fr_X_R ad ct _ _ _) rfl hl.1 rfl (Nat.le_of_ble_eq_true rfl) dX8_mussel_121 ⟨Nat.zero_le _, Nat.zero_le _⟩ (fun H ll h => ?_)
          have h : gW D ct zA zs _ _ (wX ad ct σ lm τ) := h
          rcases (show kd m = 0 ∨ kd m = 1 ∨ kd m = 2 ∨ kd m = 3 ∨ kd m = 4 by have := hung_lt hok (m := m) (by omega); omega) with hk_124 | hk_124 | hk_124 | hk_124 | hk_124
          · refine gasr (z := ad 2 3) (by rw [hk_124]) ?_
            refine gFi C h trivial gNo_ok (kX3_number l D ct (ad 2 3) ) (cwV 0 C.2.2.2.2 (gInV q442 q443 q444 q60 q458) rfl rfl rfl hvX3_number ⟨Nat.le_of_ble_eq_true rfl, Nat.le_of_ble_eq_true rfl⟩) 6 rfl rfl rfl (fr_X_K0 ad ct _ _ _) rfl hl.1 rfl (Nat.le_of_ble_eq_true rfl) dX8_mussel_124 ⟨Nat.zero_le _, Nat.zero_le _⟩ (fun r9 u9 H ll hw h => ?_)
            subst hw
            have h : gW D ct zA zs _ _ (wX ad ct σ lm τ) := h
            have h : gW D ct zA zs _ _ ((fun u : (Nat → Nat → Nat → Int32) × (Nat → Nat → Nat → Int32) × (Nat → Int64) => wX ad ct u.1 u.2.1 u.2.2) ((va_up (va_up σ 5 (σ 5)) 0 (va_up (σ 0) 5 (σ 0 5)), va_up lm 5 (lm 5), τ))) := h
            exact hret _ ((va_up (va_up σ 5 (σ 5)) 0 (va_up (σ 0) 5 (σ 0 5)), va_up lm 5 (lm 5), τ)) _ _ _ _ h ⟨(by first | (exfalso; omega) | (unfold mnX; rw [hk_69]; show _ = nI (kd m); rw [hk_124]; rfl)), (σ 5), (lm 5), (σ 0 5), rfl⟩ dX8_mussel_127
          · refine gasr (z := ad 2 4) (by rw [hk_124]) ?_
            refine gUi C h (kX1_number l D ct (ad 2 4) ) (va_cwO 0 C.2.2.2.2 (gInO q442 q445 q443 q449 q450 q61 q451) rfl rfl rfl (gWs_in q458) hdX3_number ⟨Nat.le_of_ble_eq_true rfl, Nat.le_of_ble_eq_true rfl⟩) 7 rfl rfl rfl (fr_X_K1 ad ct _ _ _) rfl hl.1 rfl (Nat.le_of_ble_eq_true rfl) dX8_mussel_124 ⟨Nat.zero_le _, Nat.zero_le _⟩ (fun H ll h => ?_)
            have h : gW D ct zA zs _ _ (wX ad ct σ lm τ) := h
            have h : gW D ct zA zs _ _ ((fun u : (Nat → Nat → Nat → Int32) × (Nat → Nat → Nat → Int32) × (Nat → Int64) => wX ad ct u.1 u.2.1 u.2.2) ((va_up (va_up σ 5 (σ 5)) 0 (va_up (σ 0) 5 (σ 0 5)), va_up lm 5 (lm 5), τ))) := h
            exact hret _ ((va_up (va_up σ 5 (σ 5)) 0 (va_up (σ 0) 5 (σ 0 5)), va_up lm 5 (lm 5), τ)) _ _ _ _ h ⟨(by first | (exfalso; omega) | (unfold mnX; rw [hk_69]; show _ = nI (kd m); rw [hk_124]; rfl)), (σ 5), (lm 5), (σ 0 5), rfl⟩ dX8_mussel_127
          · refine gasr (z := ad 2 5) (by rw [hk_124]) ?_
            refine gUi C h (kX0_number l D ct (ad 2 5) ) (va_cwO 0 C.2.2.2.2 (gInO q442 q445 q443 q446 q447 q62 q448) rfl rfl rfl (gWs_in q458) hdX3_number ⟨Nat.le_of_ble_eq_true rfl, Nat.le_of_ble_eq_true rfl⟩) 8 rfl rfl rfl (fr_X_K2 ad ct _ _ _) rfl hl.1 rfl (Nat.le_of_ble_eq_true rfl) dX8_mussel_124 ⟨Nat.zero_le _, Nat.zero_le _⟩ (fun H ll h => ?_)
            have h : gW D ct zA zs _ _ (wX ad ct σ lm τ) := h
            have h : gW D ct zA zs _ _ ((fun u : (Nat → Nat → Nat → Int32) × (Nat → Nat → Nat → Int32) × (Nat → Int64) => wX ad ct u.1 u.2.1 u.2.2) ((va_up (va_up σ 5 (σ 5)) 0 (va_up (σ 0) 5 (σ 0 5)), va_up lm 5 (lm 5), τ))) := h
            exact hret _ ((va_up (va_up σ 5 (σ 5)) 0 (va_up (σ 0) 5 (σ 0 5)), va_up lm 5 (lm 5), τ)) _ _ _ _ h ⟨(by first | (exfalso; omega) | (unfold mnX; rw [hk_69]; show _ = nI (kd m); rw [hk_124]; rfl)), (σ 5), (lm 5), (σ 0 5), rfl⟩ dX8_mussel_127
          · refine gasr (z := ad 2 6) (by rw [hk_124]) ?_
            refine gUi C h (kX2_number l D ct (ad 2 6) ) (va_cwO 0 C.2.2.2.2 (gInO q442 q445 q443 q452 q453 q63 q454) rfl rfl rfl (gWs_in q458) hdX3_number ⟨Nat.le_of_ble_eq_true rfl, Nat.le_of_ble_eq_true rfl⟩) 9 rfl rfl rfl (fr_X_K3 ad ct _ _ _) rfl hl.1 rfl (Nat.le_of_ble_eq_true rfl) dX8_mussel_124 ⟨Nat.zero_le _, Nat.zero_le _⟩ (fun H ll h => ?_)
            have h : gW D ct zA zs _ _ (wX ad ct σ lm τ) := h
            have h : gW D ct zA zs _ _ ((fun u : (Nat → Nat → Nat → Int32) × (Nat → Nat → Nat → Int32) × (Nat → Int64) => wX ad ct u.1 u.2.1 u.2.2) ((va_up (va_up σ 5 (σ 5)) 0 (va_up (σ 0) 5 (σ 0 5)), va_up lm 5 (lm 5), τ))) := h
            exact hret _ ((va_up (va_up σ 5 (σ 5)) 0 (va_up (σ 0) 5 (σ 0 5)), va_up lm 5 (lm 5), τ)) _ _ _ _ h ⟨(by first | (exfalso; omega) | (unfold mnX; rw [hk_69]; show _ = nI (kd m); rw [hk_124]; rfl)), (σ 5), (lm 5), (σ 0 5), rfl⟩ dX8_mussel_127
          · refine gasr (z := ad 2 7) (by rw [hk_124]) ?_
            refine gUi C h (kX7_number l D ct (ad 2 7) ) (va_cwO 0 C.2.2.2.2 (gInO q442 q445 q443 q455 q456 q64 q457) rfl rfl rfl (gWs_in q458) hdX3_number ⟨Nat.le_of_ble_eq_true rfl, Nat.le_of_ble_eq_true rfl⟩) 10 rfl rfl rfl (fr_X_K4 ad ct _ _ _) rfl hl.1 rfl (Nat.le_of_ble_eq_true rfl) dX8_mussel_124 ⟨Nat.zero_le _, Nat.zero_le _⟩ (fun H ll h => ?_)
            have h : gW D ct zA zs _ _ (wX ad ct σ lm τ) := h
            have h : gW D ct zA zs _ _ ((fun u : (Nat → Nat → Nat → Int32) × (Nat → Nat → Nat → Int32) × (Nat → Int64) => wX ad ct u.1 u.2.1 u.2.2) ((va_up (va_up σ 5 (σ 5)) 0 (va_up (σ 0) 5 (σ 0 5)), va_up lm 5 (lm 5), τ))) := h
            exact hret _ ((va_up (va_up σ 5 (σ 5)) 0 (va_up (σ 0) 5 (σ 0 5)), va_up lm 5 (lm 5), τ)) _ _ _ _ h ⟨(by first | (exfalso; omega) | (unfold mnX; rw [hk_69]; show _ = nI (kd m); rw [hk_124]; rfl)), (σ 5), (lm 5), (σ 0 5), rfl⟩ dX8_mussel_127
        · refine gas (show nI x = nI 1 by rw [hk_69]) ?_
          refine lv_tableIn (tgt := 128) (off := 59) hx hb dX8_mussel_69 (by decide) (by decide) (by decide) (by decide) ?_
          refine lv_aload_n hx hb dX8_mussel_128 rfl (lv_at hl 0 rfl) ?_
          refine gget C h igX8 0 rfl rfl 2 (by decide) q203 rfl rfl dX8_mussel_129 ?_
          refine gget C h igX6 11 rfl rfl 0 (by decide) q161 rfl rfl dX8_mussel_132 ?_
          refine lv_iload_n hx hb dX8_mussel_135 rfl (lv_at hl 1 rfl) ?_
          refine gild C h 12 rfl (j := m) (by omega) (by decide) dX8_mussel_136 ?_
          refine gas (z := σ 3 1 m) rfl ?_
          have h : gW D ct zA zs _ _ ((fun u : (Nat → Nat → Nat → Int32) × (Nat → Nat → Nat → Int32) × (Nat → Int64) => wX ad ct u.1 u.2.1 u.2.2) ((va_up (va_up σ 5 (σ 5)) 0 (va_up (σ 0) 5 (σ 0 5)), va_up lm 5 (lm 5), τ))) := h
          exact hret _ ((va_up (va_up σ 5 (σ 5)) 0 (va_up (σ 0) 5 (σ 0 5)), va_up lm 5 (lm 5), τ)) _ _ _ _ h ⟨(by first | (exfalso; omega) | (unfold mnX; rw [hk_69]; rfl)), (σ 5), (lm 5), (σ 0 5), rfl⟩ dX8_mussel_137
        · refine gas (show nI x = nI 2 by rw [hk_69]) ?_
          refine lv_tableIn (tgt := 138) (off := 69) hx hb dX8_mussel_69 (by decide) (by decide) (by decide) (by decide) ?_
          refine lv_aload_n hx hb dX8_mussel_138 rfl (lv_at hl 0 rfl) ?_
          refine gget C h igX8 0 rfl rfl 2 (by decide) q203 rfl rfl dX8_mussel_139 ?_
          refine gget C h igX6 11 rfl rfl 1 (by decide) q164 rfl rfl dX8_mussel_142 ?_
          refine lv_iload_n hx hb dX8_mussel_145 rfl (lv_at hl 2 rfl) ?_
          refine lv_iconst (v := 2) hx hb dX8_mussel_146 (by decide) ?_
          refine nsub hx hb x 2 (by omega) dX8_mussel_147 ?_
          refine gald C h 13 4 rfl rfl rfl (j := x - 2) (b := ad 3 (3 + (x - 2))) (by omega) (by decide) (if_pos (by omega)) dX8_mussel_148 ?_
          refine lv_iload_n hx hb dX8_mussel_149 rfl (lv_at hl 1 rfl) ?_
          refine gild C h (14 + (x - 2)) (wX_row3 ad ct _ _ _ (by omega)) (j := m) (by omega) (by decide) dX8_mussel_150 ?_
          refine gas (z := lm 3 (x - 2) m) rfl ?_
          have h : gW D ct zA zs _ _ ((fun u : (Nat → Nat → Nat → Int32) × (Nat → Nat → Nat → Int32) × (Nat → Int64) => wX ad ct u.1 u.2.1 u.2.2) ((va_up (va_up σ 5 (σ 5)) 0 (va_up (σ 0) 5 (σ 0 5)), va_up lm 5 (lm 5), τ))) := h
          exact hret _ ((va_up (va_up σ 5 (σ 5)) 0 (va_up (σ 0) 5 (σ 0 5)), va_up lm 5 (lm 5), τ)) _ _ _ _ h ⟨(by first | (exfalso; omega) | (unfold mnX; rw [if_neg (by omega), if_neg (by omega), if_neg (by omega), if_neg (by omega), if_pos (by omega)])), (σ 5), (lm 5), (σ 0 5), rfl⟩ dX8_mussel_151
        · refine gas (show nI x = nI 3 by rw [hk_69]) ?_
          refine lv_tableIn (tgt := 138) (off := 69) hx hb dX8_mussel_69 (by decide) (by decide) (by decide) (by decide) ?_
          refine lv_aload_n hx hb dX8_mussel_138 rfl (lv_at hl 0 rfl) ?_
          refine gget C h igX8 0 rfl rfl 2 (by decide) q203 rfl rfl dX8_mussel_139 ?_
          refine gget C h igX6 11 rfl rfl 1 (by decide) q164 rfl rfl dX8_mussel_142 ?_
          refine lv_iload_n hx hb dX8_mussel_145 rfl (lv_at hl 2 rfl) ?_
          refine lv_iconst (v := 2) hx hb dX8_mussel_146 (by decide) ?_
          refine nsub hx hb x 2 (by omega) dX8_mussel_147 ?_
          refine gald C h 13 4 rfl rfl rfl (j := x - 2) (b := ad 3 (3 + (x - 2))) (by omega) (by decide) (if_pos (by omega)) dX8_mussel_148 ?_
          refine lv_iload_n hx hb dX8_mussel_149 rfl (lv_at hl 1 rfl) ?_
          refine gild C h (14 + (x - 2)) (wX_row3 ad ct _ _ _ (by omega)) (j := m) (by omega) (by decide) dX8_mussel_150 ?_
          refine gas (z := lm 3 (x - 2) m) rfl ?_
          have h : gW D ct zA zs _ _ ((fun u : (Nat → Nat → Nat → Int32) × (Nat → Nat → Nat → Int32) × (Nat → Int64) => wX ad ct u.1 u.2.1 u.2.2) ((va_up (va_up σ 5 (σ 5)) 0 (va_up (σ 0) 5 (σ 0 5)), va_up lm 5 (lm 5), τ))) := h
          exact hret _ ((va_up (va_up σ 5 (σ 5)) 0 (va_up (σ 0) 5 (σ 0 5)), va_up lm 5 (lm 5), τ)) _ _ _ _ h ⟨(by first | (exfalso; omega) | (unfold mnX; rw [if_neg (by omega), if_neg (by omega), if_neg (by omega), if_neg (by omega), if_pos (by omega)])), (σ 5), (lm 5), (σ 0 5), rfl⟩ dX8_mussel_151
        · refine gas (show nI x = nI 4 by rw [hk_69]) ?_
          refine lv_tableIn (tgt := 138) (off := 69) hx hb dX8_mussel_69 (by decide) (by decide) (by decide) (by decide) ?_
          refine lv_aload_n hx hb dX8_mussel_138 rfl (lv_at hl 0 rfl) ?_
          refine gget C h igX8 0 rfl rfl 2 (by decide) q203 rfl rfl dX8_mussel_139 ?_
          refine gget C h igX6 11 rfl rfl 1 (by decide) q164 rfl rfl dX8_mussel_142 ?_
          refine lv_iload_n hx hb dX8_mussel_145 rfl (lv_at hl 2 rfl) ?_
          refine lv_iconst (v := 2) hx hb dX8_mussel_146 (by decide) ?_
          refine nsub hx hb x 2 (by omega) dX8_mussel_147 ?_
          refine gald C h 13 4 rfl rfl rfl (j := x - 2) (b := ad 3 (3 + (x - 2))) (by omega) (by decide) (if_pos (by omega)) dX8_mussel_148 ?_
          refine lv_iload_n hx hb dX8_mussel_149 rfl (lv_at hl 1 rfl) ?_
          refine gild C h (14 + (x - 2)) (wX_row3 ad ct _ _ _ (by omega)) (j := m) (by omega) (by decide) dX8_mussel_150 ?_
          refine gas (z := lm 3 (x - 2) m) rfl ?_
          have h : gW D ct zA zs _ _ ((fun u : (Nat → Nat → Nat → Int32) × (Nat → Nat → Nat → Int32) × (Nat → Int64) => wX ad ct u.1 u.2.1 u.2.2) ((va_up (va_up σ 5 (σ 5)) 0 (va_up (σ 0) 5 (σ 0 5)), va_up lm 5 (lm 5), τ))) := h
          exact hret _ ((va_up (va_up σ 5 (σ 5)) 0 (va_up (σ 0) 5 (σ 0 5)), va_up lm 5 (lm 5), τ)) _ _ _ _ h ⟨(by first | (exfalso; omega) | (unfold mnX; rw [if_neg (by omega), if_neg (by omega), if_neg (by omega), if_neg (by omega), if_pos (by omega)])), (σ 5), (lm 5), (σ 0 5), rfl⟩ dX8_mussel_151
        · refine gas (show nI x = nI 5 by rw [hk_69]) ?_
          refine lv_tableIn (tgt := 152) (off := 83) hx hb dX8_mussel_69 (by decide) (by decide) (by decide) (by decide) ?_
          refine lv_iload_n hx hb dX8_mussel_152 rfl (lv_at hl 1 rfl) ?_
          refine lv_aload_n hx hb dX8_mussel_153 rfl (lv_at hl 0 rfl) ?_
          refine gget C h igX8 0 rfl rfl 1 (by decide) q202 rfl rfl dX8_mussel_154 ?_
          refine lv_aload_n hx hb dX8_mussel_157 rfl (lv_at hl 0 rfl) ?_
          refine gget C h igX8 0 rfl rfl 2 (by decide) q203 rfl rfl dX8_mussel_158 ?_
          refine gFi C h trivial gNo_ok (kX5_feltIn l D ct (ad 2) (ad 3) (σ 2) (σ 3) (lm 3) n kd hok) (cwV 1 C.2.2.2.2 (gInV q459 q433 q434 q59 q435) rfl rfl rfl hvX5_feltIn ⟨Nat.le_of_ble_eq_true rfl, Nat.le_of_ble_eq_true rfl⟩) 3 rfl rfl rfl (fr_X_RS3 ad ct _ _ _) rfl hl.1 rfl (Nat.le_of_ble_eq_true rfl) dX8_mussel_161 ⟨Nat.zero_le _, Nat.zero_le _⟩ (fun r9 u9 H ll hw h => ?_)
          have hw : r9 = nI (ffe (cuX (σ 3)) n 0) := hw
          subst hw
          have h : gW D ct zA zs _ _ (wX ad ct σ lm τ) := h
          have hfe := ffe_le (cuX (σ 3)) n 0
          refine nb_ge hx hb m (ffe (cuX (σ 3)) n 0) (by omega) (by omega) (tgt := 171) dX8_mussel_164 (by decide) (fun c_164 => ?_) (fun c_164 => ?_)
          · refine lv_iconst (v := 0) hx hb dX8_mussel_171 (by decide) ?_
            have h : gW D ct zA zs _ _ ((fun u : (Nat → Nat → Nat → Int32) × (Nat → Nat → Nat → Int32) × (Nat → Int64) => wX ad ct u.1 u.2.1 u.2.2) ((va_up (va_up σ 5 (σ 5)) 0 (va_up (σ 0) 5 (σ 0 5)), va_up lm 5 (lm 5), τ))) := h
            exact hret _ ((va_up (va_up σ 5 (σ 5)) 0 (va_up (σ 0) 5 (σ 0 5)), va_up lm 5 (lm 5), τ)) _ _ _ _ h ⟨(by first | (exfalso; omega) | (unfold mnX; rw [hk_69]; show _ = (if m < ffe (cuX (σ 3)) n 0 then 1 else 0); first | rw [if_neg (by omega)] | rw [if_pos (by omega)])), (σ 5), (lm 5), (σ 0 5), rfl⟩ dX8_mussel_172
          · refine lv_iconst (v := 1) hx hb dX8_mussel_167 (by decide) ?_
            refine lv_goto (tgt := 172) hx hb dX8_mussel_168 (by decide) ?_
            have h : gW D ct zA zs _ _ ((fun u : (Nat → Nat → Nat → Int32) × (Nat → Nat → Nat → Int32) × (Nat → Int64) => wX ad ct u.1 u.2.1 u.2.2) ((va_up (va_up σ 5 (σ 5)) 0 (va_up (σ 0) 5 (σ 0 5)), va_up lm 5 (lm 5), τ))) := h
            exact hret _ ((va_up (va_up σ 5 (σ 5)) 0 (va_up (σ 0) 5 (σ 0 5)), va_up lm 5 (lm 5), τ)) _ _ _ _ h ⟨(by first | (exfalso; omega) | (unfold mnX; rw [hk_69]; show _ = (if m < ffe (cuX (σ 3)) n 0 then 1 else 0); first | rw [if_neg (by omega)] | rw [if_pos (by omega)])), (σ 5), (lm 5), (σ 0 5), rfl⟩ dX8_mussel_172
        · refine gas (show nI x = nI 6 by rw [hk_69]) ?_
          refine lv_tableIn (tgt := 173) (off := 104) hx hb dX8_mussel_69 (by decide) (by decide) (by decide) (by decide) ?_
          refine lv_iconst (v := 1) hx hb dX8_mussel_173 (by decide) ?_
          refine lv_aload_n hx hb dX8_mussel_174 rfl (lv_at hl 0 rfl) ?_
          refine gget C h igX8 0 rfl rfl 2 (by decide) q203 rfl rfl dX8_mussel_175 ?_
          refine gget C h igX6 11 rfl rfl 2 (by decide) q168 rfl rfl dX8_mussel_178 ?_
          refine lv_iload_n hx hb dX8_mussel_181 rfl (lv_at hl 1 rfl) ?_
          refine gild C h 17 rfl (j := m) (by omega) (by decide) dX8_mussel_182 ?_
          refine gas (z := σ 3 6 m) rfl ?_
          refine lv_isub hx hb dX8_mussel_183 ?_
          have h : gW D ct zA zs _ _ ((fun u : (Nat → Nat → Nat → Int32) × (Nat → Nat → Nat → Int32) × (Nat → Int64) => wX ad ct u.1 u.2.1 u.2.2) ((va_up (va_up σ 5 (σ 5)) 0 (va_up (σ 0) 5 (σ 0 5)), va_up lm 5 (lm 5), τ))) := h
          exact hret _ ((va_up (va_up σ 5 (σ 5)) 0 (va_up (σ 0) 5 (σ 0 5)), va_up lm 5 (lm 5), τ)) _ _ _ _ h ⟨(by first | (exfalso; omega) | (unfold mnX; rw [hk_69]; rfl)), (σ 5), (lm 5), (σ 0 5), rfl⟩ dX8_mussel_184
        · refine gas (show nI x = nI 7 by rw [hk_69]) ?_
          refine lv_tableIn (tgt := 185) (off := 116) hx hb dX8_mussel_69 (by decide) (by decide) (by decide) (by decide) ?_
          refine lv_aload_n hx hb dX8_mussel_185 rfl (lv_at hl 0 rfl) ?_
          refine lv_iload_n hx hb dX8_mussel_186 rfl (lv_at hl 1 rfl) ?_
          refine gcallVi C h trivial gNo_ok (kX8_bestQuestion l D ct ad σ lm τ n kd hok sn hsn hsn6 m (by omega)) (cwV 1 C.2.2.2.2 (gInV q460 q462 q4 q57 q463) rfl rfl rfl hvX8_bestQuestion ⟨Nat.le_of_ble_eq_true rfl, Nat.le_of_ble_eq_true rfl⟩) 0 rfl rfl rfl rfl hl.1 rfl (Nat.le_of_ble_eq_true rfl) dX8_mussel_187 ⟨Nat.zero_le _, Nat.zero_le _⟩ (fun r9 u9 H ll hw h => ?_)
          obtain ⟨hw, g5_c4, L5_c4, g0_5_c4, rfl⟩ := hw
          have hw : r9 = bI (akX (σ 3) (lm 3) n kd sn m 3).1 := hw
          subst hw
          have h : gW D ct zA zs _ _ (wX ad ct (va_up (va_up σ 0 (va_up (σ 0) 5 g0_5_c4)) 5 g5_c4) (va_up lm 5 L5_c4) τ) := h
          have h : gW D ct zA zs _ _ ((fun u : (Nat → Nat → Nat → Int32) × (Nat → Nat → Nat → Int32) × (Nat → Int64) => wX ad ct u.1 u.2.1 u.2.2) ((va_up (va_up σ 5 g5_c4) 0 (va_up (σ 0) 5 g0_5_c4), va_up lm 5 L5_c4, τ))) := h
          exact hret _ ((va_up (va_up σ 5 g5_c4) 0 (va_up (σ 0) 5 g0_5_c4), va_up lm 5 L5_c4, τ)) _ _ _ _ h ⟨(by first | (exfalso; omega) | (unfold mnX; rw [hk_69]; rfl)), g5_c4, L5_c4, g0_5_c4, rfl⟩ dX8_mussel_190
      · refine lv_iload_n hx hb dX8_mussel_52 rfl (lv_at hl 2 rfl) ?_
        refine lv_bipush (v := 23) hx hb dX8_mussel_53 (by decide) ?_
        refine nb_ge hx hb x 23 (by omega) (by omega) (tgt := 68) dX8_mussel_55 (by decide) (fun c_55 => ?_) (fun c_55 => ?_)
        · refine lv_iload_n hx hb dX8_mussel_68 rfl (lv_at hl 2 rfl) ?_
          rcases (show x = 0 ∨ x = 1 ∨ x = 2 ∨ x = 3 ∨ x = 4 ∨ x = 5 ∨ x = 6 ∨ x = 7 by omega) with hk_69 | hk_69 | hk_69 | hk_69 | hk_69 | hk_69 | hk_69 | hk_69
          · refine gas (show nI x = nI 0 by rw [hk_69]) ?_
            refine lv_tableIn (tgt := 116) (off := 47) hx hb dX8_mussel_69 (by decide) (by decide) (by decide) (by decide) ?_
            refine lv_aload_n hx hb dX8_mussel_116 rfl (lv_at hl 0 rfl) ?_
            refine gget C h igX8 0 rfl rfl 1 (by decide) q202 rfl rfl dX8_mussel_117 ?_
            refine lv_iload_n hx hb dX8_mussel_120 rfl (lv_at hl 1 rfl) ?_
            refine gFq C h trivial gNo_ok (kX5_kindOf l D ct (ad 2) (σ 2) n kd hok m (by omega)) (cwV 1 C.2.2.2.2 (gInV q441 q397 q398 q59 q399) rfl rfl rfl hvX5_kindOf ⟨Nat.le_of_ble_eq_true rfl, Nat.le_of_ble_eq_true rfl⟩) 3 rfl rfl rfl (fr_X_R ad ct _ _ _) rfl hl.1 rfl (Nat.le_of_ble_eq_true rfl) dX8_mussel_121 ⟨Nat.zero_le _, Nat.zero_le _⟩ (fun H ll h => ?_)
            have h : gW D ct zA zs _ _ (wX ad ct σ lm τ) := h
            rcases (show kd m = 0 ∨ kd m = 1 ∨ kd m = 2 ∨ kd m = 3 ∨ kd m = 4 by have := hung_lt hok (m := m) (by omega); omega) with hk_124 | hk_124 | hk_124 | hk_124 | hk_124
            · refine gasr (z := ad 2 3) (by rw [hk_124]) ?_
              refine gFi C h trivial gNo_ok (kX3_number l D ct (ad 2 3) ) (cwV 0 C.2.2.2.2 (gInV q442 q443 q444 q60 q458) rfl rfl rfl hvX3_number ⟨Nat.le_of_ble_eq_true rfl, Nat.le_of_ble_eq_true rfl⟩) 6 rfl rfl rfl (fr_X_K0 ad ct _ _ _) rfl hl.1 rfl (Nat.le_of_ble_eq_true rfl) dX8_mussel_124 ⟨Nat.zero_le _, Nat.zero_le _⟩ (fun r9 u9 H ll hw h => ?_)
              subst hw
              have h : gW D ct zA zs _ _ (wX ad ct σ lm τ) := h
              have h : gW D ct zA zs _ _ ((fun u : (Nat → Nat → Nat → Int32) × (Nat → Nat → Nat → Int32) × (Nat → Int64) => wX ad ct u.1 u.2.1 u.2.2) ((va_up (va_up σ 5 (σ 5)) 0 (va_up (σ 0) 5 (σ 0 5)), va_up lm 5 (lm 5), τ))) := h
              exact hret _ ((va_up (va_up σ 5 (σ 5)) 0 (va_up (σ 0) 5 (σ 0 5)), va_up lm 5 (lm 5), τ)) _ _ _ _ h ⟨(by first | (exfalso; omega) | (unfold mnX; rw [hk_69]; show _ = nI (kd m); rw [hk_124]; rfl)), (σ 5), (lm 5), (σ 0 5), rfl⟩ dX8_mussel_127
            · refine gasr (z := ad 2 4) (by rw [hk_124]) ?_
              refine gUi C h (kX1_number l D ct (ad 2 4) ) (va_cwO 0 C.2.2.2.2 (gInO q442 q445 q443 q449 q450 q61 q451) rfl rfl rfl (gWs_in q458) hdX3_number ⟨Nat.le_of_ble_eq_true rfl, Nat.le_of_ble_eq_true rfl⟩) 7 rfl rfl rfl (fr_X_K1 ad ct _ _ _) rfl hl.1 rfl (Nat.le_of_ble_eq_true rfl) dX8_mussel_124 ⟨Nat.zero_le _, Nat.zero_le _⟩ (fun H ll h => ?_)
              have h : gW D ct zA zs _ _ (wX ad ct σ lm τ) := h
              have h : gW D ct zA zs _ _ ((fun u : (Nat → Nat → Nat → Int32) × (Nat → Nat → Nat → Int32) × (Nat → Int64) => wX ad ct u.1 u.2.1 u.2.2) ((va_up (va_up σ 5 (σ 5)) 0 (va_up (σ 0) 5 (σ 0 5)), va_up lm 5 (lm 5), τ))) := h
              exact hret _ ((va_up (va_up σ 5 (σ 5)) 0 (va_up (σ 0) 5 (σ 0 5)), va_up lm 5 (lm 5), τ)) _ _ _ _ h ⟨(by first | (exfalso; omega) | (unfold mnX; rw [hk_69]; show _ = nI (kd m); rw [hk_124]; rfl)), (σ 5), (lm 5), (σ 0 5), rfl⟩ dX8_mussel_127
            · refine gasr (z := ad 2 5) (by rw [hk_124]) ?_
              refine gUi C h (kX0_number l D ct (ad 2 5) ) (va_cwO 0 C.2.2.2.2 (gInO q442 q445 q443 q446 q447 q62 q448) rfl rfl rfl (gWs_in q458) hdX3_number ⟨Nat.le_of_ble_eq_true rfl, Nat.le_of_ble_eq_true rfl⟩) 8 rfl rfl rfl (fr_X_K2 ad ct _ _ _) rfl hl.1 rfl (Nat.le_of_ble_eq_true rfl) dX8_mussel_124 ⟨Nat.zero_le _, Nat.zero_le _⟩ (fun H ll h => ?_)
              have h : gW D ct zA zs _ _ (wX ad ct σ lm τ) := h
              have h : gW D ct zA zs _ _ ((fun u : (Nat → Nat → Nat → Int32) × (Nat → Nat → Nat → Int32) × (Nat → Int64) => wX ad ct u.1 u.2.1 u.2.2) ((va_up (va_up σ 5 (σ 5)) 0 (va_up (σ 0) 5 (σ 0 5)), va_up lm 5 (lm 5), τ))) := h
              exact hret _ ((va_up (va_up σ 5 (σ 5)) 0 (va_up (σ 0) 5 (σ 0 5)), va_up lm 5 (lm 5), τ)) _ _ _ _ h ⟨(by first | (exfalso; omega) | (unfold mnX; rw [hk_69]; show _ = nI (kd m); rw [hk_124]; rfl)), (σ 5), (lm 5), (σ 0 5), rfl⟩ dX8_mussel_127
            · refine gasr (z := ad 2 6) (by rw [hk_124]) ?_
              refine gUi C h (kX2_number l D ct (ad 2 6) ) (va_cwO 0 C.2.2.2.2 (gInO q442 q445 q443 q452 q453 q63 q454) rfl rfl rfl (gWs_in q458) hdX3_number ⟨Nat.le_of_ble_eq_true rfl, Nat.le_of_ble_eq_true rfl⟩) 9 rfl rfl rfl (fr_X_K3 ad ct _ _ _) rfl hl.1 rfl (Nat.le_of_ble_eq_true rfl) dX8_mussel_124 ⟨Nat.zero_le _, Nat.zero_le _⟩ (fun H ll h => ?_)
              have h : gW D ct zA zs _ _ (wX ad ct σ lm τ) := h
              have h : gW D ct zA zs _ _ ((fun u : (Nat → Nat → Nat → Int32) × (Nat → Nat → Nat → Int32) × (Nat → Int64) => wX ad ct u.1 u.2.1 u.2.2) ((va_up (va_up σ 5 (σ 5)) 0 (va_up (σ 0) 5 (σ 0 5)), va_up lm 5 (lm 5), τ))) := h
              exact hret _ ((va_up (va_up σ 5 (σ 5)) 0 (va_up (σ 0) 5 (σ 0 5)), va_up lm 5 (lm 5), τ)) _ _ _ _ h ⟨(by first | (exfalso; omega) | (unfold mnX; rw [hk_69]; show _ = nI (kd m); rw [hk_124]; rfl)), (σ 5), (lm 5), (σ 0 5), rfl⟩ dX8_mussel_127
            · refine gasr (z := ad 2 7) (by rw [hk_124]) ?_
              refine gUi C h (kX7_number l D ct (ad 2 7) ) (va_cwO 0 C.2.2.2.2 (gInO q442 q445 q443 q455 q456 q64 q457) rfl rfl rfl (gWs_in q458) hdX3_number ⟨Nat.le_of_ble_eq_true rfl, Nat.le_of_ble_eq_true rfl⟩) 10 rfl rfl rfl (fr_X_K4 ad ct _ _ _) rfl hl.1 rfl (Nat.le_of_ble_eq_true rfl) dX8_mussel_124 ⟨Nat.zero_le _, Nat.zero_le _⟩ (fun H ll h => ?_)
              have h : gW D ct zA zs _ _ (wX ad ct σ lm τ) := h
              have h : gW D ct zA zs _ _ ((fun u : (Nat → Nat → Nat → Int32) × (Nat → Nat → Nat → Int32) × (Nat → Int64) => wX ad ct u.1 u.2.1 u.2.2) ((va_up (va_up σ 5 (σ 5)) 0 (va_up (σ 0) 5 (σ 0 5)), va_up lm 5 (lm 5), τ))) := h
              exact hret _ ((va_up (va_up σ 5 (σ 5)) 0 (va_up (σ 0) 5 (σ 0 5)), va_up lm 5 (lm 5), τ)) _ _ _ _ h ⟨(by first | (exfalso; omega) | (unfold mnX; rw [hk_69]; show _ = nI (kd m); rw [hk_124]; rfl)), (σ 5), (lm 5), (σ 0 5), rfl⟩ dX8_mussel_127
          · refine gas (show nI x = nI 1 by rw [hk_69]) ?_
            refine lv_tableIn (tgt := 128) (off := 59) hx hb dX8_mussel_69 (by decide) (by decide) (by decide) (by decide) ?_
            refine lv_aload_n hx hb dX8_mussel_128 rfl (lv_at hl 0 rfl) ?_
            refine gget C h igX8 0 rfl rfl 2 (by decide) q203 rfl rfl dX8_mussel_129 ?_
            refine gget C h igX6 11 rfl rfl 0 (by decide) q161 rfl rfl dX8_mussel_132 ?_
            refine lv_iload_n hx hb dX8_mussel_135 rfl (lv_at hl 1 rfl) ?_
            refine gild C h 12 rfl (j := m) (by omega) (by decide) dX8_mussel_136 ?_
            refine gas (z := σ 3 1 m) rfl ?_
            have h : gW D ct zA zs _ _ ((fun u : (Nat → Nat → Nat → Int32) × (Nat → Nat → Nat → Int32) × (Nat → Int64) => wX ad ct u.1 u.2.1 u.2.2) ((va_up (va_up σ 5 (σ 5)) 0 (va_up (σ 0) 5 (σ 0 5)), va_up lm 5 (lm 5), τ))) := h
            exact hret _ ((va_up (va_up σ 5 (σ 5)) 0 (va_up (σ 0) 5 (σ 0 5)), va_up lm 5 (lm 5), τ)) _ _ _ _ h ⟨(by first | (exfalso; omega) | (unfold mnX; rw [hk_69]; rfl)), (σ 5), (lm 5), (σ 0 5), rfl⟩ dX8_mussel_137
          · refine gas (show nI x = nI 2 by rw [hk_69]) ?_
            refine lv_tableIn (tgt := 138) (off := 69) hx hb dX8_mussel_69 (by decide) (by decide) (by decide) (by decide) ?_
            refine lv_aload_n hx hb dX8_mussel_138 rfl (lv_at hl 0 rfl) ?_
            refine gget C h igX8 0 rfl rfl 2 (by decide) q203 rfl rfl dX8_mussel_139 ?_
            refine gget C h igX6 11 rfl rfl 1 (by decide) q164 rfl rfl dX8_mussel_142 ?_
            refine lv_iload_n hx hb dX8_mussel_145 rfl (lv_at hl 2 rfl) ?_
            refine lv_iconst (v := 2) hx hb dX8_mussel_146 (by decide) ?_
            refine nsub hx hb x 2 (by omega) dX8_mussel_147 ?_
            refine gald C h 13 4 rfl rfl rfl (j := x - 2) (b := ad 3 (3 + (x - 2))) (by omega) (by decide) (if_pos (by omega)) dX8_mussel_148 ?_
            refine lv_iload_n hx hb dX8_mussel_149 rfl (lv_at hl 1 rfl) ?_
            refine gild C h (14 + (x - 2)) (wX_row3 ad ct _ _ _ (by omega)) (j := m) (by omega) (by decide) dX8_mussel_150 ?_
            refine gas (z := lm 3 (x - 2) m) rfl ?_
            have h : gW D ct zA zs _ _ ((fun u : (Nat → Nat → Nat → Int32) × (Nat → Nat → Nat → Int32) × (Nat → Int64) => wX ad ct u.1 u.2.1 u.2.2) ((va_up (va_up σ 5 (σ 5)) 0 (va_up (σ 0) 5 (σ 0 5)), va_up lm 5 (lm 5), τ))) := h
            exact hret _ ((va_up (va_up σ 5 (σ 5)) 0 (va_up (σ 0) 5 (σ 0 5)), va_up lm 5 (lm 5), τ)) _ _ _ _ h ⟨(by first | (exfalso; omega) | (unfold mnX; rw [if_neg (by omega), if_neg (by omega), if_neg (by omega), if_neg (by omega), if_pos (by omega)])), (σ 5), (lm 5), (σ 0 5), rfl⟩ dX8_mussel_151
          · refine gas (show nI x = nI 3 by rw [hk_69]) ?_
            refine lv_tableIn (tgt := 138) (off := 69) hx hb dX8_mussel_69 (by decide) (by decide) (by decide) (by decide) ?_
            refine lv_aload_n hx hb dX8_mussel_138 rfl (lv_at hl 0 rfl) ?_
            refine gget C h igX8 0 rfl rfl 2 (by decide) q203 rfl rfl dX8_mussel_139 ?_
            refine gget C h igX6 11 rfl rfl 1 (by decide) q164 rfl rfl dX8_mussel_142 ?_
            refine lv_iload_n hx hb dX8_mussel_145 rfl (lv_at hl 2 rfl) ?_
            refine lv_iconst (v := 2) hx hb dX8_mussel_146 (by decide) ?_
            refine nsub hx hb x 2 (by omega) dX8_mussel_147 ?_
            refine gald C h 13 4 rfl rfl rfl (j := x - 2) (b := ad 3 (3 + (x - 2))) (by omega) (by decide) (if_pos (by omega)) dX8_mussel_148 ?_
            refine lv_iload_n hx hb dX8_mussel_149 rfl (lv_at hl 1 rfl) ?_
            refine gild C h (14 + (x - 2)) (wX_row3 ad ct _ _ _ (by omega)) (j := m) (by omega) (by decide) dX8_mussel_150 ?_
            refine gas (z := lm 3 (x - 2) m) rfl ?_
            have h : gW D ct zA zs _ _ ((fun u : (Nat → Nat → Nat → Int32) × (Nat → Nat → Nat → Int32) × (Nat → Int64) => wX ad ct u.1 u.2.1 u.2.2) ((va_up (va_up σ 5 (σ 5)) 0 (va_up (σ 0) 5 (σ 0 5)), va_up lm 5 (lm 5), τ))) := h
            exact hret _ ((va_up (va_up σ 5 (σ 5)) 0 (va_up (σ 0) 5 (σ 0 5)), va_up lm 5 (lm 5), τ)) _ _ _ _ h ⟨(by first | (exfalso; omega) | (unfold mnX; rw [if_neg (by omega), if_neg (by omega), if_neg (by omega), if_neg (by omega), if_pos (by omega)])), (σ 5), (lm 5), (σ 0 5), rfl⟩ dX8_mussel_151
          · refine gas (show nI x = nI 4 by rw [hk_69]) ?_
            refine lv_tableIn (tgt := 138) (off := 69) hx hb dX8_mussel_69 (by decide) (by decide) (by decide) (by decide) ?_
            refine lv_aload_n hx hb dX8_mussel_138 rfl (lv_at hl 0 rfl) ?_
            refine gget C h igX8 0 rfl rfl 2 (by decide) q203 rfl rfl dX8_mussel_139 ?_
            refine gget C h igX6 11 rfl rfl 1 (by decide) q164 rfl rfl dX8_mussel_142 ?_
            refine lv_iload_n hx hb dX8_mussel_145 rfl (lv_at hl 2 rfl) ?_
            refine lv_iconst (v := 2) hx hb dX8_mussel_146 (by decide) ?_
            refine nsub hx hb x 2 (by omega) dX8_mussel_147 ?_
            refine gald C h 13 4 rfl rfl rfl (j := x - 2) (b := ad 3 (3 + (x - 2))) (by omega) (by decide) (if_pos (by omega)) dX8_mussel_148 ?_
            refine lv_iload_n hx hb dX8_mussel_149 rfl (lv_at hl 1 rfl) ?_
            refine gild C h (14 + (x - 2)) (wX_row3 ad ct _ _ _ (by omega)) (j := m) (by omega) (by decide) dX8_mussel_150 ?_
            refine gas (z := lm 3 (x - 2) m) rfl ?_
            have h : gW D ct zA zs _ _ ((fun u : (Nat → Nat → Nat → Int32) × (Nat → Nat → Nat → Int32) × (Nat → Int64) => wX ad ct u.1 u.2.1 u.2.2) ((va_up (va_up σ 5 (σ 5)) 0 (va_up (σ 0) 5 (σ 0 5)), va_up lm 5 (lm 5), τ))) := h
            exact hret _ ((va_up (va_up σ 5 (σ 5)) 0 (va_up (σ 0) 5 (σ 0 5)), va_up lm 5 (lm 5), τ)) _ _ _ _ h ⟨(by first | (exfalso; omega) | (unfold mnX; rw [if_neg (by omega), if_neg (by omega), if_neg (by omega), if_neg (by omega), if_pos (by omega)])), (σ 5), (lm 5), (σ 0 5), rfl⟩ dX8_mussel_151
          · refine gas (show nI x = nI 5 by rw [hk_69]) ?_
            refine lv_tableIn (tgt := 152) (off := 83) hx hb dX8_mussel_69 (by decide) (by decide) (by decide) (by decide) ?_
            refine lv_iload_n hx hb dX8_mussel_152 rfl (lv_at hl 1 rfl) ?_
            refine lv_aload_n hx hb dX8_mussel_153 rfl (lv_at hl 0 rfl) ?_
            refine gget C h igX8 0 rfl rfl 1 (by decide) q202 rfl rfl dX8_mussel_154 ?_
            refine lv_aload_n hx hb dX8_mussel_157 rfl (lv_at hl 0 rfl) ?_
            refine gget C h igX8 0 rfl rfl 2 (by decide) q203 rfl rfl dX8_mussel_158 ?_
            refine gFi C h trivial gNo_ok (kX5_feltIn l D ct (ad 2) (ad 3) (σ 2) (σ 3) (lm 3) n kd hok) (cwV 1 C.2.2.2.2 (gInV q459 q433 q434 q59 q435) rfl rfl rfl hvX5_feltIn ⟨Nat.le_of_ble_eq_true rfl, Nat.le_of_ble_eq_true rfl⟩) 3 rfl rfl rfl (fr_X_RS3 ad ct _ _ _) rfl hl.1 rfl (Nat.le_of_ble_eq_true rfl) dX8_mussel_161 ⟨Nat.zero_le _, Nat.zero_le _⟩ (fun r9 u9 H ll hw h => ?_)
            have hw : r9 = nI (ffe (cuX (σ 3)) n 0) := hw
            subst hw
            have h : gW D ct zA zs _ _ (wX ad ct σ lm τ) := h
            have hfe := ffe_le (cuX (σ 3)) n 0
            refine nb_ge hx hb m (ffe (cuX (σ 3)) n 0) (by omega) (by omega) (tgt := 171) dX8_mussel_164 (by decide) (fun c_164 => ?_) (fun c_164 => ?_)
            · refine lv_iconst (v := 0) hx hb dX8_mussel_171 (by decide) ?_
              have h : gW D ct zA zs _ _ ((fun u : (Nat → Nat → Nat → Int32) × (Nat → Nat → Nat → Int32) × (Nat → Int64) => wX ad ct u.1 u.2.1 u.2.2) ((va_up (va_up σ 5 (σ 5)) 0 (va_up (σ 0) 5 (σ 0 5)), va_up lm 5 (lm 5), τ))) := h
              exact hret _ ((va_up (va_up σ 5 (σ 5)) 0 (va_up (σ 0) 5 (σ 0 5)), va_up lm 5 (lm 5), τ)) _ _ _ _ h ⟨(by first | (exfalso; omega) | (unfold mnX; rw [hk_69]; show _ = (if m < ffe (cuX (σ 3)) n 0 then 1 else 0); first | rw [if_neg (by omega)] | rw [if_pos (by omega)])), (σ 5), (lm 5), (σ 0 5), rfl⟩ dX8_mussel_172
            · refine lv_iconst (v := 1) hx hb dX8_mussel_167 (by decide) ?_
              refine lv_goto (tgt := 172) hx hb dX8_mussel_168 (by decide) ?_
              have h : gW D ct zA zs _ _ ((fun u : (Nat → Nat → Nat → Int32) × (Nat → Nat → Nat → Int32) × (Nat → Int64) => wX ad ct u.1 u.2.1 u.2.2) ((va_up (va_up σ 5 (σ 5)) 0 (va_up (σ 0) 5 (σ 0 5)), va_up lm 5 (lm 5), τ))) := h
              exact hret _ ((va_up (va_up σ 5 (σ 5)) 0 (va_up (σ 0) 5 (σ 0 5)), va_up lm 5 (lm 5), τ)) _ _ _ _ h ⟨(by first | (exfalso; omega) | (unfold mnX; rw [hk_69]; show _ = (if m < ffe (cuX (σ 3)) n 0 then 1 else 0); first | rw [if_neg (by omega)] | rw [if_pos (by omega)])), (σ 5), (lm 5), (σ 0 5), rfl⟩ dX8_mussel_172
          · refine gas (show nI x = nI 6 by rw [hk_69]) ?_
            refine lv_tableIn (tgt := 173) (off := 104) hx hb dX8_mussel_69 (by decide) (by decide) (by decide) (by decide) ?_
            refine lv_iconst (v := 1) hx hb dX8_mussel_173 (by decide) ?_
            refine lv_aload_n hx hb dX8_mussel_174 rfl (lv_at hl 0 rfl) ?_
            refine gget C h igX8 0 rfl rfl 2 (by decide) q203 rfl rfl dX8_mussel_175 ?_
            refine gget C h igX6 11 rfl rfl 2 (by decide) q168 rfl rfl dX8_mussel_178 ?_
            refine lv_iload_n hx hb dX8_mussel_181 rfl (lv_at hl 1 rfl) ?_
            refine gild C h 17 rfl (j := m) (by omega) (by decide) dX8_mussel_182 ?_
            refine gas (z := σ 3 6 m) rfl ?_
            refine lv_isub hx hb dX8_mussel_183 ?_
            have h : gW D ct zA zs _ _ ((fun u : (Nat → Nat → Nat → Int32) × (Nat → Nat → Nat → Int32) × (Nat → Int64) => wX ad ct u.1 u.2.1 u.2.2) ((va_up (va_up σ 5 (σ 5)) 0 (va_up (σ 0) 5 (σ 0 5)), va_up lm 5 (lm 5), τ))) := h
            exact hret _ ((va_up (va_up σ 5 (σ 5)) 0 (va_up (σ 0) 5 (σ 0 5)), va_up lm 5 (lm 5), τ)) _ _ _ _ h ⟨(by first | (exfalso; omega) | (unfold mnX; rw [hk_69]; rfl)), (σ 5), (lm 5), (σ 0 5), rfl⟩ dX8_mussel_184
          · refine gas (show nI x = nI 7 by rw [hk_69]) ?_
            refine lv_tableIn (tgt := 185) (off := 116) hx hb dX8_mussel_69 (by decide) (by decide) (by decide) (by decide) ?_
            refine lv_aload_n hx hb dX8_mussel_185 rfl (lv_at hl 0 rfl) ?_
            refine lv_iload_n hx hb dX8_mussel_186 rfl (lv_at hl 1 rfl) ?_
            refine gcallVi C h trivial gNo_ok (kX8_bestQuestion l D ct ad σ lm τ n kd hok sn hsn hsn6 m (by omega)) (cwV 1 C.2.2.2.2 (gInV q460 q462 q4 q57 q463) rfl rfl rfl hvX8_bestQuestion ⟨Nat.le_of_ble_eq_true rfl, Nat.le_of_ble_eq_true rfl⟩) 0 rfl rfl rfl rfl hl.1 rfl (Nat.le_of_ble_eq_true rfl) dX8_mussel_187 ⟨Nat.zero_le _, Nat.zero_le _⟩ (fun r9 u9 H ll hw h => ?_)
            obtain ⟨hw, g5_c5, L5_c5, g0_5_c5, rfl⟩ := hw
            have hw : r9 = bI (akX (σ 3) (lm 3) n kd sn m 3).1 := hw
            subst hw
            have h : gW D ct zA zs _ _ (wX ad ct (va_up (va_up σ 0 (va_up (σ 0) 5 g0_5_c5)) 5 g5_c5) (va_up lm 5 L5_c5) τ) := h
            have h : gW D ct zA zs _ _ ((fun u : (Nat → Nat → Nat → Int32) × (Nat → Nat → Nat → Int32) × (Nat → Int64) => wX ad ct u.1 u.2.1 u.2.2) ((va_up (va_up σ 5 g5_c5) 0 (va_up (σ 0) 5 g0_5_c5), va_up lm 5 L5_c5, τ))) := h
            exact hret _ ((va_up (va_up σ 5 g5_c5) 0 (va_up (σ 0) 5 g0_5_c5), va_up lm 5 L5_c5, τ)) _ _ _ _ h ⟨(by first | (exfalso; omega) | (unfold mnX; rw [hk_69]; rfl)), g5_c5, L5_c5, g0_5_c5, rfl⟩ dX8_mussel_190
        · refine lv_aload_n hx hb dX8_mussel_58 rfl (lv_at hl 0 rfl) ?_
          refine lv_iload_n hx hb dX8_mussel_59 rfl (lv_at hl 1 rfl) ?_
          refine lv_iload_n hx hb dX8_mussel_60 rfl (lv_at hl 2 rfl) ?_
          refine lv_bipush (v := 20) hx hb dX8_mussel_61 (by decide) ?_
          refine nsub hx hb x 20 (by omega) dX8_mussel_63 ?_
          refine gcallVi C h trivial gNo_ok (kX8_leansLeft l D ct ad σ lm τ n kd hok sn hsn hsn6 m (x - 20) (by omega) (by omega)) (cwV 2 C.2.2.2.2 (gInV q417 q419 q3 q57 q420) rfl rfl rfl hvX8_leansLeft ⟨Nat.le_of_ble_eq_true rfl, Nat.le_of_ble_eq_true rfl⟩) 0 rfl rfl rfl rfl hl.1 rfl (Nat.le_of_ble_eq_true rfl) dX8_mussel_64 ⟨Nat.zero_le _, Nat.zero_le _⟩ (fun r9 u9 H ll hw h => ?_)
          obtain ⟨hw, L5_c6, g0_5_c6, hp0_c6, rfl⟩ := hw
          have hw : r9 = nI (lvX (σ 3) (lm 3) n kd sn m (x - 20) 3) := hw
          subst hw
          have hp0_c6 : ∀ j, j < 3 → g0_5_c6 j = slX (σ 3) (lm 3) n kd m (x - 20) j := hp0_c6
          have h : gW D ct zA zs _ _ (wX ad ct (va_up (va_up σ 0 (va_up (σ 0) 5 g0_5_c6)) 5 (σ 3)) (va_up lm 5 L5_c6) τ) := h
          have h : gW D ct zA zs _ _ ((fun u : (Nat → Nat → Nat → Int32) × (Nat → Nat → Nat → Int32) × (Nat → Int64) => wX ad ct u.1 u.2.1 u.2.2) ((va_up (va_up σ 5 (σ 3)) 0 (va_up (σ 0) 5 g0_5_c6), va_up lm 5 L5_c6, τ))) := h
          exact hret _ ((va_up (va_up σ 5 (σ 3)) 0 (va_up (σ 0) 5 g0_5_c6), va_up lm 5 L5_c6, τ)) _ _ _ _ h ⟨(by first | (exfalso; omega) | (unfold mnX; first | (rw [if_neg (by omega), if_pos (by omega)]) | (rw [if_pos (by omega)]))), (σ 3), L5_c6, g0_5_c6, rfl⟩ dX8_mussel_67
    · refine lv_bipush (v := 100) hx hb dX8_mussel_26 (by decide) ?_
      refine lv_aload_n hx hb dX8_mussel_28 rfl (lv_at hl 0 rfl) ?_
      refine gget C h igX8 0 rfl rfl 1 (by decide) q202 rfl rfl dX8_mussel_29 ?_
      refine lv_aload_n hx hb dX8_mussel_32 rfl (lv_at hl 0 rfl) ?_
      refine gget C h igX8 0 rfl rfl 2 (by decide) q203 rfl rfl dX8_mussel_33 ?_
      refine lv_iload_n hx hb dX8_mussel_36 rfl (lv_at hl 1 rfl) ?_
      refine lv_iload_n hx hb dX8_mussel_37 rfl (lv_at hl 2 rfl) ?_
      refine lv_bipush (v := 10) hx hb dX8_mussel_38 (by decide) ?_
      refine nsub hx hb x 10 (by omega) dX8_mussel_40 ?_
      refine gFi C h trivial gNo_ok (kX5_pullOf l D ct (ad 2) (ad 3) (σ 2) (σ 3) (lm 3) n kd hok m (x - 10) (by omega) (by omega)) (cwV 3 C.2.2.2.2 (gInV q384 q385 q386 q59 q387) rfl rfl rfl hvX5_pullOf ⟨Nat.le_of_ble_eq_true rfl, Nat.le_of_ble_eq_true rfl⟩) 3 rfl rfl rfl (fr_X_RS3 ad ct _ _ _) rfl hl.1 rfl (Nat.le_of_ble_eq_true rfl) dX8_mussel_41 ⟨Nat.zero_le _, Nat.zero_le _⟩ (fun r9 u9 H ll hw h => ?_)
      have hw : r9 = plX (σ 3) (lm 3) n kd (x - 10) m := hw
      subst hw
      have h : gW D ct zA zs _ _ (wX ad ct σ lm τ) := h
      refine lv_iadd hx hb dX8_mussel_44 ?_
      have h : gW D ct zA zs _ _ ((fun u : (Nat → Nat → Nat → Int32) × (Nat → Nat → Nat → Int32) × (Nat → Int64) => wX ad ct u.1 u.2.1 u.2.2) ((va_up (va_up σ 5 (σ 5)) 0 (va_up (σ 0) 5 (σ 0 5)), va_up lm 5 (lm 5), τ))) := h
      exact hret _ ((va_up (va_up σ 5 (σ 5)) 0 (va_up (σ 0) 5 (σ 0 5)), va_up lm 5 (lm 5), τ)) _ _ _ _ h ⟨(by first | (exfalso; omega) | (unfold mnX; first | (rw [if_neg (by omega), if_pos (by omega)]) | (rw [if_pos (by omega)]))), (σ 5), (lm 5), (σ 0 5), rfl⟩ dX8_mussel_45
set_option maxHeartbeats 1000000 in
set_option maxRecDepth 100000 in
theorem kX8_as (l : Launch) (D : va_G) (ct : Nat → ClassId) (ad : Nat → Nat → Nat) (σ lm : Nat → Nat → Nat → Int32) (τ : Nat → Int64) (dt : Nat → Nat) (n : Nat) (kd : Nat → Nat) (hok : ROK (σ 2) n kd) (m k : Nat) (hm : m < n) (hk : k < 5) : MI l yX8_as (gWs yX8_as cX8_as 3 (some .int)) rmX8_as D ct (stX dt) [.ref (ad 0 0), .int (nI m), .int (nI k)] (wX ad ct σ lm τ) (fun _ : Unit => (wX ad ct σ lm τ)) (fun r _ => r = (if k = 0 ∨ k = kd m ∨ (k = 3 ∧ kd m = 4) then nI m else -1)) := by
  refine MI.ofI RX8 rfl (by decide) (Nat.le_of_ble_eq_true rfl) ?_
  intro zp ze zs zm za zb zt zc zA ls zQ C h hX hl hret
  have hx := C.1
  have hb := C.2.1
  have hl : lv_has ls 3 [(0, .ref (ad 0 0)), (1, .int (nI m)), (2, .int (nI k))] := hl
  have hok0 := hok
  obtain ⟨hn, hn8, hkd⟩ := hok0
  refine lv_aload_n hx hb dX8_as_0 rfl (lv_at hl 0 rfl) ?_
  refine gget C h igX8 0 rfl rfl 1 (by decide) q202 rfl rfl dX8_as_1 ?_
  refine lv_iload_n hx hb dX8_as_4 rfl (lv_at hl 1 rfl) ?_
  refine gFi C h trivial gNo_ok (kX5_has l D ct (ad 2) (σ 2) n hn hn8 (nI m)) (cwV 1 C.2.2.2.2 (gInV q380 q381 q382 q59 q383) rfl rfl rfl hvX5_has ⟨Nat.le_of_ble_eq_true rfl, Nat.le_of_ble_eq_true rfl⟩) 3 rfl rfl rfl (fr_X_R ad ct _ _ _) rfl hl.1 rfl (Nat.le_of_ble_eq_true rfl) dX8_as_5 ⟨Nat.zero_le _, Nat.zero_le _⟩ (fun r9 u9 H ll hw h => ?_)
  have hw : r9 = (if 0 ≤ (nI m) ∧ (nI m) < nI n then 1 else 0) := hw
  subst hw
  have h : gW D ct zA zs _ _ (wX ad ct σ lm τ) := h
  refine bz_ne hx hb (0 ≤ (nI m) ∧ (nI m) < nI n) (tgt := 14) dX8_as_8 (by decide) (fun c_8 => ?_) (fun c_8 => absurd c_8 (fun q9 => q9 (hasI hm hn8)))
  refine lv_iload_n hx hb dX8_as_14 rfl (lv_at hl 2 rfl) ?_
  refine lv_if_lt (tgt := 27) hx hb dX8_as_15 (by decide) (fun q => absurd q (nI_pos (by omega))) (fun _ => ?_)
  refine lv_iload_n hx hb dX8_as_18 rfl (lv_at hl 2 rfl) ?_
  refine va_ldcS C.1 C.2.1 C.2.2.2.1 (stX_r8 hX) dX8_as_19 ?_
  refine gJV C h hX (stX_ok dt) (kJ0_length_8abf5 l D ct dt ) (cwV 0 C.2.2.2.2 (gInV q480 q275 q276 q67 q277) rfl rfl rfl hvJ0_length_8abf5 ⟨Nat.le_of_ble_eq_true rfl, Nat.le_of_ble_eq_true rfl⟩) (stX_rc hX h.2.2.2.1) rfl hl.1 rfl (Nat.le_of_ble_eq_true rfl) dX8_as_21 ⟨Nat.zero_le _, Nat.zero_le _⟩ (fun H ll h => ?_)
  have h : gW D ct zA zs _ _ (wX ad ct σ lm τ) := h
  refine nb_lt hx hb k 5 (by omega) (by omega) (tgt := 30) dX8_as_24 (by decide) (fun c_24 => ?_) (fun c_24 => absurd c_24 (by omega))
  refine lv_aload_n hx hb dX8_as_30 rfl (lv_at hl 0 rfl) ?_
  refine gget C h igX8 0 rfl rfl 1 (by decide) q202 rfl rfl dX8_as_31 ?_
  refine lv_iload_n hx hb dX8_as_34 rfl (lv_at hl 1 rfl) ?_
  refine gFq C h trivial gNo_ok (kX5_kindOf l D ct (ad 2) (σ 2) n kd hok m (by omega)) (cwV 1 C.2.2.2.2 (gInV q441 q397 q398 q59 q399) rfl rfl rfl hvX5_kindOf ⟨Nat.le_of_ble_eq_true rfl, Nat.le_of_ble_eq_true rfl⟩) 3 rfl rfl rfl (fr_X_R ad ct _ _ _) rfl hl.1 rfl (Nat.le_of_ble_eq_true rfl) dX8_as_35 ⟨Nat.zero_le _, Nat.zero_le _⟩ (fun H ll h => ?_)
  have h : gW D ct zA zs _ _ (wX ad ct σ lm τ) := h
  rcases (show kd m = 0 ∨ kd m = 1 ∨ kd m = 2 ∨ kd m = 3 ∨ kd m = 4 by have := hung_lt hok (m := m) (by omega); omega) with hk_38 | hk_38 | hk_38 | hk_38 | hk_38
  · refine gasr (z := ad 2 3) (by rw [hk_38]) ?_
    refine lv_iload_n hx hb dX8_as_38 rfl (lv_at hl 2 rfl) ?_
    refine gSFi C h hX (stX_ok dt) (kX8_isOfKind_0 l D ct dt (ad 2 3) k hk) (va_cwS 2 C.2.2.2.2 (gInS q481 q482 q57 q483) rfl rfl rfl hdX8_isOfKind ⟨Nat.le_of_ble_eq_true rfl, Nat.le_of_ble_eq_true rfl⟩) (fr_X_K0 ad ct _ _ _) rfl hl.1 rfl (Nat.le_of_ble_eq_true rfl) dX8_as_39 ⟨Nat.zero_le _, Nat.zero_le _⟩ (fun H ll h => ?_)
    have h : gW D ct zA zs _ _ (wX ad ct σ lm τ) := h
    refine bz_eq hx hb (k = 0 ∨ k = 0 ∨ (k = 3 ∧ 0 = 4)) (tgt := 49) dX8_as_42 (by decide) (fun c_42 => ?_) (fun c_42 => ?_)
    · refine lv_iconst (v := -1) hx hb dX8_as_49 (by decide) ?_
      exact hret _ () _ _ _ _ h (by rw [hk_38]; first | rw [if_pos c_42] | rw [if_neg c_42]) dX8_as_50
    · refine lv_iload_n hx hb dX8_as_45 rfl (lv_at hl 1 rfl) ?_
      refine lv_goto (tgt := 50) hx hb dX8_as_46 (by decide) ?_
      exact hret _ () _ _ _ _ h (by rw [hk_38]; first | rw [if_pos c_42] | rw [if_neg c_42]) dX8_as_50
  · refine gasr (z := ad 2 4) (by rw [hk_38]) ?_
    refine lv_iload_n hx hb dX8_as_38 rfl (lv_at hl 2 rfl) ?_
    refine gSFi C h hX (stX_ok dt) (kX8_isOfKind_1 l D ct dt (ad 2 4) k hk) (va_cwS 2 C.2.2.2.2 (gInS q481 q482 q57 q483) rfl rfl rfl hdX8_isOfKind ⟨Nat.le_of_ble_eq_true rfl, Nat.le_of_ble_eq_true rfl⟩) (fr_X_K1 ad ct _ _ _) rfl hl.1 rfl (Nat.le_of_ble_eq_true rfl) dX8_as_39 ⟨Nat.zero_le _, Nat.zero_le _⟩ (fun H ll h => ?_)
    have h : gW D ct zA zs _ _ (wX ad ct σ lm τ) := h
    refine bz_eq hx hb (k = 0 ∨ k = 1 ∨ (k = 3 ∧ 1 = 4)) (tgt := 49) dX8_as_42 (by decide) (fun c_42 => ?_) (fun c_42 => ?_)
    · refine lv_iconst (v := -1) hx hb dX8_as_49 (by decide) ?_
      exact hret _ () _ _ _ _ h (by rw [hk_38]; first | rw [if_pos c_42] | rw [if_neg c_42]) dX8_as_50
    · refine lv_iload_n hx hb dX8_as_45 rfl (lv_at hl 1 rfl) ?_
      refine lv_goto (tgt := 50) hx hb dX8_as_46 (by decide) ?_
      exact hret _ () _ _ _ _ h (by rw [hk_38]; first | rw [if_pos c_42] | rw [if_neg c_42]) dX8_as_50
  · refine gasr (z := ad 2 5) (by rw [hk_38]) ?_
    refine lv_iload_n hx hb dX8_as_38 rfl (lv_at hl 2 rfl) ?_
    refine gSFi C h hX (stX_ok dt) (kX8_isOfKind_2 l D ct dt (ad 2 5) k hk) (va_cwS 2 C.2.2.2.2 (gInS q481 q482 q57 q483) rfl rfl rfl hdX8_isOfKind ⟨Nat.le_of_ble_eq_true rfl, Nat.le_of_ble_eq_true rfl⟩) (fr_X_K2 ad ct _ _ _) rfl hl.1 rfl (Nat.le_of_ble_eq_true rfl) dX8_as_39 ⟨Nat.zero_le _, Nat.zero_le _⟩ (fun H ll h => ?_)
    have h : gW D ct zA zs _ _ (wX ad ct σ lm τ) := h
    refine bz_eq hx hb (k = 0 ∨ k = 2 ∨ (k = 3 ∧ 2 = 4)) (tgt := 49) dX8_as_42 (by decide) (fun c_42 => ?_) (fun c_42 => ?_)
    · refine lv_iconst (v := -1) hx hb dX8_as_49 (by decide) ?_
      exact hret _ () _ _ _ _ h (by rw [hk_38]; first | rw [if_pos c_42] | rw [if_neg c_42]) dX8_as_50
    · refine lv_iload_n hx hb dX8_as_45 rfl (lv_at hl 1 rfl) ?_
      refine lv_goto (tgt := 50) hx hb dX8_as_46 (by decide) ?_
      exact hret _ () _ _ _ _ h (by rw [hk_38]; first | rw [if_pos c_42] | rw [if_neg c_42]) dX8_as_50
  · refine gasr (z := ad 2 6) (by rw [hk_38]) ?_
    refine lv_iload_n hx hb dX8_as_38 rfl (lv_at hl 2 rfl) ?_
    refine gSFi C h hX (stX_ok dt) (kX8_isOfKind_3 l D ct dt (ad 2 6) k hk) (va_cwS 2 C.2.2.2.2 (gInS q481 q482 q57 q483) rfl rfl rfl hdX8_isOfKind ⟨Nat.le_of_ble_eq_true rfl, Nat.le_of_ble_eq_true rfl⟩) (fr_X_K3 ad ct _ _ _) rfl hl.1 rfl (Nat.le_of_ble_eq_true rfl) dX8_as_39 ⟨Nat.zero_le _, Nat.zero_le _⟩ (fun H ll h => ?_)
    have h : gW D ct zA zs _ _ (wX ad ct σ lm τ) := h
    refine bz_eq hx hb (k = 0 ∨ k = 3 ∨ (k = 3 ∧ 3 = 4)) (tgt := 49) dX8_as_42 (by decide) (fun c_42 => ?_) (fun c_42 => ?_)
    · refine lv_iconst (v := -1) hx hb dX8_as_49 (by decide) ?_
      exact hret _ () _ _ _ _ h (by rw [hk_38]; first | rw [if_pos c_42] | rw [if_neg c_42]) dX8_as_50
    · refine lv_iload_n hx hb dX8_as_45 rfl (lv_at hl 1 rfl) ?_
      refine lv_goto (tgt := 50) hx hb dX8_as_46 (by decide) ?_
      exact hret _ () _ _ _ _ h (by rw [hk_38]; first | rw [if_pos c_42] | rw [if_neg c_42]) dX8_as_50
  · refine gasr (z := ad 2 7) (by rw [hk_38]) ?_
    refine lv_iload_n hx hb dX8_as_38 rfl (lv_at hl 2 rfl) ?_
    refine gSFi C h hX (stX_ok dt) (kX8_isOfKind_4 l D ct dt (ad 2 7) k hk) (va_cwS 2 C.2.2.2.2 (gInS q481 q482 q57 q483) rfl rfl rfl hdX8_isOfKind ⟨Nat.le_of_ble_eq_true rfl, Nat.le_of_ble_eq_true rfl⟩) (fr_X_K4 ad ct _ _ _) rfl hl.1 rfl (Nat.le_of_ble_eq_true rfl) dX8_as_39 ⟨Nat.zero_le _, Nat.zero_le _⟩ (fun H ll h => ?_)
    have h : gW D ct zA zs _ _ (wX ad ct σ lm τ) := h
    refine bz_eq hx hb (k = 0 ∨ k = 4 ∨ (k = 3 ∧ 4 = 4)) (tgt := 49) dX8_as_42 (by decide) (fun c_42 => ?_) (fun c_42 => ?_)
    · refine lv_iconst (v := -1) hx hb dX8_as_49 (by decide) ?_
      exact hret _ () _ _ _ _ h (by rw [hk_38]; first | rw [if_pos c_42] | rw [if_neg c_42]) dX8_as_50
    · refine lv_iload_n hx hb dX8_as_45 rfl (lv_at hl 1 rfl) ?_
      refine lv_goto (tgt := 50) hx hb dX8_as_46 (by decide) ?_
      exact hret _ () _ _ _ _ h (by rw [hk_38]; first | rw [if_pos c_42] | rw [if_neg c_42]) dX8_as_50
set_option maxHeartbeats 1000000 in
set_option maxRecDepth 100000 in
theorem kX8_question (l : Launch) (D : va_G) (ct : Nat → ClassId) (ad : Nat → Nat → Nat) (σ lm : Nat → Nat → Nat → Int32) (τ : Nat → Int64) (n : Nat) (kd : Nat → Nat) (hok : ROK (σ 2) n kd) (q x : Nat) (hq : q < 3) (hx5 : x ≤ 5) (hn0 : 0 < n) : MI l yX8_question (gWs yX8_question cX8_question 3 (some .int)) rmX8_question D ct gNo [.ref (ad 0 0), .int (nI q), .int (nI x)] (wX ad ct σ lm τ) (fun _ : Unit => (wX ad ct σ lm τ)) (fun r _ => r = qnX (σ 3) (lm 3) n kd q x) := by
  refine MI.ofI RX8 rfl (by decide) (Nat.le_of_ble_eq_true rfl) ?_
  intro zp ze zs zm za zb zt zc zA ls zQ C h hX hl hret
  have hx := C.1
  have hb := C.2.1
  have hl : lv_has ls 3 [(0, .ref (ad 0 0)), (1, .int (nI q)), (2, .int (nI x))] := hl
  have hok0 := hok
  obtain ⟨hn, hn8, hkd⟩ := hok0
  refine lv_aload_n hx hb dX8_question_0 rfl (lv_at hl 0 rfl) ?_
  refine lv_iload_n hx hb dX8_question_1 rfl (lv_at hl 1 rfl) ?_
  refine gcallVi C h trivial gNo_ok (kX8_isQuestion l D ct ad σ lm τ n kd hok (nI q)) (cwV 1 C.2.2.2.2 (gInV q492 q494 q6 q57 q495) rfl rfl rfl hvX8_isQuestion ⟨Nat.le_of_ble_eq_true rfl, Nat.le_of_ble_eq_true rfl⟩) 0 rfl rfl rfl rfl hl.1 rfl (Nat.le_of_ble_eq_true rfl) dX8_question_2 ⟨Nat.zero_le _, Nat.zero_le _⟩ (fun r9 u9 H ll hw h => ?_)
  have hw : r9 = (if 0 < n ∧ 0 ≤ (nI q) ∧ (nI q) < 3 then 1 else 0) := hw
  subst hw
  have h : gW D ct zA zs _ _ (wX ad ct σ lm τ) := h
  refine bz_ne hx hb (0 < n ∧ 0 ≤ (nI q) ∧ (nI q) < 3) (tgt := 11) dX8_question_5 (by decide) (fun c_5 => ?_) (fun c_5 => absurd c_5 (fun q9 => q9 (isqI hn0 hq)))
  refine lv_iload_n hx hb dX8_question_11 rfl (lv_at hl 2 rfl) ?_
  rcases (show x = 0 ∨ x = 1 ∨ x = 2 ∨ x = 3 ∨ x = 4 ∨ x = 5 by omega) with hk_12 | hk_12 | hk_12 | hk_12 | hk_12 | hk_12
  · refine gas (show nI x = nI 0 by rw [hk_12]) ?_
    refine lv_tableIn (tgt := 52) (off := 40) hx hb dX8_question_12 (by decide) (by decide) (by decide) (by decide) ?_
    refine lv_sipush (v := 200) hx hb dX8_question_52 (by decide) ?_
    refine lv_aload_n hx hb dX8_question_55 rfl (lv_at hl 0 rfl) ?_
    refine gget C h igX8 0 rfl rfl 1 (by decide) q202 rfl rfl dX8_question_56 ?_
    refine lv_aload_n hx hb dX8_question_59 rfl (lv_at hl 0 rfl) ?_
    refine gget C h igX8 0 rfl rfl 2 (by decide) q203 rfl rfl dX8_question_60 ?_
    refine lv_iload_n hx hb dX8_question_63 rfl (lv_at hl 1 rfl) ?_
    refine gFi C h trivial gNo_ok (kX5_sumOf l D ct (ad 2) (ad 3) (σ 2) (σ 3) (lm 3) n kd hok q (by omega)) (cwV 2 C.2.2.2.2 (gInV q428 q429 q430 q59 q431) rfl rfl rfl hvX5_sumOf ⟨Nat.le_of_ble_eq_true rfl, Nat.le_of_ble_eq_true rfl⟩) 3 rfl rfl rfl (fr_X_RS3 ad ct _ _ _) rfl hl.1 rfl (Nat.le_of_ble_eq_true rfl) dX8_question_64 ⟨Nat.zero_le _, Nat.zero_le _⟩ (fun r9 u9 H ll hw h => ?_)
    have hw : r9 = smX (σ 3) (lm 3) n kd q := hw
    subst hw
    have h : gW D ct zA zs _ _ (wX ad ct σ lm τ) := h
    refine lv_iadd hx hb dX8_question_67 ?_
    exact hret _ () _ _ _ _ h (by rw [hk_12]; rfl) dX8_question_68
  · refine gas (show nI x = nI 1 by rw [hk_12]) ?_
    refine lv_tableIn (tgt := 69) (off := 57) hx hb dX8_question_12 (by decide) (by decide) (by decide) (by decide) ?_
    refine lv_aload_n hx hb dX8_question_69 rfl (lv_at hl 0 rfl) ?_
    refine gget C h igX8 0 rfl rfl 1 (by decide) q202 rfl rfl dX8_question_70 ?_
    refine lv_aload_n hx hb dX8_question_73 rfl (lv_at hl 0 rfl) ?_
    refine gget C h igX8 0 rfl rfl 2 (by decide) q203 rfl rfl dX8_question_74 ?_
    refine lv_iload_n hx hb dX8_question_77 rfl (lv_at hl 1 rfl) ?_
    refine gFi C h trivial gNo_ok (kX5_sumOf l D ct (ad 2) (ad 3) (σ 2) (σ 3) (lm 3) n kd hok q (by omega)) (cwV 2 C.2.2.2.2 (gInV q428 q429 q430 q59 q431) rfl rfl rfl hvX5_sumOf ⟨Nat.le_of_ble_eq_true rfl, Nat.le_of_ble_eq_true rfl⟩) 3 rfl rfl rfl (fr_X_RS3 ad ct _ _ _) rfl hl.1 rfl (Nat.le_of_ble_eq_true rfl) dX8_question_78 ⟨Nat.zero_le _, Nat.zero_le _⟩ (fun r9 u9 H ll hw h => ?_)
    have hw : r9 = smX (σ 3) (lm 3) n kd q := hw
    subst hw
    have h : gW D ct zA zs _ _ (wX ad ct σ lm τ) := h
    refine gcallSi C h (kX8_outcomeOf l D ct (smX (σ 3) (lm 3) n kd q)) (va_cwS 1 C.2.2.2.2 (gInS q496 q497 q57 q498) rfl rfl rfl hdX8_outcomeOf ⟨Nat.le_of_ble_eq_true rfl, Nat.le_of_ble_eq_true rfl⟩) rfl hl.1 rfl (Nat.le_of_ble_eq_true rfl) dX8_question_81 ⟨Nat.zero_le _, Nat.zero_le _⟩ (fun H ll h => ?_)
    exact hret _ () _ _ _ _ h (by rw [hk_12]; rfl) dX8_question_84
  · refine gas (show nI x = nI 2 by rw [hk_12]) ?_
    refine lv_tableIn (tgt := 85) (off := 73) hx hb dX8_question_12 (by decide) (by decide) (by decide) (by decide) ?_
    refine lv_aload_n hx hb dX8_question_85 rfl (lv_at hl 0 rfl) ?_
    refine gget C h igX8 0 rfl rfl 2 (by decide) q203 rfl rfl dX8_question_86 ?_
    refine gget C h igX6 11 rfl rfl 3 (by decide) q170 rfl rfl dX8_question_89 ?_
    refine lv_iload_n hx hb dX8_question_92 rfl (lv_at hl 1 rfl) ?_
    refine gild C h 18 rfl (j := q) (by omega) (by decide) dX8_question_93 ?_
    refine gas (z := σ 3 7 q) rfl ?_
    exact hret _ () _ _ _ _ h (by rw [hk_12]; rfl) dX8_question_94
  · refine gas (show nI x = nI 3 by rw [hk_12]) ?_
    refine lv_tableIn (tgt := 95) (off := 83) hx hb dX8_question_12 (by decide) (by decide) (by decide) (by decide) ?_
    refine lv_aload_n hx hb dX8_question_95 rfl (lv_at hl 0 rfl) ?_
    refine gget C h igX8 0 rfl rfl 2 (by decide) q203 rfl rfl dX8_question_96 ?_
    refine gget C h igX6 11 rfl rfl 4 (by decide) q172 rfl rfl dX8_question_99 ?_
    refine lv_iload_n hx hb dX8_question_102 rfl (lv_at hl 1 rfl) ?_
    refine gild C h 19 rfl (j := q) (by omega) (by decide) dX8_question_103 ?_
    refine gas (z := σ 3 8 q) rfl ?_
    exact hret _ () _ _ _ _ h (by rw [hk_12]; rfl) dX8_question_104
  · refine gas (show nI x = nI 4 by rw [hk_12]) ?_
    refine lv_tableIn (tgt := 105) (off := 93) hx hb dX8_question_12 (by decide) (by decide) (by decide) (by decide) ?_
    refine lv_aload_n hx hb dX8_question_105 rfl (lv_at hl 0 rfl) ?_
    refine lv_iload_n hx hb dX8_question_106 rfl (lv_at hl 1 rfl) ?_
    refine lv_iconst (v := 1) hx hb dX8_question_107 (by decide) ?_
    refine gcallVi C h trivial gNo_ok (kX8_howManyLean l D ct ad σ lm τ n kd hok q 1 (by omega)) (cwV 2 C.2.2.2.2 (gInV q499 q501 q7 q57 q502) rfl rfl rfl hvX8_howManyLean ⟨Nat.le_of_ble_eq_true rfl, Nat.le_of_ble_eq_true rfl⟩) 0 rfl rfl rfl rfl hl.1 rfl (Nat.le_of_ble_eq_true rfl) dX8_question_108 ⟨Nat.zero_le _, Nat.zero_le _⟩ (fun r9 u9 H ll hw h => ?_)
    have hw : r9 = nI (cntTo (fun m => lm 3 q m = 1) n) := hw
    subst hw
    have h : gW D ct zA zs _ _ (wX ad ct σ lm τ) := h
    exact hret _ () _ _ _ _ h (by rw [hk_12]; rfl) dX8_question_111
  · refine gas (show nI x = nI 5 by rw [hk_12]) ?_
    refine lv_tableIn (tgt := 112) (off := 100) hx hb dX8_question_12 (by decide) (by decide) (by decide) (by decide) ?_
    refine lv_aload_n hx hb dX8_question_112 rfl (lv_at hl 0 rfl) ?_
    refine lv_iload_n hx hb dX8_question_113 rfl (lv_at hl 1 rfl) ?_
    refine lv_iconst (v := -1) hx hb dX8_question_114 (by decide) ?_
    refine gcallVi C h trivial gNo_ok (kX8_howManyLean l D ct ad σ lm τ n kd hok q (-1) (by omega)) (cwV 2 C.2.2.2.2 (gInV q499 q501 q7 q57 q502) rfl rfl rfl hvX8_howManyLean ⟨Nat.le_of_ble_eq_true rfl, Nat.le_of_ble_eq_true rfl⟩) 0 rfl rfl rfl rfl hl.1 rfl (Nat.le_of_ble_eq_true rfl) dX8_question_115 ⟨Nat.zero_le _, Nat.zero_le _⟩ (fun r9 u9 H ll hw h => ?_)
    have hw : r9 = nI (cntTo (fun m => lm 3 q m = (-1)) n) := hw
    subst hw
    have h : gW D ct zA zs _ _ (wX ad ct σ lm τ) := h
    exact hret _ () _ _ _ _ h (by rw [hk_12]; rfl) dX8_question_118
set_option maxHeartbeats 1000000 in
set_option maxRecDepth 100000 in
theorem kX8_ask (l : Launch) (D : va_G) (ct : Nat → ClassId) (ad : Nat → Nat → Nat) (σ lm : Nat → Nat → Nat → Int32) (τ : Nat → Int64) (n : Nat) (kd : Nat → Nat) (hok : ROK (σ 2) n kd) (q : Nat) (hq : q < 3) (hn0 : 0 < n) (ha : σ 3 7 q < 99) : MI l yX8_ask (gWs yX8_ask cX8_ask 3 (some .int)) rmX8_ask D ct gNo [.ref (ad 0 0), .int (nI q)] (wX ad ct σ lm τ) (fun u : (Nat → Nat → Nat → Int32) × (Nat → Nat → Nat → Int32) × (Nat → Int64) => wX ad ct u.1 u.2.1 u.2.2) (fun r u => r = (if sgn (smX (σ 3) (lm 3) n kd q) < 0 then 2 else sgn (smX (σ 3) (lm 3) n kd q)) ∧ ∃ (g3_8 : Nat → Int32), (∀ j, g3_8 j = if j = q ∧ 0 < sgn (smX (σ 3) (lm 3) n kd q) then σ 3 8 q + 1 else σ 3 8 j) ∧ u = (va_up σ 3 (va_up (va_up (σ 3) 7 (upd (σ 3 7) q (σ 3 7 q + 1))) 8 g3_8), lm, τ)) := by
  refine MI.ofI RX8 rfl (by decide) (Nat.le_of_ble_eq_true rfl) ?_
  intro zp ze zs zm za zb zt zc zA ls zQ C h hX hl hret
  have hx := C.1
  have hb := C.2.1
  have hl : lv_has ls 3 [(0, .ref (ad 0 0)), (1, .int (nI q))] := hl
  have hok0 := hok
  obtain ⟨hn, hn8, hkd⟩ := hok0
  refine lv_aload_n hx hb dX8_ask_0 rfl (lv_at hl 0 rfl) ?_
  refine lv_iload_n hx hb dX8_ask_1 rfl (lv_at hl 1 rfl) ?_
  refine gcallVi C h trivial gNo_ok (kX8_isQuestion l D ct ad σ lm τ n kd hok (nI q)) (cwV 1 C.2.2.2.2 (gInV q492 q494 q6 q57 q495) rfl rfl rfl hvX8_isQuestion ⟨Nat.le_of_ble_eq_true rfl, Nat.le_of_ble_eq_true rfl⟩) 0 rfl rfl rfl rfl hl.1 rfl (Nat.le_of_ble_eq_true rfl) dX8_ask_2 ⟨Nat.zero_le _, Nat.zero_le _⟩ (fun r9 u9 H ll hw h => ?_)
  have hw : r9 = (if 0 < n ∧ 0 ≤ (nI q) ∧ (nI q) < 3 then 1 else 0) := hw
  subst hw
  have h : gW D ct zA zs _ _ (wX ad ct σ lm τ) := h
  refine bz_ne hx hb (0 < n ∧ 0 ≤ (nI q) ∧ (nI q) < 3) (tgt := 11) dX8_ask_5 (by decide) (fun c_5 => ?_) (fun c_5 => absurd c_5 (fun q9 => q9 (isqI hn0 hq)))
  refine lv_aload_n hx hb dX8_ask_11 rfl (lv_at hl 0 rfl) ?_
  refine gget C h igX8 0 rfl rfl 2 (by decide) q203 rfl rfl dX8_ask_12 ?_
  refine gget C h igX6 11 rfl rfl 3 (by decide) q170 rfl rfl dX8_ask_15 ?_
  refine lv_iload_n hx hb dX8_ask_18 rfl (lv_at hl 1 rfl) ?_
  refine gild C h 18 rfl (j := q) (by omega) (by decide) dX8_ask_19 ?_
  refine gas (z := σ 3 7 q) rfl ?_
  refine lv_bipush (v := 99) hx hb dX8_ask_20 (by decide) ?_
  refine lv_icmp_lt (tgt := 28) hx hb dX8_ask_22 (by decide) (fun c_22 => ?_) (fun c_22 => absurd c_22 (fun q9 => q9 ha))
  refine lv_aload_n hx hb dX8_ask_28 rfl (lv_at hl 0 rfl) ?_
  refine gget C h igX8 0 rfl rfl 1 (by decide) q202 rfl rfl dX8_ask_29 ?_
  refine lv_aload_n hx hb dX8_ask_32 rfl (lv_at hl 0 rfl) ?_
  refine gget C h igX8 0 rfl rfl 2 (by decide) q203 rfl rfl dX8_ask_33 ?_
  refine lv_iload_n hx hb dX8_ask_36 rfl (lv_at hl 1 rfl) ?_
  refine gFi C h trivial gNo_ok (kX5_sumOf l D ct (ad 2) (ad 3) (σ 2) (σ 3) (lm 3) n kd hok q (by omega)) (cwV 2 C.2.2.2.2 (gInV q428 q429 q430 q59 q431) rfl rfl rfl hvX5_sumOf ⟨Nat.le_of_ble_eq_true rfl, Nat.le_of_ble_eq_true rfl⟩) 3 rfl rfl rfl (fr_X_RS3 ad ct _ _ _) rfl hl.1 rfl (Nat.le_of_ble_eq_true rfl) dX8_ask_37 ⟨Nat.zero_le _, Nat.zero_le _⟩ (fun r9 u9 H ll hw h => ?_)
  have hw : r9 = smX (σ 3) (lm 3) n kd q := hw
  subst hw
  have h : gW D ct zA zs _ _ (wX ad ct σ lm τ) := h
  refine gcallSi C h (kX8_outcomeOf l D ct (smX (σ 3) (lm 3) n kd q)) (va_cwS 1 C.2.2.2.2 (gInS q496 q497 q57 q498) rfl rfl rfl hdX8_outcomeOf ⟨Nat.le_of_ble_eq_true rfl, Nat.le_of_ble_eq_true rfl⟩) rfl hl.1 rfl (Nat.le_of_ble_eq_true rfl) dX8_ask_40 ⟨Nat.zero_le _, Nat.zero_le _⟩ (fun H ll h => ?_)
  refine lv_istore_n (lv' := [(2, .int (sgn (smX (σ 3) (lm 3) n kd q))), (0, .ref (ad 0 0)), (1, .int (nI q))]) hx hb dX8_ask_43 rfl hl (by decide) rfl (fun ls hl => ?_)
  refine lv_aload_n hx hb dX8_ask_44 rfl (lv_at hl 1 rfl) ?_
  refine gget C h igX8 0 rfl rfl 2 (by decide) q203 rfl rfl dX8_ask_45 ?_
  refine gget C h igX6 11 rfl rfl 3 (by decide) q170 rfl rfl dX8_ask_48 ?_
  refine lv_iload_n hx hb dX8_ask_51 rfl (lv_at hl 2 rfl) ?_
  refine lv_dup2_11 hx hb dX8_ask_52 rfl rfl ?_
  refine gild C h 18 rfl (j := q) (by omega) (by decide) dX8_ask_53 ?_
  refine gas (z := σ 3 7 q) rfl ?_
  refine lv_iconst (v := 1) hx hb dX8_ask_54 (by decide) ?_
  refine lv_iadd hx hb dX8_ask_55 ?_
  refine gist C h 18 rfl (j := q) (by omega) (by decide) dX8_ask_56 (fun H ll h => ?_)
  have h : gW D ct zA zs _ _ (wX ad ct (va_up σ 3 (va_up (σ 3) 7 (upd (σ 3 7) q ((σ 3 7 q) + 1)))) lm τ) := h
  refine lv_iload_n hx hb dX8_ask_57 rfl (lv_at hl 0 rfl) ?_
  refine lv_if_le (tgt := 74) hx hb dX8_ask_58 (by decide) (fun c_58 => ?_) (fun c_58 => ?_)
  · refine lv_iload_n hx hb dX8_ask_74 rfl (lv_at hl 0 rfl) ?_
    refine lv_if_ge (tgt := 82) hx hb dX8_ask_75 (by decide) (fun c_75 => ?_) (fun c_75 => ?_)
    · refine lv_iload_n hx hb dX8_ask_82 rfl (lv_at hl 0 rfl) ?_
      have h : gW D ct zA zs _ _ ((fun u : (Nat → Nat → Nat → Int32) × (Nat → Nat → Nat → Int32) × (Nat → Int64) => wX ad ct u.1 u.2.1 u.2.2) ((va_up σ 3 (va_up (va_up (σ 3) 7 (upd (σ 3 7) q (σ 3 7 q + 1))) 8 (σ 3 8)), lm, τ))) := h
      exact hret _ ((va_up σ 3 (va_up (va_up (σ 3) 7 (upd (σ 3 7) q (σ 3 7 q + 1))) 8 (σ 3 8)), lm, τ)) _ _ _ _ h ⟨(by first | rw [if_pos (Int32.not_le.mp c_75)] | rw [if_neg (Int32.not_lt.mpr c_75)]), (σ 3 8), (fun j => by rw [if_neg (fun q9 => Int32.not_lt.mpr c_58 q9.2)]), rfl⟩ dX8_ask_83
    · refine lv_iconst (v := 2) hx hb dX8_ask_78 (by decide) ?_
      refine lv_goto (tgt := 83) hx hb dX8_ask_79 (by decide) ?_
      have h : gW D ct zA zs _ _ ((fun u : (Nat → Nat → Nat → Int32) × (Nat → Nat → Nat → Int32) × (Nat → Int64) => wX ad ct u.1 u.2.1 u.2.2) ((va_up σ 3 (va_up (va_up (σ 3) 7 (upd (σ 3 7) q (σ 3 7 q + 1))) 8 (σ 3 8)), lm, τ))) := h
      exact hret _ ((va_up σ 3 (va_up (va_up (σ 3) 7 (upd (σ 3 7) q (σ 3 7 q + 1))) 8 (σ 3 8)), lm, τ)) _ _ _ _ h ⟨(by first | rw [if_pos (Int32.not_le.mp c_75)] | rw [if_neg (Int32.not_lt.mpr c_75)]), (σ 3 8), (fun j => by rw [if_neg (fun q9 => Int32.not_lt.mpr c_58 q9.2)]), rfl⟩ dX8_ask_83
  · refine lv_aload_n hx hb dX8_ask_61 rfl (lv_at hl 1 rfl) ?_
    refine gget C h igX8 0 rfl rfl 2 (by decide) q203 rfl rfl dX8_ask_62 ?_
    refine gget C h igX6 11 rfl rfl 4 (by decide) q172 rfl rfl dX8_ask_65 ?_
    refine lv_iload_n hx hb dX8_ask_68 rfl (lv_at hl 2 rfl) ?_
    refine lv_dup2_11 hx hb dX8_ask_69 rfl rfl ?_
    refine gild C h 19 rfl (j := q) (by omega) (by decide) dX8_ask_70 ?_
    refine gas (z := σ 3 8 q) rfl ?_
    refine lv_iconst (v := 1) hx hb dX8_ask_71 (by decide) ?_
    refine lv_iadd hx hb dX8_ask_72 ?_
    refine gist C h 19 rfl (j := q) (by omega) (by decide) dX8_ask_73 (fun H ll h => ?_)
    have h : gW D ct zA zs _ _ (wX ad ct (va_up σ 3 (va_up (va_up (σ 3) 7 (upd (σ 3 7) q ((σ 3 7 q) + 1))) 8 (upd (σ 3 8) q ((σ 3 8 q) + 1)))) lm τ) := h
    refine lv_iload_n hx hb dX8_ask_74 rfl (lv_at hl 0 rfl) ?_
    refine lv_if_ge (tgt := 82) hx hb dX8_ask_75 (by decide) (fun c_75 => ?_) (fun c_75 => ?_)
    · refine lv_iload_n hx hb dX8_ask_82 rfl (lv_at hl 0 rfl) ?_
      have h : gW D ct zA zs _ _ ((fun u : (Nat → Nat → Nat → Int32) × (Nat → Nat → Nat → Int32) × (Nat → Int64) => wX ad ct u.1 u.2.1 u.2.2) ((va_up σ 3 (va_up (va_up (σ 3) 7 (upd (σ 3 7) q (σ 3 7 q + 1))) 8 (upd (σ 3 8) q ((σ 3 8 q) + 1))), lm, τ))) := h
      exact hret _ ((va_up σ 3 (va_up (va_up (σ 3) 7 (upd (σ 3 7) q (σ 3 7 q + 1))) 8 (upd (σ 3 8) q ((σ 3 8 q) + 1))), lm, τ)) _ _ _ _ h ⟨(by first | rw [if_pos (Int32.not_le.mp c_75)] | rw [if_neg (Int32.not_lt.mpr c_75)]), (upd (σ 3 8) q ((σ 3 8 q) + 1)), (fun j => by by_cases e9 : j = q; (subst e9; rw [pk_us, if_pos ⟨rfl, Int32.not_le.mp c_58⟩]); (rw [pk_un e9, if_neg (fun q9 => e9 q9.1)])), rfl⟩ dX8_ask_83
    · refine lv_iconst (v := 2) hx hb dX8_ask_78 (by decide) ?_
      refine lv_goto (tgt := 83) hx hb dX8_ask_79 (by decide) ?_
      have h : gW D ct zA zs _ _ ((fun u : (Nat → Nat → Nat → Int32) × (Nat → Nat → Nat → Int32) × (Nat → Int64) => wX ad ct u.1 u.2.1 u.2.2) ((va_up σ 3 (va_up (va_up (σ 3) 7 (upd (σ 3 7) q (σ 3 7 q + 1))) 8 (upd (σ 3 8) q ((σ 3 8 q) + 1))), lm, τ))) := h
      exact hret _ ((va_up σ 3 (va_up (va_up (σ 3) 7 (upd (σ 3 7) q (σ 3 7 q + 1))) 8 (upd (σ 3 8) q ((σ 3 8 q) + 1))), lm, τ)) _ _ _ _ h ⟨(by first | rw [if_pos (Int32.not_le.mp c_75)] | rw [if_neg (Int32.not_lt.mpr c_75)]), (upd (σ 3 8) q ((σ 3 8 q) + 1)), (fun j => by by_cases e9 : j = q; (subst e9; rw [pk_us, if_pos ⟨rfl, Int32.not_le.mp c_58⟩]); (rw [pk_un e9, if_neg (fun q9 => e9 q9.1)])), rfl⟩ dX8_ask_83
set_option maxHeartbeats 1000000 in
set_option maxRecDepth 100000 in
theorem kX8_tide (l : Launch) (D : va_G) (ct : Nat → ClassId) (ad : Nat → Nat → Nat) (σ lm : Nat → Nat → Nat → Int32) (τ : Nat → Int64) (dt : Nat → Nat) (n : Nat) (kd : Nat → Nat) (hok : ROK (σ 2) n kd) (hn0 : 0 < n) (ht : σ 3 12 0 < 999) : MI l yX8_tide (gWs yX8_tide cX8_tide 1 (some .int)) rmX8_tide D ct (stX dt) [.ref (ad 0 0)] (wX ad ct σ lm τ) (fun u : (Nat → Nat → Nat → Int32) × (Nat → Nat → Nat → Int32) × (Nat → Int64) => wX ad ct u.1 u.2.1 u.2.2) (fun r u => r = σ 3 12 0 + 1 ∧ u = (va_up σ 3 (va_up (σ 3) 12 (fun _ => σ 3 12 0 + 1)), va_up lm 3 (dfX (σ 3) (lm 3) n kd), τ)) := by
  refine MI.ofI RX8 rfl (by decide) (Nat.le_of_ble_eq_true rfl) ?_
  intro zp ze zs zm za zb zt zc zA ls zQ C h hX hl hret
  have hx := C.1
  have hb := C.2.1
  have hl : lv_has ls 1 [(0, .ref (ad 0 0))] := hl
  have hok0 := hok
  obtain ⟨hn, hn8, hkd⟩ := hok0
  refine lv_aload_n hx hb dX8_tide_0 rfl (lv_at hl 0 rfl) ?_
  refine gget C h igX8 0 rfl rfl 1 (by decide) q202 rfl rfl dX8_tide_1 ?_
  refine gget C h igX5 3 rfl rfl 2 (by decide) q144 rfl rfl dX8_tide_4 ?_
  refine gas hn ?_
  refine nz_ne hx hb n (by omega) (tgt := 13) dX8_tide_7 (by decide) (fun c_7 => ?_) (fun c_7 => absurd c_7 (by omega))
  refine lv_aload_n hx hb dX8_tide_13 rfl (lv_at hl 0 rfl) ?_
  refine gget C h igX8 0 rfl rfl 2 (by decide) q203 rfl rfl dX8_tide_14 ?_
  refine gget C h igX6 11 rfl rfl 9 (by decide) q179 rfl rfl dX8_tide_17 ?_
  refine lv_sipush (v := 999) hx hb dX8_tide_20 (by decide) ?_
  refine lv_icmp_lt (tgt := 29) hx hb dX8_tide_23 (by decide) (fun c_23 => ?_) (fun c_23 => absurd c_23 (fun q9 => q9 ht))
  refine lv_aload_n hx hb dX8_tide_29 rfl (lv_at hl 0 rfl) ?_
  refine gget C h igX8 0 rfl rfl 1 (by decide) q202 rfl rfl dX8_tide_30 ?_
  refine lv_aload_n hx hb dX8_tide_33 rfl (lv_at hl 0 rfl) ?_
  refine gget C h igX8 0 rfl rfl 2 (by decide) q203 rfl rfl dX8_tide_34 ?_
  refine gFv C h hX (stX_ok _) (kX5_drift l D ct (ad 2) (ad 3) (σ 2) (σ 3) (lm 3) dt n kd hok) (cwV 1 C.2.2.2.2 (gInV q511 q512 q513 q59 q514) rfl rfl rfl hvX5_drift ⟨Nat.le_of_ble_eq_true rfl, Nat.le_of_ble_eq_true rfl⟩) 3 rfl rfl rfl (fr_X_RS3m ad ct _ _ _) rfl hl.1 rfl (Nat.le_of_ble_eq_true rfl) dX8_tide_37 ⟨Nat.zero_le _, Nat.zero_le _⟩ (fun u9 H ll hw h => ?_)
  subst hw
  have h : gW D ct zA zs _ _ (wX ad ct σ (va_up lm 3 (dfX (σ 3) (lm 3) n kd)) τ) := h
  refine lv_aload_n hx hb dX8_tide_40 rfl (lv_at hl 0 rfl) ?_
  refine gget C h igX8 0 rfl rfl 2 (by decide) q203 rfl rfl dX8_tide_41 ?_
  refine lv_dup hx hb dX8_tide_44 rfl ?_
  refine gget C h igX6 11 rfl rfl 9 (by decide) q179 rfl rfl dX8_tide_45 ?_
  refine lv_iconst (v := 1) hx hb dX8_tide_48 (by decide) ?_
  refine lv_iadd hx hb dX8_tide_49 ?_
  refine gput C h igX6 tyX6 tyX6_ok nmX6 11 rfl rfl 9 (by decide) q179 rfl rfl (ty := .int) (by decide +kernel) rfl rfl (Nat.le_of_ble_eq_true rfl) dX8_tide_50 (fun H ll h => ?_)
  have h : gW D ct zA zs _ _ (wX ad ct (va_up σ 3 (va_up (σ 3) 12 (fun _ => (σ 3 12 0) + 1))) (va_up lm 3 (dfX (σ 3) (lm 3) n kd)) τ) := h
  refine lv_aload_n hx hb dX8_tide_53 rfl (lv_at hl 0 rfl) ?_
  refine gget C h igX8 0 rfl rfl 2 (by decide) q203 rfl rfl dX8_tide_54 ?_
  refine gget C h igX6 11 rfl rfl 9 (by decide) q179 rfl rfl dX8_tide_57 ?_
  have h : gW D ct zA zs _ _ ((fun u : (Nat → Nat → Nat → Int32) × (Nat → Nat → Nat → Int32) × (Nat → Int64) => wX ad ct u.1 u.2.1 u.2.2) ((va_up σ 3 (va_up (σ 3) 12 (fun _ => σ 3 12 0 + 1)), va_up lm 3 (dfX (σ 3) (lm 3) n kd), τ))) := h
  exact hret _ ((va_up σ 3 (va_up (σ 3) 12 (fun _ => σ 3 12 0 + 1)), va_up lm 3 (dfX (σ 3) (lm 3) n kd), τ)) _ _ _ _ h ⟨rfl, rfl⟩ dX8_tide_60
set_option maxHeartbeats 1000000 in
set_option maxRecDepth 100000 in
theorem kX8_cut (l : Launch) (D : va_G) (ct : Nat → ClassId) (ad : Nat → Nat → Nat) (σ lm : Nat → Nat → Nat → Int32) (τ : Nat → Int64) (n : Nat) (kd : Nat → Nat) (hok : ROK (σ 2) n kd) (m : Nat) (hm : m < n) (hc : ¬ σ 3 6 m = 1) : MI l yX8_cut (gWs yX8_cut cX8_cut 2 (some .int)) rmX8_cut D ct gNo [.ref (ad 0 0), .int (nI m)] (wX ad ct σ lm τ) (fun u : (Nat → Nat → Nat → Int32) × (Nat → Nat → Nat → Int32) × (Nat → Int64) => wX ad ct u.1 u.2.1 u.2.2) (fun r u => r = nI (ffe (cuX (va_up (σ 3) 6 (upd (σ 3 6) m 1))) n 0) ∧ u = (va_up σ 3 (va_up (σ 3) 6 (upd (σ 3 6) m 1)), lm, τ)) := by
  refine MI.ofI RX8 rfl (by decide) (Nat.le_of_ble_eq_true rfl) ?_
  intro zp ze zs zm za zb zt zc zA ls zQ C h hX hl hret
  have hx := C.1
  have hb := C.2.1
  have hl : lv_has ls 2 [(0, .ref (ad 0 0)), (1, .int (nI m))] := hl
  have hok0 := hok
  obtain ⟨hn, hn8, hkd⟩ := hok0
  refine lv_aload_n hx hb dX8_cut_0 rfl (lv_at hl 0 rfl) ?_
  refine gget C h igX8 0 rfl rfl 1 (by decide) q202 rfl rfl dX8_cut_1 ?_
  refine lv_iload_n hx hb dX8_cut_4 rfl (lv_at hl 1 rfl) ?_
  refine gFi C h trivial gNo_ok (kX5_has l D ct (ad 2) (σ 2) n hn hn8 (nI m)) (cwV 1 C.2.2.2.2 (gInV q380 q381 q382 q59 q383) rfl rfl rfl hvX5_has ⟨Nat.le_of_ble_eq_true rfl, Nat.le_of_ble_eq_true rfl⟩) 3 rfl rfl rfl (fr_X_R ad ct _ _ _) rfl hl.1 rfl (Nat.le_of_ble_eq_true rfl) dX8_cut_5 ⟨Nat.zero_le _, Nat.zero_le _⟩ (fun r9 u9 H ll hw h => ?_)
  have hw : r9 = (if 0 ≤ (nI m) ∧ (nI m) < nI n then 1 else 0) := hw
  subst hw
  have h : gW D ct zA zs _ _ (wX ad ct σ lm τ) := h
  refine bz_ne hx hb (0 ≤ (nI m) ∧ (nI m) < nI n) (tgt := 14) dX8_cut_8 (by decide) (fun c_8 => ?_) (fun c_8 => absurd c_8 (fun q9 => q9 (hasI hm hn8)))
  refine lv_aload_n hx hb dX8_cut_14 rfl (lv_at hl 0 rfl) ?_
  refine gget C h igX8 0 rfl rfl 2 (by decide) q203 rfl rfl dX8_cut_15 ?_
  refine gget C h igX6 11 rfl rfl 2 (by decide) q168 rfl rfl dX8_cut_18 ?_
  refine lv_iload_n hx hb dX8_cut_21 rfl (lv_at hl 1 rfl) ?_
  refine gild C h 17 rfl (j := m) (by omega) (by decide) dX8_cut_22 ?_
  refine gas (z := σ 3 6 m) rfl ?_
  refine lv_iconst (v := 1) hx hb dX8_cut_23 (by decide) ?_
  refine lv_icmp_ne (tgt := 30) hx hb dX8_cut_24 (by decide) (fun c_24 => ?_) (fun c_24 => absurd c_24 hc)
  refine lv_aload_n hx hb dX8_cut_30 rfl (lv_at hl 0 rfl) ?_
  refine gget C h igX8 0 rfl rfl 2 (by decide) q203 rfl rfl dX8_cut_31 ?_
  refine gget C h igX6 11 rfl rfl 2 (by decide) q168 rfl rfl dX8_cut_34 ?_
  refine lv_iload_n hx hb dX8_cut_37 rfl (lv_at hl 1 rfl) ?_
  refine lv_iconst (v := 1) hx hb dX8_cut_38 (by decide) ?_
  refine gist C h 17 rfl (j := m) (by omega) (by decide) dX8_cut_39 (fun H ll h => ?_)
  have h : gW D ct zA zs _ _ (wX ad ct (va_up σ 3 (va_up (σ 3) 6 (upd (σ 3 6) m 1))) lm τ) := h
  refine lv_aload_n hx hb dX8_cut_40 rfl (lv_at hl 0 rfl) ?_
  refine gget C h igX8 0 rfl rfl 1 (by decide) q202 rfl rfl dX8_cut_41 ?_
  refine lv_aload_n hx hb dX8_cut_44 rfl (lv_at hl 0 rfl) ?_
  refine gget C h igX8 0 rfl rfl 2 (by decide) q203 rfl rfl dX8_cut_45 ?_
  refine gFi C h trivial gNo_ok (kX5_feltIn l D ct (ad 2) (ad 3) (σ 2) (va_up (σ 3) 6 (upd (σ 3 6) m 1)) (lm 3) n kd hok) (cwV 1 C.2.2.2.2 (gInV q459 q433 q434 q59 q435) rfl rfl rfl hvX5_feltIn ⟨Nat.le_of_ble_eq_true rfl, Nat.le_of_ble_eq_true rfl⟩) 3 rfl rfl rfl (fr_X_RS3 ad ct _ _ _) rfl hl.1 rfl (Nat.le_of_ble_eq_true rfl) dX8_cut_48 ⟨Nat.zero_le _, Nat.zero_le _⟩ (fun r9 u9 H ll hw h => ?_)
  have hw : r9 = nI (ffe (cuX (va_up (σ 3) 6 (upd (σ 3 6) m 1))) n 0) := hw
  subst hw
  have h : gW D ct zA zs _ _ (wX ad ct (va_up σ 3 (va_up (σ 3) 6 (upd (σ 3 6) m 1))) lm τ) := h
  have h : gW D ct zA zs _ _ ((fun u : (Nat → Nat → Nat → Int32) × (Nat → Nat → Nat → Int32) × (Nat → Int64) => wX ad ct u.1 u.2.1 u.2.2) ((va_up σ 3 (va_up (σ 3) 6 (upd (σ 3 6) m 1)), lm, τ))) := h
  exact hret _ ((va_up σ 3 (va_up (σ 3) 6 (upd (σ 3 6) m 1)), lm, τ)) _ _ _ _ h ⟨rfl, rfl⟩ dX8_cut_51
set_option maxHeartbeats 1000000 in
set_option maxRecDepth 100000 in
theorem kX8_tie (l : Launch) (D : va_G) (ct : Nat → ClassId) (ad : Nat → Nat → Nat) (σ lm : Nat → Nat → Nat → Int32) (τ : Nat → Int64) (n : Nat) (kd : Nat → Nat) (hok : ROK (σ 2) n kd) (m : Nat) (hm : m < n) (hc : ¬ σ 3 6 m = 0) : MI l yX8_tie (gWs yX8_tie cX8_tie 2 (some .int)) rmX8_tie D ct gNo [.ref (ad 0 0), .int (nI m)] (wX ad ct σ lm τ) (fun u : (Nat → Nat → Nat → Int32) × (Nat → Nat → Nat → Int32) × (Nat → Int64) => wX ad ct u.1 u.2.1 u.2.2) (fun r u => r = nI (ffe (cuX (va_up (σ 3) 6 (upd (σ 3 6) m 0))) n 0) ∧ u = (va_up σ 3 (va_up (σ 3) 6 (upd (σ 3 6) m 0)), lm, τ)) := by
  refine MI.ofI RX8 rfl (by decide) (Nat.le_of_ble_eq_true rfl) ?_
  intro zp ze zs zm za zb zt zc zA ls zQ C h hX hl hret
  have hx := C.1
  have hb := C.2.1
  have hl : lv_has ls 2 [(0, .ref (ad 0 0)), (1, .int (nI m))] := hl
  have hok0 := hok
  obtain ⟨hn, hn8, hkd⟩ := hok0
  refine lv_aload_n hx hb dX8_tie_0 rfl (lv_at hl 0 rfl) ?_
  refine gget C h igX8 0 rfl rfl 1 (by decide) q202 rfl rfl dX8_tie_1 ?_
  refine lv_iload_n hx hb dX8_tie_4 rfl (lv_at hl 1 rfl) ?_
  refine gFi C h trivial gNo_ok (kX5_has l D ct (ad 2) (σ 2) n hn hn8 (nI m)) (cwV 1 C.2.2.2.2 (gInV q380 q381 q382 q59 q383) rfl rfl rfl hvX5_has ⟨Nat.le_of_ble_eq_true rfl, Nat.le_of_ble_eq_true rfl⟩) 3 rfl rfl rfl (fr_X_R ad ct _ _ _) rfl hl.1 rfl (Nat.le_of_ble_eq_true rfl) dX8_tie_5 ⟨Nat.zero_le _, Nat.zero_le _⟩ (fun r9 u9 H ll hw h => ?_)
  have hw : r9 = (if 0 ≤ (nI m) ∧ (nI m) < nI n then 1 else 0) := hw
  subst hw
  have h : gW D ct zA zs _ _ (wX ad ct σ lm τ) := h
  refine bz_ne hx hb (0 ≤ (nI m) ∧ (nI m) < nI n) (tgt := 14) dX8_tie_8 (by decide) (fun c_8 => ?_) (fun c_8 => absurd c_8 (fun q9 => q9 (hasI hm hn8)))
  refine lv_aload_n hx hb dX8_tie_14 rfl (lv_at hl 0 rfl) ?_
  refine gget C h igX8 0 rfl rfl 2 (by decide) q203 rfl rfl dX8_tie_15 ?_
  refine gget C h igX6 11 rfl rfl 2 (by decide) q168 rfl rfl dX8_tie_18 ?_
  refine lv_iload_n hx hb dX8_tie_21 rfl (lv_at hl 1 rfl) ?_
  refine gild C h 17 rfl (j := m) (by omega) (by decide) dX8_tie_22 ?_
  refine gas (z := σ 3 6 m) rfl ?_
  refine lv_if_ne (tgt := 29) hx hb dX8_tie_23 (by decide) (fun c_23 => ?_) (fun c_23 => absurd c_23 hc)
  refine lv_aload_n hx hb dX8_tie_29 rfl (lv_at hl 0 rfl) ?_
  refine gget C h igX8 0 rfl rfl 2 (by decide) q203 rfl rfl dX8_tie_30 ?_
  refine gget C h igX6 11 rfl rfl 2 (by decide) q168 rfl rfl dX8_tie_33 ?_
  refine lv_iload_n hx hb dX8_tie_36 rfl (lv_at hl 1 rfl) ?_
  refine lv_iconst (v := 0) hx hb dX8_tie_37 (by decide) ?_
  refine gist C h 17 rfl (j := m) (by omega) (by decide) dX8_tie_38 (fun H ll h => ?_)
  have h : gW D ct zA zs _ _ (wX ad ct (va_up σ 3 (va_up (σ 3) 6 (upd (σ 3 6) m 0))) lm τ) := h
  refine lv_aload_n hx hb dX8_tie_39 rfl (lv_at hl 0 rfl) ?_
  refine gget C h igX8 0 rfl rfl 1 (by decide) q202 rfl rfl dX8_tie_40 ?_
  refine lv_aload_n hx hb dX8_tie_43 rfl (lv_at hl 0 rfl) ?_
  refine gget C h igX8 0 rfl rfl 2 (by decide) q203 rfl rfl dX8_tie_44 ?_
  refine gFi C h trivial gNo_ok (kX5_feltIn l D ct (ad 2) (ad 3) (σ 2) (va_up (σ 3) 6 (upd (σ 3 6) m 0)) (lm 3) n kd hok) (cwV 1 C.2.2.2.2 (gInV q459 q433 q434 q59 q435) rfl rfl rfl hvX5_feltIn ⟨Nat.le_of_ble_eq_true rfl, Nat.le_of_ble_eq_true rfl⟩) 3 rfl rfl rfl (fr_X_RS3 ad ct _ _ _) rfl hl.1 rfl (Nat.le_of_ble_eq_true rfl) dX8_tie_47 ⟨Nat.zero_le _, Nat.zero_le _⟩ (fun r9 u9 H ll hw h => ?_)
  have hw : r9 = nI (ffe (cuX (va_up (σ 3) 6 (upd (σ 3 6) m 0))) n 0) := hw
  subst hw
  have h : gW D ct zA zs _ _ (wX ad ct (va_up σ 3 (va_up (σ 3) 6 (upd (σ 3 6) m 0))) lm τ) := h
  have h : gW D ct zA zs _ _ ((fun u : (Nat → Nat → Nat → Int32) × (Nat → Nat → Nat → Int32) × (Nat → Int64) => wX ad ct u.1 u.2.1 u.2.2) ((va_up σ 3 (va_up (σ 3) 6 (upd (σ 3 6) m 0)), lm, τ))) := h
  exact hret _ ((va_up σ 3 (va_up (σ 3) 6 (upd (σ 3 6) m 0)), lm, τ)) _ _ _ _ h ⟨rfl, rfl⟩ dX8_tie_50
set_option maxHeartbeats 1000000 in
set_option maxRecDepth 100000 in
theorem kX8_turn (l : Launch) (D : va_G) (ct : Nat → ClassId) (ad : Nat → Nat → Nat) (σ lm : Nat → Nat → Nat → Int32) (τ : Nat → Int64) (n : Nat) (kd : Nat → Nat) (hok : ROK (σ 2) n kd) (m q : Nat) (x : Int32) (hm : m < n) (hq : q < 3) (hn0 : 0 < n) (hx1 : -1 ≤ x ∧ x ≤ 1) : MI l yX8_turn (gWs yX8_turn cX8_turn 5 (some .int)) rmX8_turn D ct gNo [.ref (ad 0 0), .int (nI m), .int (nI q), .int x] (wX ad ct σ lm τ) (fun u : (Nat → Nat → Nat → Int32) × (Nat → Nat → Nat → Int32) × (Nat → Int64) => wX ad ct u.1 u.2.1 u.2.2) (fun r u => r = lm 3 q m + 1 ∧ u = (σ, va_up lm 3 (va_up (lm 3) q (upd (lm 3 q) m x)), τ)) := by
  refine MI.ofI RX8 rfl (by decide) (Nat.le_of_ble_eq_true rfl) ?_
  intro zp ze zs zm za zb zt zc zA ls zQ C h hX hl hret
  have hx := C.1
  have hb := C.2.1
  have hl : lv_has ls 5 [(0, .ref (ad 0 0)), (1, .int (nI m)), (2, .int (nI q)), (3, .int x)] := hl
  have hok0 := hok
  obtain ⟨hn, hn8, hkd⟩ := hok0
  refine lv_aload_n hx hb dX8_turn_0 rfl (lv_at hl 0 rfl) ?_
  refine gget C h igX8 0 rfl rfl 1 (by decide) q202 rfl rfl dX8_turn_1 ?_
  refine lv_iload_n hx hb dX8_turn_4 rfl (lv_at hl 1 rfl) ?_
  refine gFi C h trivial gNo_ok (kX5_has l D ct (ad 2) (σ 2) n hn hn8 (nI m)) (cwV 1 C.2.2.2.2 (gInV q380 q381 q382 q59 q383) rfl rfl rfl hvX5_has ⟨Nat.le_of_ble_eq_true rfl, Nat.le_of_ble_eq_true rfl⟩) 3 rfl rfl rfl (fr_X_R ad ct _ _ _) rfl hl.1 rfl (Nat.le_of_ble_eq_true rfl) dX8_turn_5 ⟨Nat.zero_le _, Nat.zero_le _⟩ (fun r9 u9 H ll hw h => ?_)
  have hw : r9 = (if 0 ≤ (nI m) ∧ (nI m) < nI n then 1 else 0) := hw
  subst hw
  have h : gW D ct zA zs _ _ (wX ad ct σ lm τ) := h
  refine bz_eq hx hb (0 ≤ (nI m) ∧ (nI m) < nI n) (tgt := 19) dX8_turn_8 (by decide) (fun c_8 => absurd c_8 (fun q9 => q9 (hasI hm hn8))) (fun c_8 => ?_)
  refine lv_aload_n hx hb dX8_turn_11 rfl (lv_at hl 0 rfl) ?_
  refine lv_iload_n hx hb dX8_turn_12 rfl (lv_at hl 2 rfl) ?_
  refine gcallVi C h trivial gNo_ok (kX8_isQuestion l D ct ad σ lm τ n kd hok (nI q)) (cwV 1 C.2.2.2.2 (gInV q492 q494 q6 q57 q495) rfl rfl rfl hvX8_isQuestion ⟨Nat.le_of_ble_eq_true rfl, Nat.le_of_ble_eq_true rfl⟩) 0 rfl rfl rfl rfl hl.1 rfl (Nat.le_of_ble_eq_true rfl) dX8_turn_13 ⟨Nat.zero_le _, Nat.zero_le _⟩ (fun r9 u9 H ll hw h => ?_)
  have hw : r9 = (if 0 < n ∧ 0 ≤ (nI q) ∧ (nI q) < 3 then 1 else 0) := hw
  subst hw
  have h : gW D ct zA zs _ _ (wX ad ct σ lm τ) := h
  refine bz_ne hx hb (0 < n ∧ 0 ≤ (nI q) ∧ (nI q) < 3) (tgt := 22) dX8_turn_16 (by decide) (fun c_16 => ?_) (fun c_16 => absurd c_16 (fun q9 => q9 (isqI hn0 hq)))
  refine lv_iload_n hx hb dX8_turn_22 rfl (lv_at hl 3 rfl) ?_
  refine gcallSi C h (kX8_isWay l D ct x) (va_cwS 1 C.2.2.2.2 (gInS q539 q540 q57 q541) rfl rfl rfl hdX8_isWay ⟨Nat.le_of_ble_eq_true rfl, Nat.le_of_ble_eq_true rfl⟩) rfl hl.1 rfl (Nat.le_of_ble_eq_true rfl) dX8_turn_23 ⟨Nat.zero_le _, Nat.zero_le _⟩ (fun H ll h => ?_)
  refine bz_ne hx hb (-1 ≤ x ∧ x ≤ 1) (tgt := 32) dX8_turn_26 (by decide) (fun c_26 => ?_) (fun c_26 => absurd c_26 (fun q9 => q9 hx1))
  refine lv_aload_n hx hb dX8_turn_32 rfl (lv_at hl 0 rfl) ?_
  refine gget C h igX8 0 rfl rfl 2 (by decide) q203 rfl rfl dX8_turn_33 ?_
  refine gget C h igX6 11 rfl rfl 1 (by decide) q164 rfl rfl dX8_turn_36 ?_
  refine lv_iload_n hx hb dX8_turn_39 rfl (lv_at hl 2 rfl) ?_
  refine gald C h 13 4 rfl rfl rfl (j := q) (b := ad 3 (3 + q)) (by omega) (by decide) (if_pos (by omega)) dX8_turn_40 ?_
  refine lv_iload_n hx hb dX8_turn_41 rfl (lv_at hl 1 rfl) ?_
  refine gild C h (14 + q) (wX_row3 ad ct _ _ _ (by omega)) (j := m) (by omega) (by decide) dX8_turn_42 ?_
  refine gas (z := lm 3 q m) rfl ?_
  refine lv_istore (lv' := [(4, .int (lm 3 q m)), (0, .ref (ad 0 0)), (1, .int (nI m)), (2, .int (nI q)), (3, .int x)]) hx hb dX8_turn_43 hl (by decide) rfl (fun ls hl => ?_)
  refine lv_aload_n hx hb dX8_turn_45 rfl (lv_at hl 1 rfl) ?_
  refine gget C h igX8 0 rfl rfl 2 (by decide) q203 rfl rfl dX8_turn_46 ?_
  refine gget C h igX6 11 rfl rfl 1 (by decide) q164 rfl rfl dX8_turn_49 ?_
  refine lv_iload_n hx hb dX8_turn_52 rfl (lv_at hl 3 rfl) ?_
  refine gald C h 13 4 rfl rfl rfl (j := q) (b := ad 3 (3 + q)) (by omega) (by decide) (if_pos (by omega)) dX8_turn_53 ?_
  refine lv_iload_n hx hb dX8_turn_54 rfl (lv_at hl 2 rfl) ?_
  refine lv_iload_n hx hb dX8_turn_55 rfl (lv_at hl 4 rfl) ?_
  refine gist C h (14 + q) (wX_row3 ad ct _ _ _ (by omega)) (j := m) (by omega) (by decide) dX8_turn_56 (fun H ll h => ?_)
  have h := h.to (wX_rset3 ad ct _ _ _ (by omega) _)
  have h : gW D ct zA zs _ _ (wX ad ct σ (va_up lm 3 (va_up (lm 3) q (upd ((lm 3) q) m x))) τ) := h
  refine lv_iload hx hb dX8_turn_57 (lv_at hl 0 rfl) ?_
  refine lv_iconst (v := 1) hx hb dX8_turn_59 (by decide) ?_
  refine lv_iadd hx hb dX8_turn_60 ?_
  have h : gW D ct zA zs _ _ ((fun u : (Nat → Nat → Nat → Int32) × (Nat → Nat → Nat → Int32) × (Nat → Int64) => wX ad ct u.1 u.2.1 u.2.2) ((σ, va_up lm 3 (va_up (lm 3) q (upd (lm 3 q) m x)), τ))) := h
  exact hret _ ((σ, va_up lm 3 (va_up (lm 3) q (upd (lm 3 q) m x)), τ)) _ _ _ _ h ⟨rfl, rfl⟩ dX8_turn_61
set_option maxHeartbeats 1000000 in
set_option maxRecDepth 100000 in
theorem kX8_grow (l : Launch) (D : va_G) (ct : Nat → ClassId) (ad : Nat → Nat → Nat) (σ lm : Nat → Nat → Nat → Int32) (τ : Nat → Int64) (n : Nat) (kd : Nat → Nat) (hok : ROK (σ 2) n kd) (m : Nat) (x : Int32) (hm : m < n) (hx1 : ¬ x < 1 ∧ x ≤ 9) : MI l yX8_grow (gWs yX8_grow cX8_grow 4 (some .int)) rmX8_grow D ct gNo [.ref (ad 0 0), .int (nI m), .int x] (wX ad ct σ lm τ) (fun u : (Nat → Nat → Nat → Int32) × (Nat → Nat → Nat → Int32) × (Nat → Int64) => wX ad ct u.1 u.2.1 u.2.2) (fun r u => r = σ 3 1 m ∧ u = (va_up σ 3 (va_up (σ 3) 1 (upd (σ 3 1) m x)), lm, τ)) := by
  refine MI.ofI RX8 rfl (by decide) (Nat.le_of_ble_eq_true rfl) ?_
  intro zp ze zs zm za zb zt zc zA ls zQ C h hX hl hret
  have hx := C.1
  have hb := C.2.1
  have hl : lv_has ls 4 [(0, .ref (ad 0 0)), (1, .int (nI m)), (2, .int x)] := hl
  have hok0 := hok
  obtain ⟨hn, hn8, hkd⟩ := hok0
  refine lv_aload_n hx hb dX8_grow_0 rfl (lv_at hl 0 rfl) ?_
  refine gget C h igX8 0 rfl rfl 1 (by decide) q202 rfl rfl dX8_grow_1 ?_
  refine lv_iload_n hx hb dX8_grow_4 rfl (lv_at hl 1 rfl) ?_
  refine gFi C h trivial gNo_ok (kX5_has l D ct (ad 2) (σ 2) n hn hn8 (nI m)) (cwV 1 C.2.2.2.2 (gInV q380 q381 q382 q59 q383) rfl rfl rfl hvX5_has ⟨Nat.le_of_ble_eq_true rfl, Nat.le_of_ble_eq_true rfl⟩) 3 rfl rfl rfl (fr_X_R ad ct _ _ _) rfl hl.1 rfl (Nat.le_of_ble_eq_true rfl) dX8_grow_5 ⟨Nat.zero_le _, Nat.zero_le _⟩ (fun r9 u9 H ll hw h => ?_)
  have hw : r9 = (if 0 ≤ (nI m) ∧ (nI m) < nI n then 1 else 0) := hw
  subst hw
  have h : gW D ct zA zs _ _ (wX ad ct σ lm τ) := h
  refine bz_ne hx hb (0 ≤ (nI m) ∧ (nI m) < nI n) (tgt := 14) dX8_grow_8 (by decide) (fun c_8 => ?_) (fun c_8 => absurd c_8 (fun q9 => q9 (hasI hm hn8)))
  refine lv_iload_n hx hb dX8_grow_14 rfl (lv_at hl 2 rfl) ?_
  refine lv_iconst (v := 1) hx hb dX8_grow_15 (by decide) ?_
  refine lv_icmp_lt (tgt := 25) hx hb dX8_grow_16 (by decide) (fun c_16 => absurd c_16 hx1.1) (fun c_16 => ?_)
  refine lv_iload_n hx hb dX8_grow_19 rfl (lv_at hl 2 rfl) ?_
  refine lv_bipush (v := 9) hx hb dX8_grow_20 (by decide) ?_
  refine lv_icmp_le (tgt := 28) hx hb dX8_grow_22 (by decide) (fun c_22 => ?_) (fun c_22 => absurd c_22 (fun q9 => q9 hx1.2))
  refine lv_aload_n hx hb dX8_grow_28 rfl (lv_at hl 0 rfl) ?_
  refine gget C h igX8 0 rfl rfl 2 (by decide) q203 rfl rfl dX8_grow_29 ?_
  refine gget C h igX6 11 rfl rfl 0 (by decide) q161 rfl rfl dX8_grow_32 ?_
  refine lv_iload_n hx hb dX8_grow_35 rfl (lv_at hl 1 rfl) ?_
  refine gild C h 12 rfl (j := m) (by omega) (by decide) dX8_grow_36 ?_
  refine gas (z := σ 3 1 m) rfl ?_
  refine lv_istore_n (lv' := [(3, .int (σ 3 1 m)), (0, .ref (ad 0 0)), (1, .int (nI m)), (2, .int x)]) hx hb dX8_grow_37 rfl hl (by decide) rfl (fun ls hl => ?_)
  refine lv_aload_n hx hb dX8_grow_38 rfl (lv_at hl 1 rfl) ?_
  refine gget C h igX8 0 rfl rfl 2 (by decide) q203 rfl rfl dX8_grow_39 ?_
  refine gget C h igX6 11 rfl rfl 0 (by decide) q161 rfl rfl dX8_grow_42 ?_
  refine lv_iload_n hx hb dX8_grow_45 rfl (lv_at hl 2 rfl) ?_
  refine lv_iload_n hx hb dX8_grow_46 rfl (lv_at hl 3 rfl) ?_
  refine gist C h 12 rfl (j := m) (by omega) (by decide) dX8_grow_47 (fun H ll h => ?_)
  have h : gW D ct zA zs _ _ (wX ad ct (va_up σ 3 (va_up (σ 3) 1 (upd (σ 3 1) m x))) lm τ) := h
  refine lv_iload_n hx hb dX8_grow_48 rfl (lv_at hl 0 rfl) ?_
  have h : gW D ct zA zs _ _ ((fun u : (Nat → Nat → Nat → Int32) × (Nat → Nat → Nat → Int32) × (Nat → Int64) => wX ad ct u.1 u.2.1 u.2.2) ((va_up σ 3 (va_up (σ 3) 1 (upd (σ 3 1) m x)), lm, τ))) := h
  exact hret _ ((va_up σ 3 (va_up (σ 3) 1 (upd (σ 3 1) m x)), lm, τ)) _ _ _ _ h ⟨rfl, rfl⟩ dX8_grow_49
set_option maxHeartbeats 1000000 in
set_option maxRecDepth 100000 in
theorem kX8_say (l : Launch) (D : va_G) (ct : Nat → ClassId) (ad : Nat → Nat → Nat) (σ lm : Nat → Nat → Nat → Int32) (τ : Nat → Int64) (dt : Nat → Nat) (n : Nat) (kd : Nat → Nat) (hok : ROK (σ 2) n kd) (m q t : Nat) (hm : m < n) (hq : q < 3) (hn0 : 0 < n) (ht : t < 2) : MI l yX8_say (gWs yX8_say cX8_say 5 (some .int)) rmX8_say D ct (stX dt) [.ref (ad 0 0), .int (nI m), .int (nI q), .int (nI t)] (wX ad ct σ lm τ) (fun u : (Nat → Nat → Nat → Int32) × (Nat → Nat → Nat → Int32) × (Nat → Int64) => wX ad ct u.1 u.2.1 u.2.2) (fun r u => r = nI (sayX (σ 3) (lm 3) n kd m q t) ∧ ∃ (g0_3 : Nat → Int32), u = (va_up σ 0 (va_up (σ 0) 3 g0_3), lm, τ)) := by
  refine MI.ofI RX8 rfl (by decide) (Nat.le_of_ble_eq_true rfl) ?_
  intro zp ze zs zm za zb zt zc zA ls zQ C h hX hl hret
  have hx := C.1
  have hb := C.2.1
  have hl : lv_has ls 5 [(0, .ref (ad 0 0)), (1, .int (nI m)), (2, .int (nI q)), (3, .int (nI t))] := hl
  have hok0 := hok
  obtain ⟨hn, hn8, hkd⟩ := hok0
  have hfe := ffe_le (cuX (σ 3)) n 0
  refine lv_aload_n hx hb dX8_say_0 rfl (lv_at hl 0 rfl) ?_
  refine gget C h igX8 0 rfl rfl 1 (by decide) q202 rfl rfl dX8_say_1 ?_
  refine lv_iload_n hx hb dX8_say_4 rfl (lv_at hl 1 rfl) ?_
  refine gFi C h trivial gNo_ok (kX5_has l D ct (ad 2) (σ 2) n hn hn8 (nI m)) (cwV 1 C.2.2.2.2 (gInV q380 q381 q382 q59 q383) rfl rfl rfl hvX5_has ⟨Nat.le_of_ble_eq_true rfl, Nat.le_of_ble_eq_true rfl⟩) 3 rfl rfl rfl (fr_X_R ad ct _ _ _) rfl hl.1 rfl (Nat.le_of_ble_eq_true rfl) dX8_say_5 ⟨Nat.zero_le _, Nat.zero_le _⟩ (fun r9 u9 H ll hw h => ?_)
  have hw : r9 = (if 0 ≤ (nI m) ∧ (nI m) < nI n then 1 else 0) := hw
  subst hw
  have h : gW D ct zA zs _ _ (wX ad ct σ lm τ) := h
  refine bz_eq hx hb (0 ≤ (nI m) ∧ (nI m) < nI n) (tgt := 19) dX8_say_8 (by decide) (fun c_8 => absurd c_8 (fun q9 => q9 (hasI hm hn8))) (fun c_8 => ?_)
  refine lv_aload_n hx hb dX8_say_11 rfl (lv_at hl 0 rfl) ?_
  refine lv_iload_n hx hb dX8_say_12 rfl (lv_at hl 2 rfl) ?_
  refine gcallVi C h trivial gNo_ok (kX8_isQuestion l D ct ad σ lm τ n kd hok (nI q)) (cwV 1 C.2.2.2.2 (gInV q492 q494 q6 q57 q495) rfl rfl rfl hvX8_isQuestion ⟨Nat.le_of_ble_eq_true rfl, Nat.le_of_ble_eq_true rfl⟩) 0 rfl rfl rfl rfl hl.1 rfl (Nat.le_of_ble_eq_true rfl) dX8_say_13 ⟨Nat.zero_le _, Nat.zero_le _⟩ (fun r9 u9 H ll hw h => ?_)
  have hw : r9 = (if 0 < n ∧ 0 ≤ (nI q) ∧ (nI q) < 3 then 1 else 0) := hw
  subst hw
  have h : gW D ct zA zs _ _ (wX ad ct σ lm τ) := h
  refine bz_ne hx hb (0 < n ∧ 0 ≤ (nI q) ∧ (nI q) < 3) (tgt := 22) dX8_say_16 (by decide) (fun c_16 => ?_) (fun c_16 => absurd c_16 (fun q9 => q9 (isqI hn0 hq)))
  refine lv_iload_n hx hb dX8_say_22 rfl (lv_at hl 3 rfl) ?_
  refine gcallSi C h (kX8_isHalf l D ct (nI t)) (va_cwS 1 C.2.2.2.2 (gInS q550 q551 q57 q552) rfl rfl rfl hdX8_isHalf ⟨Nat.le_of_ble_eq_true rfl, Nat.le_of_ble_eq_true rfl⟩) rfl hl.1 rfl (Nat.le_of_ble_eq_true rfl) dX8_say_23 ⟨Nat.zero_le _, Nat.zero_le _⟩ (fun H ll h => ?_)
  refine bz_ne hx hb ((nI t) = 0 ∨ (nI t) = 1) (tgt := 32) dX8_say_26 (by decide) (fun c_26 => ?_) (fun c_26 => absurd c_26 (fun q9 => q9 (halfI ht)))
  refine lv_aload_n hx hb dX8_say_32 rfl (lv_at hl 0 rfl) ?_
  refine gget C h igX8 0 rfl rfl 1 (by decide) q202 rfl rfl dX8_say_33 ?_
  refine lv_aload_n hx hb dX8_say_36 rfl (lv_at hl 0 rfl) ?_
  refine gget C h igX8 0 rfl rfl 2 (by decide) q203 rfl rfl dX8_say_37 ?_
  refine gFi C h trivial gNo_ok (kX5_feltIn l D ct (ad 2) (ad 3) (σ 2) (σ 3) (lm 3) n kd hok) (cwV 1 C.2.2.2.2 (gInV q459 q433 q434 q59 q435) rfl rfl rfl hvX5_feltIn ⟨Nat.le_of_ble_eq_true rfl, Nat.le_of_ble_eq_true rfl⟩) 3 rfl rfl rfl (fr_X_RS3 ad ct _ _ _) rfl hl.1 rfl (Nat.le_of_ble_eq_true rfl) dX8_say_40 ⟨Nat.zero_le _, Nat.zero_le _⟩ (fun r9 u9 H ll hw h => ?_)
  have hw : r9 = nI (ffe (cuX (σ 3)) n 0) := hw
  subst hw
  have h : gW D ct zA zs _ _ (wX ad ct σ lm τ) := h
  refine lv_istore (lv' := [(4, .int (nI (ffe (cuX (σ 3)) n 0))), (0, .ref (ad 0 0)), (1, .int (nI m)), (2, .int (nI q)), (3, .int (nI t))]) hx hb dX8_say_43 hl (by decide) rfl (fun ls hl => ?_)
  refine lv_aload_n hx hb dX8_say_45 rfl (lv_at hl 1 rfl) ?_
  refine lv_iload_n hx hb dX8_say_46 rfl (lv_at hl 2 rfl) ?_
  refine lv_iload_n hx hb dX8_say_47 rfl (lv_at hl 3 rfl) ?_
  refine lv_iload hx hb dX8_say_48 (lv_at hl 0 rfl) ?_
  refine gcallVi C h hX (stX_ok _) (kX8_ordersDecided l D ct ad σ lm τ dt n kd hok m q (ffe (cuX (σ 3)) n 0) (by omega) (by omega) (by omega)) (cwV 3 C.2.2.2.2 (gInV q553 q555 q8 q57 q556) rfl rfl rfl hvX8_ordersDecided ⟨Nat.le_of_ble_eq_true rfl, Nat.le_of_ble_eq_true rfl⟩) 0 rfl rfl rfl rfl hl.1 rfl (Nat.le_of_ble_eq_true rfl) dX8_say_50 ⟨Nat.zero_le _, Nat.zero_le _⟩ (fun r9 u9 H ll hw h => ?_)
  obtain ⟨hw, g0_3_c1, rfl⟩ := hw
  have hw : r9 = nI (ordX (pfX true (σ 3) (lm 3) n kd q) m (ffe (cuX (σ 3)) n 0)) := hw
  subst hw
  have h : gW D ct zA zs _ _ (wX ad ct (va_up σ 0 (va_up (σ 0) 3 g0_3_c1)) lm τ) := h
  have hx1 := ordX_lt (P := pfX true (σ 3) (lm 3) n kd q) (m := m) (f := (ffe (cuX (σ 3)) n 0)) (by omega)
  have hx2 := fac_lt (ffe (cuX (σ 3)) n 0) (by omega)
  have hx3 := fac_pos (ffe (cuX (σ 3)) n 0)
  refine va_gets C.1 C.2.1 (stX_fac hX) h.2.2.2.1 C.2.2.2.1 (C.2.2.2.2 _ (gWs_in q561)) (fun _ h9 => h9) dX8_say_53 ?_
  refine lv_iload hx hb dX8_say_56 (lv_at hl 0 rfl) ?_
  refine va_ti C.1 C.2.1 (stX_facT hX) h.2.2.2.1 (vp_in_nI (show ffe (cuX (σ 3)) n 0 < 9 from (by omega)) (by decide)) (v := .int (nI (fac (ffe (cuX (σ 3)) n 0)))) (by rw [nI_clamp (by omega)]; rfl) dX8_say_58 ?_
  refine lv_iload_n hx hb dX8_say_59 rfl (lv_at hl 4 rfl) ?_
  refine gcallSi C h (kX8_inLowestTerms l D ct (ordX (pfX true (σ 3) (lm 3) n kd q) m (ffe (cuX (σ 3)) n 0)) (fac (ffe (cuX (σ 3)) n 0)) t (by omega) (by omega) (by omega) (by omega)) (va_cwS 3 C.2.2.2.2 (gInS q563 q564 q57 q565) rfl rfl rfl hdX8_inLowestTerms ⟨Nat.le_of_ble_eq_true rfl, Nat.le_of_ble_eq_true rfl⟩) rfl hl.1 rfl (Nat.le_of_ble_eq_true rfl) dX8_say_60 ⟨Nat.zero_le _, Nat.zero_le _⟩ (fun H ll h => ?_)
  have h : gW D ct zA zs _ _ ((fun u : (Nat → Nat → Nat → Int32) × (Nat → Nat → Nat → Int32) × (Nat → Int64) => wX ad ct u.1 u.2.1 u.2.2) ((va_up σ 0 (va_up (σ 0) 3 g0_3_c1), lm, τ))) := h
  exact hret _ ((va_up σ 0 (va_up (σ 0) 3 g0_3_c1), lm, τ)) _ _ _ _ h ⟨rfl, g0_3_c1, rfl⟩ dX8_say_63
set_option maxHeartbeats 1000000 in
set_option maxRecDepth 100000 in
theorem kX8_chance (l : Launch) (D : va_G) (ct : Nat → ClassId) (ad : Nat → Nat → Nat) (σ lm : Nat → Nat → Nat → Int32) (τ : Nat → Int64) (n : Nat) (kd : Nat → Nat) (hok : ROK (σ 2) n kd) (q t w : Nat) (hq : q < 3) (hn0 : 0 < n) (ht10 : t ≤ 10) (ht : w < 2) : MI l yX8_chance (gWs yX8_chance cX8_chance 5 (some .int)) rmX8_chance D ct gNo [.ref (ad 0 0), .int (nI q), .int (nI t), .int (nI w)] (wX ad ct σ lm τ) (fun u : (Nat → Nat → Nat → Int32) × (Nat → Nat → Nat → Int32) × (Nat → Int64) => wX ad ct u.1 u.2.1 u.2.2) (fun r u => r = nI (chX (σ 3) (lm 3) n kd q t w) ∧ ∃ (g0_3 : Nat → Int32) (g0_4 : Nat → Int32), u = (va_up σ 0 (va_up (va_up (σ 0) 3 g0_3) 4 g0_4), lm, τ)) := by
  refine MI.ofI RX8 rfl (by decide) (Nat.le_of_ble_eq_true rfl) ?_
  intro zp ze zs zm za zb zt zc zA ls zQ C h hX hl hret
  have hx := C.1
  have hb := C.2.1
  have hl : lv_has ls 5 [(0, .ref (ad 0 0)), (1, .int (nI q)), (2, .int (nI t)), (3, .int (nI w))] := hl
  have hok0 := hok
  obtain ⟨hn, hn8, hkd⟩ := hok0
  have hfe := ffe_le (cuX (σ 3)) n 0
  refine lv_aload_n hx hb dX8_chance_0 rfl (lv_at hl 0 rfl) ?_
  refine lv_iload_n hx hb dX8_chance_1 rfl (lv_at hl 1 rfl) ?_
  refine gcallVi C h trivial gNo_ok (kX8_isQuestion l D ct ad σ lm τ n kd hok (nI q)) (cwV 1 C.2.2.2.2 (gInV q492 q494 q6 q57 q495) rfl rfl rfl hvX8_isQuestion ⟨Nat.le_of_ble_eq_true rfl, Nat.le_of_ble_eq_true rfl⟩) 0 rfl rfl rfl rfl hl.1 rfl (Nat.le_of_ble_eq_true rfl) dX8_chance_2 ⟨Nat.zero_le _, Nat.zero_le _⟩ (fun r9 u9 H ll hw h => ?_)
  have hw : r9 = (if 0 < n ∧ 0 ≤ (nI q) ∧ (nI q) < 3 then 1 else 0) := hw
  subst hw
  have h : gW D ct zA zs _ _ (wX ad ct σ lm τ) := h
  refine bz_ne hx hb (0 < n ∧ 0 ≤ (nI q) ∧ (nI q) < 3) (tgt := 11) dX8_chance_5 (by decide) (fun c_5 => ?_) (fun c_5 => absurd c_5 (fun q9 => q9 (isqI hn0 hq)))
  refine lv_iload_n hx hb dX8_chance_11 rfl (lv_at hl 2 rfl) ?_
  refine lv_if_lt (tgt := 28) hx hb dX8_chance_12 (by decide) (fun q => absurd q (nI_pos (by omega))) (fun _ => ?_)
  refine lv_iload_n hx hb dX8_chance_15 rfl (lv_at hl 2 rfl) ?_
  refine lv_bipush (v := 10) hx hb dX8_chance_16 (by decide) ?_
  refine nb_gt hx hb t 10 (by omega) (by omega) (tgt := 28) dX8_chance_18 (by decide) (fun c_18 => absurd c_18 (by omega)) (fun c_18 => ?_)
  refine lv_iload_n hx hb dX8_chance_21 rfl (lv_at hl 3 rfl) ?_
  refine gcallSi C h (kX8_isHalf l D ct (nI w)) (va_cwS 1 C.2.2.2.2 (gInS q550 q551 q57 q552) rfl rfl rfl hdX8_isHalf ⟨Nat.le_of_ble_eq_true rfl, Nat.le_of_ble_eq_true rfl⟩) rfl hl.1 rfl (Nat.le_of_ble_eq_true rfl) dX8_chance_22 ⟨Nat.zero_le _, Nat.zero_le _⟩ (fun H ll h => ?_)
  refine bz_ne hx hb ((nI w) = 0 ∨ (nI w) = 1) (tgt := 31) dX8_chance_25 (by decide) (fun c_25 => ?_) (fun c_25 => absurd c_25 (fun q9 => q9 (halfI ht)))
  refine lv_aload_n hx hb dX8_chance_31 rfl (lv_at hl 0 rfl) ?_
  refine gget C h igX8 0 rfl rfl 1 (by decide) q202 rfl rfl dX8_chance_32 ?_
  refine lv_aload_n hx hb dX8_chance_35 rfl (lv_at hl 0 rfl) ?_
  refine gget C h igX8 0 rfl rfl 2 (by decide) q203 rfl rfl dX8_chance_36 ?_
  refine gFi C h trivial gNo_ok (kX5_feltIn l D ct (ad 2) (ad 3) (σ 2) (σ 3) (lm 3) n kd hok) (cwV 1 C.2.2.2.2 (gInV q459 q433 q434 q59 q435) rfl rfl rfl hvX5_feltIn ⟨Nat.le_of_ble_eq_true rfl, Nat.le_of_ble_eq_true rfl⟩) 3 rfl rfl rfl (fr_X_RS3 ad ct _ _ _) rfl hl.1 rfl (Nat.le_of_ble_eq_true rfl) dX8_chance_39 ⟨Nat.zero_le _, Nat.zero_le _⟩ (fun r9 u9 H ll hw h => ?_)
  have hw : r9 = nI (ffe (cuX (σ 3)) n 0) := hw
  subst hw
  have h : gW D ct zA zs _ _ (wX ad ct σ lm τ) := h
  refine lv_istore (lv' := [(4, .int (nI (ffe (cuX (σ 3)) n 0))), (0, .ref (ad 0 0)), (1, .int (nI q)), (2, .int (nI t)), (3, .int (nI w))]) hx hb dX8_chance_42 hl (by decide) rfl (fun ls hl => ?_)
  refine lv_aload_n hx hb dX8_chance_44 rfl (lv_at hl 1 rfl) ?_
  refine lv_iload_n hx hb dX8_chance_45 rfl (lv_at hl 2 rfl) ?_
  refine lv_iload_n hx hb dX8_chance_46 rfl (lv_at hl 3 rfl) ?_
  refine lv_iload hx hb dX8_chance_47 (lv_at hl 0 rfl) ?_
  refine gcallVi C h trivial gNo_ok (kX8_partsCarried l D ct ad σ lm τ n kd hok q t (ffe (cuX (σ 3)) n 0) (by omega) (by omega) (by omega)) (cwV 3 C.2.2.2.2 (gInV q573 q575 q10 q57 q576) rfl rfl rfl hvX8_partsCarried ⟨Nat.le_of_ble_eq_true rfl, Nat.le_of_ble_eq_true rfl⟩) 0 rfl rfl rfl rfl hl.1 rfl (Nat.le_of_ble_eq_true rfl) dX8_chance_49 ⟨Nat.zero_le _, Nat.zero_le _⟩ (fun r9 u9 H ll hw h => ?_)
  obtain ⟨hw, g0_3_c1, g0_4_c1, rfl⟩ := hw
  have hw : r9 = nI (parX (pfX false (σ 3) (lm 3) n kd q) t (ffe (cuX (σ 3)) n 0)) := hw
  subst hw
  have h : gW D ct zA zs _ _ (wX ad ct (va_up σ 0 (va_up (va_up (σ 0) 3 g0_3_c1) 4 g0_4_c1)) lm τ) := h
  have hx1 := parX_lt (P := pfX false (σ 3) (lm 3) n kd q) (t := t) (f := (ffe (cuX (σ 3)) n 0)) (by omega) ht10
  refine lv_bipush (v := 10) hx hb dX8_chance_52 (by decide) ?_
  refine lv_iload hx hb dX8_chance_54 (lv_at hl 0 rfl) ?_
  refine gcallSi C h (kX8_power l D ct 10 (ffe (cuX (σ 3)) n 0) (by omega)) (va_cwS 2 C.2.2.2.2 (gInS q577 q578 q57 q579) rfl rfl rfl hdX8_power ⟨Nat.le_of_ble_eq_true rfl, Nat.le_of_ble_eq_true rfl⟩) rfl hl.1 rfl (Nat.le_of_ble_eq_true rfl) dX8_chance_56 ⟨Nat.zero_le _, Nat.zero_le _⟩ (fun H ll h => ?_)
  have hx2 := p10 (ffe (cuX (σ 3)) n 0) (by omega)
  have hx3 : 0 < 10 ^ (ffe (cuX (σ 3)) n 0) := Nat.pow_pos (by decide)
  refine lv_iload_n hx hb dX8_chance_59 rfl (lv_at hl 4 rfl) ?_
  refine gcallSi C h (kX8_inLowestTerms l D ct (parX (pfX false (σ 3) (lm 3) n kd q) t (ffe (cuX (σ 3)) n 0)) (10 ^ (ffe (cuX (σ 3)) n 0)) w (by omega) (by omega) (by omega) (by omega)) (va_cwS 3 C.2.2.2.2 (gInS q563 q564 q57 q565) rfl rfl rfl hdX8_inLowestTerms ⟨Nat.le_of_ble_eq_true rfl, Nat.le_of_ble_eq_true rfl⟩) rfl hl.1 rfl (Nat.le_of_ble_eq_true rfl) dX8_chance_60 ⟨Nat.zero_le _, Nat.zero_le _⟩ (fun H ll h => ?_)
  have h : gW D ct zA zs _ _ ((fun u : (Nat → Nat → Nat → Int32) × (Nat → Nat → Nat → Int32) × (Nat → Int64) => wX ad ct u.1 u.2.1 u.2.2) ((va_up σ 0 (va_up (va_up (σ 0) 3 g0_3_c1) 4 g0_4_c1), lm, τ))) := h
  exact hret _ ((va_up σ 0 (va_up (va_up (σ 0) 3 g0_3_c1) 4 g0_4_c1), lm, τ)) _ _ _ _ h ⟨rfl, g0_3_c1, g0_4_c1, rfl⟩ dX8_chance_63
set_option maxHeartbeats 1000000 in
set_option maxRecDepth 100000 in
theorem kX8_cuts (l : Launch) (D : va_G) (ct : Nat → ClassId) (ad : Nat → Nat → Nat) (σ lm : Nat → Nat → Nat → Int32) (τ : Nat → Int64) (n : Nat) (kd : Nat → Nat) (hok : ROK (σ 2) n kd) (q : Nat) (o : Int32) (t : Nat) (hq : q < 3) (hn0 : 0 < n) (hx1 : -1 ≤ o ∧ o ≤ 1) (ht : t < 2) : MI l yX8_cuts (gWs yX8_cuts cX8_cuts 4 (some .int)) rmX8_cuts D ct gNo [.ref (ad 0 0), .int (nI q), .int o, .int (nI t)] (wX ad ct σ lm τ) (fun u : (Nat → Nat → Nat → Int32) × (Nat → Nat → Nat → Int32) × (Nat → Int64) => wX ad ct u.1 u.2.1 u.2.2) (fun r u => r = toldB (ctX (σ 3) (lm 3) n kd q o) t ∧ ∃ (g5 : Nat → Nat → Int32) (L5 : Nat → Nat → Int32), u = (va_up σ 5 g5, va_up lm 5 L5, τ)) := by
  refine MI.ofI RX8 rfl (by decide) (Nat.le_of_ble_eq_true rfl) ?_
  intro zp ze zs zm za zb zt zc zA ls zQ C h hX hl hret
  have hx := C.1
  have hb := C.2.1
  have hl : lv_has ls 4 [(0, .ref (ad 0 0)), (1, .int (nI q)), (2, .int o), (3, .int (nI t))] := hl
  have hok0 := hok
  obtain ⟨hn, hn8, hkd⟩ := hok0
  refine lv_aload_n hx hb dX8_cuts_0 rfl (lv_at hl 0 rfl) ?_
  refine lv_iload_n hx hb dX8_cuts_1 rfl (lv_at hl 1 rfl) ?_
  refine gcallVi C h trivial gNo_ok (kX8_isQuestion l D ct ad σ lm τ n kd hok (nI q)) (cwV 1 C.2.2.2.2 (gInV q492 q494 q6 q57 q495) rfl rfl rfl hvX8_isQuestion ⟨Nat.le_of_ble_eq_true rfl, Nat.le_of_ble_eq_true rfl⟩) 0 rfl rfl rfl rfl hl.1 rfl (Nat.le_of_ble_eq_true rfl) dX8_cuts_2 ⟨Nat.zero_le _, Nat.zero_le _⟩ (fun r9 u9 H ll hw h => ?_)
  have hw : r9 = (if 0 < n ∧ 0 ≤ (nI q) ∧ (nI q) < 3 then 1 else 0) := hw
  subst hw
  have h : gW D ct zA zs _ _ (wX ad ct σ lm τ) := h
  refine bz_ne hx hb (0 < n ∧ 0 ≤ (nI q) ∧ (nI q) < 3) (tgt := 11) dX8_cuts_5 (by decide) (fun c_5 => ?_) (fun c_5 => absurd c_5 (fun q9 => q9 (isqI hn0 hq)))
  refine lv_iload_n hx hb dX8_cuts_11 rfl (lv_at hl 2 rfl) ?_
  refine gcallSi C h (kX8_isWay l D ct o) (va_cwS 1 C.2.2.2.2 (gInS q539 q540 q57 q541) rfl rfl rfl hdX8_isWay ⟨Nat.le_of_ble_eq_true rfl, Nat.le_of_ble_eq_true rfl⟩) rfl hl.1 rfl (Nat.le_of_ble_eq_true rfl) dX8_cuts_12 ⟨Nat.zero_le _, Nat.zero_le _⟩ (fun H ll h => ?_)
  refine bz_eq hx hb (-1 ≤ o ∧ o ≤ 1) (tgt := 25) dX8_cuts_15 (by decide) (fun c_15 => absurd c_15 (fun q9 => q9 hx1)) (fun c_15 => ?_)
  refine lv_iload_n hx hb dX8_cuts_18 rfl (lv_at hl 3 rfl) ?_
  refine gcallSi C h (kX8_isHalf l D ct (nI t)) (va_cwS 1 C.2.2.2.2 (gInS q550 q551 q57 q552) rfl rfl rfl hdX8_isHalf ⟨Nat.le_of_ble_eq_true rfl, Nat.le_of_ble_eq_true rfl⟩) rfl hl.1 rfl (Nat.le_of_ble_eq_true rfl) dX8_cuts_19 ⟨Nat.zero_le _, Nat.zero_le _⟩ (fun H ll h => ?_)
  refine bz_ne hx hb ((nI t) = 0 ∨ (nI t) = 1) (tgt := 28) dX8_cuts_22 (by decide) (fun c_22 => ?_) (fun c_22 => absurd c_22 (fun q9 => q9 (halfI ht)))
  refine lv_aload_n hx hb dX8_cuts_28 rfl (lv_at hl 0 rfl) ?_
  refine lv_iload_n hx hb dX8_cuts_29 rfl (lv_at hl 1 rfl) ?_
  refine lv_iload_n hx hb dX8_cuts_30 rfl (lv_at hl 2 rfl) ?_
  refine gcallVi C h trivial gNo_ok (kX8_fewestCut l D ct ad σ lm τ n kd hok q o (by omega)) (cwV 2 C.2.2.2.2 (gInV q584 q586 q11 q57 q587) rfl rfl rfl hvX8_fewestCut ⟨Nat.le_of_ble_eq_true rfl, Nat.le_of_ble_eq_true rfl⟩) 0 rfl rfl rfl rfl hl.1 rfl (Nat.le_of_ble_eq_true rfl) dX8_cuts_31 ⟨Nat.zero_le _, Nat.zero_le _⟩ (fun r9 u9 H ll hw h => ?_)
  obtain ⟨hw, g5_c1, L5_c1, rfl⟩ := hw
  have hw : r9 = bI (ctX (σ 3) (lm 3) n kd q o) := hw
  subst hw
  have h : gW D ct zA zs _ _ (wX ad ct (va_up σ 5 g5_c1) (va_up lm 5 L5_c1) τ) := h
  refine lv_iload_n hx hb dX8_cuts_34 rfl (lv_at hl 3 rfl) ?_
  refine gcallSi C h (kX8_toldOfBits l D ct (ctX (σ 3) (lm 3) n kd q o) t (fun j hj => ct_lt hn8 hj) (by omega)) (va_cwS 2 C.2.2.2.2 (gInS q588 q589 q57 q590) rfl rfl rfl hdX8_toldOfBits ⟨Nat.le_of_ble_eq_true rfl, Nat.le_of_ble_eq_true rfl⟩) rfl hl.1 rfl (Nat.le_of_ble_eq_true rfl) dX8_cuts_35 ⟨Nat.zero_le _, Nat.zero_le _⟩ (fun H ll h => ?_)
  have h : gW D ct zA zs _ _ (wX ad ct (va_up σ 5 g5_c1) (va_up lm 5 L5_c1) τ) := h
  have h : gW D ct zA zs _ _ ((fun u : (Nat → Nat → Nat → Int32) × (Nat → Nat → Nat → Int32) × (Nat → Int64) => wX ad ct u.1 u.2.1 u.2.2) ((va_up σ 5 g5_c1, va_up lm 5 L5_c1, τ))) := h
  exact hret _ ((va_up σ 5 g5_c1, va_up lm 5 L5_c1, τ)) _ _ _ _ h ⟨rfl, g5_c1, L5_c1, rfl⟩ dX8_cuts_38
set_option maxHeartbeats 1000000 in
set_option maxRecDepth 100000 in
theorem kX8_fewTurns (l : Launch) (D : va_G) (ct : Nat → ClassId) (ad : Nat → Nat → Nat) (σ lm : Nat → Nat → Nat → Int32) (τ : Nat → Int64) (n : Nat) (kd : Nat → Nat) (hok : ROK (σ 2) n kd) (q : Nat) (o : Int32) (t : Nat) (hq : q < 3) (hn0 : 0 < n) (hx1 : -1 ≤ o ∧ o ≤ 1) (ht : t < 2) (hd : σ 0 2 0 < 20) : MI l yX8_fewTurns (gWs yX8_fewTurns cX8_fewTurns 4 (some .int)) rmX8_fewTurns D ct gNo [.ref (ad 0 0), .int (nI q), .int o, .int (nI t)] (wX ad ct σ lm τ) (fun u : (Nat → Nat → Nat → Int32) × (Nat → Nat → Nat → Int32) × (Nat → Int64) => wX ad ct u.1 u.2.1 u.2.2) (fun r u => r = toldB (tuX (σ 3) (lm 3) n kd q o) t ∧ ∃ (g5 : Nat → Nat → Int32) (L5 : Nat → Nat → Int32), u = (va_up (va_up σ 0 (va_up (σ 0) 2 (fun _ => σ 0 2 0 + 1))) 5 g5, va_up lm 5 L5, τ)) := by
  refine MI.ofI RX8 rfl (by decide) (Nat.le_of_ble_eq_true rfl) ?_
  intro zp ze zs zm za zb zt zc zA ls zQ C h hX hl hret
  have hx := C.1
  have hb := C.2.1
  have hl : lv_has ls 4 [(0, .ref (ad 0 0)), (1, .int (nI q)), (2, .int o), (3, .int (nI t))] := hl
  have hok0 := hok
  obtain ⟨hn, hn8, hkd⟩ := hok0
  refine lv_aload_n hx hb dX8_fewTurns_0 rfl (lv_at hl 0 rfl) ?_
  refine lv_iload_n hx hb dX8_fewTurns_1 rfl (lv_at hl 1 rfl) ?_
  refine gcallVi C h trivial gNo_ok (kX8_isQuestion l D ct ad σ lm τ n kd hok (nI q)) (cwV 1 C.2.2.2.2 (gInV q492 q494 q6 q57 q495) rfl rfl rfl hvX8_isQuestion ⟨Nat.le_of_ble_eq_true rfl, Nat.le_of_ble_eq_true rfl⟩) 0 rfl rfl rfl rfl hl.1 rfl (Nat.le_of_ble_eq_true rfl) dX8_fewTurns_2 ⟨Nat.zero_le _, Nat.zero_le _⟩ (fun r9 u9 H ll hw h => ?_)
  have hw : r9 = (if 0 < n ∧ 0 ≤ (nI q) ∧ (nI q) < 3 then 1 else 0) := hw
  subst hw
  have h : gW D ct zA zs _ _ (wX ad ct σ lm τ) := h
  refine bz_ne hx hb (0 < n ∧ 0 ≤ (nI q) ∧ (nI q) < 3) (tgt := 11) dX8_fewTurns_5 (by decide) (fun c_5 => ?_) (fun c_5 => absurd c_5 (fun q9 => q9 (isqI hn0 hq)))
  refine lv_iload_n hx hb dX8_fewTurns_11 rfl (lv_at hl 2 rfl) ?_
  refine gcallSi C h (kX8_isWay l D ct o) (va_cwS 1 C.2.2.2.2 (gInS q539 q540 q57 q541) rfl rfl rfl hdX8_isWay ⟨Nat.le_of_ble_eq_true rfl, Nat.le_of_ble_eq_true rfl⟩) rfl hl.1 rfl (Nat.le_of_ble_eq_true rfl) dX8_fewTurns_12 ⟨Nat.zero_le _, Nat.zero_le _⟩ (fun H ll h => ?_)
  refine bz_eq hx hb (-1 ≤ o ∧ o ≤ 1) (tgt := 25) dX8_fewTurns_15 (by decide) (fun c_15 => absurd c_15 (fun q9 => q9 hx1)) (fun c_15 => ?_)
  refine lv_iload_n hx hb dX8_fewTurns_18 rfl (lv_at hl 3 rfl) ?_
  refine gcallSi C h (kX8_isHalf l D ct (nI t)) (va_cwS 1 C.2.2.2.2 (gInS q550 q551 q57 q552) rfl rfl rfl hdX8_isHalf ⟨Nat.le_of_ble_eq_true rfl, Nat.le_of_ble_eq_true rfl⟩) rfl hl.1 rfl (Nat.le_of_ble_eq_true rfl) dX8_fewTurns_19 ⟨Nat.zero_le _, Nat.zero_le _⟩ (fun H ll h => ?_)
  refine bz_ne hx hb ((nI t) = 0 ∨ (nI t) = 1) (tgt := 28) dX8_fewTurns_22 (by decide) (fun c_22 => ?_) (fun c_22 => absurd c_22 (fun q9 => q9 (halfI ht)))
  refine lv_aload_n hx hb dX8_fewTurns_28 rfl (lv_at hl 0 rfl) ?_
  refine gget C h igX8 0 rfl rfl 11 (by decide) q212 rfl rfl dX8_fewTurns_29 ?_
  refine lv_bipush (v := 20) hx hb dX8_fewTurns_32 (by decide) ?_
  refine lv_icmp_lt (tgt := 40) hx hb dX8_fewTurns_34 (by decide) (fun c_34 => ?_) (fun c_34 => absurd c_34 (fun q9 => q9 hd))
  refine lv_aload_n hx hb dX8_fewTurns_40 rfl (lv_at hl 0 rfl) ?_
  refine lv_dup hx hb dX8_fewTurns_41 rfl ?_
  refine gget C h igX8 0 rfl rfl 11 (by decide) q212 rfl rfl dX8_fewTurns_42 ?_
  refine lv_iconst (v := 1) hx hb dX8_fewTurns_45 (by decide) ?_
  refine lv_iadd hx hb dX8_fewTurns_46 ?_
  refine gput C h igX8 tyX8 tyX8_ok nmX8 0 rfl rfl 11 (by decide) q212 rfl rfl (ty := .int) (by decide +kernel) rfl rfl (Nat.le_of_ble_eq_true rfl) dX8_fewTurns_47 (fun H ll h => ?_)
  have h : gW D ct zA zs _ _ (wX ad ct (va_up σ 0 (va_up (σ 0) 2 (fun _ => (σ 0 2 0) + 1))) lm τ) := h
  refine lv_aload_n hx hb dX8_fewTurns_50 rfl (lv_at hl 0 rfl) ?_
  refine lv_iload_n hx hb dX8_fewTurns_51 rfl (lv_at hl 1 rfl) ?_
  refine lv_iload_n hx hb dX8_fewTurns_52 rfl (lv_at hl 2 rfl) ?_
  refine gcallVi C h trivial gNo_ok (kX8_fewestTurned l D ct ad (va_up σ 0 (va_up (σ 0) 2 (fun _ => (σ 0 2 0) + 1))) lm τ n kd hok q o (by omega)) (cwV 2 C.2.2.2.2 (gInV q595 q597 q12 q57 q598) rfl rfl rfl hvX8_fewestTurned ⟨Nat.le_of_ble_eq_true rfl, Nat.le_of_ble_eq_true rfl⟩) 0 rfl rfl rfl rfl hl.1 rfl (Nat.le_of_ble_eq_true rfl) dX8_fewTurns_53 ⟨Nat.zero_le _, Nat.zero_le _⟩ (fun r9 u9 H ll hw h => ?_)
  obtain ⟨hw, g5_c1, L5_c1, rfl⟩ := hw
  have hw : r9 = bI (tmX (cmX (σ 3) (lm 3) n kd q o) (ffe (cuX (σ 3)) n 0) ((ffe (cuX (σ 3)) n 0) + 1) 0) := hw
  subst hw
  have h : gW D ct zA zs _ _ (wX ad ct (va_up (va_up σ 0 (va_up (σ 0) 2 (fun _ => (σ 0 2 0) + 1))) 5 g5_c1) (va_up lm 5 L5_c1) τ) := h
  refine lv_iload_n hx hb dX8_fewTurns_56 rfl (lv_at hl 3 rfl) ?_
  refine gcallSi C h (kX8_toldOfBits l D ct (tmX (cmX (σ 3) (lm 3) n kd q o) (ffe (cuX (σ 3)) n 0) ((ffe (cuX (σ 3)) n 0) + 1) 0) t (fun j hj => by have h9 := tm_lt _ _ hj; have h8 : 2 ^ ffe (cuX (σ 3)) n 0 ≤ 256 := p2le (by have := ffe_le (cuX (σ 3)) n 0; omega); omega) (by omega)) (va_cwS 2 C.2.2.2.2 (gInS q588 q589 q57 q590) rfl rfl rfl hdX8_toldOfBits ⟨Nat.le_of_ble_eq_true rfl, Nat.le_of_ble_eq_true rfl⟩) rfl hl.1 rfl (Nat.le_of_ble_eq_true rfl) dX8_fewTurns_57 ⟨Nat.zero_le _, Nat.zero_le _⟩ (fun H ll h => ?_)
  have h : gW D ct zA zs _ _ (wX ad ct (va_up (va_up σ 0 (va_up (σ 0) 2 (fun _ => (σ 0 2 0) + 1))) 5 g5_c1) (va_up lm 5 L5_c1) τ) := h
  have h : gW D ct zA zs _ _ ((fun u : (Nat → Nat → Nat → Int32) × (Nat → Nat → Nat → Int32) × (Nat → Int64) => wX ad ct u.1 u.2.1 u.2.2) ((va_up (va_up σ 0 (va_up (σ 0) 2 (fun _ => σ 0 2 0 + 1))) 5 g5_c1, va_up lm 5 L5_c1, τ))) := h
  exact hret _ ((va_up (va_up σ 0 (va_up (σ 0) 2 (fun _ => σ 0 2 0 + 1))) 5 g5_c1, va_up lm 5 L5_c1, τ)) _ _ _ _ h ⟨rfl, g5_c1, L5_c1, rfl⟩ dX8_fewTurns_60
set_option maxHeartbeats 1000000 in
set_option maxRecDepth 100000 in
theorem kX8_settle (l : Launch) (D : va_G) (ct : Nat → ClassId) (ad : Nat → Nat → Nat) (σ lm : Nat → Nat → Nat → Int32) (τ : Nat → Int64) (dt : Nat → Nat) (n : Nat) (kd : Nat → Nat) (hok : ROK (σ 2) n kd) (t : Nat) (hn0 : 0 < n) (ht : t < 2) : MI l yX8_settle (gWs yX8_settle cX8_settle 3 (some .int)) rmX8_settle D ct (stX dt) [.ref (ad 0 0), .int (nI t)] (wX ad ct σ lm τ) (fun u : (Nat → Nat → Nat → Int32) × (Nat → Nat → Nat → Int32) × (Nat → Int64) => wX ad ct u.1 u.2.1 u.2.2) (fun r u => r = nI (stX1 (hcX (σ 3) (lm 3) n kd) t) ∧ ∃ (L5 : Nat → Nat → Int32) (t9 : Nat → Int64), u = (va_up σ 5 (σ 3), va_up lm 5 L5, t9)) := by
  refine MI.ofI RX8 rfl (by decide) (Nat.le_of_ble_eq_true rfl) ?_
  intro zp ze zs zm za zb zt zc zA ls zQ C h hX hl hret
  have hx := C.1
  have hb := C.2.1
  have hl : lv_has ls 3 [(0, .ref (ad 0 0)), (1, .int (nI t))] := hl
  have hok0 := hok
  obtain ⟨hn, hn8, hkd⟩ := hok0
  refine lv_iload_n hx hb dX8_settle_0 rfl (lv_at hl 1 rfl) ?_
  refine gcallSi C h (kX8_isHalf l D ct (nI t)) (va_cwS 1 C.2.2.2.2 (gInS q550 q551 q57 q552) rfl rfl rfl hdX8_isHalf ⟨Nat.le_of_ble_eq_true rfl, Nat.le_of_ble_eq_true rfl⟩) rfl hl.1 rfl (Nat.le_of_ble_eq_true rfl) dX8_settle_1 ⟨Nat.zero_le _, Nat.zero_le _⟩ (fun H ll h => ?_)
  refine bz_ne hx hb ((nI t) = 0 ∨ (nI t) = 1) (tgt := 10) dX8_settle_4 (by decide) (fun c_4 => ?_) (fun c_4 => absurd c_4 (fun q9 => q9 (halfI ht)))
  refine lv_aload_n hx hb dX8_settle_10 rfl (lv_at hl 0 rfl) ?_
  refine gget C h igX8 0 rfl rfl 1 (by decide) q202 rfl rfl dX8_settle_11 ?_
  refine gget C h igX5 3 rfl rfl 2 (by decide) q144 rfl rfl dX8_settle_14 ?_
  refine gas hn ?_
  refine nz_ne hx hb n (by omega) (tgt := 23) dX8_settle_17 (by decide) (fun c_17 => ?_) (fun c_17 => absurd c_17 (by omega))
  refine lv_aload_n hx hb dX8_settle_23 rfl (lv_at hl 0 rfl) ?_
  refine gcallVi C h hX (stX_ok _) (kX8_tidesTillAgain l D ct ad σ lm τ dt n kd hok) (cwV 0 C.2.2.2.2 (gInV q611 q613 q15 q57 q614) rfl rfl rfl hvX8_tidesTillAgain ⟨Nat.le_of_ble_eq_true rfl, Nat.le_of_ble_eq_true rfl⟩) 0 rfl rfl rfl rfl hl.1 rfl (Nat.le_of_ble_eq_true rfl) dX8_settle_24 ⟨Nat.zero_le _, Nat.zero_le _⟩ (fun r9 u9 H ll hw h => ?_)
  obtain ⟨hw, L5_c1, t9_c1, hp0_c1, rfl⟩ := hw
  have hw : r9 = nI (tlX (hcX (σ 3) (lm 3) n kd) 62 0) := hw
  subst hw
  have hp0_c1 : ∀ j, j ≤ tlX (hcX (σ 3) (lm 3) n kd) 62 0 → t9_c1 j = (hcX (σ 3) (lm 3) n kd) j := hp0_c1
  have h : gW D ct zA zs _ _ (wX ad ct (va_up σ 5 (σ 3)) (va_up lm 5 L5_c1) t9_c1) := h
  have htl := tlX_le (hcX (σ 3) (lm 3) n kd) 62 0
  refine lv_istore_n (lv' := [(2, .int (nI (tlX (hcX (σ 3) (lm 3) n kd) 62 0))), (0, .ref (ad 0 0)), (1, .int (nI t))]) hx hb dX8_settle_27 rfl hl (by decide) rfl (fun ls hl => ?_)
  refine lv_iload_n hx hb dX8_settle_28 rfl (lv_at hl 2 rfl) ?_
  refine nz_ne hx hb t (by omega) (tgt := 36) dX8_settle_29 (by decide) (fun c_29 => ?_) (fun c_29 => ?_)
  · refine lv_aload_n hx hb dX8_settle_36 rfl (lv_at hl 1 rfl) ?_
    refine lv_iload_n hx hb dX8_settle_37 rfl (lv_at hl 0 rfl) ?_
    refine gcallVi C h trivial gNo_ok (kX8_firstLike l D ct ad (va_up σ 5 (σ 3)) (va_up lm 5 L5_c1) t9_c1 n kd hok (tlX (hcX (σ 3) (lm 3) n kd) 62 0) (by omega)) (cwV 1 C.2.2.2.2 (gInV q620 q622 q16 q57 q623) rfl rfl rfl hvX8_firstLike ⟨Nat.le_of_ble_eq_true rfl, Nat.le_of_ble_eq_true rfl⟩) 0 rfl rfl rfl rfl hl.1 rfl (Nat.le_of_ble_eq_true rfl) dX8_settle_38 ⟨Nat.zero_le _, Nat.zero_le _⟩ (fun r9 u9 H ll hw h => ?_)
    have hw : r9 = nI (flX t9_c1 (tlX (hcX (σ 3) (lm 3) n kd) 62 0) (tlX (hcX (σ 3) (lm 3) n kd) 62 0) 0) := hw
    subst hw
    have h : gW D ct zA zs _ _ (wX ad ct (va_up σ 5 (σ 3)) (va_up lm 5 L5_c1) t9_c1) := h
    refine gas (z := nI (flX (hcX (σ 3) (lm 3) n kd) (tlX (hcX (σ 3) (lm 3) n kd) 62 0) (tlX (hcX (σ 3) (lm 3) n kd) 62 0) 0)) (congrArg nI (flX_cong (hp0_c1 _ (Nat.le_refl _)) _ _ (fun j hj => hp0_c1 j (by omega)))) ?_
    have h : gW D ct zA zs _ _ ((fun u : (Nat → Nat → Nat → Int32) × (Nat → Nat → Nat → Int32) × (Nat → Int64) => wX ad ct u.1 u.2.1 u.2.2) ((va_up σ 5 (σ 3), va_up lm 5 L5_c1, t9_c1))) := h
    exact hret _ ((va_up σ 5 (σ 3), va_up lm 5 L5_c1, t9_c1)) _ _ _ _ h ⟨(by unfold stX1; first | rw [if_pos (by omega)] | rw [if_neg (by omega)]), L5_c1, t9_c1, rfl⟩ dX8_settle_41
  · refine lv_iload_n hx hb dX8_settle_32 rfl (lv_at hl 0 rfl) ?_
    refine lv_goto (tgt := 41) hx hb dX8_settle_33 (by decide) ?_
    have h : gW D ct zA zs _ _ ((fun u : (Nat → Nat → Nat → Int32) × (Nat → Nat → Nat → Int32) × (Nat → Int64) => wX ad ct u.1 u.2.1 u.2.2) ((va_up σ 5 (σ 3), va_up lm 5 L5_c1, t9_c1))) := h
    exact hret _ ((va_up σ 5 (σ 3), va_up lm 5 L5_c1, t9_c1)) _ _ _ _ h ⟨(by unfold stX1; first | rw [if_pos (by omega)] | rw [if_neg (by omega)]), L5_c1, t9_c1, rfl⟩ dX8_settle_41
set_option maxHeartbeats 1000000 in
set_option maxRecDepth 100000 in
theorem kX8_see (l : Launch) (D : va_G) (ct : Nat → ClassId) (ad : Nat → Nat → Nat) (σ lm : Nat → Nat → Nat → Int32) (τ : Nat → Int64) (n : Nat) (kd : Nat → Nat) (hok : ROK (σ 2) n kd) (sn : Nat) (hsn : σ 3 0 0 = nI sn) (hsn6 : sn ≤ 6) (m q : Nat) (x : Int32) (hm : m < n) (hq : q < 3) (hn0 : 0 < n) (hx1 : ¬ x < 0 ∧ x ≤ 400) (hs6 : sn < 6) : MI l yX8_see (gWs yX8_see cX8_see 4 (some .int)) rmX8_see D ct gNo [.ref (ad 0 0), .int (nI m), .int (nI q), .int x] (wX ad ct σ lm τ) (fun u : (Nat → Nat → Nat → Int32) × (Nat → Nat → Nat → Int32) × (Nat → Int64) => wX ad ct u.1 u.2.1 u.2.2) (fun r u => r = nI (sn + 1) ∧ u = (va_up σ 3 (va_up (va_up (va_up (va_up (σ 3) 9 (upd (σ 3 9) sn (nI m))) 10 (upd (σ 3 10) sn (nI q))) 11 (upd (σ 3 11) sn (x - 200))) 0 (fun _ => nI (sn + 1))), lm, τ)) := by
  refine MI.ofI RX8 rfl (by decide) (Nat.le_of_ble_eq_true rfl) ?_
  intro zp ze zs zm za zb zt zc zA ls zQ C h hX hl hret
  have hx := C.1
  have hb := C.2.1
  have hl : lv_has ls 4 [(0, .ref (ad 0 0)), (1, .int (nI m)), (2, .int (nI q)), (3, .int x)] := hl
  have hok0 := hok
  obtain ⟨hn, hn8, hkd⟩ := hok0
  refine lv_aload_n hx hb dX8_see_0 rfl (lv_at hl 0 rfl) ?_
  refine gget C h igX8 0 rfl rfl 1 (by decide) q202 rfl rfl dX8_see_1 ?_
  refine lv_iload_n hx hb dX8_see_4 rfl (lv_at hl 1 rfl) ?_
  refine gFi C h trivial gNo_ok (kX5_has l D ct (ad 2) (σ 2) n hn hn8 (nI m)) (cwV 1 C.2.2.2.2 (gInV q380 q381 q382 q59 q383) rfl rfl rfl hvX5_has ⟨Nat.le_of_ble_eq_true rfl, Nat.le_of_ble_eq_true rfl⟩) 3 rfl rfl rfl (fr_X_R ad ct _ _ _) rfl hl.1 rfl (Nat.le_of_ble_eq_true rfl) dX8_see_5 ⟨Nat.zero_le _, Nat.zero_le _⟩ (fun r9 u9 H ll hw h => ?_)
  have hw : r9 = (if 0 ≤ (nI m) ∧ (nI m) < nI n then 1 else 0) := hw
  subst hw
  have h : gW D ct zA zs _ _ (wX ad ct σ lm τ) := h
  refine bz_eq hx hb (0 ≤ (nI m) ∧ (nI m) < nI n) (tgt := 19) dX8_see_8 (by decide) (fun c_8 => absurd c_8 (fun q9 => q9 (hasI hm hn8))) (fun c_8 => ?_)
  refine lv_aload_n hx hb dX8_see_11 rfl (lv_at hl 0 rfl) ?_
  refine lv_iload_n hx hb dX8_see_12 rfl (lv_at hl 2 rfl) ?_
  refine gcallVi C h trivial gNo_ok (kX8_isQuestion l D ct ad σ lm τ n kd hok (nI q)) (cwV 1 C.2.2.2.2 (gInV q492 q494 q6 q57 q495) rfl rfl rfl hvX8_isQuestion ⟨Nat.le_of_ble_eq_true rfl, Nat.le_of_ble_eq_true rfl⟩) 0 rfl rfl rfl rfl hl.1 rfl (Nat.le_of_ble_eq_true rfl) dX8_see_13 ⟨Nat.zero_le _, Nat.zero_le _⟩ (fun r9 u9 H ll hw h => ?_)
  have hw : r9 = (if 0 < n ∧ 0 ≤ (nI q) ∧ (nI q) < 3 then 1 else 0) := hw
  subst hw
  have h : gW D ct zA zs _ _ (wX ad ct σ lm τ) := h
  refine bz_ne hx hb (0 < n ∧ 0 ≤ (nI q) ∧ (nI q) < 3) (tgt := 22) dX8_see_16 (by decide) (fun c_16 => ?_) (fun c_16 => absurd c_16 (fun q9 => q9 (isqI hn0 hq)))
  refine lv_iload_n hx hb dX8_see_22 rfl (lv_at hl 3 rfl) ?_
  refine lv_if_lt (tgt := 33) hx hb dX8_see_23 (by decide) (fun c_23 => absurd c_23 hx1.1) (fun c_23 => ?_)
  refine lv_iload_n hx hb dX8_see_26 rfl (lv_at hl 3 rfl) ?_
  refine lv_sipush (v := 400) hx hb dX8_see_27 (by decide) ?_
  refine lv_icmp_le (tgt := 36) hx hb dX8_see_30 (by decide) (fun c_30 => ?_) (fun c_30 => absurd c_30 (fun q9 => q9 hx1.2))
  refine lv_aload_n hx hb dX8_see_36 rfl (lv_at hl 0 rfl) ?_
  refine gget C h igX8 0 rfl rfl 2 (by decide) q203 rfl rfl dX8_see_37 ?_
  refine gget C h igX6 11 rfl rfl 8 (by decide) q177 rfl rfl dX8_see_40 ?_
  refine gas hsn ?_
  refine lv_bipush (v := 6) hx hb dX8_see_43 (by decide) ?_
  refine nb_lt hx hb sn 6 (by omega) (by omega) (tgt := 51) dX8_see_45 (by decide) (fun c_45 => ?_) (fun c_45 => absurd c_45 (by omega))
  refine lv_aload_n hx hb dX8_see_51 rfl (lv_at hl 0 rfl) ?_
  refine gget C h igX8 0 rfl rfl 2 (by decide) q203 rfl rfl dX8_see_52 ?_
  refine lv_iload_n hx hb dX8_see_55 rfl (lv_at hl 1 rfl) ?_
  refine lv_iload_n hx hb dX8_see_56 rfl (lv_at hl 2 rfl) ?_
  refine lv_iload_n hx hb dX8_see_57 rfl (lv_at hl 3 rfl) ?_
  refine lv_sipush (v := 200) hx hb dX8_see_58 (by decide) ?_
  refine lv_isub hx hb dX8_see_61 ?_
  refine gFv C h trivial gNo_ok (kX6_addSeen l D ct (ad 3) (σ 3) (lm 3) sn hsn (by omega) m q (x - 200)) (cwV 3 C.2.2.2.2 (gInV q628 q629 q630 q65 q631) rfl rfl rfl hvX6_addSeen ⟨Nat.le_of_ble_eq_true rfl, Nat.le_of_ble_eq_true rfl⟩) 11 rfl rfl rfl (fr_X_S3m ad ct _ _ _) rfl hl.1 rfl (Nat.le_of_ble_eq_true rfl) dX8_see_62 ⟨Nat.zero_le _, Nat.zero_le _⟩ (fun u9 H ll hw h => ?_)
  subst hw
  have h : gW D ct zA zs _ _ (wX ad ct (va_up σ 3 (va_up (va_up (va_up (va_up (σ 3) 9 (upd ((σ 3) 9) sn (nI m))) 10 (upd ((σ 3) 10) sn (nI q))) 11 (upd ((σ 3) 11) sn (x - 200))) 0 (fun _ => nI (sn + 1)))) (va_up lm 3 (lm 3)) τ) := h
  refine lv_aload_n hx hb dX8_see_65 rfl (lv_at hl 0 rfl) ?_
  refine gget C h igX8 0 rfl rfl 2 (by decide) q203 rfl rfl dX8_see_66 ?_
  refine gget C h igX6 11 rfl rfl 8 (by decide) q177 rfl rfl dX8_see_69 ?_
  refine gas (z := nI (sn + 1)) rfl ?_
  have h : gW D ct zA zs _ _ ((fun u : (Nat → Nat → Nat → Int32) × (Nat → Nat → Nat → Int32) × (Nat → Int64) => wX ad ct u.1 u.2.1 u.2.2) ((va_up σ 3 (va_up (va_up (va_up (va_up (σ 3) 9 (upd (σ 3 9) sn (nI m))) 10 (upd (σ 3 10) sn (nI q))) 11 (upd (σ 3 11) sn (x - 200))) 0 (fun _ => nI (sn + 1))), lm, τ))) := h
  exact hret _ ((va_up σ 3 (va_up (va_up (va_up (va_up (σ 3) 9 (upd (σ 3 9) sn (nI m))) 10 (upd (σ 3 10) sn (nI q))) 11 (upd (σ 3 11) sn (x - 200))) 0 (fun _ => nI (sn + 1))), lm, τ)) _ _ _ _ h ⟨rfl, rfl⟩ dX8_see_72
set_option maxHeartbeats 1000000 in
set_option maxRecDepth 100000 in
theorem kX8_forget (l : Launch) (D : va_G) (ct : Nat → ClassId) (ad : Nat → Nat → Nat) (σ lm : Nat → Nat → Nat → Int32) (τ : Nat → Int64) (n : Nat) (kd : Nat → Nat) (hok : ROK (σ 2) n kd) (sn : Nat) (hsn : σ 3 0 0 = nI sn) (hsn6 : sn ≤ 6) : MI l yX8_forget (gWs yX8_forget cX8_forget 2 (some .int)) rmX8_forget D ct gNo [.ref (ad 0 0)] (wX ad ct σ lm τ) (fun u : (Nat → Nat → Nat → Int32) × (Nat → Nat → Nat → Int32) × (Nat → Int64) => wX ad ct u.1 u.2.1 u.2.2) (fun r u => r = nI sn ∧ u = (va_up σ 3 (va_up (σ 3) 0 (fun _ => 0)), lm, τ)) := by
  refine MI.ofI RX8 rfl (by decide) (Nat.le_of_ble_eq_true rfl) ?_
  intro zp ze zs zm za zb zt zc zA ls zQ C h hX hl hret
  have hx := C.1
  have hb := C.2.1
  have hl : lv_has ls 2 [(0, .ref (ad 0 0))] := hl
  have hok0 := hok
  obtain ⟨hn, hn8, hkd⟩ := hok0
  refine lv_aload_n hx hb dX8_forget_0 rfl (lv_at hl 0 rfl) ?_
  refine gget C h igX8 0 rfl rfl 2 (by decide) q203 rfl rfl dX8_forget_1 ?_
  refine gget C h igX6 11 rfl rfl 8 (by decide) q177 rfl rfl dX8_forget_4 ?_
  refine gas hsn ?_
  refine lv_istore_n (lv' := [(1, .int (nI sn)), (0, .ref (ad 0 0))]) hx hb dX8_forget_7 rfl hl (by decide) rfl (fun ls hl => ?_)
  refine lv_aload_n hx hb dX8_forget_8 rfl (lv_at hl 1 rfl) ?_
  refine gget C h igX8 0 rfl rfl 2 (by decide) q203 rfl rfl dX8_forget_9 ?_
  refine lv_iconst (v := 0) hx hb dX8_forget_12 (by decide) ?_
  refine gput C h igX6 tyX6 tyX6_ok nmX6 11 rfl rfl 8 (by decide) q177 rfl rfl (ty := .int) (by decide +kernel) rfl rfl (Nat.le_of_ble_eq_true rfl) dX8_forget_13 (fun H ll h => ?_)
  have h : gW D ct zA zs _ _ (wX ad ct (va_up σ 3 (va_up (σ 3) 0 (fun _ => 0))) lm τ) := h
  refine lv_iload_n hx hb dX8_forget_16 rfl (lv_at hl 0 rfl) ?_
  have h : gW D ct zA zs _ _ ((fun u : (Nat → Nat → Nat → Int32) × (Nat → Nat → Nat → Int32) × (Nat → Int64) => wX ad ct u.1 u.2.1 u.2.2) ((va_up σ 3 (va_up (σ 3) 0 (fun _ => 0)), lm, τ))) := h
  exact hret _ ((va_up σ 3 (va_up (σ 3) 0 (fun _ => 0)), lm, τ)) _ _ _ _ h ⟨rfl, rfl⟩ dX8_forget_17
set_option maxHeartbeats 1000000 in
set_option maxRecDepth 100000 in
theorem kX8_tides (l : Launch) (D : va_G) (ct : Nat → ClassId) (ad : Nat → Nat → Nat) (σ lm : Nat → Nat → Nat → Int32) (τ : Nat → Int64) (dt : Nat → Nat) (n : Nat) (kd : Nat → Nat) (hok : ROK (σ 2) n kd) (tm sd t : Nat) (ht1 : 1 ≤ tm) (ht60 : tm ≤ 60) (hsd : sd < 2 ^ 31) (ht : t < 3) (hn0 : 0 < n) : MI l yX8_tides (gWs yX8_tides cX8_tides 10 (some .int)) rmX8_tides D ct (stX dt) [.ref (ad 0 0), .int (nI tm), .int (nI sd), .int (nI t)] (wX ad ct σ lm τ) (fun u : (Nat → Nat → Nat → Int32) × (Nat → Nat → Nat → Int32) × (Nat → Int64) => wX ad ct u.1 u.2.1 u.2.2) (fun r u => r = tsRX (σ 3) (lm 3) n kd tm sd t ∧ ∃ (L5 : Nat → Nat → Int32), u = (va_up σ 5 (σ 3), va_up lm 5 L5, τ)) := by
  refine MI.ofI RX8 rfl (by decide) (Nat.le_of_ble_eq_true rfl) ?_
  intro zp ze zs zm za zb zt zc zA ls zQ C h hX hl hret
  have hx := C.1
  have hb := C.2.1
  have hl : lv_has ls 10 [(0, .ref (ad 0 0)), (1, .int (nI tm)), (2, .int (nI sd)), (3, .int (nI t))] := hl
  have hok0 := hok
  obtain ⟨hn, hn8, hkd⟩ := hok0
  refine lv_iload_n hx hb dX8_tides_0 rfl (lv_at hl 1 rfl) ?_
  refine lv_iconst (v := 1) hx hb dX8_tides_1 (by decide) ?_
  refine nb_lt hx hb tm 1 (by omega) (by omega) (tgt := 24) dX8_tides_2 (by decide) (fun c_2 => absurd c_2 (by omega)) (fun c_2 => ?_)
  refine lv_iload_n hx hb dX8_tides_5 rfl (lv_at hl 1 rfl) ?_
  refine lv_bipush (v := 60) hx hb dX8_tides_6 (by decide) ?_
  refine nb_gt hx hb tm 60 (by omega) (by omega) (tgt := 24) dX8_tides_8 (by decide) (fun c_8 => absurd c_8 (by omega)) (fun c_8 => ?_)
  refine lv_iload_n hx hb dX8_tides_11 rfl (lv_at hl 2 rfl) ?_
  refine lv_if_lt (tgt := 24) hx hb dX8_tides_12 (by decide) (fun q => absurd q (nI_pos (by omega))) (fun _ => ?_)
  refine lv_iload_n hx hb dX8_tides_15 rfl (lv_at hl 3 rfl) ?_
  refine lv_if_lt (tgt := 24) hx hb dX8_tides_16 (by decide) (fun q => absurd q (nI_pos (by omega))) (fun _ => ?_)
  refine lv_iload_n hx hb dX8_tides_19 rfl (lv_at hl 3 rfl) ?_
  refine lv_iconst (v := 2) hx hb dX8_tides_20 (by decide) ?_
  refine nb_le hx hb t 2 (by omega) (by omega) (tgt := 27) dX8_tides_21 (by decide) (fun c_21 => ?_) (fun c_21 => absurd c_21 (by omega))
  refine lv_aload_n hx hb dX8_tides_27 rfl (lv_at hl 0 rfl) ?_
  refine gget C h igX8 0 rfl rfl 1 (by decide) q202 rfl rfl dX8_tides_28 ?_
  refine gget C h igX5 3 rfl rfl 2 (by decide) q144 rfl rfl dX8_tides_31 ?_
  refine gas hn ?_
  refine nz_ne hx hb n (by omega) (tgt := 40) dX8_tides_34 (by decide) (fun c_34 => ?_) (fun c_34 => absurd c_34 (by omega))
  refine lv_aload_n hx hb dX8_tides_40 rfl (lv_at hl 0 rfl) ?_
  refine gget C h igX8 0 rfl rfl 4 (by decide) q205 rfl rfl dX8_tides_41 ?_
  refine lv_aload_n hx hb dX8_tides_44 rfl (lv_at hl 0 rfl) ?_
  refine gget C h igX8 0 rfl rfl 2 (by decide) q203 rfl rfl dX8_tides_45 ?_
  refine gFv C h trivial gNo_ok (kX6_takeFrom l D ct (ad 5) (ad 3) (σ 5) (lm 5) (σ 3) (lm 3)) (cwV 1 C.2.2.2.2 (gInV q421 q422 q423 q65 q424) rfl rfl rfl hvX6_takeFrom ⟨Nat.le_of_ble_eq_true rfl, Nat.le_of_ble_eq_true rfl⟩) 35 rfl rfl rfl (fr_X_SS53m ad ct _ _ _) rfl hl.1 rfl (Nat.le_of_ble_eq_true rfl) dX8_tides_48 ⟨Nat.zero_le _, Nat.zero_le _⟩ (fun u9 H ll hw h => ?_)
  subst hw
  have h : gW D ct zA zs _ _ (wX ad ct (va_up σ 5 (σ 3)) (va_up lm 5 (lm 3)) τ) := h
  refine lv_iload_n hx hb dX8_tides_51 rfl (lv_at hl 2 rfl) ?_
  refine lv_istore (lv' := [(4, .int (nI sd)), (0, .ref (ad 0 0)), (1, .int (nI tm)), (2, .int (nI sd)), (3, .int (nI t))]) hx hb dX8_tides_52 hl (by decide) rfl (fun ls hl => ?_)
  refine lv_iconst (v := 0) hx hb dX8_tides_54 (by decide) ?_
  refine lv_istore (lv' := [(5, .int 0), (4, .int (nI sd)), (0, .ref (ad 0 0)), (1, .int (nI tm)), (2, .int (nI sd)), (3, .int (nI t))]) hx hb dX8_tides_55 hl (by decide) rfl (fun ls hl => ?_)
  refine lv_iconst (v := 0) hx hb dX8_tides_57 (by decide) ?_
  refine lv_istore (lv' := [(6, .int 0), (5, .int 0), (4, .int (nI sd)), (0, .ref (ad 0 0)), (1, .int (nI tm)), (2, .int (nI sd)), (3, .int (nI t))]) hx hb dX8_tides_58 hl (by decide) rfl (fun ls hl => ?_)
  refine lv_iconst (v := 0) hx hb dX8_tides_60 (by decide) ?_
  refine lv_istore (lv' := [(7, .int 0), (6, .int 0), (5, .int 0), (4, .int (nI sd)), (0, .ref (ad 0 0)), (1, .int (nI tm)), (2, .int (nI sd)), (3, .int (nI t))]) hx hb dX8_tides_61 hl (by decide) rfl (fun ls hl => ?_)
  have L63_1 : ∀ (kk : Nat) (i : Nat) (L9 : Nat → Nat → Int32) (s9 : Nat) (cr : Nat) (sm : Int32) (H : Heap) (ll : List Loc) (ls : Array Slot), tm - i = kk → (i ≤ tm) → (tsX (σ 3) (lm 3) n kd sd i = (L9, s9, cr, sm)) → (s9 < 2 ^ 31) → (cr ≤ i) → gW D ct zA zs H ll (wX ad ct (va_up σ 5 (σ 3)) (va_up lm 5 L9) τ) → lv_has ls 10 [(7, .int (nI i)), (6, .int sm), (5, .int (nI cr)), (4, .int (nI s9)), (0, .ref (ad 0 0)), (1, .int (nI tm)), (2, .int (nI sd)), (3, .int (nI t))] → W zp l ze rmX8_tides zs zm za zb zt zc H ll 0 0 zQ (F0 zm 63 ls []) := by
    intro kk63
    induction kk63 using Nat.strongRecOn with
    | _ kk63 ih63 =>
    intro i L9 s9 cr sm H ll ls hk63 hi hS hs9 hcr h hl
    refine lv_iload hx hb dX8_tides_63 (lv_at hl 0 rfl) ?_
    refine lv_iload_n hx hb dX8_tides_65 rfl (lv_at hl 5 rfl) ?_
    refine nb_ge hx hb i tm (by omega) (by omega) (tgt := 159) dX8_tides_66 (by decide) (fun c_66 => ?_) (fun c_66 => ?_)
    · refine lv_iload_n hx hb dX8_tides_159 rfl (lv_at hl 7 rfl) ?_
      refine nz_ne hx hb t (by omega) (tgt := 166) dX8_tides_160 (by decide) (fun c_160 => ?_) (fun c_160 => ?_)
      · refine lv_iload_n hx hb dX8_tides_166 rfl (lv_at hl 7 rfl) ?_
        refine lv_iconst (v := 1) hx hb dX8_tides_167 (by decide) ?_
        refine nb_ne hx hb t 1 (by omega) (by omega) (tgt := 180) dX8_tides_168 (by decide) (fun c_168 => ?_) (fun c_168 => ?_)
        · refine lv_iload hx hb dX8_tides_180 (lv_at hl 3 rfl) ?_
          have h : gW D ct zA zs _ _ ((fun u : (Nat → Nat → Nat → Int32) × (Nat → Nat → Nat → Int32) × (Nat → Int64) => wX ad ct u.1 u.2.1 u.2.2) ((va_up σ 5 (σ 3), va_up lm 5 L9, τ))) := h
          exact hret _ ((va_up σ 5 (σ 3), va_up lm 5 L9, τ)) _ _ _ _ h ⟨(by unfold tsRX; rw [show tm = i by omega, hS]; first | rw [if_pos (by omega)] | rw [if_neg (by omega), if_pos (by omega)] | rw [if_neg (by omega), if_neg (by omega)]), L9, rfl⟩ dX8_tides_182
        · refine lv_sipush (v := 10000) hx hb dX8_tides_171 (by decide) ?_
          refine lv_iload hx hb dX8_tides_174 (lv_at hl 1 rfl) ?_
          refine lv_iadd hx hb dX8_tides_176 ?_
          refine lv_goto (tgt := 182) hx hb dX8_tides_177 (by decide) ?_
          have h : gW D ct zA zs _ _ ((fun u : (Nat → Nat → Nat → Int32) × (Nat → Nat → Nat → Int32) × (Nat → Int64) => wX ad ct u.1 u.2.1 u.2.2) ((va_up σ 5 (σ 3), va_up lm 5 L9, τ))) := h
          exact hret _ ((va_up σ 5 (σ 3), va_up lm 5 L9, τ)) _ _ _ _ h ⟨(by unfold tsRX; rw [show tm = i by omega, hS]; first | rw [if_pos (by omega)] | rw [if_neg (by omega), if_pos (by omega)] | rw [if_neg (by omega), if_neg (by omega)]), L9, rfl⟩ dX8_tides_182
      · refine lv_iload hx hb dX8_tides_163 (lv_at hl 2 rfl) ?_
        have h : gW D ct zA zs _ _ ((fun u : (Nat → Nat → Nat → Int32) × (Nat → Nat → Nat → Int32) × (Nat → Int64) => wX ad ct u.1 u.2.1 u.2.2) ((va_up σ 5 (σ 3), va_up lm 5 L9, τ))) := h
        exact hret _ ((va_up σ 5 (σ 3), va_up lm 5 L9, τ)) _ _ _ _ h ⟨(by unfold tsRX; rw [show tm = i by omega, hS]; first | rw [if_pos (by omega)] | rw [if_neg (by omega), if_pos (by omega)] | rw [if_neg (by omega), if_neg (by omega)]), L9, rfl⟩ dX8_tides_165
    · refine lv_iload hx hb dX8_tides_69 (lv_at hl 3 rfl) ?_
      refine gcallSi C h (kX8_nextSeed l D ct s9 (by omega)) (va_cwS 1 C.2.2.2.2 (gInS q640 q641 q57 q642) rfl rfl rfl hdX8_nextSeed ⟨Nat.le_of_ble_eq_true rfl, Nat.le_of_ble_eq_true rfl⟩) rfl hl.1 rfl (Nat.le_of_ble_eq_true rfl) dX8_tides_71 ⟨Nat.zero_le _, Nat.zero_le _⟩ (fun H ll h => ?_)
      refine lv_istore (lv' := [(4, .int (nI (nxs s9))), (7, .int (nI i)), (6, .int sm), (5, .int (nI cr)), (0, .ref (ad 0 0)), (1, .int (nI tm)), (2, .int (nI sd)), (3, .int (nI t))]) hx hb dX8_tides_74 hl (by decide) rfl (fun ls hl => ?_)
      have hnx := nxs_lt s9
      refine lv_iload hx hb dX8_tides_76 (lv_at hl 0 rfl) ?_
      refine lv_iconst (v := 3) hx hb dX8_tides_78 (by decide) ?_
      refine gcallSi C h (kX8_drawOf l D ct (nxs s9) 3 (by omega) (by omega)) (va_cwS 2 C.2.2.2.2 (gInS q646 q647 q57 q648) rfl rfl rfl hdX8_drawOf ⟨Nat.le_of_ble_eq_true rfl, Nat.le_of_ble_eq_true rfl⟩) rfl hl.1 rfl (Nat.le_of_ble_eq_true rfl) dX8_tides_79 ⟨Nat.zero_le _, Nat.zero_le _⟩ (fun H ll h => ?_)
      refine gas (z := nI ((nxs s9) / 65536 % 3)) (by rw [if_neg (show ¬ 3 = 0 by omega)]) ?_
      refine lv_istore (lv' := [(8, .int (nI ((nxs s9) / 65536 % 3))), (4, .int (nI (nxs s9))), (7, .int (nI i)), (6, .int sm), (5, .int (nI cr)), (0, .ref (ad 0 0)), (1, .int (nI tm)), (2, .int (nI sd)), (3, .int (nI t))]) hx hb dX8_tides_82 hl (by decide) rfl (fun ls hl => ?_)
      have hq3 : nxs s9 / 65536 % 3 < 3 := Nat.mod_lt _ (by decide)
      refine lv_aload_n hx hb dX8_tides_84 rfl (lv_at hl 5 rfl) ?_
      refine gget C h igX8 0 rfl rfl 1 (by decide) q202 rfl rfl dX8_tides_85 ?_
      refine lv_aload_n hx hb dX8_tides_88 rfl (lv_at hl 5 rfl) ?_
      refine gget C h igX8 0 rfl rfl 4 (by decide) q205 rfl rfl dX8_tides_89 ?_
      refine lv_iload hx hb dX8_tides_92 (lv_at hl 0 rfl) ?_
      refine gFi C h trivial gNo_ok (kX5_sumOf l D ct (ad 2) (ad 5) (σ 2) (σ 3) L9 n kd hok ((nxs s9) / 65536 % 3) (by omega)) (cwV 2 C.2.2.2.2 (gInV q428 q429 q430 q59 q431) rfl rfl rfl hvX5_sumOf ⟨Nat.le_of_ble_eq_true rfl, Nat.le_of_ble_eq_true rfl⟩) 3 rfl rfl rfl (fr_X_RS5 ad ct _ _ _) rfl hl.1 rfl (Nat.le_of_ble_eq_true rfl) dX8_tides_94 ⟨Nat.zero_le _, Nat.zero_le _⟩ (fun r9 u9 H ll hw h => ?_)
      have hw : r9 = smX (σ 3) L9 n kd ((nxs s9) / 65536 % 3) := hw
      subst hw
      have h : gW D ct zA zs _ _ (wX ad ct (va_up σ 5 (σ 3)) (va_up lm 5 L9) τ) := h
      refine lv_istore (lv' := [(9, .int (smX (σ 3) L9 n kd ((nxs s9) / 65536 % 3))), (8, .int (nI ((nxs s9) / 65536 % 3))), (4, .int (nI (nxs s9))), (7, .int (nI i)), (6, .int sm), (5, .int (nI cr)), (0, .ref (ad 0 0)), (1, .int (nI tm)), (2, .int (nI sd)), (3, .int (nI t))]) hx hb dX8_tides_97 hl (by decide) rfl (fun ls hl => ?_)
      refine lv_iload hx hb dX8_tides_99 (lv_at hl 4 rfl) ?_
      refine lv_iload hx hb dX8_tides_101 (lv_at hl 0 rfl) ?_
      refine lv_iadd hx hb dX8_tides_103 ?_
      refine lv_istore (lv' := [(6, .int (sm + (smX (σ 3) L9 n kd ((nxs s9) / 65536 % 3)))), (9, .int (smX (σ 3) L9 n kd ((nxs s9) / 65536 % 3))), (8, .int (nI ((nxs s9) / 65536 % 3))), (4, .int (nI (nxs s9))), (7, .int (nI i)), (5, .int (nI cr)), (0, .ref (ad 0 0)), (1, .int (nI tm)), (2, .int (nI sd)), (3, .int (nI t))]) hx hb dX8_tides_104 hl (by decide) rfl (fun ls hl => ?_)
      refine lv_iload hx hb dX8_tides_106 (lv_at hl 1 rfl) ?_
      refine lv_if_le (tgt := 114) hx hb dX8_tides_108 (by decide) (fun c_108 => ?_) (fun c_108 => ?_)
      · refine lv_iload hx hb dX8_tides_114 (lv_at hl 3 rfl) ?_
        refine gcallSi C h (kX8_nextSeed l D ct (nxs s9) (by omega)) (va_cwS 1 C.2.2.2.2 (gInS q640 q641 q57 q642) rfl rfl rfl hdX8_nextSeed ⟨Nat.le_of_ble_eq_true rfl, Nat.le_of_ble_eq_true rfl⟩) rfl hl.1 rfl (Nat.le_of_ble_eq_true rfl) dX8_tides_116 ⟨Nat.zero_le _, Nat.zero_le _⟩ (fun H ll h => ?_)
        refine lv_istore (lv' := [(4, .int (nI (nxs (nxs s9)))), (6, .int (sm + (smX (σ 3) L9 n kd ((nxs s9) / 65536 % 3)))), (9, .int (smX (σ 3) L9 n kd ((nxs s9) / 65536 % 3))), (8, .int (nI ((nxs s9) / 65536 % 3))), (7, .int (nI i)), (5, .int (nI cr)), (0, .ref (ad 0 0)), (1, .int (nI tm)), (2, .int (nI sd)), (3, .int (nI t))]) hx hb dX8_tides_119 hl (by decide) rfl (fun ls hl => ?_)
        have hny := nxs_lt (nxs s9)
        refine lv_aload_n hx hb dX8_tides_121 rfl (lv_at hl 6 rfl) ?_
        refine gget C h igX8 0 rfl rfl 4 (by decide) q205 rfl rfl dX8_tides_122 ?_
        refine lv_iload hx hb dX8_tides_125 (lv_at hl 0 rfl) ?_
        refine lv_aload_n hx hb dX8_tides_127 rfl (lv_at hl 6 rfl) ?_
        refine gget C h igX8 0 rfl rfl 1 (by decide) q202 rfl rfl dX8_tides_128 ?_
        refine gget C h igX5 3 rfl rfl 2 (by decide) q144 rfl rfl dX8_tides_131 ?_
        refine gas hn ?_
        refine gcallSi C h (kX8_drawOf l D ct (nxs (nxs s9)) n (by omega) (by omega)) (va_cwS 2 C.2.2.2.2 (gInS q646 q647 q57 q648) rfl rfl rfl hdX8_drawOf ⟨Nat.le_of_ble_eq_true rfl, Nat.le_of_ble_eq_true rfl⟩) rfl hl.1 rfl (Nat.le_of_ble_eq_true rfl) dX8_tides_134 ⟨Nat.zero_le _, Nat.zero_le _⟩ (fun H ll h => ?_)
        refine gas (z := nI ((nxs (nxs s9)) / 65536 % n)) (by rw [if_neg (show ¬ n = 0 by omega)]) ?_
        refine lv_iload hx hb dX8_tides_137 (lv_at hl 3 rfl) ?_
        have hmn : nxs (nxs s9) / 65536 % n < n := Nat.mod_lt _ hn0
        refine gFv C h trivial gNo_ok (kX6_turnRound l D ct (ad 5) (σ 3) L9 ((nxs (nxs s9)) / 65536 % n) ((nxs s9) / 65536 % 3) (by omega) (by omega)) (cwV 2 C.2.2.2.2 (gInV q650 q651 q652 q65 q653) rfl rfl rfl hvX6_turnRound ⟨Nat.le_of_ble_eq_true rfl, Nat.le_of_ble_eq_true rfl⟩) 35 rfl rfl rfl (fr_X_S5m ad ct _ _ _) rfl hl.1 rfl (Nat.le_of_ble_eq_true rfl) dX8_tides_139 ⟨Nat.zero_le _, Nat.zero_le _⟩ (fun u9 H ll hw h => ?_)
        subst hw
        have h : gW D ct zA zs _ _ (wX ad ct (va_up σ 5 (σ 3)) (va_up lm 5 (va_up L9 ((nxs s9) / 65536 % 3) (upd (L9 ((nxs s9) / 65536 % 3)) ((nxs (nxs s9)) / 65536 % n) (trnL (L9 ((nxs s9) / 65536 % 3) ((nxs (nxs s9)) / 65536 % n)))))) τ) := h
        refine lv_aload_n hx hb dX8_tides_142 rfl (lv_at hl 6 rfl) ?_
        refine gget C h igX8 0 rfl rfl 1 (by decide) q202 rfl rfl dX8_tides_143 ?_
        refine lv_aload_n hx hb dX8_tides_146 rfl (lv_at hl 6 rfl) ?_
        refine gget C h igX8 0 rfl rfl 4 (by decide) q205 rfl rfl dX8_tides_147 ?_
        refine gFv C h hX (stX_ok _) (kX5_drift l D ct (ad 2) (ad 5) (σ 2) (σ 3) (va_up L9 ((nxs s9) / 65536 % 3) (upd (L9 ((nxs s9) / 65536 % 3)) ((nxs (nxs s9)) / 65536 % n) (trnL (L9 ((nxs s9) / 65536 % 3) ((nxs (nxs s9)) / 65536 % n))))) dt n kd hok) (cwV 1 C.2.2.2.2 (gInV q511 q512 q513 q59 q514) rfl rfl rfl hvX5_drift ⟨Nat.le_of_ble_eq_true rfl, Nat.le_of_ble_eq_true rfl⟩) 3 rfl rfl rfl (fr_X_RS5m ad ct _ _ _) rfl hl.1 rfl (Nat.le_of_ble_eq_true rfl) dX8_tides_150 ⟨Nat.zero_le _, Nat.zero_le _⟩ (fun u9 H ll hw h => ?_)
        subst hw
        have h : gW D ct zA zs _ _ (wX ad ct (va_up σ 5 (σ 3)) (va_up lm 5 (dfX (σ 3) (va_up L9 ((nxs s9) / 65536 % 3) (upd (L9 ((nxs s9) / 65536 % 3)) ((nxs (nxs s9)) / 65536 % n) (trnL (L9 ((nxs s9) / 65536 % 3) ((nxs (nxs s9)) / 65536 % n))))) n kd)) τ) := h
        refine ninc (lv' := [(7, .int (nI (i + 1))), (4, .int (nI (nxs (nxs s9)))), (6, .int (sm + (smX (σ 3) L9 n kd ((nxs s9) / 65536 % 3)))), (9, .int (smX (σ 3) L9 n kd ((nxs s9) / 65536 % 3))), (8, .int (nI ((nxs s9) / 65536 % 3))), (5, .int (nI cr)), (0, .ref (ad 0 0)), (1, .int (nI tm)), (2, .int (nI sd)), (3, .int (nI t))]) hx hb i 1 dX8_tides_153 hl (k := 4) rfl (by decide) rfl (fun ls hl => ?_)
        refine lv_goto (tgt := 63) hx hb dX8_tides_156 (by decide) ?_
        exact ih63 _ (by omega) (i + 1) (dfX (σ 3) (va_up L9 ((nxs s9) / 65536 % 3) (upd (L9 ((nxs s9) / 65536 % 3)) ((nxs (nxs s9)) / 65536 % n) (trnL (L9 ((nxs s9) / 65536 % 3) ((nxs (nxs s9)) / 65536 % n))))) n kd) (nxs (nxs s9)) cr (sm + smX (σ 3) L9 n kd (nxs s9 / 65536 % 3)) _ _ _ rfl (by omega) (by show (_, _, _, _) = _; rw [hS]; rw [if_neg (Int32.not_lt.mpr c_108)]; rfl) (nxs_lt _) (by omega) h (lv_sub hl [0, 2, 5, 1, 6, 7, 8, 9] rfl)
      · refine ninc (lv' := [(5, .int (nI (cr + 1))), (6, .int (sm + (smX (σ 3) L9 n kd ((nxs s9) / 65536 % 3)))), (9, .int (smX (σ 3) L9 n kd ((nxs s9) / 65536 % 3))), (8, .int (nI ((nxs s9) / 65536 % 3))), (4, .int (nI (nxs s9))), (7, .int (nI i)), (0, .ref (ad 0 0)), (1, .int (nI tm)), (2, .int (nI sd)), (3, .int (nI t))]) hx hb cr 1 dX8_tides_111 hl (k := 5) rfl (by decide) rfl (fun ls hl => ?_)
        refine lv_iload hx hb dX8_tides_114 (lv_at hl 4 rfl) ?_
        refine gcallSi C h (kX8_nextSeed l D ct (nxs s9) (by omega)) (va_cwS 1 C.2.2.2.2 (gInS q640 q641 q57 q642) rfl rfl rfl hdX8_nextSeed ⟨Nat.le_of_ble_eq_true rfl, Nat.le_of_ble_eq_true rfl⟩) rfl hl.1 rfl (Nat.le_of_ble_eq_true rfl) dX8_tides_116 ⟨Nat.zero_le _, Nat.zero_le _⟩ (fun H ll h => ?_)
        refine lv_istore (lv' := [(4, .int (nI (nxs (nxs s9)))), (5, .int (nI (cr + 1))), (6, .int (sm + (smX (σ 3) L9 n kd ((nxs s9) / 65536 % 3)))), (9, .int (smX (σ 3) L9 n kd ((nxs s9) / 65536 % 3))), (8, .int (nI ((nxs s9) / 65536 % 3))), (7, .int (nI i)), (0, .ref (ad 0 0)), (1, .int (nI tm)), (2, .int (nI sd)), (3, .int (nI t))]) hx hb dX8_tides_119 hl (by decide) rfl (fun ls hl => ?_)
        have hny := nxs_lt (nxs s9)
        refine lv_aload_n hx hb dX8_tides_121 rfl (lv_at hl 6 rfl) ?_
        refine gget C h igX8 0 rfl rfl 4 (by decide) q205 rfl rfl dX8_tides_122 ?_
        refine lv_iload hx hb dX8_tides_125 (lv_at hl 0 rfl) ?_
        refine lv_aload_n hx hb dX8_tides_127 rfl (lv_at hl 6 rfl) ?_
        refine gget C h igX8 0 rfl rfl 1 (by decide) q202 rfl rfl dX8_tides_128 ?_
        refine gget C h igX5 3 rfl rfl 2 (by decide) q144 rfl rfl dX8_tides_131 ?_
        refine gas hn ?_
        refine gcallSi C h (kX8_drawOf l D ct (nxs (nxs s9)) n (by omega) (by omega)) (va_cwS 2 C.2.2.2.2 (gInS q646 q647 q57 q648) rfl rfl rfl hdX8_drawOf ⟨Nat.le_of_ble_eq_true rfl, Nat.le_of_ble_eq_true rfl⟩) rfl hl.1 rfl (Nat.le_of_ble_eq_true rfl) dX8_tides_134 ⟨Nat.zero_le _, Nat.zero_le _⟩ (fun H ll h => ?_)
        refine gas (z := nI ((nxs (nxs s9)) / 65536 % n)) (by rw [if_neg (show ¬ n = 0 by omega)]) ?_
        refine lv_iload hx hb dX8_tides_137 (lv_at hl 4 rfl) ?_
        have hmn : nxs (nxs s9) / 65536 % n < n := Nat.mod_lt _ hn0
        refine gFv C h trivial gNo_ok (kX6_turnRound l D ct (ad 5) (σ 3) L9 ((nxs (nxs s9)) / 65536 % n) ((nxs s9) / 65536 % 3) (by omega) (by omega)) (cwV 2 C.2.2.2.2 (gInV q650 q651 q652 q65 q653) rfl rfl rfl hvX6_turnRound ⟨Nat.le_of_ble_eq_true rfl, Nat.le_of_ble_eq_true rfl⟩) 35 rfl rfl rfl (fr_X_S5m ad ct _ _ _) rfl hl.1 rfl (Nat.le_of_ble_eq_true rfl) dX8_tides_139 ⟨Nat.zero_le _, Nat.zero_le _⟩ (fun u9 H ll hw h => ?_)
        subst hw
        have h : gW D ct zA zs _ _ (wX ad ct (va_up σ 5 (σ 3)) (va_up lm 5 (va_up L9 ((nxs s9) / 65536 % 3) (upd (L9 ((nxs s9) / 65536 % 3)) ((nxs (nxs s9)) / 65536 % n) (trnL (L9 ((nxs s9) / 65536 % 3) ((nxs (nxs s9)) / 65536 % n)))))) τ) := h
        refine lv_aload_n hx hb dX8_tides_142 rfl (lv_at hl 6 rfl) ?_
        refine gget C h igX8 0 rfl rfl 1 (by decide) q202 rfl rfl dX8_tides_143 ?_
        refine lv_aload_n hx hb dX8_tides_146 rfl (lv_at hl 6 rfl) ?_
        refine gget C h igX8 0 rfl rfl 4 (by decide) q205 rfl rfl dX8_tides_147 ?_
        refine gFv C h hX (stX_ok _) (kX5_drift l D ct (ad 2) (ad 5) (σ 2) (σ 3) (va_up L9 ((nxs s9) / 65536 % 3) (upd (L9 ((nxs s9) / 65536 % 3)) ((nxs (nxs s9)) / 65536 % n) (trnL (L9 ((nxs s9) / 65536 % 3) ((nxs (nxs s9)) / 65536 % n))))) dt n kd hok) (cwV 1 C.2.2.2.2 (gInV q511 q512 q513 q59 q514) rfl rfl rfl hvX5_drift ⟨Nat.le_of_ble_eq_true rfl, Nat.le_of_ble_eq_true rfl⟩) 3 rfl rfl rfl (fr_X_RS5m ad ct _ _ _) rfl hl.1 rfl (Nat.le_of_ble_eq_true rfl) dX8_tides_150 ⟨Nat.zero_le _, Nat.zero_le _⟩ (fun u9 H ll hw h => ?_)
        subst hw
        have h : gW D ct zA zs _ _ (wX ad ct (va_up σ 5 (σ 3)) (va_up lm 5 (dfX (σ 3) (va_up L9 ((nxs s9) / 65536 % 3) (upd (L9 ((nxs s9) / 65536 % 3)) ((nxs (nxs s9)) / 65536 % n) (trnL (L9 ((nxs s9) / 65536 % 3) ((nxs (nxs s9)) / 65536 % n))))) n kd)) τ) := h
        refine ninc (lv' := [(7, .int (nI (i + 1))), (4, .int (nI (nxs (nxs s9)))), (5, .int (nI (cr + 1))), (6, .int (sm + (smX (σ 3) L9 n kd ((nxs s9) / 65536 % 3)))), (9, .int (smX (σ 3) L9 n kd ((nxs s9) / 65536 % 3))), (8, .int (nI ((nxs s9) / 65536 % 3))), (0, .ref (ad 0 0)), (1, .int (nI tm)), (2, .int (nI sd)), (3, .int (nI t))]) hx hb i 1 dX8_tides_153 hl (k := 5) rfl (by decide) rfl (fun ls hl => ?_)
        refine lv_goto (tgt := 63) hx hb dX8_tides_156 (by decide) ?_
        exact ih63 _ (by omega) (i + 1) (dfX (σ 3) (va_up L9 ((nxs s9) / 65536 % 3) (upd (L9 ((nxs s9) / 65536 % 3)) ((nxs (nxs s9)) / 65536 % n) (trnL (L9 ((nxs s9) / 65536 % 3) ((nxs (nxs s9)) / 65536 % n))))) n kd) (nxs (nxs s9)) (cr + 1) (sm + smX (σ 3) L9 n kd (nxs s9 / 65536 % 3)) _ _ _ rfl (by omega) (by show (_, _, _, _) = _; rw [hS]; rw [if_pos (Int32.not_le.mp c_108)]) (nxs_lt _) (by omega) h (lv_sub hl [0, 3, 2, 1, 6, 7, 8, 9] rfl)
  exact L63_1 _ 0 (lm 3) sd 0 0 _ _ _ rfl (by omega) rfl hsd (by omega) h (lv_sub hl [0, 1, 2, 3, 4, 5, 6, 7] rfl)
set_option maxHeartbeats 1000000 in
set_option maxRecDepth 100000 in
theorem kX8_image (l : Launch) (D : va_G) (ct : Nat → ClassId) (ad : Nat → Nat → Nat) (σ lm : Nat → Nat → Nat → Int32) (τ : Nat → Int64) (n : Nat) (kd : Nat → Nat) (hok : ROK (σ 2) n kd) (hn0 : 0 < n) : MI l yX8_image (gWs yX8_image cX8_image 1 (some .int)) rmX8_image D ct gNo [.ref (ad 0 0)] (wX ad ct σ lm τ) (fun u : (Nat → Nat → Nat → Int32) × (Nat → Nat → Nat → Int32) × (Nat → Int64) => wX ad ct u.1 u.2.1 u.2.2) (fun r u => r = σ 3 12 0 ∧ u = (va_up (va_up σ 4 (σ 3)) 0 (va_up (σ 0) 0 (fun _ => 1)), va_up lm 4 (lm 3), τ)) := by
  refine MI.ofI RX8 rfl (by decide) (Nat.le_of_ble_eq_true rfl) ?_
  intro zp ze zs zm za zb zt zc zA ls zQ C h hX hl hret
  have hx := C.1
  have hb := C.2.1
  have hl : lv_has ls 1 [(0, .ref (ad 0 0))] := hl
  have hok0 := hok
  obtain ⟨hn, hn8, hkd⟩ := hok0
  refine lv_aload_n hx hb dX8_image_0 rfl (lv_at hl 0 rfl) ?_
  refine gget C h igX8 0 rfl rfl 1 (by decide) q202 rfl rfl dX8_image_1 ?_
  refine gget C h igX5 3 rfl rfl 2 (by decide) q144 rfl rfl dX8_image_4 ?_
  refine gas hn ?_
  refine nz_ne hx hb n (by omega) (tgt := 13) dX8_image_7 (by decide) (fun c_7 => ?_) (fun c_7 => absurd c_7 (by omega))
  refine lv_aload_n hx hb dX8_image_13 rfl (lv_at hl 0 rfl) ?_
  refine gget C h igX8 0 rfl rfl 3 (by decide) q204 rfl rfl dX8_image_14 ?_
  refine lv_aload_n hx hb dX8_image_17 rfl (lv_at hl 0 rfl) ?_
  refine gget C h igX8 0 rfl rfl 2 (by decide) q203 rfl rfl dX8_image_18 ?_
  refine gFv C h trivial gNo_ok (kX6_takeFrom l D ct (ad 4) (ad 3) (σ 4) (lm 4) (σ 3) (lm 3)) (cwV 1 C.2.2.2.2 (gInV q421 q422 q423 q65 q424) rfl rfl rfl hvX6_takeFrom ⟨Nat.le_of_ble_eq_true rfl, Nat.le_of_ble_eq_true rfl⟩) 23 rfl rfl rfl (fr_X_SS43m ad ct _ _ _) rfl hl.1 rfl (Nat.le_of_ble_eq_true rfl) dX8_image_21 ⟨Nat.zero_le _, Nat.zero_le _⟩ (fun u9 H ll hw h => ?_)
  subst hw
  have h : gW D ct zA zs _ _ (wX ad ct (va_up σ 4 (σ 3)) (va_up lm 4 (lm 3)) τ) := h
  refine lv_aload_n hx hb dX8_image_24 rfl (lv_at hl 0 rfl) ?_
  refine lv_iconst (v := 1) hx hb dX8_image_25 (by decide) ?_
  refine gput C h igX8 tyX8 tyX8_ok nmX8 0 rfl rfl 9 (by decide) q210 rfl rfl (ty := .boolean) (by decide +kernel) (by decide) (by decide) (Nat.le_of_ble_eq_true rfl) dX8_image_26 (fun H ll h => ?_)
  have h : gW D ct zA zs _ _ (wX ad ct (va_up (va_up σ 0 (va_up (σ 0) 0 (fun _ => 1))) 4 (σ 3)) (va_up lm 4 (lm 3)) τ) := h
  refine lv_aload_n hx hb dX8_image_29 rfl (lv_at hl 0 rfl) ?_
  refine gget C h igX8 0 rfl rfl 2 (by decide) q203 rfl rfl dX8_image_30 ?_
  refine gget C h igX6 11 rfl rfl 9 (by decide) q179 rfl rfl dX8_image_33 ?_
  have h : gW D ct zA zs _ _ ((fun u : (Nat → Nat → Nat → Int32) × (Nat → Nat → Nat → Int32) × (Nat → Int64) => wX ad ct u.1 u.2.1 u.2.2) ((va_up (va_up σ 4 (σ 3)) 0 (va_up (σ 0) 0 (fun _ => 1)), va_up lm 4 (lm 3), τ))) := h
  exact hret _ ((va_up (va_up σ 4 (σ 3)) 0 (va_up (σ 0) 0 (fun _ => 1)), va_up lm 4 (lm 3), τ)) _ _ _ _ h ⟨rfl, rfl⟩ dX8_image_36
set_option maxHeartbeats 1000000 in
set_option maxRecDepth 100000 in
theorem kX8_restore (l : Launch) (D : va_G) (ct : Nat → ClassId) (ad : Nat → Nat → Nat) (σ lm : Nat → Nat → Nat → Int32) (τ : Nat → Int64) (n : Nat) (kd : Nat → Nat) (hok : ROK (σ 2) n kd) (hik : ¬ σ 0 0 0 = 0) : MI l yX8_restore (gWs yX8_restore cX8_restore 1 (some .int)) rmX8_restore D ct gNo [.ref (ad 0 0)] (wX ad ct σ lm τ) (fun u : (Nat → Nat → Nat → Int32) × (Nat → Nat → Nat → Int32) × (Nat → Int64) => wX ad ct u.1 u.2.1 u.2.2) (fun r u => r = σ 4 12 0 ∧ u = (va_up σ 3 (σ 4), va_up lm 3 (lm 4), τ)) := by
  refine MI.ofI RX8 rfl (by decide) (Nat.le_of_ble_eq_true rfl) ?_
  intro zp ze zs zm za zb zt zc zA ls zQ C h hX hl hret
  have hx := C.1
  have hb := C.2.1
  have hl : lv_has ls 1 [(0, .ref (ad 0 0))] := hl
  have hok0 := hok
  obtain ⟨hn, hn8, hkd⟩ := hok0
  refine lv_aload_n hx hb dX8_restore_0 rfl (lv_at hl 0 rfl) ?_
  refine gget C h igX8 0 rfl rfl 9 (by decide) q210 rfl rfl dX8_restore_1 ?_
  refine lv_if_ne (tgt := 10) hx hb dX8_restore_4 (by decide) (fun c_4 => ?_) (fun c_4 => absurd c_4 hik)
  refine lv_aload_n hx hb dX8_restore_10 rfl (lv_at hl 0 rfl) ?_
  refine gget C h igX8 0 rfl rfl 2 (by decide) q203 rfl rfl dX8_restore_11 ?_
  refine lv_aload_n hx hb dX8_restore_14 rfl (lv_at hl 0 rfl) ?_
  refine gget C h igX8 0 rfl rfl 3 (by decide) q204 rfl rfl dX8_restore_15 ?_
  refine gFv C h trivial gNo_ok (kX6_takeFrom l D ct (ad 3) (ad 4) (σ 3) (lm 3) (σ 4) (lm 4)) (cwV 1 C.2.2.2.2 (gInV q421 q422 q423 q65 q424) rfl rfl rfl hvX6_takeFrom ⟨Nat.le_of_ble_eq_true rfl, Nat.le_of_ble_eq_true rfl⟩) 11 rfl rfl rfl (fr_X_SS34m ad ct _ _ _) rfl hl.1 rfl (Nat.le_of_ble_eq_true rfl) dX8_restore_18 ⟨Nat.zero_le _, Nat.zero_le _⟩ (fun u9 H ll hw h => ?_)
  subst hw
  have h : gW D ct zA zs _ _ (wX ad ct (va_up σ 3 (σ 4)) (va_up lm 3 (lm 4)) τ) := h
  refine lv_aload_n hx hb dX8_restore_21 rfl (lv_at hl 0 rfl) ?_
  refine gget C h igX8 0 rfl rfl 2 (by decide) q203 rfl rfl dX8_restore_22 ?_
  refine gget C h igX6 11 rfl rfl 9 (by decide) q179 rfl rfl dX8_restore_25 ?_
  have h : gW D ct zA zs _ _ ((fun u : (Nat → Nat → Nat → Int32) × (Nat → Nat → Nat → Int32) × (Nat → Int64) => wX ad ct u.1 u.2.1 u.2.2) ((va_up σ 3 (σ 4), va_up lm 3 (lm 4), τ))) := h
  exact hret _ ((va_up σ 3 (σ 4), va_up lm 3 (lm 4), τ)) _ _ _ _ h ⟨rfl, rfl⟩ dX8_restore_28
set_option maxHeartbeats 1000000 in
set_option maxRecDepth 100000 in
theorem kX8_count (l : Launch) (D : va_G) (ct : Nat → ClassId) (ad : Nat → Nat → Nat) (σ lm : Nat → Nat → Nat → Int32) (τ : Nat → Int64) (n : Nat) (kd : Nat → Nat) (hok : ROK (σ 2) n kd) (pn : Nat) (hpn : σ 1 0 0 = nI pn) (hpn50 : pn ≤ 50) (sn : Nat) (hsn : σ 3 0 0 = nI sn) (hsn6 : sn ≤ 6) (x : Nat) (hx11 : x ≤ 11) : MI l yX8_count (gWs yX8_count cX8_count 2 (some .int)) rmX8_count D ct gNo [.ref (ad 0 0), .int (nI x)] (wX ad ct σ lm τ) (fun _ : Unit => (wX ad ct σ lm τ)) (fun r _ => r = hmX (σ 0 1 0) (σ 0 2 0) (σ 1 0 0) (σ 3) (lm 3) n kd x) := by
  refine MI.ofI RX8 rfl (by decide) (Nat.le_of_ble_eq_true rfl) ?_
  intro zp ze zs zm za zb zt zc zA ls zQ C h hX hl hret
  have hx := C.1
  have hb := C.2.1
  have hl : lv_has ls 2 [(0, .ref (ad 0 0)), (1, .int (nI x))] := hl
  have hok0 := hok
  obtain ⟨hn, hn8, hkd⟩ := hok0
  refine lv_iload_n hx hb dX8_count_0 rfl (lv_at hl 1 rfl) ?_
  rcases (show x = 0 ∨ x = 1 ∨ x = 2 ∨ x = 3 ∨ x = 4 ∨ x = 5 ∨ x = 6 ∨ x = 7 ∨ x = 8 ∨ x = 9 ∨ x = 10 ∨ x = 11 by omega) with hk_1 | hk_1 | hk_1 | hk_1 | hk_1 | hk_1 | hk_1 | hk_1 | hk_1 | hk_1 | hk_1 | hk_1
  · refine gas (show nI x = nI 0 by rw [hk_1]) ?_
    refine lv_tableIn (tgt := 64) (off := 63) hx hb dX8_count_1 (by decide) (by decide) (by decide) (by decide) ?_
    refine lv_aload_n hx hb dX8_count_64 rfl (lv_at hl 0 rfl) ?_
    refine gget C h igX8 0 rfl rfl 1 (by decide) q202 rfl rfl dX8_count_65 ?_
    refine gget C h igX5 3 rfl rfl 2 (by decide) q144 rfl rfl dX8_count_68 ?_
    refine gas hn ?_
    exact hret _ () _ _ _ _ h (by rw [hk_1]; first | rfl | exact hsn.symm | exact hpn.symm) dX8_count_71
  · refine gas (show nI x = nI 1 by rw [hk_1]) ?_
    refine lv_tableIn (tgt := 72) (off := 71) hx hb dX8_count_1 (by decide) (by decide) (by decide) (by decide) ?_
    refine lv_aload_n hx hb dX8_count_72 rfl (lv_at hl 0 rfl) ?_
    refine gget C h igX8 0 rfl rfl 1 (by decide) q202 rfl rfl dX8_count_73 ?_
    refine lv_aload_n hx hb dX8_count_76 rfl (lv_at hl 0 rfl) ?_
    refine gget C h igX8 0 rfl rfl 2 (by decide) q203 rfl rfl dX8_count_77 ?_
    refine gFi C h trivial gNo_ok (kX5_feltIn l D ct (ad 2) (ad 3) (σ 2) (σ 3) (lm 3) n kd hok) (cwV 1 C.2.2.2.2 (gInV q459 q433 q434 q59 q435) rfl rfl rfl hvX5_feltIn ⟨Nat.le_of_ble_eq_true rfl, Nat.le_of_ble_eq_true rfl⟩) 3 rfl rfl rfl (fr_X_RS3 ad ct _ _ _) rfl hl.1 rfl (Nat.le_of_ble_eq_true rfl) dX8_count_80 ⟨Nat.zero_le _, Nat.zero_le _⟩ (fun r9 u9 H ll hw h => ?_)
    have hw : r9 = nI (ffe (cuX (σ 3)) n 0) := hw
    subst hw
    have h : gW D ct zA zs _ _ (wX ad ct σ lm τ) := h
    exact hret _ () _ _ _ _ h (by rw [hk_1]; first | rfl | exact hsn.symm | exact hpn.symm) dX8_count_83
  · refine gas (show nI x = nI 2 by rw [hk_1]) ?_
    refine lv_tableIn (tgt := 84) (off := 83) hx hb dX8_count_1 (by decide) (by decide) (by decide) (by decide) ?_
    refine lv_aload_n hx hb dX8_count_84 rfl (lv_at hl 0 rfl) ?_
    refine gget C h igX8 0 rfl rfl 2 (by decide) q203 rfl rfl dX8_count_85 ?_
    refine gget C h igX6 11 rfl rfl 2 (by decide) q168 rfl rfl dX8_count_88 ?_
    refine gSFi C h trivial gNo_ok (kX8_totalOf l D ct (ad 3 6) 8 (σ 3 6) (by decide)) (va_cwS 1 C.2.2.2.2 (gInS q666 q667 q57 q668) rfl rfl rfl hdX8_totalOf ⟨Nat.le_of_ble_eq_true rfl, Nat.le_of_ble_eq_true rfl⟩) (fr_X_A3_6 ad ct _ _ _) rfl hl.1 rfl (Nat.le_of_ble_eq_true rfl) dX8_count_91 ⟨Nat.zero_le _, Nat.zero_le _⟩ (fun H ll h => ?_)
    have h : gW D ct zA zs _ _ (wX ad ct σ lm τ) := h
    exact hret _ () _ _ _ _ h (by rw [hk_1]; first | rfl | exact hsn.symm | exact hpn.symm) dX8_count_94
  · refine gas (show nI x = nI 3 by rw [hk_1]) ?_
    refine lv_tableIn (tgt := 95) (off := 94) hx hb dX8_count_1 (by decide) (by decide) (by decide) (by decide) ?_
    refine lv_aload_n hx hb dX8_count_95 rfl (lv_at hl 0 rfl) ?_
    refine gget C h igX8 0 rfl rfl 2 (by decide) q203 rfl rfl dX8_count_96 ?_
    refine gget C h igX6 11 rfl rfl 0 (by decide) q161 rfl rfl dX8_count_99 ?_
    refine gSFi C h trivial gNo_ok (kX8_totalOf l D ct (ad 3 1) 8 (σ 3 1) (by decide)) (va_cwS 1 C.2.2.2.2 (gInS q666 q667 q57 q668) rfl rfl rfl hdX8_totalOf ⟨Nat.le_of_ble_eq_true rfl, Nat.le_of_ble_eq_true rfl⟩) (fr_X_A3_1 ad ct _ _ _) rfl hl.1 rfl (Nat.le_of_ble_eq_true rfl) dX8_count_102 ⟨Nat.zero_le _, Nat.zero_le _⟩ (fun H ll h => ?_)
    have h : gW D ct zA zs _ _ (wX ad ct σ lm τ) := h
    exact hret _ () _ _ _ _ h (by rw [hk_1]; first | rfl | exact hsn.symm | exact hpn.symm) dX8_count_105
  · refine gas (show nI x = nI 4 by rw [hk_1]) ?_
    refine lv_tableIn (tgt := 106) (off := 105) hx hb dX8_count_1 (by decide) (by decide) (by decide) (by decide) ?_
    refine lv_aload_n hx hb dX8_count_106 rfl (lv_at hl 0 rfl) ?_
    refine gget C h igX8 0 rfl rfl 2 (by decide) q203 rfl rfl dX8_count_107 ?_
    refine gget C h igX6 11 rfl rfl 9 (by decide) q179 rfl rfl dX8_count_110 ?_
    exact hret _ () _ _ _ _ h (by rw [hk_1]; first | rfl | exact hsn.symm | exact hpn.symm) dX8_count_113
  · refine gas (show nI x = nI 5 by rw [hk_1]) ?_
    refine lv_tableIn (tgt := 114) (off := 113) hx hb dX8_count_1 (by decide) (by decide) (by decide) (by decide) ?_
    refine lv_aload_n hx hb dX8_count_114 rfl (lv_at hl 0 rfl) ?_
    refine gget C h igX8 0 rfl rfl 2 (by decide) q203 rfl rfl dX8_count_115 ?_
    refine gget C h igX6 11 rfl rfl 3 (by decide) q170 rfl rfl dX8_count_118 ?_
    refine gSFi C h trivial gNo_ok (kX8_totalOf l D ct (ad 3 7) 3 (σ 3 7) (by decide)) (va_cwS 1 C.2.2.2.2 (gInS q666 q667 q57 q668) rfl rfl rfl hdX8_totalOf ⟨Nat.le_of_ble_eq_true rfl, Nat.le_of_ble_eq_true rfl⟩) (fr_X_A3_7 ad ct _ _ _) rfl hl.1 rfl (Nat.le_of_ble_eq_true rfl) dX8_count_121 ⟨Nat.zero_le _, Nat.zero_le _⟩ (fun H ll h => ?_)
    have h : gW D ct zA zs _ _ (wX ad ct σ lm τ) := h
    exact hret _ () _ _ _ _ h (by rw [hk_1]; first | rfl | exact hsn.symm | exact hpn.symm) dX8_count_124
  · refine gas (show nI x = nI 6 by rw [hk_1]) ?_
    refine lv_tableIn (tgt := 125) (off := 124) hx hb dX8_count_1 (by decide) (by decide) (by decide) (by decide) ?_
    refine lv_aload_n hx hb dX8_count_125 rfl (lv_at hl 0 rfl) ?_
    refine gget C h igX8 0 rfl rfl 2 (by decide) q203 rfl rfl dX8_count_126 ?_
    refine gget C h igX6 11 rfl rfl 4 (by decide) q172 rfl rfl dX8_count_129 ?_
    refine gSFi C h trivial gNo_ok (kX8_totalOf l D ct (ad 3 8) 3 (σ 3 8) (by decide)) (va_cwS 1 C.2.2.2.2 (gInS q666 q667 q57 q668) rfl rfl rfl hdX8_totalOf ⟨Nat.le_of_ble_eq_true rfl, Nat.le_of_ble_eq_true rfl⟩) (fr_X_A3_8 ad ct _ _ _) rfl hl.1 rfl (Nat.le_of_ble_eq_true rfl) dX8_count_132 ⟨Nat.zero_le _, Nat.zero_le _⟩ (fun H ll h => ?_)
    have h : gW D ct zA zs _ _ (wX ad ct σ lm τ) := h
    exact hret _ () _ _ _ _ h (by rw [hk_1]; first | rfl | exact hsn.symm | exact hpn.symm) dX8_count_135
  · refine gas (show nI x = nI 7 by rw [hk_1]) ?_
    refine lv_tableIn (tgt := 136) (off := 135) hx hb dX8_count_1 (by decide) (by decide) (by decide) (by decide) ?_
    refine lv_aload_n hx hb dX8_count_136 rfl (lv_at hl 0 rfl) ?_
    refine gcallVi C h trivial gNo_ok (kX8_howManyCarriedNow l D ct ad σ lm τ n kd hok) (cwV 0 C.2.2.2.2 (gInV q669 q671 q17 q57 q672) rfl rfl rfl hvX8_howManyCarriedNow ⟨Nat.le_of_ble_eq_true rfl, Nat.le_of_ble_eq_true rfl⟩) 0 rfl rfl rfl rfl hl.1 rfl (Nat.le_of_ble_eq_true rfl) dX8_count_137 ⟨Nat.zero_le _, Nat.zero_le _⟩ (fun r9 u9 H ll hw h => ?_)
    have hw : r9 = nI (cntTo (fun q => 0 < smX (σ 3) (lm 3) n kd q) 3) := hw
    subst hw
    have h : gW D ct zA zs _ _ (wX ad ct σ lm τ) := h
    exact hret _ () _ _ _ _ h (by rw [hk_1]; first | rfl | exact hsn.symm | exact hpn.symm) dX8_count_140
  · refine gas (show nI x = nI 8 by rw [hk_1]) ?_
    refine lv_tableIn (tgt := 141) (off := 140) hx hb dX8_count_1 (by decide) (by decide) (by decide) (by decide) ?_
    refine lv_aload_n hx hb dX8_count_141 rfl (lv_at hl 0 rfl) ?_
    refine gget C h igX8 0 rfl rfl 2 (by decide) q203 rfl rfl dX8_count_142 ?_
    refine gget C h igX6 11 rfl rfl 8 (by decide) q177 rfl rfl dX8_count_145 ?_
    refine gas hsn ?_
    exact hret _ () _ _ _ _ h (by rw [hk_1]; first | rfl | exact hsn.symm | exact hpn.symm) dX8_count_148
  · refine gas (show nI x = nI 9 by rw [hk_1]) ?_
    refine lv_tableIn (tgt := 149) (off := 148) hx hb dX8_count_1 (by decide) (by decide) (by decide) (by decide) ?_
    refine lv_aload_n hx hb dX8_count_149 rfl (lv_at hl 0 rfl) ?_
    refine gget C h igX8 0 rfl rfl 0 (by decide) q201 rfl rfl dX8_count_150 ?_
    refine gget C h igX4 1 rfl rfl 1 (by decide) q92 rfl rfl dX8_count_153 ?_
    refine gas hpn ?_
    exact hret _ () _ _ _ _ h (by rw [hk_1]; first | rfl | exact hsn.symm | exact hpn.symm) dX8_count_156
  · refine gas (show nI x = nI 10 by rw [hk_1]) ?_
    refine lv_tableIn (tgt := 157) (off := 156) hx hb dX8_count_1 (by decide) (by decide) (by decide) (by decide) ?_
    refine lv_aload_n hx hb dX8_count_157 rfl (lv_at hl 0 rfl) ?_
    refine gget C h igX8 0 rfl rfl 10 (by decide) q211 rfl rfl dX8_count_158 ?_
    exact hret _ () _ _ _ _ h (by rw [hk_1]; first | rfl | exact hsn.symm | exact hpn.symm) dX8_count_161
  · refine gas (show nI x = nI 11 by rw [hk_1]) ?_
    refine lv_tableIn (tgt := 162) (off := 161) hx hb dX8_count_1 (by decide) (by decide) (by decide) (by decide) ?_
    refine lv_aload_n hx hb dX8_count_162 rfl (lv_at hl 0 rfl) ?_
    refine gget C h igX8 0 rfl rfl 11 (by decide) q212 rfl rfl dX8_count_163 ?_
    exact hret _ () _ _ _ _ h (by rw [hk_1]; first | rfl | exact hsn.symm | exact hpn.symm) dX8_count_166
