theorem ffe_not {cu : Nat → Bool} : ∀ {d i j : Nat}, i ≤ j → j < ffe cu d i → cu j = false
  | 0, i, j, h1, h2 => absurd h2 (by simp only [ffe]; omega)
  | d + 1, i, j, h1, h2 => by
    simp only [ffe] at h2
    split at h2
    · omega
    · rename_i hc
      by_cases e : j = i
      · subst e; cases q : cu j with
        | false => rfl
        | true => exact absurd q hc
      · exact ffe_not (d := d) (i := i + 1) (by omega) h2
theorem cuX_0 {S : Nat → Nat → Int32} {m : Nat} (h : cuX S m = false) : S 6 m = 0 := by unfold cuX at h; simpa using h
theorem lnA_cong {L M : Nat → Nat → Int32} {cu dv : Nat → Bool} {n m q : Nat} (hm : m < n) (hL : ∀ j, j < n → L q j = M q j) (hc : ∀ j, j < n → cu j = dv j) : lnA (leX L) cu m q = lnA (leX M) dv m q := by
  unfold lnA leX; rw [hc m hm]
  by_cases h : 0 < m ∧ dv m = false
  · rw [if_pos h, if_pos h, hL _ (by omega)]
  · rw [if_neg h, if_neg h]
theorem lnB_cong {L M : Nat → Nat → Int32} {cu dv : Nat → Bool} {n m q : Nat} (hL : ∀ j, j < n → L q j = M q j) (hc : ∀ j, j < n → cu j = dv j) : lnB n (leX L) cu m q = lnB n (leX M) dv m q := by
  unfold lnB leX
  by_cases h : m + 1 < n
  · rw [hc (m + 1) h, hL (m + 1) h]
  · rw [if_neg (fun q => h q.1), if_neg (fun q => h q.1)]
theorem ffe_cong {cu dv : Nat → Bool} : ∀ {d i : Nat}, (∀ j, j < i + d → cu j = dv j) → ffe cu d i = ffe dv d i
  | 0, _, _ => rfl
  | d + 1, i, h => by simp only [ffe]; rw [h i (by omega), ffe_cong (d := d) (i := i + 1) (fun j hj => h j (by omega))]
theorem plX_cong {S T L M : Nat → Nat → Int32} {n q m : Nat} {kd : Nat → Nat} (hm : m < n) (hw : ∀ j, j < n → S 1 j = T 1 j) (hc : ∀ j, j < n → cuX S j = cuX T j) (hL : ∀ j, j < n → L q j = M q j) : plX S L n kd q m = plX T M n kd q m := by
  unfold plX; rw [hw m hm, lnA_cong hm hL hc, lnB_cong hL hc]; unfold leX; rw [hL m hm]
theorem smX_cong {S T L M : Nat → Nat → Int32} {n q : Nat} {kd : Nat → Nat} (hw : ∀ j, j < n → S 1 j = T 1 j) (hc : ∀ j, j < n → cuX S j = cuX T j) (hL : ∀ j, j < n → L q j = M q j) : smX S L n kd q = smX T M n kd q := by
  unfold smX
  rw [ffe_cong (cu := cuX S) (dv := cuX T) (fun j hj => hc j (by omega))]
  exact bx_cong (fun k hk => plX_cong (by have := ffe_le (cuX T) n 0; omega) hw hc hL)
theorem smX_congL {S L M : Nat → Nat → Int32} {n q : Nat} {kd : Nat → Nat} (hL : ∀ j, j < n → L q j = M q j) : smX S L n kd q = smX S M n kd q := smX_cong (fun _ _ => rfl) (fun _ _ => rfl) hL
/-- CUTS, as the class has it -/
def cutS (S : Nat → Nat → Int32) (i : Nat) : Nat → Nat → Int32 := va_up S 6 (upd (S 6) i 1)
def fcX (S L : Nat → Nat → Int32) (n : Nat) (kd : Nat → Nat) (q : Nat) (o : Int32) : Nat → Nat → Option Nat
  | 0, _ => none
  | d + 1, i => if sgn (smX (cutS S i) L n kd q) = o then some (1 * 2 ^ i) else fcX S L n kd q o d (i + 1)
def ctX (S L : Nat → Nat → Int32) (n : Nat) (kd : Nat → Nat) (q : Nat) (o : Int32) : Option Nat := if sgn (smX S L n kd q) = o then some 0 else fcX S L n kd q o (ffe (cuX S) n 0) 0
/-- TURNS -/
def othX (z : Int32) (b : Nat) : Int32 := z + 2 + nI b - (z + 2 + nI b) / 3 * 3 - 1
def loX (f : Nat → Int32) (x y m : Nat) : Int32 := if x.testBit m = true then othX (f m) (y / 2 ^ pcn x m % 2) else f m
def anyX (P : Nat → Bool) : Nat → Bool
  | 0 => false
  | k + 1 => anyX P k || P k
theorem anyX_of {P : Nat → Bool} {y : Nat} (hP : P y = true) : ∀ k, y < k → anyX P k = true
  | 0, h => absurd h (by omega)
  | k + 1, h => by
    simp only [anyX]
    by_cases e : y = k
    · subst e; rw [hP]; simp
    · rw [anyX_of hP k (by omega)]; rfl
def cmX (S L : Nat → Nat → Int32) (n : Nat) (kd : Nat → Nat) (q : Nat) (o : Int32) (x : Nat) : Bool := anyX (fun y => decide (sgn (smX S (fun _ => loX (L q) x y) n kd q) = o)) (2 ^ pcn x 8)
def twX (C : Nat → Bool) (k : Nat) : Nat → Nat → Option Nat
  | 0, _ => none
  | d + 1, x => if pcn x 8 = k ∧ C x = true then some x else twX C k d (x + 1)
def tmX (C : Nat → Bool) (f : Nat) : Nat → Nat → Option Nat
  | 0, _ => none
  | d + 1, k => if twX C k (2 ^ f) 0 = none then tmX C f d (k + 1) else twX C k (2 ^ f) 0
/-- SETTLE -/
def flX (h : Nat → Int64) (k : Nat) : Nat → Nat → Nat
  | 0, i => i
  | d + 1, i => if h i = h k then i else flX h k d (i + 1)
theorem flX_le (h : Nat → Int64) (k : Nat) : ∀ d i, flX h k d i ≤ i + d
  | 0, i => Nat.le_refl i
  | d + 1, i => by simp only [flX]; have := flX_le h k d (i + 1); split <;> omega
theorem flX_cong {g h : Nat → Int64} {k : Nat} (hk : g k = h k) : ∀ d i, (∀ j, j < i + d → g j = h j) → flX g k d i = flX h k d i
  | 0, _, _ => rfl
  | d + 1, i, e => by simp only [flX]; rw [hk, e i (by omega), flX_cong hk d (i + 1) (fun j hj => e j (by omega))]
def itX (S L : Nat → Nat → Int32) (n : Nat) (kd : Nat → Nat) : Nat → Nat → Nat → Int32
  | 0 => L
  | i + 1 => dfX S (itX S L n kd i) n kd
def hcX (S L : Nat → Nat → Int32) (n : Nat) (kd : Nat → Nat) (i : Nat) : Int64 := cdq (itX S L n kd i) 3
def tlX (h : Nat → Int64) : Nat → Nat → Nat
  | 0, i => i + 1
  | d + 1, i => if flX h (i + 1) (i + 1) 0 = i + 1 then tlX h d (i + 1) else i + 1
/-- what is left, which to ask -/
def slX (S L : Nat → Nat → Int32) (n : Nat) (kd : Nat → Nat) (m q i : Nat) : Int32 := smX S (va_up L q (upd (L q) m (1 - nI i))) n kd q
def lvX (S L : Nat → Nat → Int32) (n : Nat) (kd : Nat → Nat) (sn m q : Nat) : Nat → Nat
  | 0 => 0
  | k + 1 => lvX S L n kd sn m q k ||| (if seeX S m q (slX S L n kd m q k) sn = true then 1 * 2 ^ k else 0)
theorem lvX_lt (S L : Nat → Nat → Int32) (n : Nat) (kd : Nat → Nat) (sn m q : Nat) : ∀ k, lvX S L n kd sn m q k < 2 ^ k
  | 0 => by show 0 < 1; decide
  | k + 1 => by
    simp only [lvX]
    have h := lvX_lt S L n kd sn m q k
    have e : 2 ^ (k + 1) = 2 ^ k * 2 := Nat.pow_succ 2 k
    apply Nat.or_lt_two_pow (by omega)
    split <;> omega
theorem cntW_cong {G K : Nat → Int32} {b a : Nat} (h : ∀ j, j < 3 → G j = K j) (ha : a < 3) : ∀ k, k ≤ 3 → cntW G b a k = cntW K b a k
  | 0, _ => rfl
  | k + 1, hk => by simp only [cntW]; rw [cntW_cong h ha k (by omega), h a ha, h k (by omega)]
theorem mxW_cong {G K : Nat → Int32} {b : Nat} (h : ∀ j, j < 3 → G j = K j) : ∀ k, k ≤ 3 → mxW G b k = mxW K b k
  | 0, _ => rfl
  | k + 1, hk => by simp only [mxW]; rw [mxW_cong h k (by omega), cntW_cong h (by omega) 3 (by omega)]
def akX (S L : Nat → Nat → Int32) (n : Nat) (kd : Nat → Nat) (sn m : Nat) : Nat → Option Nat × Nat
  | 0 => (none, 4)
  | q + 1 => if mxW (slX S L n kd m q) (lvX S L n kd sn m q 3) 3 < pcn (lvX S L n kd sn m q 3) 8 ∧ mxW (slX S L n kd m q) (lvX S L n kd sn m q 3) 3 < (akX S L n kd sn m q).2 then (some q, mxW (slX S L n kd m q) (lvX S L n kd sn m q 3) 3) else akX S L n kd sn m q
theorem akX_le (S L : Nat → Nat → Int32) (n : Nat) (kd : Nat → Nat) (sn m : Nat) : ∀ q, (akX S L n kd sn m q).2 ≤ 4
  | 0 => Nat.le_refl _
  | q + 1 => by
    have h := akX_le S L n kd sn m q
    have h2 := mxW_le (slX S L n kd m q) (lvX S L n kd sn m q 3) 3
    simp only [akX]
    split
    · show mxW _ _ 3 ≤ _; omega
    · exact h
theorem bb1 {b i j : Nat} : (b / 2 ^ i &&& b / 2 ^ j) &&& 1 = 1 ↔ (b.testBit i = true ∧ b.testBit j = true) := by
  rw [and1, tb_div, tb_div]
  have h := Nat.testBit_and (b / 2 ^ i) (b / 2 ^ j) 0
  simp only [Nat.testBit_zero] at h
  constructor
  · intro q; rw [q] at h; simpa using h.symm
  · intro q; rw [q.1, q.2] at h; simpa using h
theorem bb2 {b i j : Nat} : (b / 2 ^ i &&& b / 2 ^ j) &&& 1 < 2 ^ 31 := by rw [and1]; omega
theorem div_pcn {x y i : Nat} : y / 2 ^ pcn x i / 2 ^ 1 = y / 2 ^ (pcn x i + 1) := by rw [Nat.div_div_eq_div_mul, ← Nat.pow_add]
theorem tb1 {x i : Nat} (h : x / 2 ^ i &&& 1 = 1) : x.testBit i = true := by rw [and1] at h; exact (tb_div x i).mpr h
theorem tb0 {x i : Nat} (h : ¬ x / 2 ^ i &&& 1 = 1) : ¬ x.testBit i = true := by rw [and1] at h; exact fun q => h ((tb_div x i).mp q)
theorem fc_pos {S L : Nat → Nat → Int32} {n : Nat} {kd : Nat → Nat} {q : Nat} {o : Int32} {d i : Nat} (h : sgn (smX (cutS S i) L n kd q) = o) : fcX S L n kd q o (d + 1) i = some (1 * 2 ^ i) := if_pos h
theorem tm_some {C : Nat → Bool} {f d k x : Nat} (h : twX C k (2 ^ f) 0 = some x) : tmX C f (d + 1) k = some x := by
  simp only [tmX]; rw [h]; simp
set_option maxHeartbeats 1000000 in
set_option maxRecDepth 100000 in
theorem kX8_fewestCut (l : Launch) (D : va_G) (ct : Nat → ClassId) (ad : Nat → Nat → Nat) (σ lm : Nat → Nat → Nat → Int32) (τ : Nat → Int64) (n : Nat) (kd : Nat → Nat) (hok : ROK (σ 2) n kd) (q : Nat) (o : Int32) (hq : q < 3) : MI l yX8_fewestCut (gWs yX8_fewestCut cX8_fewestCut 5 (some .int)) rmX8_fewestCut D ct gNo [.ref (ad 0 0), .int (nI q), .int o] (wX ad ct σ lm τ) (fun u : (Nat → Nat → Nat → Int32) × (Nat → Nat → Nat → Int32) × (Nat → Int64) => wX ad ct u.1 u.2.1 u.2.2) (fun r u => r = bI (ctX (σ 3) (lm 3) n kd q o) ∧ ∃ (g5 : Nat → Nat → Int32) (L5 : Nat → Nat → Int32), u = (va_up σ 5 g5, va_up lm 5 L5, τ)) := by
  refine MI.ofI RX8 rfl (by decide) (Nat.le_of_ble_eq_true rfl) ?_
  intro zp ze zs zm za zb zt zc zA ls zQ C h hX hl hret
  have hx := C.1
  have hb := C.2.1
  have hl : lv_has ls 5 [(0, .ref (ad 0 0)), (1, .int (nI q)), (2, .int o)] := hl
  have hok0 := hok
  obtain ⟨hn, hn8, hkd⟩ := hok0
  have hfe := ffe_le (cuX (σ 3)) n 0
  refine lv_aload_n hx hb dX8_fewestCut_0 rfl (lv_at hl 0 rfl) ?_
  refine gget C h igX8 0 rfl rfl 1 (by decide) q202 rfl rfl dX8_fewestCut_1 ?_
  refine lv_aload_n hx hb dX8_fewestCut_4 rfl (lv_at hl 0 rfl) ?_
  refine gget C h igX8 0 rfl rfl 2 (by decide) q203 rfl rfl dX8_fewestCut_5 ?_
  refine lv_iload_n hx hb dX8_fewestCut_8 rfl (lv_at hl 1 rfl) ?_
  refine gFi C h trivial gNo_ok (kX5_sumOf l D ct (ad 2) (ad 3) (σ 2) (σ 3) (lm 3) n kd hok q (by omega)) (cwV 2 C.2.2.2.2 (gInV q428 q429 q430 q59 q431) rfl rfl rfl hvX5_sumOf ⟨Nat.le_of_ble_eq_true rfl, Nat.le_of_ble_eq_true rfl⟩) 3 rfl rfl rfl (fr_X_RS3 ad ct _ _ _) rfl hl.1 rfl (Nat.le_of_ble_eq_true rfl) dX8_fewestCut_9 ⟨Nat.zero_le _, Nat.zero_le _⟩ (fun r9 u9 H ll hw h => ?_)
  have hw : r9 = smX (σ 3) (lm 3) n kd q := hw
  subst hw
  have h : gW D ct zA zs _ _ (wX ad ct σ lm τ) := h
  refine gcallSi C h (kX8_outcomeOf l D ct (smX (σ 3) (lm 3) n kd q)) (va_cwS 1 C.2.2.2.2 (gInS q496 q497 q57 q498) rfl rfl rfl hdX8_outcomeOf ⟨Nat.le_of_ble_eq_true rfl, Nat.le_of_ble_eq_true rfl⟩) rfl hl.1 rfl (Nat.le_of_ble_eq_true rfl) dX8_fewestCut_12 ⟨Nat.zero_le _, Nat.zero_le _⟩ (fun H ll h => ?_)
  refine lv_iload_n hx hb dX8_fewestCut_15 rfl (lv_at hl 2 rfl) ?_
  refine lv_icmp_ne (tgt := 21) hx hb dX8_fewestCut_16 (by decide) (fun c_16 => ?_) (fun c_16 => ?_)
  · refine lv_aload_n hx hb dX8_fewestCut_21 rfl (lv_at hl 0 rfl) ?_
    refine gget C h igX8 0 rfl rfl 4 (by decide) q205 rfl rfl dX8_fewestCut_22 ?_
    refine lv_aload_n hx hb dX8_fewestCut_25 rfl (lv_at hl 0 rfl) ?_
    refine gget C h igX8 0 rfl rfl 2 (by decide) q203 rfl rfl dX8_fewestCut_26 ?_
    refine gFv C h trivial gNo_ok (kX6_takeFrom l D ct (ad 5) (ad 3) (σ 5) (lm 5) (σ 3) (lm 3)) (cwV 1 C.2.2.2.2 (gInV q421 q422 q423 q65 q424) rfl rfl rfl hvX6_takeFrom ⟨Nat.le_of_ble_eq_true rfl, Nat.le_of_ble_eq_true rfl⟩) 35 rfl rfl rfl (fr_X_SS53m ad ct _ _ _) rfl hl.1 rfl (Nat.le_of_ble_eq_true rfl) dX8_fewestCut_29 ⟨Nat.zero_le _, Nat.zero_le _⟩ (fun u9 H ll hw h => ?_)
    subst hw
    have h : gW D ct zA zs _ _ (wX ad ct (va_up σ 5 (σ 3)) (va_up lm 5 (lm 3)) τ) := h
    refine lv_aload_n hx hb dX8_fewestCut_32 rfl (lv_at hl 0 rfl) ?_
    refine gget C h igX8 0 rfl rfl 1 (by decide) q202 rfl rfl dX8_fewestCut_33 ?_
    refine lv_aload_n hx hb dX8_fewestCut_36 rfl (lv_at hl 0 rfl) ?_
    refine gget C h igX8 0 rfl rfl 2 (by decide) q203 rfl rfl dX8_fewestCut_37 ?_
    refine gFi C h trivial gNo_ok (kX5_feltIn l D ct (ad 2) (ad 3) (σ 2) (σ 3) (lm 3) n kd hok) (cwV 1 C.2.2.2.2 (gInV q459 q433 q434 q59 q435) rfl rfl rfl hvX5_feltIn ⟨Nat.le_of_ble_eq_true rfl, Nat.le_of_ble_eq_true rfl⟩) 3 rfl rfl rfl (fr_X_RS3 ad ct _ _ _) rfl hl.1 rfl (Nat.le_of_ble_eq_true rfl) dX8_fewestCut_40 ⟨Nat.zero_le _, Nat.zero_le _⟩ (fun r9 u9 H ll hw h => ?_)
    have hw : r9 = nI (ffe (cuX (σ 3)) n 0) := hw
    subst hw
    have h : gW D ct zA zs _ _ (wX ad ct (va_up σ 5 (σ 3)) (va_up lm 5 (lm 3)) τ) := h
    refine lv_istore_n (lv' := [(3, .int (nI (ffe (cuX (σ 3)) n 0))), (0, .ref (ad 0 0)), (1, .int (nI q)), (2, .int o)]) hx hb dX8_fewestCut_43 rfl hl (by decide) rfl (fun ls hl => ?_)
    refine lv_iconst (v := 0) hx hb dX8_fewestCut_44 (by decide) ?_
    refine lv_istore (lv' := [(4, .int 0), (3, .int (nI (ffe (cuX (σ 3)) n 0))), (0, .ref (ad 0 0)), (1, .int (nI q)), (2, .int o)]) hx hb dX8_fewestCut_45 hl (by decide) rfl (fun ls hl => ?_)
    have L47_1 : ∀ (kk : Nat) (i : Nat) (H : Heap) (ll : List Loc) (ls : Array Slot), ffe (cuX (σ 3)) n 0 - i = kk → (i ≤ ffe (cuX (σ 3)) n 0) → (fcX (σ 3) (lm 3) n kd q o (ffe (cuX (σ 3)) n 0) 0 = fcX (σ 3) (lm 3) n kd q o (ffe (cuX (σ 3)) n 0 - i) i) → gW D ct zA zs H ll (wX ad ct (va_up σ 5 (σ 3)) (va_up lm 5 (lm 3)) τ) → lv_has ls 5 [(4, .int (nI i)), (3, .int (nI (ffe (cuX (σ 3)) n 0))), (0, .ref (ad 0 0)), (1, .int (nI q)), (2, .int o)] → W zp l ze rmX8_fewestCut zs zm za zb zt zc H ll 0 0 zQ (F0 zm 47 ls []) := by
      intro kk47
      induction kk47 using Nat.strongRecOn with
      | _ kk47 ih47 =>
      intro i H ll ls hk47 hi hF h hl
      refine lv_iload hx hb dX8_fewestCut_47 (lv_at hl 0 rfl) ?_
      refine lv_iload_n hx hb dX8_fewestCut_49 rfl (lv_at hl 1 rfl) ?_
      refine nb_ge hx hb i (ffe (cuX (σ 3)) n 0) (by omega) (by omega) (tgt := 105) dX8_fewestCut_50 (by decide) (fun c_50 => ?_) (fun c_50 => ?_)
      · refine lv_iconst (v := -1) hx hb dX8_fewestCut_105 (by decide) ?_
        have h : gW D ct zA zs _ _ ((fun u : (Nat → Nat → Nat → Int32) × (Nat → Nat → Nat → Int32) × (Nat → Int64) => wX ad ct u.1 u.2.1 u.2.2) ((va_up σ 5 (σ 3), va_up lm 5 (lm 3), τ))) := h
        exact hret _ ((va_up σ 5 (σ 3), va_up lm 5 (lm 3), τ)) _ _ _ _ h ⟨(by unfold ctX; rw [if_neg c_16, hF, show ffe (cuX (σ 3)) n 0 - i = 0 by omega]; rfl), (σ 3), (lm 3), rfl⟩ dX8_fewestCut_106
      · refine lv_aload_n hx hb dX8_fewestCut_53 rfl (lv_at hl 2 rfl) ?_
        refine gget C h igX8 0 rfl rfl 4 (by decide) q205 rfl rfl dX8_fewestCut_54 ?_
        refine gget C h igX6 35 rfl rfl 2 (by decide) q168 rfl rfl dX8_fewestCut_57 ?_
        refine lv_iload hx hb dX8_fewestCut_60 (lv_at hl 0 rfl) ?_
        refine lv_iconst (v := 1) hx hb dX8_fewestCut_62 (by decide) ?_
        refine gist C h 41 rfl (j := i) (by omega) (by decide) dX8_fewestCut_63 (fun H ll h => ?_)
        have h : gW D ct zA zs _ _ (wX ad ct (va_up σ 5 (va_up (σ 3) 6 (upd ((σ 3) 6) i 1))) (va_up lm 5 (lm 3)) τ) := h
        refine lv_aload_n hx hb dX8_fewestCut_64 rfl (lv_at hl 2 rfl) ?_
        refine gget C h igX8 0 rfl rfl 1 (by decide) q202 rfl rfl dX8_fewestCut_65 ?_
        refine lv_aload_n hx hb dX8_fewestCut_68 rfl (lv_at hl 2 rfl) ?_
        refine gget C h igX8 0 rfl rfl 4 (by decide) q205 rfl rfl dX8_fewestCut_69 ?_
        refine lv_iload_n hx hb dX8_fewestCut_72 rfl (lv_at hl 3 rfl) ?_
        refine gFi C h trivial gNo_ok (kX5_sumOf l D ct (ad 2) (ad 5) (σ 2) (va_up (σ 3) 6 (upd ((σ 3) 6) i 1)) (lm 3) n kd hok q (by omega)) (cwV 2 C.2.2.2.2 (gInV q428 q429 q430 q59 q431) rfl rfl rfl hvX5_sumOf ⟨Nat.le_of_ble_eq_true rfl, Nat.le_of_ble_eq_true rfl⟩) 3 rfl rfl rfl (fr_X_RS5 ad ct _ _ _) rfl hl.1 rfl (Nat.le_of_ble_eq_true rfl) dX8_fewestCut_73 ⟨Nat.zero_le _, Nat.zero_le _⟩ (fun r9 u9 H ll hw h => ?_)
        have hw : r9 = smX (va_up (σ 3) 6 (upd ((σ 3) 6) i 1)) (lm 3) n kd q := hw
        subst hw
        have h : gW D ct zA zs _ _ (wX ad ct (va_up σ 5 (va_up (σ 3) 6 (upd ((σ 3) 6) i 1))) (va_up lm 5 (lm 3)) τ) := h
        refine gcallSi C h (kX8_outcomeOf l D ct (smX (va_up (σ 3) 6 (upd ((σ 3) 6) i 1)) (lm 3) n kd q)) (va_cwS 1 C.2.2.2.2 (gInS q496 q497 q57 q498) rfl rfl rfl hdX8_outcomeOf ⟨Nat.le_of_ble_eq_true rfl, Nat.le_of_ble_eq_true rfl⟩) rfl hl.1 rfl (Nat.le_of_ble_eq_true rfl) dX8_fewestCut_76 ⟨Nat.zero_le _, Nat.zero_le _⟩ (fun H ll h => ?_)
        refine lv_iload_n hx hb dX8_fewestCut_79 rfl (lv_at hl 4 rfl) ?_
        refine lv_icmp_ne (tgt := 88) hx hb dX8_fewestCut_80 (by decide) (fun c_80 => ?_) (fun c_80 => ?_)
        · refine lv_aload_n hx hb dX8_fewestCut_88 rfl (lv_at hl 2 rfl) ?_
          refine gget C h igX8 0 rfl rfl 4 (by decide) q205 rfl rfl dX8_fewestCut_89 ?_
          refine gget C h igX6 35 rfl rfl 2 (by decide) q168 rfl rfl dX8_fewestCut_92 ?_
          refine lv_iload hx hb dX8_fewestCut_95 (lv_at hl 0 rfl) ?_
          refine lv_iconst (v := 0) hx hb dX8_fewestCut_97 (by decide) ?_
          refine gist C h 41 rfl (j := i) (by omega) (by decide) dX8_fewestCut_98 (fun H ll h => ?_)
          have h : gW D ct zA zs _ _ (wX ad ct (va_up σ 5 (va_up (σ 3) 6 (upd (upd ((σ 3) 6) i 1) i 0))) (va_up lm 5 (lm 3)) τ) := h
          refine ninc (lv' := [(4, .int (nI (i + 1))), (3, .int (nI (ffe (cuX (σ 3)) n 0))), (0, .ref (ad 0 0)), (1, .int (nI q)), (2, .int o)]) hx hb i 1 dX8_fewestCut_99 hl (k := 0) rfl (by decide) rfl (fun ls hl => ?_)
          refine lv_goto (tgt := 47) hx hb dX8_fewestCut_102 (by decide) ?_
          have h := h.cong 41 rfl (g := σ 3 6) (fun j hj => by show upd (upd (σ 3 6) i 1) i 0 j = σ 3 6 j; by_cases e9 : j = i; (subst e9; rw [pk_us]; exact (cuX_0 (ffe_not (Nat.zero_le _) c_50)).symm); (rw [pk_un e9, pk_un e9]))
          have h : gW D ct zA zs _ _ (wX ad ct (va_up σ 5 (σ 3)) (va_up lm 5 (lm 3)) τ) := h
          exact ih47 _ (by omega) (i + 1) _ _ _ rfl (by omega) (by rw [hF, show ffe (cuX (σ 3)) n 0 - i = (ffe (cuX (σ 3)) n 0 - (i + 1)) + 1 by omega]; exact if_neg c_80) h (lv_sub hl [0, 1, 2, 3, 4] rfl)
        · have hpi : 2 ^ i ≤ 256 := p2le (by omega)
          refine lv_iconst (v := 1) hx hb dX8_fewestCut_83 (by decide) ?_
          refine lv_iload hx hb dX8_fewestCut_84 (lv_at hl 0 rfl) ?_
          refine nshl hx hb 1 i (by omega) (by omega) dX8_fewestCut_86 ?_
          have h : gW D ct zA zs _ _ ((fun u : (Nat → Nat → Nat → Int32) × (Nat → Nat → Nat → Int32) × (Nat → Int64) => wX ad ct u.1 u.2.1 u.2.2) ((va_up σ 5 (va_up (σ 3) 6 (upd ((σ 3) 6) i 1)), va_up lm 5 (lm 3), τ))) := h
          exact hret _ ((va_up σ 5 (va_up (σ 3) 6 (upd ((σ 3) 6) i 1)), va_up lm 5 (lm 3), τ)) _ _ _ _ h ⟨(by unfold ctX; rw [if_neg c_16, hF, show ffe (cuX (σ 3)) n 0 - i = (ffe (cuX (σ 3)) n 0 - (i + 1)) + 1 by omega]; exact (congrArg bI (fc_pos c_80)).symm), (va_up (σ 3) 6 (upd ((σ 3) 6) i 1)), (lm 3), rfl⟩ dX8_fewestCut_87
    exact L47_1 _ 0 _ _ _ rfl (Nat.zero_le _) rfl h (lv_sub hl [0, 1, 2, 3, 4] rfl)
  · refine lv_iconst (v := 0) hx hb dX8_fewestCut_19 (by decide) ?_
    have h : gW D ct zA zs _ _ ((fun u : (Nat → Nat → Nat → Int32) × (Nat → Nat → Nat → Int32) × (Nat → Int64) => wX ad ct u.1 u.2.1 u.2.2) ((va_up σ 5 (σ 5), va_up lm 5 (lm 5), τ))) := h
    exact hret _ ((va_up σ 5 (σ 5), va_up lm 5 (lm 5), τ)) _ _ _ _ h ⟨(by unfold ctX; rw [if_pos c_16]; rfl), (σ 5), (lm 5), rfl⟩ dX8_fewestCut_20
set_option maxHeartbeats 1000000 in
set_option maxRecDepth 100000 in
theorem kX8_leanOtherwise (l : Launch) (D : va_G) (ct : Nat → ClassId) (ad : Nat → Nat → Nat) (σ lm : Nat → Nat → Nat → Int32) (τ : Nat → Int64) (n : Nat) (kd : Nat → Nat) (hok : ROK (σ 2) n kd) (x y q : Nat) (hx8 : x < 256) (hy8 : y < 2 ^ 31) (hq : q < 3) : MV l yX8_leanOtherwise (gWs yX8_leanOtherwise cX8_leanOtherwise 7 none) rmX8_leanOtherwise D ct gNo [.ref (ad 0 0), .int (nI x), .int (nI y), .int (nI q)] (wX ad ct σ lm τ) (fun u : (Nat → Nat → Nat → Int32) × (Nat → Nat → Nat → Int32) × (Nat → Int64) => wX ad ct u.1 u.2.1 u.2.2) (fun u => ∃ (L5 : Nat → Nat → Int32), (∀ m, m < n → L5 q m = loX (lm 3 q) x y m) ∧ u = (σ, va_up lm 5 L5, τ)) := by
  refine MV.of RX8 rfl (by decide) (Nat.le_of_ble_eq_true rfl) ?_
  intro zp ze zs zm za zb zt zc zA ls zQ C h hX hl hret
  have hx := C.1
  have hb := C.2.1
  have hl : lv_has ls 7 [(0, .ref (ad 0 0)), (1, .int (nI x)), (2, .int (nI y)), (3, .int (nI q))] := hl
  have hok0 := hok
  obtain ⟨hn, hn8, hkd⟩ := hok0
  refine lv_iload_n hx hb dX8_leanOtherwise_0 rfl (lv_at hl 2 rfl) ?_
  refine lv_istore (lv' := [(4, .int (nI y)), (0, .ref (ad 0 0)), (1, .int (nI x)), (2, .int (nI y)), (3, .int (nI q))]) hx hb dX8_leanOtherwise_1 hl (by decide) rfl (fun ls hl => ?_)
  have hl : lv_has ls 7 [(4, .int (nI (y / 2 ^ pcn x 0))), (0, .ref (ad 0 0)), (1, .int (nI x)), (2, .int (nI y)), (3, .int (nI q))] := by have e9 : (nI y : Int32) = nI (y / 2 ^ pcn x 0) := congrArg nI (by show y = y / 2 ^ 0; rw [Nat.pow_zero, Nat.div_one]); rw [← e9]; exact hl
  refine lv_iconst (v := 0) hx hb dX8_leanOtherwise_3 (by decide) ?_
  refine lv_istore (lv' := [(5, .int 0), (4, .int (nI (y / 2 ^ pcn x 0))), (0, .ref (ad 0 0)), (1, .int (nI x)), (2, .int (nI y)), (3, .int (nI q))]) hx hb dX8_leanOtherwise_4 hl (by decide) rfl (fun ls hl => ?_)
  have L6_0 : ∀ (kk : Nat) (i : Nat) (L5 : Nat → Nat → Int32) (H : Heap) (ll : List Loc) (ls : Array Slot), n - i = kk → (i ≤ n) → (∀ m, m < i → L5 q m = loX (lm 3 q) x y m) → gW D ct zA zs H ll (wX ad ct σ (va_up lm 5 L5) τ) → lv_has ls 7 [(5, .int (nI i)), (4, .int (nI (y / 2 ^ pcn x i))), (0, .ref (ad 0 0)), (1, .int (nI x)), (2, .int (nI y)), (3, .int (nI q))] → W zp l ze rmX8_leanOtherwise zs zm za zb zt zc H ll 0 0 zQ (F0 zm 6 ls []) := by
    intro kk6
    induction kk6 using Nat.strongRecOn with
    | _ kk6 ih6 =>
    intro i L5 H ll ls hk6 hi hL h hl
    refine lv_iload hx hb dX8_leanOtherwise_6 (lv_at hl 0 rfl) ?_
    refine lv_aload_n hx hb dX8_leanOtherwise_8 rfl (lv_at hl 2 rfl) ?_
    refine gget C h igX8 0 rfl rfl 1 (by decide) q202 rfl rfl dX8_leanOtherwise_9 ?_
    refine gget C h igX5 3 rfl rfl 2 (by decide) q144 rfl rfl dX8_leanOtherwise_12 ?_
    refine gas hn ?_
    refine nb_ge hx hb i n (by omega) (by omega) (tgt := 83) dX8_leanOtherwise_15 (by decide) (fun c_15 => ?_) (fun c_15 => ?_)
    · have h : gW D ct zA zs _ _ ((fun u : (Nat → Nat → Nat → Int32) × (Nat → Nat → Nat → Int32) × (Nat → Int64) => wX ad ct u.1 u.2.1 u.2.2) ((σ, va_up lm 5 L5, τ))) := h
      exact hret ((σ, va_up lm 5 L5, τ)) _ _ _ _ h ⟨L5, (fun m hm => hL m (by omega)), rfl⟩ dX8_leanOtherwise_83
    · refine lv_aload_n hx hb dX8_leanOtherwise_18 rfl (lv_at hl 2 rfl) ?_
      refine gget C h igX8 0 rfl rfl 2 (by decide) q203 rfl rfl dX8_leanOtherwise_19 ?_
      refine gget C h igX6 11 rfl rfl 1 (by decide) q164 rfl rfl dX8_leanOtherwise_22 ?_
      refine lv_iload_n hx hb dX8_leanOtherwise_25 rfl (lv_at hl 5 rfl) ?_
      refine gald C h 13 4 rfl rfl rfl (j := q) (b := ad 3 (3 + q)) (by omega) (by decide) (if_pos (by omega)) dX8_leanOtherwise_26 ?_
      refine lv_iload hx hb dX8_leanOtherwise_27 (lv_at hl 0 rfl) ?_
      refine gild C h (14 + q) (wX_row3 ad ct _ _ _ (by omega)) (j := i) (by omega) (by decide) dX8_leanOtherwise_29 ?_
      refine gas (z := lm 3 q i) rfl ?_
      refine lv_istore (lv' := [(6, .int (lm 3 q i)), (5, .int (nI i)), (4, .int (nI (y / 2 ^ pcn x i))), (0, .ref (ad 0 0)), (1, .int (nI x)), (2, .int (nI y)), (3, .int (nI q))]) hx hb dX8_leanOtherwise_30 hl (by decide) rfl (fun ls hl => ?_)
      refine lv_iload_n hx hb dX8_leanOtherwise_32 rfl (lv_at hl 4 rfl) ?_
      refine lv_iload hx hb dX8_leanOtherwise_33 (lv_at hl 1 rfl) ?_
      refine nshr hx hb x i (by omega) (by omega) dX8_leanOtherwise_35 ?_
      refine lv_iconst (v := 1) hx hb dX8_leanOtherwise_36 (by decide) ?_
      refine nand hx hb (x / 2 ^ i) 1 dX8_leanOtherwise_37 ?_
      refine lv_iconst (v := 1) hx hb dX8_leanOtherwise_38 (by decide) ?_
      refine nb_ne hx hb ((x / 2 ^ i) &&& 1) 1 (by rw [and1]; omega) (by omega) (tgt := 63) dX8_leanOtherwise_39 (by decide) (fun c_39 => ?_) (fun c_39 => ?_)
      · refine lv_aload_n hx hb dX8_leanOtherwise_63 rfl (lv_at hl 3 rfl) ?_
        refine gget C h igX8 0 rfl rfl 4 (by decide) q205 rfl rfl dX8_leanOtherwise_64 ?_
        refine gget C h igX6 35 rfl rfl 1 (by decide) q164 rfl rfl dX8_leanOtherwise_67 ?_
        refine lv_iload_n hx hb dX8_leanOtherwise_70 rfl (lv_at hl 6 rfl) ?_
        refine gald C h 37 4 rfl rfl rfl (j := q) (b := ad 5 (3 + q)) (by omega) (by decide) (if_pos (by omega)) dX8_leanOtherwise_71 ?_
        refine lv_iload hx hb dX8_leanOtherwise_72 (lv_at hl 1 rfl) ?_
        refine lv_iload hx hb dX8_leanOtherwise_74 (lv_at hl 0 rfl) ?_
        refine gist C h (38 + q) (wX_row5 ad ct _ _ _ (by omega)) (j := i) (by omega) (by decide) dX8_leanOtherwise_76 (fun H ll h => ?_)
        have h := h.to (wX_rset5 ad ct _ _ _ (by omega) _)
        have h : gW D ct zA zs _ _ (wX ad ct σ (va_up lm 5 (va_up L5 q (upd (L5 q) i (lm 3 q i)))) τ) := h
        refine ninc (lv' := [(5, .int (nI (i + 1))), (6, .int (lm 3 q i)), (4, .int (nI (y / 2 ^ pcn x i))), (0, .ref (ad 0 0)), (1, .int (nI x)), (2, .int (nI y)), (3, .int (nI q))]) hx hb i 1 dX8_leanOtherwise_77 hl (k := 1) rfl (by decide) rfl (fun ls hl => ?_)
        refine lv_goto (tgt := 6) hx hb dX8_leanOtherwise_80 (by decide) ?_
        have hl : lv_has ls 7 [(5, .int (nI (i + 1))), (6, .int (lm 3 q i)), (4, .int (nI (y / 2 ^ pcn x (i + 1)))), (0, .ref (ad 0 0)), (1, .int (nI x)), (2, .int (nI y)), (3, .int (nI q))] := by have e9 : (nI (y / 2 ^ pcn x i) : Int32) = nI (y / 2 ^ pcn x (i + 1)) := congrArg nI (by show _ = y / 2 ^ (pcn x i + x / 2 ^ i % 2); rw [show x / 2 ^ i % 2 = 0 by have := tb0 c_39; rw [tb_div] at this; omega]; rfl); rw [← e9]; exact hl
        exact ih6 _ (by omega) (i + 1) (va_up L5 q (upd (L5 q) i (lm 3 q i))) _ _ _ rfl (by omega) (fun m hm => by rw [va_up_self]; by_cases e9 : m = i; (subst e9; rw [pk_us]; unfold loX; rw [if_neg (tb0 c_39)]); (rw [pk_un e9]; exact hL m (by omega))) h (lv_sub hl [0, 2, 3, 4, 5, 6] rfl)
      · refine lv_iload hx hb dX8_leanOtherwise_42 (lv_at hl 0 rfl) ?_
        refine lv_iconst (v := 2) hx hb dX8_leanOtherwise_44 (by decide) ?_
        refine lv_iadd hx hb dX8_leanOtherwise_45 ?_
        refine lv_iload hx hb dX8_leanOtherwise_46 (lv_at hl 2 rfl) ?_
        refine lv_iconst (v := 1) hx hb dX8_leanOtherwise_48 (by decide) ?_
        refine nand hx hb (y / 2 ^ pcn x i) 1 dX8_leanOtherwise_49 ?_
        refine lv_iadd hx hb dX8_leanOtherwise_50 ?_
        refine lv_iconst (v := 3) hx hb dX8_leanOtherwise_51 (by decide) ?_
        refine lv_irem hx hb dX8_leanOtherwise_52 (by decide) ?_
        refine lv_iconst (v := 1) hx hb dX8_leanOtherwise_53 (by decide) ?_
        refine lv_isub hx hb dX8_leanOtherwise_54 ?_
        refine lv_istore (lv' := [(6, .int (((((lm 3 q i) + 2) + (nI ((y / 2 ^ pcn x i) &&& 1))) - (((lm 3 q i) + 2) + (nI ((y / 2 ^ pcn x i) &&& 1))) / 3 * 3) - 1)), (5, .int (nI i)), (4, .int (nI (y / 2 ^ pcn x i))), (0, .ref (ad 0 0)), (1, .int (nI x)), (2, .int (nI y)), (3, .int (nI q))]) hx hb dX8_leanOtherwise_55 hl (by decide) rfl (fun ls hl => ?_)
        refine lv_iload hx hb dX8_leanOtherwise_57 (lv_at hl 2 rfl) ?_
        refine lv_iconst (v := 1) hx hb dX8_leanOtherwise_59 (by decide) ?_
        refine nshr hx hb (y / 2 ^ pcn x i) 1 (by omega) (shr_lt hy8) dX8_leanOtherwise_60 ?_
        refine lv_istore (lv' := [(4, .int (nI ((y / 2 ^ pcn x i) / 2 ^ 1))), (6, .int (((((lm 3 q i) + 2) + (nI ((y / 2 ^ pcn x i) &&& 1))) - (((lm 3 q i) + 2) + (nI ((y / 2 ^ pcn x i) &&& 1))) / 3 * 3) - 1)), (5, .int (nI i)), (0, .ref (ad 0 0)), (1, .int (nI x)), (2, .int (nI y)), (3, .int (nI q))]) hx hb dX8_leanOtherwise_61 hl (by decide) rfl (fun ls hl => ?_)
        refine lv_aload_n hx hb dX8_leanOtherwise_63 rfl (lv_at hl 3 rfl) ?_
        refine gget C h igX8 0 rfl rfl 4 (by decide) q205 rfl rfl dX8_leanOtherwise_64 ?_
        refine gget C h igX6 35 rfl rfl 1 (by decide) q164 rfl rfl dX8_leanOtherwise_67 ?_
        refine lv_iload_n hx hb dX8_leanOtherwise_70 rfl (lv_at hl 6 rfl) ?_
        refine gald C h 37 4 rfl rfl rfl (j := q) (b := ad 5 (3 + q)) (by omega) (by decide) (if_pos (by omega)) dX8_leanOtherwise_71 ?_
        refine lv_iload hx hb dX8_leanOtherwise_72 (lv_at hl 2 rfl) ?_
        refine lv_iload hx hb dX8_leanOtherwise_74 (lv_at hl 1 rfl) ?_
        refine gist C h (38 + q) (wX_row5 ad ct _ _ _ (by omega)) (j := i) (by omega) (by decide) dX8_leanOtherwise_76 (fun H ll h => ?_)
        have h := h.to (wX_rset5 ad ct _ _ _ (by omega) _)
        have h : gW D ct zA zs _ _ (wX ad ct σ (va_up lm 5 (va_up L5 q (upd (L5 q) i (((((lm 3 q i) + 2) + (nI ((y / 2 ^ pcn x i) &&& 1))) - (((lm 3 q i) + 2) + (nI ((y / 2 ^ pcn x i) &&& 1))) / 3 * 3) - 1)))) τ) := h
        refine ninc (lv' := [(5, .int (nI (i + 1))), (4, .int (nI ((y / 2 ^ pcn x i) / 2 ^ 1))), (6, .int (((((lm 3 q i) + 2) + (nI ((y / 2 ^ pcn x i) &&& 1))) - (((lm 3 q i) + 2) + (nI ((y / 2 ^ pcn x i) &&& 1))) / 3 * 3) - 1)), (0, .ref (ad 0 0)), (1, .int (nI x)), (2, .int (nI y)), (3, .int (nI q))]) hx hb i 1 dX8_leanOtherwise_77 hl (k := 2) rfl (by decide) rfl (fun ls hl => ?_)
        refine lv_goto (tgt := 6) hx hb dX8_leanOtherwise_80 (by decide) ?_
        have hl : lv_has ls 7 [(5, .int (nI (i + 1))), (4, .int (nI (y / 2 ^ pcn x (i + 1)))), (6, .int (((((lm 3 q i) + 2) + (nI ((y / 2 ^ pcn x i) &&& 1))) - (((lm 3 q i) + 2) + (nI ((y / 2 ^ pcn x i) &&& 1))) / 3 * 3) - 1)), (0, .ref (ad 0 0)), (1, .int (nI x)), (2, .int (nI y)), (3, .int (nI q))] := by have e9 : (nI ((y / 2 ^ pcn x i) / 2 ^ 1) : Int32) = nI (y / 2 ^ pcn x (i + 1)) := congrArg nI (by show _ = y / 2 ^ (pcn x i + x / 2 ^ i % 2); rw [(tb_div x i).mp (tb1 c_39)]; exact div_pcn); rw [← e9]; exact hl
        exact ih6 _ (by omega) (i + 1) (va_up L5 q (upd (L5 q) i (((((lm 3 q i) + 2) + (nI ((y / 2 ^ pcn x i) &&& 1))) - (((lm 3 q i) + 2) + (nI ((y / 2 ^ pcn x i) &&& 1))) / 3 * 3) - 1))) _ _ _ rfl (by omega) (fun m hm => by rw [va_up_self]; by_cases e9 : m = i; (subst e9; rw [pk_us]; unfold loX; rw [if_pos (tb1 c_39)]; unfold othX; rw [and1]); (rw [pk_un e9]; exact hL m (by omega))) h (lv_sub hl [0, 1, 3, 4, 5, 6] rfl)
  exact L6_0 _ 0 (lm 5) _ _ _ rfl (by omega) (fun m hm => absurd hm (by omega)) h (lv_sub hl [0, 1, 2, 3, 4, 5] rfl)
set_option maxHeartbeats 1000000 in
set_option maxRecDepth 100000 in
theorem kX8_comesOutTurned (l : Launch) (D : va_G) (ct : Nat → ClassId) (ad : Nat → Nat → Nat) (σ lm : Nat → Nat → Nat → Int32) (τ : Nat → Int64) (n : Nat) (kd : Nat → Nat) (hok : ROK (σ 2) n kd) (x q : Nat) (o : Int32) (hx8 : x < 256) (hq : q < 3) : MI l yX8_comesOutTurned (gWs yX8_comesOutTurned cX8_comesOutTurned 6 (some .boolean)) rmX8_comesOutTurned D ct gNo [.ref (ad 0 0), .int (nI x), .int (nI q), .int o] (wX ad ct σ lm τ) (fun u : (Nat → Nat → Nat → Int32) × (Nat → Nat → Nat → Int32) × (Nat → Int64) => wX ad ct u.1 u.2.1 u.2.2) (fun r u => r = (if cmX (σ 5) (lm 3) n kd q o x = true then 1 else 0) ∧ ∃ (L5 : Nat → Nat → Int32), u = (σ, va_up lm 5 L5, τ)) := by
  refine MI.ofZ RX8 rfl (by decide) (Nat.le_of_ble_eq_true rfl) ?_
  intro zp ze zs zm za zb zt zc zA ls zQ C h hX hl hret
  have hx := C.1
  have hb := C.2.1
  have hl : lv_has ls 6 [(0, .ref (ad 0 0)), (1, .int (nI x)), (2, .int (nI q)), (3, .int o)] := hl
  have hok0 := hok
  obtain ⟨hn, hn8, hkd⟩ := hok0
  have hpc := pcn_le x 8
  have hpp : 2 ^ pcn x 8 ≤ 256 := p2le hpc
  refine lv_iconst (v := 1) hx hb dX8_comesOutTurned_0 (by decide) ?_
  refine lv_iload_n hx hb dX8_comesOutTurned_1 rfl (lv_at hl 1 rfl) ?_
  refine gcallSi C h (kJ6_bitCount_0f7a4 l D ct x (by omega)) (va_cwS 1 C.2.2.2.2 (gInS q469 q470 q74 q471) rfl rfl rfl hdJ6_bitCount_0f7a4 ⟨Nat.le_of_ble_eq_true rfl, Nat.le_of_ble_eq_true rfl⟩) rfl hl.1 rfl (Nat.le_of_ble_eq_true rfl) dX8_comesOutTurned_2 ⟨Nat.zero_le _, Nat.zero_le _⟩ (fun H ll h => ?_)
  refine nshl hx hb 1 (pcn x 8) (by omega) (by omega) dX8_comesOutTurned_5 ?_
  refine lv_istore (lv' := [(4, .int (nI (1 * 2 ^ (pcn x 8)))), (0, .ref (ad 0 0)), (1, .int (nI x)), (2, .int (nI q)), (3, .int o)]) hx hb dX8_comesOutTurned_6 hl (by decide) rfl (fun ls hl => ?_)
  refine lv_iconst (v := 0) hx hb dX8_comesOutTurned_8 (by decide) ?_
  refine lv_istore (lv' := [(5, .int 0), (4, .int (nI (1 * 2 ^ (pcn x 8)))), (0, .ref (ad 0 0)), (1, .int (nI x)), (2, .int (nI q)), (3, .int o)]) hx hb dX8_comesOutTurned_9 hl (by decide) rfl (fun ls hl => ?_)
  have L11_0 : ∀ (kk : Nat) (y : Nat) (L5 : Nat → Nat → Int32) (H : Heap) (ll : List Loc) (ls : Array Slot), 2 ^ pcn x 8 - y = kk → (y ≤ 2 ^ pcn x 8) → (anyX (fun y => decide (sgn (smX (σ 5) (fun _ => loX (lm 3 q) x y) n kd q) = o)) y = false) → gW D ct zA zs H ll (wX ad ct σ (va_up lm 5 L5) τ) → lv_has ls 6 [(5, .int (nI y)), (4, .int (nI (1 * 2 ^ (pcn x 8)))), (0, .ref (ad 0 0)), (1, .int (nI x)), (2, .int (nI q)), (3, .int o)] → W zp l ze rmX8_comesOutTurned zs zm za zb zt zc H ll 0 0 zQ (F0 zm 11 ls []) := by
    intro kk11
    induction kk11 using Nat.strongRecOn with
    | _ kk11 ih11 =>
    intro y L5 H ll ls hk11 hy hn5 h hl
    refine lv_iload hx hb dX8_comesOutTurned_11 (lv_at hl 0 rfl) ?_
    refine lv_iload hx hb dX8_comesOutTurned_13 (lv_at hl 1 rfl) ?_
    refine nb_ge hx hb y (1 * 2 ^ (pcn x 8)) (by omega) (by omega) (tgt := 53) dX8_comesOutTurned_15 (by decide) (fun c_15 => ?_) (fun c_15 => ?_)
    · refine lv_iconst (v := 0) hx hb dX8_comesOutTurned_53 (by decide) ?_
      have h : gW D ct zA zs _ _ ((fun u : (Nat → Nat → Nat → Int32) × (Nat → Nat → Nat → Int32) × (Nat → Int64) => wX ad ct u.1 u.2.1 u.2.2) ((σ, va_up lm 5 L5, τ))) := h
      exact hret _ ((σ, va_up lm 5 L5, τ)) _ _ _ _ h ⟨(by have e9 : cmX (σ 5) (lm 3) n kd q o x = false := (by unfold cmX; rw [show 2 ^ pcn x 8 = y by omega]; exact hn5); rw [e9]; rfl), L5, rfl⟩ dX8_comesOutTurned_54 (by decide)
    · refine lv_aload_n hx hb dX8_comesOutTurned_18 rfl (lv_at hl 2 rfl) ?_
      refine lv_iload_n hx hb dX8_comesOutTurned_19 rfl (lv_at hl 3 rfl) ?_
      refine lv_iload hx hb dX8_comesOutTurned_20 (lv_at hl 0 rfl) ?_
      refine lv_iload_n hx hb dX8_comesOutTurned_22 rfl (lv_at hl 4 rfl) ?_
      refine gcallVv C h trivial gNo_ok (kX8_leanOtherwise l D ct ad σ (va_up lm 5 L5) τ n kd hok x y q (by omega) (by omega) (by omega)) (cwV 3 C.2.2.2.2 (gInV q603 q605 q14 q57 q606) rfl rfl rfl hvX8_leanOtherwise ⟨Nat.le_of_ble_eq_true rfl, Nat.le_of_ble_eq_true rfl⟩) 0 rfl rfl rfl rfl hl.1 rfl (Nat.le_of_ble_eq_true rfl) dX8_comesOutTurned_23 ⟨Nat.zero_le _, Nat.zero_le _⟩ (fun u9 H ll hw h => ?_)
      obtain ⟨L5_c2, hp0_c2, rfl⟩ := hw
      have hp0_c2 : ∀ m, m < n → L5_c2 q m = loX (lm 3 q) x y m := hp0_c2
      have h : gW D ct zA zs _ _ (wX ad ct σ (va_up lm 5 L5_c2) τ) := h
      refine lv_aload_n hx hb dX8_comesOutTurned_26 rfl (lv_at hl 2 rfl) ?_
      refine gget C h igX8 0 rfl rfl 1 (by decide) q202 rfl rfl dX8_comesOutTurned_27 ?_
      refine lv_aload_n hx hb dX8_comesOutTurned_30 rfl (lv_at hl 2 rfl) ?_
      refine gget C h igX8 0 rfl rfl 4 (by decide) q205 rfl rfl dX8_comesOutTurned_31 ?_
      refine lv_iload_n hx hb dX8_comesOutTurned_34 rfl (lv_at hl 4 rfl) ?_
      refine gFi C h trivial gNo_ok (kX5_sumOf l D ct (ad 2) (ad 5) (σ 2) (σ 5) L5_c2 n kd hok q (by omega)) (cwV 2 C.2.2.2.2 (gInV q428 q429 q430 q59 q431) rfl rfl rfl hvX5_sumOf ⟨Nat.le_of_ble_eq_true rfl, Nat.le_of_ble_eq_true rfl⟩) 3 rfl rfl rfl (fr_X_RS5 ad ct _ _ _) rfl hl.1 rfl (Nat.le_of_ble_eq_true rfl) dX8_comesOutTurned_35 ⟨Nat.zero_le _, Nat.zero_le _⟩ (fun r9 u9 H ll hw h => ?_)
      have hw : r9 = smX (σ 5) L5_c2 n kd q := hw
      subst hw
      have h : gW D ct zA zs _ _ (wX ad ct σ (va_up lm 5 L5_c2) τ) := h
      refine gas (z := smX (σ 5) (fun _ => loX (lm 3 q) x y) n kd q) (smX_congL (fun j hj => hp0_c2 j hj)) ?_
      refine gcallSi C h (kX8_outcomeOf l D ct (smX (σ 5) (fun _ => loX (lm 3 q) x y) n kd q)) (va_cwS 1 C.2.2.2.2 (gInS q496 q497 q57 q498) rfl rfl rfl hdX8_outcomeOf ⟨Nat.le_of_ble_eq_true rfl, Nat.le_of_ble_eq_true rfl⟩) rfl hl.1 rfl (Nat.le_of_ble_eq_true rfl) dX8_comesOutTurned_38 ⟨Nat.zero_le _, Nat.zero_le _⟩ (fun H ll h => ?_)
      refine lv_iload_n hx hb dX8_comesOutTurned_41 rfl (lv_at hl 5 rfl) ?_
      refine lv_icmp_ne (tgt := 47) hx hb dX8_comesOutTurned_42 (by decide) (fun c_42 => ?_) (fun c_42 => ?_)
      · refine ninc (lv' := [(5, .int (nI (y + 1))), (4, .int (nI (1 * 2 ^ (pcn x 8)))), (0, .ref (ad 0 0)), (1, .int (nI x)), (2, .int (nI q)), (3, .int o)]) hx hb y 1 dX8_comesOutTurned_47 hl (k := 0) rfl (by decide) rfl (fun ls hl => ?_)
        refine lv_goto (tgt := 11) hx hb dX8_comesOutTurned_50 (by decide) ?_
        exact ih11 _ (by omega) (y + 1) L5_c2 _ _ _ rfl (by omega) (by show (anyX (fun y => decide (sgn (smX (σ 5) (fun _ => loX (lm 3 q) x y) n kd q) = o)) y || _) = false; rw [hn5]; simp [c_42]) h (lv_sub hl [0, 1, 2, 3, 4, 5] rfl)
      · refine lv_iconst (v := 1) hx hb dX8_comesOutTurned_45 (by decide) ?_
        have h : gW D ct zA zs _ _ ((fun u : (Nat → Nat → Nat → Int32) × (Nat → Nat → Nat → Int32) × (Nat → Int64) => wX ad ct u.1 u.2.1 u.2.2) ((σ, va_up lm 5 L5_c2, τ))) := h
        exact hret _ ((σ, va_up lm 5 L5_c2, τ)) _ _ _ _ h ⟨(by have e9 : cmX (σ 5) (lm 3) n kd q o x = true := anyX_of (P := (fun y => decide (sgn (smX (σ 5) (fun _ => loX (lm 3 q) x y) n kd q) = o))) (y := y) (by simp [c_42]) _ (by omega); rw [e9]; rfl), L5_c2, rfl⟩ dX8_comesOutTurned_46 (by decide)
  exact L11_0 _ 0 (lm 5) _ _ _ rfl (Nat.zero_le _) rfl h (lv_sub hl [0, 1, 2, 3, 4, 5] rfl)
set_option maxHeartbeats 1000000 in
set_option maxRecDepth 100000 in
theorem kX8_fewestTurned (l : Launch) (D : va_G) (ct : Nat → ClassId) (ad : Nat → Nat → Nat) (σ lm : Nat → Nat → Nat → Int32) (τ : Nat → Int64) (n : Nat) (kd : Nat → Nat) (hok : ROK (σ 2) n kd) (q : Nat) (o : Int32) (hq : q < 3) : MI l yX8_fewestTurned (gWs yX8_fewestTurned cX8_fewestTurned 6 (some .int)) rmX8_fewestTurned D ct gNo [.ref (ad 0 0), .int (nI q), .int o] (wX ad ct σ lm τ) (fun u : (Nat → Nat → Nat → Int32) × (Nat → Nat → Nat → Int32) × (Nat → Int64) => wX ad ct u.1 u.2.1 u.2.2) (fun r u => r = bI (tmX (cmX (σ 3) (lm 3) n kd q o) (ffe (cuX (σ 3)) n 0) ((ffe (cuX (σ 3)) n 0) + 1) 0) ∧ ∃ (g5 : Nat → Nat → Int32) (L5 : Nat → Nat → Int32), u = (va_up σ 5 g5, va_up lm 5 L5, τ)) := by
  refine MI.ofI RX8 rfl (by decide) (Nat.le_of_ble_eq_true rfl) ?_
  intro zp ze zs zm za zb zt zc zA ls zQ C h hX hl hret
  have hx := C.1
  have hb := C.2.1
  have hl : lv_has ls 6 [(0, .ref (ad 0 0)), (1, .int (nI q)), (2, .int o)] := hl
  have hok0 := hok
  obtain ⟨hn, hn8, hkd⟩ := hok0
  have hfe := ffe_le (cuX (σ 3)) n 0
  have hp2 : 2 ^ (ffe (cuX (σ 3)) n 0) ≤ 256 := p2le (by omega)
  refine lv_aload_n hx hb dX8_fewestTurned_0 rfl (lv_at hl 0 rfl) ?_
  refine gget C h igX8 0 rfl rfl 4 (by decide) q205 rfl rfl dX8_fewestTurned_1 ?_
  refine lv_aload_n hx hb dX8_fewestTurned_4 rfl (lv_at hl 0 rfl) ?_
  refine gget C h igX8 0 rfl rfl 2 (by decide) q203 rfl rfl dX8_fewestTurned_5 ?_
  refine gFv C h trivial gNo_ok (kX6_takeFrom l D ct (ad 5) (ad 3) (σ 5) (lm 5) (σ 3) (lm 3)) (cwV 1 C.2.2.2.2 (gInV q421 q422 q423 q65 q424) rfl rfl rfl hvX6_takeFrom ⟨Nat.le_of_ble_eq_true rfl, Nat.le_of_ble_eq_true rfl⟩) 35 rfl rfl rfl (fr_X_SS53m ad ct _ _ _) rfl hl.1 rfl (Nat.le_of_ble_eq_true rfl) dX8_fewestTurned_8 ⟨Nat.zero_le _, Nat.zero_le _⟩ (fun u9 H ll hw h => ?_)
  subst hw
  have h : gW D ct zA zs _ _ (wX ad ct (va_up σ 5 (σ 3)) (va_up lm 5 (lm 3)) τ) := h
  refine lv_aload_n hx hb dX8_fewestTurned_11 rfl (lv_at hl 0 rfl) ?_
  refine gget C h igX8 0 rfl rfl 1 (by decide) q202 rfl rfl dX8_fewestTurned_12 ?_
  refine lv_aload_n hx hb dX8_fewestTurned_15 rfl (lv_at hl 0 rfl) ?_
  refine gget C h igX8 0 rfl rfl 2 (by decide) q203 rfl rfl dX8_fewestTurned_16 ?_
  refine gFi C h trivial gNo_ok (kX5_feltIn l D ct (ad 2) (ad 3) (σ 2) (σ 3) (lm 3) n kd hok) (cwV 1 C.2.2.2.2 (gInV q459 q433 q434 q59 q435) rfl rfl rfl hvX5_feltIn ⟨Nat.le_of_ble_eq_true rfl, Nat.le_of_ble_eq_true rfl⟩) 3 rfl rfl rfl (fr_X_RS3 ad ct _ _ _) rfl hl.1 rfl (Nat.le_of_ble_eq_true rfl) dX8_fewestTurned_19 ⟨Nat.zero_le _, Nat.zero_le _⟩ (fun r9 u9 H ll hw h => ?_)
  have hw : r9 = nI (ffe (cuX (σ 3)) n 0) := hw
  subst hw
  have h : gW D ct zA zs _ _ (wX ad ct (va_up σ 5 (σ 3)) (va_up lm 5 (lm 3)) τ) := h
  refine lv_istore_n (lv' := [(3, .int (nI (ffe (cuX (σ 3)) n 0))), (0, .ref (ad 0 0)), (1, .int (nI q)), (2, .int o)]) hx hb dX8_fewestTurned_22 rfl hl (by decide) rfl (fun ls hl => ?_)
  refine lv_iconst (v := 0) hx hb dX8_fewestTurned_23 (by decide) ?_
  refine lv_istore (lv' := [(4, .int 0), (3, .int (nI (ffe (cuX (σ 3)) n 0))), (0, .ref (ad 0 0)), (1, .int (nI q)), (2, .int o)]) hx hb dX8_fewestTurned_24 hl (by decide) rfl (fun ls hl => ?_)
  have L26_1 : ∀ (kk : Nat) (k : Nat) (L5 : Nat → Nat → Int32) (H : Heap) (ll : List Loc) (ls : Array Slot), (ffe (cuX (σ 3)) n 0) + 1 - k = kk → (k ≤ (ffe (cuX (σ 3)) n 0) + 1) → (tmX (cmX (σ 3) (lm 3) n kd q o) (ffe (cuX (σ 3)) n 0) ((ffe (cuX (σ 3)) n 0) + 1) 0 = tmX (cmX (σ 3) (lm 3) n kd q o) (ffe (cuX (σ 3)) n 0) ((ffe (cuX (σ 3)) n 0) + 1 - k) k) → gW D ct zA zs H ll (wX ad ct (va_up σ 5 (σ 3)) (va_up lm 5 L5) τ) → lv_has ls 6 [(4, .int (nI k)), (3, .int (nI (ffe (cuX (σ 3)) n 0))), (0, .ref (ad 0 0)), (1, .int (nI q)), (2, .int o)] → W zp l ze rmX8_fewestTurned zs zm za zb zt zc H ll 0 0 zQ (F0 zm 26 ls []) := by
    intro kk26
    induction kk26 using Nat.strongRecOn with
    | _ kk26 ih26 =>
    intro k L5 H ll ls hk26 hk hT h hl
    refine lv_iload hx hb dX8_fewestTurned_26 (lv_at hl 0 rfl) ?_
    refine lv_iload_n hx hb dX8_fewestTurned_28 rfl (lv_at hl 1 rfl) ?_
    refine nb_gt hx hb k (ffe (cuX (σ 3)) n 0) (by omega) (by omega) (tgt := 79) dX8_fewestTurned_29 (by decide) (fun c_29 => ?_) (fun c_29 => ?_)
    · refine lv_iconst (v := -1) hx hb dX8_fewestTurned_79 (by decide) ?_
      have h : gW D ct zA zs _ _ ((fun u : (Nat → Nat → Nat → Int32) × (Nat → Nat → Nat → Int32) × (Nat → Int64) => wX ad ct u.1 u.2.1 u.2.2) ((va_up σ 5 (σ 3), va_up lm 5 L5, τ))) := h
      exact hret _ ((va_up σ 5 (σ 3), va_up lm 5 L5, τ)) _ _ _ _ h ⟨(by rw [hT, show (ffe (cuX (σ 3)) n 0) + 1 - k = 0 by omega]; rfl), (σ 3), L5, rfl⟩ dX8_fewestTurned_80
    · refine lv_iconst (v := 0) hx hb dX8_fewestTurned_32 (by decide) ?_
      refine lv_istore (lv' := [(5, .int 0), (4, .int (nI k)), (3, .int (nI (ffe (cuX (σ 3)) n 0))), (0, .ref (ad 0 0)), (1, .int (nI q)), (2, .int o)]) hx hb dX8_fewestTurned_33 hl (by decide) rfl (fun ls hl => ?_)
      have L35_2 : ∀ (kk : Nat) (x : Nat) (L6 : Nat → Nat → Int32) (H : Heap) (ll : List Loc) (ls : Array Slot), 2 ^ (ffe (cuX (σ 3)) n 0) - x = kk → (x ≤ 2 ^ (ffe (cuX (σ 3)) n 0)) → (twX (cmX (σ 3) (lm 3) n kd q o) k (2 ^ (ffe (cuX (σ 3)) n 0)) 0 = twX (cmX (σ 3) (lm 3) n kd q o) k (2 ^ (ffe (cuX (σ 3)) n 0) - x) x) → gW D ct zA zs H ll (wX ad ct (va_up σ 5 (σ 3)) (va_up lm 5 L6) τ) → lv_has ls 6 [(5, .int (nI x)), (4, .int (nI k)), (3, .int (nI (ffe (cuX (σ 3)) n 0))), (0, .ref (ad 0 0)), (1, .int (nI q)), (2, .int o)] → W zp l ze rmX8_fewestTurned zs zm za zb zt zc H ll 0 0 zQ (F0 zm 35 ls []) := by
        intro kk35
        induction kk35 using Nat.strongRecOn with
        | _ kk35 ih35 =>
        intro x L6 H ll ls hk35 hxx hW h hl
        refine lv_iload hx hb dX8_fewestTurned_35 (lv_at hl 0 rfl) ?_
        refine lv_iconst (v := 1) hx hb dX8_fewestTurned_37 (by decide) ?_
        refine lv_iload_n hx hb dX8_fewestTurned_38 rfl (lv_at hl 2 rfl) ?_
        refine nshl hx hb 1 (ffe (cuX (σ 3)) n 0) (by omega) (by omega) dX8_fewestTurned_39 ?_
        refine nb_ge hx hb x (1 * 2 ^ (ffe (cuX (σ 3)) n 0)) (by omega) (by omega) (tgt := 73) dX8_fewestTurned_40 (by decide) (fun c_40 => ?_) (fun c_40 => ?_)
        · refine ninc (lv' := [(4, .int (nI (k + 1))), (5, .int (nI x)), (3, .int (nI (ffe (cuX (σ 3)) n 0))), (0, .ref (ad 0 0)), (1, .int (nI q)), (2, .int o)]) hx hb k 1 dX8_fewestTurned_73 hl (k := 1) rfl (by decide) rfl (fun ls hl => ?_)
          refine lv_goto (tgt := 26) hx hb dX8_fewestTurned_76 (by decide) ?_
          exact ih26 _ (by omega) (k + 1) L6 _ _ _ rfl (by omega) (by rw [hT, show (ffe (cuX (σ 3)) n 0) + 1 - k = ((ffe (cuX (σ 3)) n 0) + 1 - (k + 1)) + 1 by omega]; exact if_pos (by rw [hW, show 2 ^ (ffe (cuX (σ 3)) n 0) - x = 0 by omega]; rfl)) h (lv_sub hl [0, 2, 3, 4, 5] rfl)
        · have hpl := pcn_le x 8
          refine lv_iload hx hb dX8_fewestTurned_43 (lv_at hl 0 rfl) ?_
          refine gcallSi C h (kJ6_bitCount_0f7a4 l D ct x (by omega)) (va_cwS 1 C.2.2.2.2 (gInS q469 q470 q74 q471) rfl rfl rfl hdJ6_bitCount_0f7a4 ⟨Nat.le_of_ble_eq_true rfl, Nat.le_of_ble_eq_true rfl⟩) rfl hl.1 rfl (Nat.le_of_ble_eq_true rfl) dX8_fewestTurned_45 ⟨Nat.zero_le _, Nat.zero_le _⟩ (fun H ll h => ?_)
          refine lv_iload hx hb dX8_fewestTurned_48 (lv_at hl 1 rfl) ?_
          refine nb_ne hx hb (pcn x 8) k (by omega) (by omega) (tgt := 67) dX8_fewestTurned_50 (by decide) (fun c_50 => ?_) (fun c_50 => ?_)
          · refine ninc (lv' := [(5, .int (nI (x + 1))), (4, .int (nI k)), (3, .int (nI (ffe (cuX (σ 3)) n 0))), (0, .ref (ad 0 0)), (1, .int (nI q)), (2, .int o)]) hx hb x 1 dX8_fewestTurned_67 hl (k := 0) rfl (by decide) rfl (fun ls hl => ?_)
            refine lv_goto (tgt := 35) hx hb dX8_fewestTurned_70 (by decide) ?_
            exact ih35 _ (by omega) (x + 1) L6 _ _ _ rfl (by omega) (by rw [hW, show 2 ^ (ffe (cuX (σ 3)) n 0) - x = (2 ^ (ffe (cuX (σ 3)) n 0) - (x + 1)) + 1 by omega]; exact if_neg (fun q9 => c_50 q9.1)) h (lv_sub hl [0, 1, 2, 3, 4, 5] rfl)
          · refine lv_aload_n hx hb dX8_fewestTurned_53 rfl (lv_at hl 3 rfl) ?_
            refine lv_iload hx hb dX8_fewestTurned_54 (lv_at hl 0 rfl) ?_
            refine lv_iload_n hx hb dX8_fewestTurned_56 rfl (lv_at hl 4 rfl) ?_
            refine lv_iload_n hx hb dX8_fewestTurned_57 rfl (lv_at hl 5 rfl) ?_
            refine gcallVi C h trivial gNo_ok (kX8_comesOutTurned l D ct ad (va_up σ 5 (σ 3)) (va_up lm 5 L6) τ n kd hok x q o (by omega) (by omega)) (cwV 3 C.2.2.2.2 (gInV q599 q601 q13 q57 q602) rfl rfl rfl hvX8_comesOutTurned ⟨Nat.le_of_ble_eq_true rfl, Nat.le_of_ble_eq_true rfl⟩) 0 rfl rfl rfl rfl hl.1 rfl (Nat.le_of_ble_eq_true rfl) dX8_fewestTurned_58 ⟨Nat.zero_le _, Nat.zero_le _⟩ (fun r9 u9 H ll hw h => ?_)
            obtain ⟨hw, L5_c4, rfl⟩ := hw
            have hw : r9 = (if cmX ((σ 3)) (lm 3) n kd q o x = true then 1 else 0) := hw
            subst hw
            have h : gW D ct zA zs _ _ (wX ad ct (va_up σ 5 (σ 3)) (va_up lm 5 L5_c4) τ) := h
            refine bz_eq hx hb (cmX ((σ 3)) (lm 3) n kd q o x = true) (tgt := 67) dX8_fewestTurned_61 (by decide) (fun c_61 => ?_) (fun c_61 => ?_)
            · refine ninc (lv' := [(5, .int (nI (x + 1))), (4, .int (nI k)), (3, .int (nI (ffe (cuX (σ 3)) n 0))), (0, .ref (ad 0 0)), (1, .int (nI q)), (2, .int o)]) hx hb x 1 dX8_fewestTurned_67 hl (k := 0) rfl (by decide) rfl (fun ls hl => ?_)
              refine lv_goto (tgt := 35) hx hb dX8_fewestTurned_70 (by decide) ?_
              exact ih35 _ (by omega) (x + 1) L5_c4 _ _ _ rfl (by omega) (by rw [hW, show 2 ^ (ffe (cuX (σ 3)) n 0) - x = (2 ^ (ffe (cuX (σ 3)) n 0) - (x + 1)) + 1 by omega]; exact if_neg (fun q9 => c_61 q9.2)) h (lv_sub hl [0, 1, 2, 3, 4, 5] rfl)
            · refine lv_iload hx hb dX8_fewestTurned_64 (lv_at hl 0 rfl) ?_
              have h : gW D ct zA zs _ _ ((fun u : (Nat → Nat → Nat → Int32) × (Nat → Nat → Nat → Int32) × (Nat → Int64) => wX ad ct u.1 u.2.1 u.2.2) ((va_up σ 5 (σ 3), va_up lm 5 L5_c4, τ))) := h
              exact hret _ ((va_up σ 5 (σ 3), va_up lm 5 L5_c4, τ)) _ _ _ _ h ⟨(by rw [hT, show (ffe (cuX (σ 3)) n 0) + 1 - k = ((ffe (cuX (σ 3)) n 0) + 1 - (k + 1)) + 1 by omega]; have e8 : twX (cmX (σ 3) (lm 3) n kd q o) k (2 ^ (ffe (cuX (σ 3)) n 0)) 0 = some x := (by rw [hW, show 2 ^ (ffe (cuX (σ 3)) n 0) - x = (2 ^ (ffe (cuX (σ 3)) n 0) - (x + 1)) + 1 by omega]; exact if_pos ⟨c_50, c_61⟩); exact (congrArg bI (tm_some e8)).symm), (σ 3), L5_c4, rfl⟩ dX8_fewestTurned_66
      exact L35_2 _ 0 L5 _ _ _ rfl (Nat.zero_le _) rfl h (lv_sub hl [0, 1, 2, 3, 4, 5] rfl)
  exact L26_1 _ 0 (lm 3) _ _ _ rfl (Nat.zero_le _) rfl h (lv_sub hl [0, 1, 2, 3, 4] rfl)
set_option maxHeartbeats 1000000 in
set_option maxRecDepth 100000 in
theorem kX8_firstLike (l : Launch) (D : va_G) (ct : Nat → ClassId) (ad : Nat → Nat → Nat) (σ lm : Nat → Nat → Nat → Int32) (τ : Nat → Int64) (n : Nat) (kd : Nat → Nat) (hok : ROK (σ 2) n kd) (k : Nat) (hk : k < 64) : MI l yX8_firstLike (gWs yX8_firstLike cX8_firstLike 3 (some .int)) rmX8_firstLike D ct gNo [.ref (ad 0 0), .int (nI k)] (wX ad ct σ lm τ) (fun _ : Unit => (wX ad ct σ lm τ)) (fun r _ => r = nI (flX τ k k 0)) := by
  refine MI.ofI RX8 rfl (by decide) (Nat.le_of_ble_eq_true rfl) ?_
  intro zp ze zs zm za zb zt zc zA ls zQ C h hX hl hret
  have hx := C.1
  have hb := C.2.1
  have hl : lv_has ls 3 [(0, .ref (ad 0 0)), (1, .int (nI k))] := hl
  have hok0 := hok
  obtain ⟨hn, hn8, hkd⟩ := hok0
  refine lv_iconst (v := 0) hx hb dX8_firstLike_0 (by decide) ?_
  refine lv_istore_n (lv' := [(2, .int 0), (0, .ref (ad 0 0)), (1, .int (nI k))]) hx hb dX8_firstLike_1 rfl hl (by decide) rfl (fun ls hl => ?_)
  have L2_0 : ∀ (kk : Nat) (i : Nat) (H : Heap) (ll : List Loc) (ls : Array Slot), k - i = kk → (i ≤ k) → (flX τ k k 0 = flX τ k (k - i) i) → gW D ct zA zs H ll (wX ad ct σ lm τ) → lv_has ls 3 [(2, .int (nI i)), (0, .ref (ad 0 0)), (1, .int (nI k))] → W zp l ze rmX8_firstLike zs zm za zb zt zc H ll 0 0 zQ (F0 zm 2 ls []) := by
    intro kk2
    induction kk2 using Nat.strongRecOn with
    | _ kk2 ih2 =>
    intro i H ll ls hk2 hi hF h hl
    refine lv_iload_n hx hb dX8_firstLike_2 rfl (lv_at hl 0 rfl) ?_
    refine lv_iload_n hx hb dX8_firstLike_3 rfl (lv_at hl 2 rfl) ?_
    refine nb_ge hx hb i k (by omega) (by omega) (tgt := 29) dX8_firstLike_4 (by decide) (fun c_4 => ?_) (fun c_4 => ?_)
    · refine lv_iload_n hx hb dX8_firstLike_29 rfl (lv_at hl 0 rfl) ?_
      exact hret _ () _ _ _ _ h (by rw [hF]; first | (rw [show k - i = 0 by omega]; rfl) | (rw [show k - i = (k - (i + 1)) + 1 by omega]; exact congrArg nI (if_pos (lgc0.mp c_20)).symm)) dX8_firstLike_30
    · refine lv_aload_n hx hb dX8_firstLike_7 rfl (lv_at hl 1 rfl) ?_
      refine gget C h igX8 0 rfl rfl 8 (by decide) q209 rfl rfl dX8_firstLike_8 ?_
      refine lv_iload_n hx hb dX8_firstLike_11 rfl (lv_at hl 0 rfl) ?_
      refine glld C h 50 rfl (j := i) (by omega) (by decide) dX8_firstLike_12 ?_
      refine lv_aload_n hx hb dX8_firstLike_13 rfl (lv_at hl 1 rfl) ?_
      refine gget C h igX8 0 rfl rfl 8 (by decide) q209 rfl rfl dX8_firstLike_14 ?_
      refine lv_iload_n hx hb dX8_firstLike_17 rfl (lv_at hl 2 rfl) ?_
      refine glld C h 50 rfl (j := k) (by omega) (by decide) dX8_firstLike_18 ?_
      refine W.lcmp hx hb dX8_firstLike_19 ?_
      refine lv_if_eq (tgt := 29) hx hb dX8_firstLike_20 (by decide) (fun c_20 => ?_) (fun c_20 => ?_)
      · refine lv_iload_n hx hb dX8_firstLike_29 rfl (lv_at hl 0 rfl) ?_
        exact hret _ () _ _ _ _ h (by rw [hF]; first | (rw [show k - i = 0 by omega]; rfl) | (rw [show k - i = (k - (i + 1)) + 1 by omega]; exact congrArg nI (if_pos (lgc0.mp c_20)).symm)) dX8_firstLike_30
      · refine ninc (lv' := [(2, .int (nI (i + 1))), (0, .ref (ad 0 0)), (1, .int (nI k))]) hx hb i 1 dX8_firstLike_23 hl (k := 0) rfl (by decide) rfl (fun ls hl => ?_)
        refine lv_goto (tgt := 2) hx hb dX8_firstLike_26 (by decide) ?_
        exact ih2 _ (by omega) (i + 1) _ _ _ rfl (by omega) (by rw [hF, show k - i = (k - (i + 1)) + 1 by omega]; exact if_neg (fun q9 => c_20 (lgc0.mpr q9))) h (lv_sub hl [0, 1, 2] rfl)
  exact L2_0 _ 0 _ _ _ rfl (Nat.zero_le _) rfl h (lv_sub hl [0, 1, 2] rfl)
set_option maxHeartbeats 1000000 in
set_option maxRecDepth 100000 in
theorem kX8_tidesTillAgain (l : Launch) (D : va_G) (ct : Nat → ClassId) (ad : Nat → Nat → Nat) (σ lm : Nat → Nat → Nat → Int32) (τ : Nat → Int64) (dt : Nat → Nat) (n : Nat) (kd : Nat → Nat) (hok : ROK (σ 2) n kd)  : MI l yX8_tidesTillAgain (gWs yX8_tidesTillAgain cX8_tidesTillAgain 2 (some .int)) rmX8_tidesTillAgain D ct (stX dt) [.ref (ad 0 0)] (wX ad ct σ lm τ) (fun u : (Nat → Nat → Nat → Int32) × (Nat → Nat → Nat → Int32) × (Nat → Int64) => wX ad ct u.1 u.2.1 u.2.2) (fun r u => r = nI (tlX (hcX (σ 3) (lm 3) n kd) 62 0) ∧ ∃ (L5 : Nat → Nat → Int32) (t9 : Nat → Int64), (∀ j, j ≤ tlX (hcX (σ 3) (lm 3) n kd) 62 0 → t9 j = (hcX (σ 3) (lm 3) n kd) j) ∧ u = (va_up σ 5 (σ 3), va_up lm 5 L5, t9)) := by
  refine MI.ofI RX8 rfl (by decide) (Nat.le_of_ble_eq_true rfl) ?_
  intro zp ze zs zm za zb zt zc zA ls zQ C h hX hl hret
  have hx := C.1
  have hb := C.2.1
  have hl : lv_has ls 2 [(0, .ref (ad 0 0))] := hl
  have hok0 := hok
  obtain ⟨hn, hn8, hkd⟩ := hok0
  refine lv_aload_n hx hb dX8_tidesTillAgain_0 rfl (lv_at hl 0 rfl) ?_
  refine gget C h igX8 0 rfl rfl 4 (by decide) q205 rfl rfl dX8_tidesTillAgain_1 ?_
  refine lv_aload_n hx hb dX8_tidesTillAgain_4 rfl (lv_at hl 0 rfl) ?_
  refine gget C h igX8 0 rfl rfl 2 (by decide) q203 rfl rfl dX8_tidesTillAgain_5 ?_
  refine gFv C h trivial gNo_ok (kX6_takeFrom l D ct (ad 5) (ad 3) (σ 5) (lm 5) (σ 3) (lm 3)) (cwV 1 C.2.2.2.2 (gInV q421 q422 q423 q65 q424) rfl rfl rfl hvX6_takeFrom ⟨Nat.le_of_ble_eq_true rfl, Nat.le_of_ble_eq_true rfl⟩) 35 rfl rfl rfl (fr_X_SS53m ad ct _ _ _) rfl hl.1 rfl (Nat.le_of_ble_eq_true rfl) dX8_tidesTillAgain_8 ⟨Nat.zero_le _, Nat.zero_le _⟩ (fun u9 H ll hw h => ?_)
  subst hw
  have h : gW D ct zA zs _ _ (wX ad ct (va_up σ 5 (σ 3)) (va_up lm 5 (lm 3)) τ) := h
  refine lv_aload_n hx hb dX8_tidesTillAgain_11 rfl (lv_at hl 0 rfl) ?_
  refine gget C h igX8 0 rfl rfl 8 (by decide) q209 rfl rfl dX8_tidesTillAgain_12 ?_
  refine lv_iconst (v := 0) hx hb dX8_tidesTillAgain_15 (by decide) ?_
  refine lv_aload_n hx hb dX8_tidesTillAgain_16 rfl (lv_at hl 0 rfl) ?_
  refine gget C h igX8 0 rfl rfl 4 (by decide) q205 rfl rfl dX8_tidesTillAgain_17 ?_
  refine gFl C h trivial gNo_ok (kX6_leanCode l D ct (ad 5) (σ 3) (lm 3)) (cwV 0 C.2.2.2.2 (gInV q615 q616 q617 q65 q618) rfl rfl rfl hvX6_leanCode ⟨Nat.le_of_ble_eq_true rfl, Nat.le_of_ble_eq_true rfl⟩) 35 rfl rfl rfl (fr_X_S5 ad ct _ _ _) rfl hl.1 rfl (Nat.le_of_ble_eq_true rfl) dX8_tidesTillAgain_20 ⟨Nat.zero_le _, Nat.zero_le _⟩ (fun r9 u9 H ll hw h => ?_)
  have hw : r9 = cdq (lm 3) 3 := hw
  subst hw
  have h : gW D ct zA zs _ _ (wX ad ct (va_up σ 5 (σ 3)) (va_up lm 5 (lm 3)) τ) := h
  refine glst C h 50 rfl (j := 0) (by omega) (by decide) dX8_tidesTillAgain_23 (fun H ll h => ?_)
  have h : gW D ct zA zs _ _ (wX ad ct (va_up σ 5 (σ 3)) (va_up lm 5 (lm 3)) (vp_updL τ 0 (cdq (lm 3) 3))) := h
  refine lv_iconst (v := 0) hx hb dX8_tidesTillAgain_24 (by decide) ?_
  refine lv_istore_n (lv' := [(1, .int 0), (0, .ref (ad 0 0))]) hx hb dX8_tidesTillAgain_25 rfl hl (by decide) rfl (fun ls hl => ?_)
  have L26_1 : ∀ (kk : Nat) (i : Nat) (t : Nat → Int64) (H : Heap) (ll : List Loc) (ls : Array Slot), 62 - i = kk → (i ≤ 62) → (∀ j, j ≤ i → t j = (hcX (σ 3) (lm 3) n kd) j) → (tlX (hcX (σ 3) (lm 3) n kd) 62 0 = tlX (hcX (σ 3) (lm 3) n kd) (62 - i) i) → gW D ct zA zs H ll (wX ad ct (va_up σ 5 (σ 3)) (va_up lm 5 (itX (σ 3) (lm 3) n kd i)) t) → lv_has ls 2 [(1, .int (nI i)), (0, .ref (ad 0 0))] → W zp l ze rmX8_tidesTillAgain zs zm za zb zt zc H ll 0 0 zQ (F0 zm 26 ls []) := by
    intro kk26
    induction kk26 using Nat.strongRecOn with
    | _ kk26 ih26 =>
    intro i t H ll ls hk26 hi hc hT h hl
    refine lv_aload_n hx hb dX8_tidesTillAgain_26 rfl (lv_at hl 1 rfl) ?_
    refine gget C h igX8 0 rfl rfl 1 (by decide) q202 rfl rfl dX8_tidesTillAgain_27 ?_
    refine lv_aload_n hx hb dX8_tidesTillAgain_30 rfl (lv_at hl 1 rfl) ?_
    refine gget C h igX8 0 rfl rfl 4 (by decide) q205 rfl rfl dX8_tidesTillAgain_31 ?_
    refine gFv C h hX (stX_ok _) (kX5_drift l D ct (ad 2) (ad 5) (σ 2) (σ 3) (itX (σ 3) (lm 3) n kd i) dt n kd hok) (cwV 1 C.2.2.2.2 (gInV q511 q512 q513 q59 q514) rfl rfl rfl hvX5_drift ⟨Nat.le_of_ble_eq_true rfl, Nat.le_of_ble_eq_true rfl⟩) 3 rfl rfl rfl (fr_X_RS5m ad ct _ _ _) rfl hl.1 rfl (Nat.le_of_ble_eq_true rfl) dX8_tidesTillAgain_34 ⟨Nat.zero_le _, Nat.zero_le _⟩ (fun u9 H ll hw h => ?_)
    subst hw
    have h : gW D ct zA zs _ _ (wX ad ct (va_up σ 5 (σ 3)) (va_up lm 5 (dfX (σ 3) (itX (σ 3) (lm 3) n kd i) n kd)) t) := h
    refine ninc (lv' := [(1, .int (nI (i + 1))), (0, .ref (ad 0 0))]) hx hb i 1 dX8_tidesTillAgain_37 hl (k := 0) rfl (by decide) rfl (fun ls hl => ?_)
    refine lv_aload_n hx hb dX8_tidesTillAgain_40 rfl (lv_at hl 1 rfl) ?_
    refine gget C h igX8 0 rfl rfl 8 (by decide) q209 rfl rfl dX8_tidesTillAgain_41 ?_
    refine lv_iload_n hx hb dX8_tidesTillAgain_44 rfl (lv_at hl 0 rfl) ?_
    refine lv_aload_n hx hb dX8_tidesTillAgain_45 rfl (lv_at hl 1 rfl) ?_
    refine gget C h igX8 0 rfl rfl 4 (by decide) q205 rfl rfl dX8_tidesTillAgain_46 ?_
    refine gFl C h trivial gNo_ok (kX6_leanCode l D ct (ad 5) (σ 3) (dfX (σ 3) (itX (σ 3) (lm 3) n kd i) n kd)) (cwV 0 C.2.2.2.2 (gInV q615 q616 q617 q65 q618) rfl rfl rfl hvX6_leanCode ⟨Nat.le_of_ble_eq_true rfl, Nat.le_of_ble_eq_true rfl⟩) 35 rfl rfl rfl (fr_X_S5 ad ct _ _ _) rfl hl.1 rfl (Nat.le_of_ble_eq_true rfl) dX8_tidesTillAgain_49 ⟨Nat.zero_le _, Nat.zero_le _⟩ (fun r9 u9 H ll hw h => ?_)
    have hw : r9 = cdq (dfX (σ 3) (itX (σ 3) (lm 3) n kd i) n kd) 3 := hw
    subst hw
    have h : gW D ct zA zs _ _ (wX ad ct (va_up σ 5 (σ 3)) (va_up lm 5 (dfX (σ 3) (itX (σ 3) (lm 3) n kd i) n kd)) t) := h
    refine glst C h 50 rfl (j := i + 1) (by omega) (by decide) dX8_tidesTillAgain_52 (fun H ll h => ?_)
    have h : gW D ct zA zs _ _ (wX ad ct (va_up σ 5 (σ 3)) (va_up lm 5 (dfX (σ 3) (itX (σ 3) (lm 3) n kd i) n kd)) (vp_updL t (i + 1) (cdq (dfX (σ 3) (itX (σ 3) (lm 3) n kd i) n kd) 3))) := h
    have hcod : ∀ j, j ≤ i + 1 → (vp_updL t (i + 1) (cdq (dfX (σ 3) (itX (σ 3) (lm 3) n kd i) n kd) 3)) j = (hcX (σ 3) (lm 3) n kd) j := fun j hj => by rcases (show j ≤ i ∨ j = i + 1 by omega) with q9 | q9; (rw [pk_uLn (by omega)]; exact hc j q9); (rw [q9, pk_uLs]; rfl)
    have hfl := flX_le (hcX (σ 3) (lm 3) n kd) (i + 1) (i + 1) 0
    refine lv_iload_n hx hb dX8_tidesTillAgain_53 rfl (lv_at hl 0 rfl) ?_
    refine lv_bipush (v := 63) hx hb dX8_tidesTillAgain_54 (by decide) ?_
    refine nb_ge hx hb (i + 1) 63 (by omega) (by omega) (tgt := 68) dX8_tidesTillAgain_56 (by decide) (fun c_56 => ?_) (fun c_56 => ?_)
    · refine lv_iload_n hx hb dX8_tidesTillAgain_68 rfl (lv_at hl 0 rfl) ?_
      have eR : tlX (hcX (σ 3) (lm 3) n kd) 62 0 = i + 1 := by rw [hT]; first | (rw [show 62 - i = (62 - (i + 1)) + 1 by omega]; exact if_neg c_65) | (rw [show 62 - i = 0 by omega]; rfl)
      have h : gW D ct zA zs _ _ ((fun u : (Nat → Nat → Nat → Int32) × (Nat → Nat → Nat → Int32) × (Nat → Int64) => wX ad ct u.1 u.2.1 u.2.2) ((va_up σ 5 (σ 3), va_up lm 5 (dfX (σ 3) (itX (σ 3) (lm 3) n kd i) n kd), vp_updL t (i + 1) (cdq (dfX (σ 3) (itX (σ 3) (lm 3) n kd i) n kd) 3)))) := h
      exact hret _ ((va_up σ 5 (σ 3), va_up lm 5 (dfX (σ 3) (itX (σ 3) (lm 3) n kd i) n kd), vp_updL t (i + 1) (cdq (dfX (σ 3) (itX (σ 3) (lm 3) n kd i) n kd) 3))) _ _ _ _ h ⟨(by rw [eR]), (dfX (σ 3) (itX (σ 3) (lm 3) n kd i) n kd), (vp_updL t (i + 1) (cdq (dfX (σ 3) (itX (σ 3) (lm 3) n kd i) n kd) 3)), (fun j hj => hcod j (by omega)), rfl⟩ dX8_tidesTillAgain_69
    · refine lv_aload_n hx hb dX8_tidesTillAgain_59 rfl (lv_at hl 1 rfl) ?_
      refine lv_iload_n hx hb dX8_tidesTillAgain_60 rfl (lv_at hl 0 rfl) ?_
      refine gcallVi C h trivial gNo_ok (kX8_firstLike l D ct ad (va_up σ 5 (σ 3)) (va_up lm 5 (dfX (σ 3) (itX (σ 3) (lm 3) n kd i) n kd)) (vp_updL t (i + 1) (cdq (dfX (σ 3) (itX (σ 3) (lm 3) n kd i) n kd) 3)) n kd hok (i + 1) (by omega)) (cwV 1 C.2.2.2.2 (gInV q620 q622 q16 q57 q623) rfl rfl rfl hvX8_firstLike ⟨Nat.le_of_ble_eq_true rfl, Nat.le_of_ble_eq_true rfl⟩) 0 rfl rfl rfl rfl hl.1 rfl (Nat.le_of_ble_eq_true rfl) dX8_tidesTillAgain_61 ⟨Nat.zero_le _, Nat.zero_le _⟩ (fun r9 u9 H ll hw h => ?_)
      have hw : r9 = nI (flX (vp_updL t (i + 1) (cdq (dfX (σ 3) (itX (σ 3) (lm 3) n kd i) n kd) 3)) (i + 1) (i + 1) 0) := hw
      subst hw
      have h : gW D ct zA zs _ _ (wX ad ct (va_up σ 5 (σ 3)) (va_up lm 5 (dfX (σ 3) (itX (σ 3) (lm 3) n kd i) n kd)) (vp_updL t (i + 1) (cdq (dfX (σ 3) (itX (σ 3) (lm 3) n kd i) n kd) 3))) := h
      refine gas (z := nI (flX (hcX (σ 3) (lm 3) n kd) (i + 1) (i + 1) 0)) (congrArg nI (flX_cong (hcod _ (Nat.le_refl _)) _ _ (fun j hj => hcod j (by omega)))) ?_
      refine lv_iload_n hx hb dX8_tidesTillAgain_64 rfl (lv_at hl 0 rfl) ?_
      refine nb_eq hx hb (flX (hcX (σ 3) (lm 3) n kd) (i + 1) (i + 1) 0) (i + 1) (by omega) (by omega) (tgt := 26) dX8_tidesTillAgain_65 (by decide) (fun c_65 => ?_) (fun c_65 => ?_)
      · exact ih26 _ (by omega) (i + 1) (vp_updL t (i + 1) (cdq (dfX (σ 3) (itX (σ 3) (lm 3) n kd i) n kd) 3)) _ _ _ rfl (by omega) hcod (by rw [hT, show 62 - i = (62 - (i + 1)) + 1 by omega]; exact if_pos c_65) h (lv_sub hl [0, 1] rfl)
      · refine lv_iload_n hx hb dX8_tidesTillAgain_68 rfl (lv_at hl 0 rfl) ?_
        have eR : tlX (hcX (σ 3) (lm 3) n kd) 62 0 = i + 1 := by rw [hT]; first | (rw [show 62 - i = (62 - (i + 1)) + 1 by omega]; exact if_neg c_65) | (rw [show 62 - i = 0 by omega]; rfl)
        have h : gW D ct zA zs _ _ ((fun u : (Nat → Nat → Nat → Int32) × (Nat → Nat → Nat → Int32) × (Nat → Int64) => wX ad ct u.1 u.2.1 u.2.2) ((va_up σ 5 (σ 3), va_up lm 5 (dfX (σ 3) (itX (σ 3) (lm 3) n kd i) n kd), vp_updL t (i + 1) (cdq (dfX (σ 3) (itX (σ 3) (lm 3) n kd i) n kd) 3)))) := h
        exact hret _ ((va_up σ 5 (σ 3), va_up lm 5 (dfX (σ 3) (itX (σ 3) (lm 3) n kd i) n kd), vp_updL t (i + 1) (cdq (dfX (σ 3) (itX (σ 3) (lm 3) n kd i) n kd) 3))) _ _ _ _ h ⟨(by rw [eR]), (dfX (σ 3) (itX (σ 3) (lm 3) n kd i) n kd), (vp_updL t (i + 1) (cdq (dfX (σ 3) (itX (σ 3) (lm 3) n kd i) n kd) 3)), (fun j hj => hcod j (by omega)), rfl⟩ dX8_tidesTillAgain_69
  exact L26_1 _ 0 (vp_updL τ 0 (cdq (lm 3) 3)) _ _ _ rfl (by omega) (fun j hj => by have e9 : j = 0 := (by omega); subst e9; rw [pk_uLs]; rfl) rfl h (lv_sub hl [0, 1] rfl)
set_option maxHeartbeats 1000000 in
set_option maxRecDepth 100000 in
theorem kX8_leansLeft (l : Launch) (D : va_G) (ct : Nat → ClassId) (ad : Nat → Nat → Nat) (σ lm : Nat → Nat → Nat → Int32) (τ : Nat → Int64) (n : Nat) (kd : Nat → Nat) (hok : ROK (σ 2) n kd) (sn : Nat) (hsn : σ 3 0 0 = nI sn) (hsn6 : sn ≤ 6) (m q : Nat) (hm : m < n) (hq : q < 3) : MI l yX8_leansLeft (gWs yX8_leansLeft cX8_leansLeft 5 (some .int)) rmX8_leansLeft D ct gNo [.ref (ad 0 0), .int (nI m), .int (nI q)] (wX ad ct σ lm τ) (fun u : (Nat → Nat → Nat → Int32) × (Nat → Nat → Nat → Int32) × (Nat → Int64) => wX ad ct u.1 u.2.1 u.2.2) (fun r u => r = nI (lvX (σ 3) (lm 3) n kd sn m q 3) ∧ ∃ (L5 : Nat → Nat → Int32) (g0_5 : Nat → Int32), (∀ j, j < 3 → g0_5 j = slX (σ 3) (lm 3) n kd m q j) ∧ u = (va_up (va_up σ 5 (σ 3)) 0 (va_up (σ 0) 5 g0_5), va_up lm 5 L5, τ)) := by
  refine MI.ofI RX8 rfl (by decide) (Nat.le_of_ble_eq_true rfl) ?_
  intro zp ze zs zm za zb zt zc zA ls zQ C h hX hl hret
  have hx := C.1
  have hb := C.2.1
  have hl : lv_has ls 5 [(0, .ref (ad 0 0)), (1, .int (nI m)), (2, .int (nI q))] := hl
  have hok0 := hok
  obtain ⟨hn, hn8, hkd⟩ := hok0
  refine lv_aload_n hx hb dX8_leansLeft_0 rfl (lv_at hl 0 rfl) ?_
  refine gget C h igX8 0 rfl rfl 4 (by decide) q205 rfl rfl dX8_leansLeft_1 ?_
  refine lv_aload_n hx hb dX8_leansLeft_4 rfl (lv_at hl 0 rfl) ?_
  refine gget C h igX8 0 rfl rfl 2 (by decide) q203 rfl rfl dX8_leansLeft_5 ?_
  refine gFv C h trivial gNo_ok (kX6_takeFrom l D ct (ad 5) (ad 3) (σ 5) (lm 5) (σ 3) (lm 3)) (cwV 1 C.2.2.2.2 (gInV q421 q422 q423 q65 q424) rfl rfl rfl hvX6_takeFrom ⟨Nat.le_of_ble_eq_true rfl, Nat.le_of_ble_eq_true rfl⟩) 35 rfl rfl rfl (fr_X_SS53m ad ct _ _ _) rfl hl.1 rfl (Nat.le_of_ble_eq_true rfl) dX8_leansLeft_8 ⟨Nat.zero_le _, Nat.zero_le _⟩ (fun u9 H ll hw h => ?_)
  subst hw
  have h : gW D ct zA zs _ _ (wX ad ct (va_up σ 5 (σ 3)) (va_up lm 5 (lm 3)) τ) := h
  refine lv_iconst (v := 0) hx hb dX8_leansLeft_11 (by decide) ?_
  refine lv_istore_n (lv' := [(3, .int 0), (0, .ref (ad 0 0)), (1, .int (nI m)), (2, .int (nI q))]) hx hb dX8_leansLeft_12 rfl hl (by decide) rfl (fun ls hl => ?_)
  refine lv_iconst (v := 0) hx hb dX8_leansLeft_13 (by decide) ?_
  refine lv_istore (lv' := [(4, .int 0), (3, .int 0), (0, .ref (ad 0 0)), (1, .int (nI m)), (2, .int (nI q))]) hx hb dX8_leansLeft_14 hl (by decide) rfl (fun ls hl => ?_)
  have L16_1 : ∀ (kk : Nat) (i : Nat) (L5 : Nat → Nat → Int32) (g : Nat → Int32) (H : Heap) (ll : List Loc) (ls : Array Slot), 3 - i = kk → (i ≤ 3) → (∀ j, ¬ j = m → L5 q j = lm 3 q j) → (∀ j, j < i → g j = slX (σ 3) (lm 3) n kd m q j) → gW D ct zA zs H ll (wX ad ct (va_up (va_up σ 0 (va_up (σ 0) 5 g)) 5 (σ 3)) (va_up lm 5 L5) τ) → lv_has ls 5 [(4, .int (nI i)), (3, .int (nI (lvX (σ 3) (lm 3) n kd sn m q i))), (0, .ref (ad 0 0)), (1, .int (nI m)), (2, .int (nI q))] → W zp l ze rmX8_leansLeft zs zm za zb zt zc H ll 0 0 zQ (F0 zm 16 ls []) := by
    intro kk16
    induction kk16 using Nat.strongRecOn with
    | _ kk16 ih16 =>
    intro i L5 g H ll ls hk16 hi hL hg h hl
    refine lv_iload hx hb dX8_leansLeft_16 (lv_at hl 0 rfl) ?_
    refine lv_iconst (v := 3) hx hb dX8_leansLeft_18 (by decide) ?_
    refine nb_ge hx hb i 3 (by omega) (by omega) (tgt := 88) dX8_leansLeft_19 (by decide) (fun c_19 => ?_) (fun c_19 => ?_)
    · refine lv_iload_n hx hb dX8_leansLeft_88 rfl (lv_at hl 1 rfl) ?_
      have e3 : i = 3 := by omega
      subst e3
      have h : gW D ct zA zs _ _ ((fun u : (Nat → Nat → Nat → Int32) × (Nat → Nat → Nat → Int32) × (Nat → Int64) => wX ad ct u.1 u.2.1 u.2.2) ((va_up (va_up σ 5 (σ 3)) 0 (va_up (σ 0) 5 g), va_up lm 5 L5, τ))) := h
      exact hret _ ((va_up (va_up σ 5 (σ 3)) 0 (va_up (σ 0) 5 g), va_up lm 5 L5, τ)) _ _ _ _ h ⟨rfl, L5, g, hg, rfl⟩ dX8_leansLeft_89
    · have hlv := lvX_lt (σ 3) (lm 3) n kd sn m q i
      have hpi : 2 ^ i ≤ 256 := p2le (by omega)
      refine lv_aload_n hx hb dX8_leansLeft_22 rfl (lv_at hl 2 rfl) ?_
      refine gget C h igX8 0 rfl rfl 4 (by decide) q205 rfl rfl dX8_leansLeft_23 ?_
      refine gget C h igX6 35 rfl rfl 1 (by decide) q164 rfl rfl dX8_leansLeft_26 ?_
      refine lv_iload_n hx hb dX8_leansLeft_29 rfl (lv_at hl 4 rfl) ?_
      refine gald C h 37 4 rfl rfl rfl (j := q) (b := ad 5 (3 + q)) (by omega) (by decide) (if_pos (by omega)) dX8_leansLeft_30 ?_
      refine lv_iload_n hx hb dX8_leansLeft_31 rfl (lv_at hl 3 rfl) ?_
      refine lv_iconst (v := 1) hx hb dX8_leansLeft_32 (by decide) ?_
      refine lv_iload hx hb dX8_leansLeft_33 (lv_at hl 0 rfl) ?_
      refine lv_isub hx hb dX8_leansLeft_35 ?_
      refine gist C h (38 + q) (wX_row5 ad ct _ _ _ (by omega)) (j := m) (by omega) (by decide) dX8_leansLeft_36 (fun H ll h => ?_)
      have h := h.to (wX_rset5 ad ct _ _ _ (by omega) _)
      have h : gW D ct zA zs _ _ (wX ad ct (va_up (va_up σ 0 (va_up (σ 0) 5 g)) 5 (σ 3)) (va_up lm 5 (va_up L5 q (upd (L5 q) m (1 - (nI i))))) τ) := h
      refine lv_aload_n hx hb dX8_leansLeft_37 rfl (lv_at hl 2 rfl) ?_
      refine gget C h igX8 0 rfl rfl 7 (by decide) q208 rfl rfl dX8_leansLeft_38 ?_
      refine lv_iload hx hb dX8_leansLeft_41 (lv_at hl 0 rfl) ?_
      refine lv_aload_n hx hb dX8_leansLeft_43 rfl (lv_at hl 2 rfl) ?_
      refine gget C h igX8 0 rfl rfl 1 (by decide) q202 rfl rfl dX8_leansLeft_44 ?_
      refine lv_aload_n hx hb dX8_leansLeft_47 rfl (lv_at hl 2 rfl) ?_
      refine gget C h igX8 0 rfl rfl 4 (by decide) q205 rfl rfl dX8_leansLeft_48 ?_
      refine lv_iload_n hx hb dX8_leansLeft_51 rfl (lv_at hl 4 rfl) ?_
      refine gFi C h trivial gNo_ok (kX5_sumOf l D ct (ad 2) (ad 5) (σ 2) (σ 3) (va_up L5 q (upd (L5 q) m (1 - (nI i)))) n kd hok q (by omega)) (cwV 2 C.2.2.2.2 (gInV q428 q429 q430 q59 q431) rfl rfl rfl hvX5_sumOf ⟨Nat.le_of_ble_eq_true rfl, Nat.le_of_ble_eq_true rfl⟩) 3 rfl rfl rfl (fr_X_RS5 ad ct _ _ _) rfl hl.1 rfl (Nat.le_of_ble_eq_true rfl) dX8_leansLeft_52 ⟨Nat.zero_le _, Nat.zero_le _⟩ (fun r9 u9 H ll hw h => ?_)
      have hw : r9 = smX (σ 3) (va_up L5 q (upd (L5 q) m (1 - (nI i)))) n kd q := hw
      subst hw
      have h : gW D ct zA zs _ _ (wX ad ct (va_up (va_up σ 0 (va_up (σ 0) 5 g)) 5 (σ 3)) (va_up lm 5 (va_up L5 q (upd (L5 q) m (1 - (nI i))))) τ) := h
      refine gas (z := slX (σ 3) (lm 3) n kd m q i) (smX_congL (fun j hj => by rw [va_up_self, va_up_self]; by_cases e9 : j = m; (subst e9; rw [pk_us, pk_us]); (rw [pk_un e9, pk_un e9]; exact hL j e9))) ?_
      refine gist C h 49 rfl (j := i) (by omega) (by decide) dX8_leansLeft_55 (fun H ll h => ?_)
      have h : gW D ct zA zs _ _ (wX ad ct (va_up (va_up σ 0 (va_up (σ 0) 5 (upd g i (slX (σ 3) (lm 3) n kd m q i)))) 5 (σ 3)) (va_up lm 5 (va_up L5 q (upd (L5 q) m (1 - (nI i))))) τ) := h
      refine lv_aload_n hx hb dX8_leansLeft_56 rfl (lv_at hl 2 rfl) ?_
      refine gget C h igX8 0 rfl rfl 2 (by decide) q203 rfl rfl dX8_leansLeft_57 ?_
      refine lv_iload_n hx hb dX8_leansLeft_60 rfl (lv_at hl 3 rfl) ?_
      refine lv_iload_n hx hb dX8_leansLeft_61 rfl (lv_at hl 4 rfl) ?_
      refine lv_aload_n hx hb dX8_leansLeft_62 rfl (lv_at hl 2 rfl) ?_
      refine gget C h igX8 0 rfl rfl 7 (by decide) q208 rfl rfl dX8_leansLeft_63 ?_
      refine lv_iload hx hb dX8_leansLeft_66 (lv_at hl 0 rfl) ?_
      refine gild C h 49 rfl (j := i) (by omega) (by decide) dX8_leansLeft_68 ?_
      refine gas (z := (upd g i (slX (σ 3) (lm 3) n kd m q i)) i) rfl ?_
      refine gas pk_us ?_
      refine gFi C h trivial gNo_ok (kX6_seenAllows l D ct (ad 3) (σ 3) (lm 3) sn hsn hsn6 m q (slX (σ 3) (lm 3) n kd m q i)) (cwV 3 C.2.2.2.2 (gInV q437 q438 q439 q65 q440) rfl rfl rfl hvX6_seenAllows ⟨Nat.le_of_ble_eq_true rfl, Nat.le_of_ble_eq_true rfl⟩) 11 rfl rfl rfl (fr_X_S3 ad ct _ _ _) rfl hl.1 rfl (Nat.le_of_ble_eq_true rfl) dX8_leansLeft_69 ⟨Nat.zero_le _, Nat.zero_le _⟩ (fun r9 u9 H ll hw h => ?_)
      have hw : r9 = (if seeX (σ 3) m q (slX (σ 3) (lm 3) n kd m q i) sn = true then 1 else 0) := hw
      subst hw
      have h : gW D ct zA zs _ _ (wX ad ct (va_up (va_up σ 0 (va_up (σ 0) 5 (upd g i (slX (σ 3) (lm 3) n kd m q i)))) 5 (σ 3)) (va_up lm 5 (va_up L5 q (upd (L5 q) m (1 - (nI i))))) τ) := h
      refine bz_eq hx hb (seeX (σ 3) m q (slX (σ 3) (lm 3) n kd m q i) sn = true) (tgt := 82) dX8_leansLeft_72 (by decide) (fun c_72 => ?_) (fun c_72 => ?_)
      · refine ninc (lv' := [(4, .int (nI (i + 1))), (3, .int (nI (lvX (σ 3) (lm 3) n kd sn m q i))), (0, .ref (ad 0 0)), (1, .int (nI m)), (2, .int (nI q))]) hx hb i 1 dX8_leansLeft_82 hl (k := 0) rfl (by decide) rfl (fun ls hl => ?_)
        refine lv_goto (tgt := 16) hx hb dX8_leansLeft_85 (by decide) ?_
        have hl : lv_has ls 5 [(4, .int (nI (i + 1))), (3, .int (nI (lvX (σ 3) (lm 3) n kd sn m q (i + 1)))), (0, .ref (ad 0 0)), (1, .int (nI m)), (2, .int (nI q))] := by have e9 : (nI (lvX (σ 3) (lm 3) n kd sn m q i) : Int32) = nI (lvX (σ 3) (lm 3) n kd sn m q (i + 1)) := congrArg nI (by show _ = lvX (σ 3) (lm 3) n kd sn m q i ||| (if seeX (σ 3) m q (slX (σ 3) (lm 3) n kd m q i) sn = true then 1 * 2 ^ i else 0); rw [if_neg c_72, Nat.or_zero]); rw [← e9]; exact hl
        exact ih16 _ (by omega) (i + 1) (va_up L5 q (upd (L5 q) m (1 - (nI i)))) (upd g i (slX (σ 3) (lm 3) n kd m q i)) _ _ _ rfl (by omega) (fun j hj => by rw [va_up_self, pk_un hj]; exact hL j hj) (updk hg rfl) h (lv_sub hl [0, 1, 2, 3, 4] rfl)
      · refine lv_iload_n hx hb dX8_leansLeft_75 rfl (lv_at hl 1 rfl) ?_
        refine lv_iconst (v := 1) hx hb dX8_leansLeft_76 (by decide) ?_
        refine lv_iload hx hb dX8_leansLeft_77 (lv_at hl 0 rfl) ?_
        refine nshl hx hb 1 i (by omega) (by omega) dX8_leansLeft_79 ?_
        refine nor hx hb (lvX (σ 3) (lm 3) n kd sn m q i) (1 * 2 ^ i) dX8_leansLeft_80 ?_
        refine lv_istore_n (lv' := [(3, .int (nI ((lvX (σ 3) (lm 3) n kd sn m q i) ||| (1 * 2 ^ i)))), (4, .int (nI i)), (0, .ref (ad 0 0)), (1, .int (nI m)), (2, .int (nI q))]) hx hb dX8_leansLeft_81 rfl hl (by decide) rfl (fun ls hl => ?_)
        refine ninc (lv' := [(4, .int (nI (i + 1))), (3, .int (nI ((lvX (σ 3) (lm 3) n kd sn m q i) ||| (1 * 2 ^ i)))), (0, .ref (ad 0 0)), (1, .int (nI m)), (2, .int (nI q))]) hx hb i 1 dX8_leansLeft_82 hl (k := 1) rfl (by decide) rfl (fun ls hl => ?_)
        refine lv_goto (tgt := 16) hx hb dX8_leansLeft_85 (by decide) ?_
        have hl : lv_has ls 5 [(4, .int (nI (i + 1))), (3, .int (nI (lvX (σ 3) (lm 3) n kd sn m q (i + 1)))), (0, .ref (ad 0 0)), (1, .int (nI m)), (2, .int (nI q))] := by have e9 : (nI ((lvX (σ 3) (lm 3) n kd sn m q i) ||| (1 * 2 ^ i)) : Int32) = nI (lvX (σ 3) (lm 3) n kd sn m q (i + 1)) := congrArg nI (by show _ = lvX (σ 3) (lm 3) n kd sn m q i ||| (if seeX (σ 3) m q (slX (σ 3) (lm 3) n kd m q i) sn = true then 1 * 2 ^ i else 0); rw [if_pos c_72]); rw [← e9]; exact hl
        exact ih16 _ (by omega) (i + 1) (va_up L5 q (upd (L5 q) m (1 - (nI i)))) (upd g i (slX (σ 3) (lm 3) n kd m q i)) _ _ _ rfl (by omega) (fun j hj => by rw [va_up_self, pk_un hj]; exact hL j hj) (updk hg rfl) h (lv_sub hl [0, 1, 2, 3, 4] rfl)
  exact L16_1 _ 0 (lm 3) (σ 0 5) _ _ _ rfl (by omega) (fun j hj => rfl) (fun j hj => absurd hj (by omega)) h (lv_sub hl [0, 1, 2, 3, 4] rfl)
set_option maxHeartbeats 1000000 in
set_option maxRecDepth 100000 in
theorem kX8_mostAlike (l : Launch) (D : va_G) (ct : Nat → ClassId) (ad : Nat → Nat → Nat) (σ lm : Nat → Nat → Nat → Int32) (τ : Nat → Int64) (n : Nat) (kd : Nat → Nat) (hok : ROK (σ 2) n kd) (b : Nat) (hb8 : b < 256) : MI l yX8_mostAlike (gWs yX8_mostAlike cX8_mostAlike 7 (some .int)) rmX8_mostAlike D ct gNo [.ref (ad 0 0), .int (nI b)] (wX ad ct σ lm τ) (fun _ : Unit => (wX ad ct σ lm τ)) (fun r _ => r = nI (mxW (σ 0 5) b 3)) := by
  refine MI.ofI RX8 rfl (by decide) (Nat.le_of_ble_eq_true rfl) ?_
  intro zp ze zs zm za zb zt zc zA ls zQ C h hX hl hret
  have hx := C.1
  have hb := C.2.1
  have hl : lv_has ls 7 [(0, .ref (ad 0 0)), (1, .int (nI b))] := hl
  have hok0 := hok
  obtain ⟨hn, hn8, hkd⟩ := hok0
  refine lv_iconst (v := 0) hx hb dX8_mostAlike_0 (by decide) ?_
  refine lv_istore_n (lv' := [(2, .int 0), (0, .ref (ad 0 0)), (1, .int (nI b))]) hx hb dX8_mostAlike_1 rfl hl (by decide) rfl (fun ls hl => ?_)
  refine lv_iconst (v := 0) hx hb dX8_mostAlike_2 (by decide) ?_
  refine lv_istore_n (lv' := [(3, .int 0), (2, .int 0), (0, .ref (ad 0 0)), (1, .int (nI b))]) hx hb dX8_mostAlike_3 rfl hl (by decide) rfl (fun ls hl => ?_)
  have L4_0 : ∀ (kk : Nat) (i : Nat) (H : Heap) (ll : List Loc) (ls : Array Slot), 3 - i = kk → (i ≤ 3) → gW D ct zA zs H ll (wX ad ct σ lm τ) → lv_has ls 7 [(3, .int (nI i)), (2, .int (nI (mxW (σ 0 5) b i))), (0, .ref (ad 0 0)), (1, .int (nI b))] → W zp l ze rmX8_mostAlike zs zm za zb zt zc H ll 0 0 zQ (F0 zm 4 ls []) := by
    intro kk4
    induction kk4 using Nat.strongRecOn with
    | _ kk4 ih4 =>
    intro i H ll ls hk4 hi h hl
    refine lv_iload_n hx hb dX8_mostAlike_4 rfl (lv_at hl 0 rfl) ?_
    refine lv_iconst (v := 3) hx hb dX8_mostAlike_5 (by decide) ?_
    refine nb_ge hx hb i 3 (by omega) (by omega) (tgt := 85) dX8_mostAlike_6 (by decide) (fun c_6 => ?_) (fun c_6 => ?_)
    · refine lv_iload_n hx hb dX8_mostAlike_85 rfl (lv_at hl 1 rfl) ?_
      exact hret _ () _ _ _ _ h (by rw [show i = 3 by omega]) dX8_mostAlike_86
    · refine lv_iconst (v := 0) hx hb dX8_mostAlike_9 (by decide) ?_
      refine lv_istore (lv' := [(4, .int 0), (3, .int (nI i)), (2, .int (nI (mxW (σ 0 5) b i))), (0, .ref (ad 0 0)), (1, .int (nI b))]) hx hb dX8_mostAlike_10 hl (by decide) rfl (fun ls hl => ?_)
      refine lv_iconst (v := 0) hx hb dX8_mostAlike_12 (by decide) ?_
      refine lv_istore (lv' := [(5, .int 0), (4, .int 0), (3, .int (nI i)), (2, .int (nI (mxW (σ 0 5) b i))), (0, .ref (ad 0 0)), (1, .int (nI b))]) hx hb dX8_mostAlike_13 hl (by decide) rfl (fun ls hl => ?_)
      have L15_1 : ∀ (kk : Nat) (j : Nat) (H : Heap) (ll : List Loc) (ls : Array Slot), 3 - j = kk → (j ≤ 3) → gW D ct zA zs H ll (wX ad ct σ lm τ) → lv_has ls 7 [(5, .int (nI j)), (4, .int (nI (cntW (σ 0 5) b i j))), (3, .int (nI i)), (2, .int (nI (mxW (σ 0 5) b i))), (0, .ref (ad 0 0)), (1, .int (nI b))] → W zp l ze rmX8_mostAlike zs zm za zb zt zc H ll 0 0 zQ (F0 zm 15 ls []) := by
        intro kk15
        induction kk15 using Nat.strongRecOn with
        | _ kk15 ih15 =>
        intro j H ll ls hk15 hj h hl
        refine lv_iload hx hb dX8_mostAlike_15 (lv_at hl 0 rfl) ?_
        refine lv_iconst (v := 3) hx hb dX8_mostAlike_17 (by decide) ?_
        refine nb_ge hx hb j 3 (by omega) (by omega) (tgt := 72) dX8_mostAlike_18 (by decide) (fun c_18 => ?_) (fun c_18 => ?_)
        · have e8 : j = 3 := by omega
          rw [e8] at hl
          refine lv_iload_n hx hb dX8_mostAlike_72 rfl (lv_at hl 3 rfl) ?_
          refine lv_iload hx hb dX8_mostAlike_73 (lv_at hl 1 rfl) ?_
          refine va_mmax C.1 C.2.1 (by rw [C.2.2.1, hl.1]) C.2.2.2.1 (C.2.2.2.2 _ (gWs_in q468)) (C.2.2.2.2 _ (gWs_in q289)) (C.2.2.2.2 _ (gWs_in q69)) (C.2.2.2.2 _ (gWs_in q290)) (Nat.le_of_ble_eq_true rfl) (Nat.le_of_ble_eq_true rfl) (Nat.zero_le _) (Nat.zero_le _) dX8_mostAlike_75 ?_
          refine gas (z := nI (mxW (σ 0 5) b (i + 1))) (by show _ = nI (if mxW (σ 0 5) b i < cntW (σ 0 5) b i 3 then cntW (σ 0 5) b i 3 else mxW (σ 0 5) b i); have h9 := mxW_le (σ 0 5) b i; have h8 := cntW_le (σ 0 5) b i 3; by_cases e9 : mxW (σ 0 5) b i < cntW (σ 0 5) b i 3; (rw [if_pos e9, if_pos ((nI_ltI (by omega) (by omega)).mpr e9)]); (rw [if_neg e9, if_neg (fun q9 => e9 ((nI_ltI (by omega) (by omega)).mp q9))])) ?_
          refine lv_istore_n (lv' := [(2, .int (nI (mxW (σ 0 5) b (i + 1)))), (5, .int (nI 3)), (4, .int (nI (cntW (σ 0 5) b i 3))), (3, .int (nI i)), (0, .ref (ad 0 0)), (1, .int (nI b))]) hx hb dX8_mostAlike_78 rfl hl (by decide) rfl (fun ls hl => ?_)
          refine ninc (lv' := [(3, .int (nI (i + 1))), (2, .int (nI (mxW (σ 0 5) b (i + 1)))), (5, .int (nI 3)), (4, .int (nI (cntW (σ 0 5) b i 3))), (0, .ref (ad 0 0)), (1, .int (nI b))]) hx hb i 1 dX8_mostAlike_79 hl (k := 3) rfl (by decide) rfl (fun ls hl => ?_)
          refine lv_goto (tgt := 4) hx hb dX8_mostAlike_82 (by decide) ?_
          exact ih4 _ (by omega) (i + 1) _ _ _ rfl (by omega) h (lv_sub hl [0, 1, 4, 5] rfl)
        · refine lv_iload_n hx hb dX8_mostAlike_21 rfl (lv_at hl 5 rfl) ?_
          refine lv_iload_n hx hb dX8_mostAlike_22 rfl (lv_at hl 2 rfl) ?_
          refine nshr hx hb b i (by omega) (by omega) dX8_mostAlike_23 ?_
          refine lv_iload_n hx hb dX8_mostAlike_24 rfl (lv_at hl 5 rfl) ?_
          refine lv_iload hx hb dX8_mostAlike_25 (lv_at hl 0 rfl) ?_
          refine nshr hx hb b j (by omega) (by omega) dX8_mostAlike_27 ?_
          refine nand hx hb (b / 2 ^ i) (b / 2 ^ j) dX8_mostAlike_28 ?_
          refine lv_iconst (v := 1) hx hb dX8_mostAlike_29 (by decide) ?_
          refine nand hx hb ((b / 2 ^ i) &&& (b / 2 ^ j)) 1 dX8_mostAlike_30 ?_
          refine lv_iconst (v := 1) hx hb dX8_mostAlike_31 (by decide) ?_
          refine nb_ne hx hb (((b / 2 ^ i) &&& (b / 2 ^ j)) &&& 1) 1 bb2 (by omega) (tgt := 39) dX8_mostAlike_32 (by decide) (fun c_32 => ?_) (fun c_32 => ?_)
          · refine lv_iconst (v := 0) hx hb dX8_mostAlike_39 (by decide) ?_
            refine lv_istore (lv' := [(6, .int 0), (5, .int (nI j)), (4, .int (nI (cntW (σ 0 5) b i j))), (3, .int (nI i)), (2, .int (nI (mxW (σ 0 5) b i))), (0, .ref (ad 0 0)), (1, .int (nI b))]) hx hb dX8_mostAlike_40 hl (by decide) rfl (fun ls hl => ?_)
            refine lv_iload hx hb dX8_mostAlike_42 (lv_at hl 0 rfl) ?_
            refine lv_if_eq (tgt := 66) hx hb dX8_mostAlike_44 (by decide) (fun _ => ?_) (fun q => absurd (by decide) q)
            refine ninc (lv' := [(5, .int (nI (j + 1))), (6, .int 0), (4, .int (nI (cntW (σ 0 5) b i j))), (3, .int (nI i)), (2, .int (nI (mxW (σ 0 5) b i))), (0, .ref (ad 0 0)), (1, .int (nI b))]) hx hb j 1 dX8_mostAlike_66 hl (k := 1) rfl (by decide) rfl (fun ls hl => ?_)
            refine lv_goto (tgt := 15) hx hb dX8_mostAlike_69 (by decide) ?_
            have hl : lv_has ls 7 [(5, .int (nI (j + 1))), (6, .int 0), (4, .int (nI (cntW (σ 0 5) b i (j + 1)))), (3, .int (nI i)), (2, .int (nI (mxW (σ 0 5) b i))), (0, .ref (ad 0 0)), (1, .int (nI b))] := by have e9 : (nI (cntW (σ 0 5) b i j) : Int32) = nI (cntW (σ 0 5) b i (j + 1)) := congrArg nI (by show _ = cntW (σ 0 5) b i j + _; rw [if_neg (fun q9 => c_32 (bb1.mpr ⟨q9.1, q9.2.1⟩))]; rfl); rw [← e9]; exact hl
            exact ih15 _ (by omega) (j + 1) _ _ _ rfl (by omega) h (lv_sub hl [0, 2, 3, 4, 5, 6] rfl)
          · refine lv_iconst (v := 1) hx hb dX8_mostAlike_35 (by decide) ?_
            refine lv_goto (tgt := 40) hx hb dX8_mostAlike_36 (by decide) ?_
            refine lv_istore (lv' := [(6, .int 1), (5, .int (nI j)), (4, .int (nI (cntW (σ 0 5) b i j))), (3, .int (nI i)), (2, .int (nI (mxW (σ 0 5) b i))), (0, .ref (ad 0 0)), (1, .int (nI b))]) hx hb dX8_mostAlike_40 hl (by decide) rfl (fun ls hl => ?_)
            refine lv_iload hx hb dX8_mostAlike_42 (lv_at hl 0 rfl) ?_
            refine lv_if_eq (tgt := 66) hx hb dX8_mostAlike_44 (by decide) (fun q => absurd q (by decide)) (fun _ => ?_)
            refine lv_aload_n hx hb dX8_mostAlike_47 rfl (lv_at hl 5 rfl) ?_
            refine gget C h igX8 0 rfl rfl 7 (by decide) q208 rfl rfl dX8_mostAlike_48 ?_
            refine lv_iload_n hx hb dX8_mostAlike_51 rfl (lv_at hl 3 rfl) ?_
            refine gild C h 49 rfl (j := i) (by omega) (by decide) dX8_mostAlike_52 ?_
            refine gas (z := σ 0 5 i) rfl ?_
            refine lv_aload_n hx hb dX8_mostAlike_53 rfl (lv_at hl 5 rfl) ?_
            refine gget C h igX8 0 rfl rfl 7 (by decide) q208 rfl rfl dX8_mostAlike_54 ?_
            refine lv_iload hx hb dX8_mostAlike_57 (lv_at hl 1 rfl) ?_
            refine gild C h 49 rfl (j := j) (by omega) (by decide) dX8_mostAlike_59 ?_
            refine gas (z := σ 0 5 j) rfl ?_
            refine lv_icmp_ne (tgt := 66) hx hb dX8_mostAlike_60 (by decide) (fun c_60 => ?_) (fun c_60 => ?_)
            · refine ninc (lv' := [(5, .int (nI (j + 1))), (6, .int 1), (4, .int (nI (cntW (σ 0 5) b i j))), (3, .int (nI i)), (2, .int (nI (mxW (σ 0 5) b i))), (0, .ref (ad 0 0)), (1, .int (nI b))]) hx hb j 1 dX8_mostAlike_66 hl (k := 1) rfl (by decide) rfl (fun ls hl => ?_)
              refine lv_goto (tgt := 15) hx hb dX8_mostAlike_69 (by decide) ?_
              have hl : lv_has ls 7 [(5, .int (nI (j + 1))), (6, .int 1), (4, .int (nI (cntW (σ 0 5) b i (j + 1)))), (3, .int (nI i)), (2, .int (nI (mxW (σ 0 5) b i))), (0, .ref (ad 0 0)), (1, .int (nI b))] := by have e9 : (nI (cntW (σ 0 5) b i j) : Int32) = nI (cntW (σ 0 5) b i (j + 1)) := congrArg nI (by show _ = cntW (σ 0 5) b i j + _; rw [if_neg (fun q9 => c_60 q9.2.2)]; rfl); rw [← e9]; exact hl
              exact ih15 _ (by omega) (j + 1) _ _ _ rfl (by omega) h (lv_sub hl [0, 2, 3, 4, 5, 6] rfl)
            · refine ninc (lv' := [(4, .int (nI (cntW (σ 0 5) b i j + 1))), (6, .int 1), (5, .int (nI j)), (3, .int (nI i)), (2, .int (nI (mxW (σ 0 5) b i))), (0, .ref (ad 0 0)), (1, .int (nI b))]) hx hb (cntW (σ 0 5) b i j) 1 dX8_mostAlike_63 hl (k := 2) rfl (by decide) rfl (fun ls hl => ?_)
              refine ninc (lv' := [(5, .int (nI (j + 1))), (4, .int (nI (cntW (σ 0 5) b i j + 1))), (6, .int 1), (3, .int (nI i)), (2, .int (nI (mxW (σ 0 5) b i))), (0, .ref (ad 0 0)), (1, .int (nI b))]) hx hb j 1 dX8_mostAlike_66 hl (k := 2) rfl (by decide) rfl (fun ls hl => ?_)
              refine lv_goto (tgt := 15) hx hb dX8_mostAlike_69 (by decide) ?_
              have hl : lv_has ls 7 [(5, .int (nI (j + 1))), (4, .int (nI (cntW (σ 0 5) b i (j + 1)))), (6, .int 1), (3, .int (nI i)), (2, .int (nI (mxW (σ 0 5) b i))), (0, .ref (ad 0 0)), (1, .int (nI b))] := by have e9 : (nI (cntW (σ 0 5) b i j + 1) : Int32) = nI (cntW (σ 0 5) b i (j + 1)) := congrArg nI (by show _ = cntW (σ 0 5) b i j + _; rw [if_pos ⟨(bb1.mp c_32).1, (bb1.mp c_32).2, c_60⟩]); rw [← e9]; exact hl
              exact ih15 _ (by omega) (j + 1) _ _ _ rfl (by omega) h (lv_sub hl [0, 1, 3, 4, 5, 6] rfl)
      exact L15_1 _ 0 _ _ _ rfl (by omega) h (lv_sub hl [0, 1, 2, 3, 4, 5] rfl)
  exact L4_0 _ 0 _ _ _ rfl (by omega) h (lv_sub hl [0, 1, 2, 3] rfl)
set_option maxHeartbeats 1000000 in
set_option maxRecDepth 100000 in
theorem kX8_bestQuestion (l : Launch) (D : va_G) (ct : Nat → ClassId) (ad : Nat → Nat → Nat) (σ lm : Nat → Nat → Nat → Int32) (τ : Nat → Int64) (n : Nat) (kd : Nat → Nat) (hok : ROK (σ 2) n kd) (sn : Nat) (hsn : σ 3 0 0 = nI sn) (hsn6 : sn ≤ 6) (m : Nat) (hm : m < n) : MI l yX8_bestQuestion (gWs yX8_bestQuestion cX8_bestQuestion 7 (some .int)) rmX8_bestQuestion D ct gNo [.ref (ad 0 0), .int (nI m)] (wX ad ct σ lm τ) (fun u : (Nat → Nat → Nat → Int32) × (Nat → Nat → Nat → Int32) × (Nat → Int64) => wX ad ct u.1 u.2.1 u.2.2) (fun r u => r = bI (akX (σ 3) (lm 3) n kd sn m 3).1 ∧ ∃ (g5 : Nat → Nat → Int32) (L5 : Nat → Nat → Int32) (g0_5 : Nat → Int32), u = (va_up (va_up σ 5 g5) 0 (va_up (σ 0) 5 g0_5), va_up lm 5 L5, τ)) := by
  refine MI.ofI RX8 rfl (by decide) (Nat.le_of_ble_eq_true rfl) ?_
  intro zp ze zs zm za zb zt zc zA ls zQ C h hX hl hret
  have hx := C.1
  have hb := C.2.1
  have hl : lv_has ls 7 [(0, .ref (ad 0 0)), (1, .int (nI m))] := hl
  have hok0 := hok
  obtain ⟨hn, hn8, hkd⟩ := hok0
  refine lv_iconst (v := -1) hx hb dX8_bestQuestion_0 (by decide) ?_
  refine lv_istore_n (lv' := [(2, .int (-1)), (0, .ref (ad 0 0)), (1, .int (nI m))]) hx hb dX8_bestQuestion_1 rfl hl (by decide) rfl (fun ls hl => ?_)
  refine lv_iconst (v := 4) hx hb dX8_bestQuestion_2 (by decide) ?_
  refine lv_istore_n (lv' := [(3, .int 4), (2, .int (-1)), (0, .ref (ad 0 0)), (1, .int (nI m))]) hx hb dX8_bestQuestion_3 rfl hl (by decide) rfl (fun ls hl => ?_)
  refine lv_iconst (v := 0) hx hb dX8_bestQuestion_4 (by decide) ?_
  refine lv_istore (lv' := [(4, .int 0), (3, .int 4), (2, .int (-1)), (0, .ref (ad 0 0)), (1, .int (nI m))]) hx hb dX8_bestQuestion_5 hl (by decide) rfl (fun ls hl => ?_)
  have L7_0 : ∀ (kk : Nat) (q : Nat) (g5 : Nat → Nat → Int32) (L5 : Nat → Nat → Int32) (g : Nat → Int32) (H : Heap) (ll : List Loc) (ls : Array Slot), 3 - q = kk → (q ≤ 3) → gW D ct zA zs H ll (wX ad ct (va_up (va_up σ 0 (va_up (σ 0) 5 g)) 5 g5) (va_up lm 5 L5) τ) → lv_has ls 7 [(4, .int (nI q)), (3, .int (nI ((akX (σ 3) (lm 3) n kd sn m q).2))), (2, .int (bI (akX (σ 3) (lm 3) n kd sn m q).1)), (0, .ref (ad 0 0)), (1, .int (nI m))] → W zp l ze rmX8_bestQuestion zs zm za zb zt zc H ll 0 0 zQ (F0 zm 7 ls []) := by
    intro kk7
    induction kk7 using Nat.strongRecOn with
    | _ kk7 ih7 =>
    intro q g5 L5 g H ll ls hk7 hq h hl
    refine lv_iload hx hb dX8_bestQuestion_7 (lv_at hl 0 rfl) ?_
    refine lv_iconst (v := 3) hx hb dX8_bestQuestion_9 (by decide) ?_
    refine nb_ge hx hb q 3 (by omega) (by omega) (tgt := 58) dX8_bestQuestion_10 (by decide) (fun c_10 => ?_) (fun c_10 => ?_)
    · refine lv_iload_n hx hb dX8_bestQuestion_58 rfl (lv_at hl 2 rfl) ?_
      have h : gW D ct zA zs _ _ ((fun u : (Nat → Nat → Nat → Int32) × (Nat → Nat → Nat → Int32) × (Nat → Int64) => wX ad ct u.1 u.2.1 u.2.2) ((va_up (va_up σ 5 g5) 0 (va_up (σ 0) 5 g), va_up lm 5 L5, τ))) := h
      exact hret _ ((va_up (va_up σ 5 g5) 0 (va_up (σ 0) 5 g), va_up lm 5 L5, τ)) _ _ _ _ h ⟨(by rw [show q = 3 by omega]), g5, L5, g, rfl⟩ dX8_bestQuestion_59
    · refine lv_aload_n hx hb dX8_bestQuestion_13 rfl (lv_at hl 3 rfl) ?_
      refine lv_iload_n hx hb dX8_bestQuestion_14 rfl (lv_at hl 4 rfl) ?_
      refine lv_iload hx hb dX8_bestQuestion_15 (lv_at hl 0 rfl) ?_
      refine gcallVi C h trivial gNo_ok (kX8_leansLeft l D ct ad (va_up (va_up σ 0 (va_up (σ 0) 5 g)) 5 g5) (va_up lm 5 L5) τ n kd hok sn hsn hsn6 m q (by omega) (by omega)) (cwV 2 C.2.2.2.2 (gInV q417 q419 q3 q57 q420) rfl rfl rfl hvX8_leansLeft ⟨Nat.le_of_ble_eq_true rfl, Nat.le_of_ble_eq_true rfl⟩) 0 rfl rfl rfl rfl hl.1 rfl (Nat.le_of_ble_eq_true rfl) dX8_bestQuestion_17 ⟨Nat.zero_le _, Nat.zero_le _⟩ (fun r9 u9 H ll hw h => ?_)
      obtain ⟨hw, L5_c2, g0_5_c2, hp0_c2, rfl⟩ := hw
      have hw : r9 = nI (lvX (σ 3) (lm 3) n kd sn m q 3) := hw
      subst hw
      have hp0_c2 : ∀ j, j < 3 → g0_5_c2 j = slX (σ 3) (lm 3) n kd m q j := hp0_c2
      have h : gW D ct zA zs _ _ (wX ad ct (va_up (va_up σ 0 (va_up (σ 0) 5 g0_5_c2)) 5 (σ 3)) (va_up lm 5 L5_c2) τ) := h
      have hlv := lvX_lt (σ 3) (lm 3) n kd sn m q 3
      refine lv_istore (lv' := [(5, .int (nI (lvX (σ 3) (lm 3) n kd sn m q 3))), (4, .int (nI q)), (3, .int (nI ((akX (σ 3) (lm 3) n kd sn m q).2))), (2, .int (bI (akX (σ 3) (lm 3) n kd sn m q).1)), (0, .ref (ad 0 0)), (1, .int (nI m))]) hx hb dX8_bestQuestion_20 hl (by decide) rfl (fun ls hl => ?_)
      refine lv_aload_n hx hb dX8_bestQuestion_22 rfl (lv_at hl 4 rfl) ?_
      refine lv_iload hx hb dX8_bestQuestion_23 (lv_at hl 0 rfl) ?_
      refine gcallVi C h trivial gNo_ok (kX8_mostAlike l D ct ad (va_up (va_up σ 0 (va_up (σ 0) 5 g0_5_c2)) 5 (σ 3)) (va_up lm 5 L5_c2) τ n kd hok (lvX (σ 3) (lm 3) n kd sn m q 3) (by omega)) (cwV 1 C.2.2.2.2 (gInV q464 q466 q5 q57 q467) rfl rfl rfl hvX8_mostAlike ⟨Nat.le_of_ble_eq_true rfl, Nat.le_of_ble_eq_true rfl⟩) 0 rfl rfl rfl rfl hl.1 rfl (Nat.le_of_ble_eq_true rfl) dX8_bestQuestion_25 ⟨Nat.zero_le _, Nat.zero_le _⟩ (fun r9 u9 H ll hw h => ?_)
      have hw : r9 = nI (mxW (g0_5_c2) (lvX (σ 3) (lm 3) n kd sn m q 3) 3) := hw
      subst hw
      have h : gW D ct zA zs _ _ (wX ad ct (va_up (va_up σ 0 (va_up (σ 0) 5 g0_5_c2)) 5 (σ 3)) (va_up lm 5 L5_c2) τ) := h
      refine gas (z := nI (mxW (slX (σ 3) (lm 3) n kd m q) (lvX (σ 3) (lm 3) n kd sn m q 3) 3)) (congrArg nI (mxW_cong hp0_c2 3 (Nat.le_refl 3))) ?_
      refine lv_istore (lv' := [(6, .int (nI (mxW (slX (σ 3) (lm 3) n kd m q) (lvX (σ 3) (lm 3) n kd sn m q 3) 3))), (5, .int (nI (lvX (σ 3) (lm 3) n kd sn m q 3))), (4, .int (nI q)), (3, .int (nI ((akX (σ 3) (lm 3) n kd sn m q).2))), (2, .int (bI (akX (σ 3) (lm 3) n kd sn m q).1)), (0, .ref (ad 0 0)), (1, .int (nI m))]) hx hb dX8_bestQuestion_28 hl (by decide) rfl (fun ls hl => ?_)
      have hm3 := mxW_le (slX (σ 3) (lm 3) n kd m q) (lvX (σ 3) (lm 3) n kd sn m q 3) 3
      have ha4 := akX_le (σ 3) (lm 3) n kd sn m q
      have hpl := pcn_le (lvX (σ 3) (lm 3) n kd sn m q 3) 8
      refine lv_iload hx hb dX8_bestQuestion_30 (lv_at hl 0 rfl) ?_
      refine lv_iload hx hb dX8_bestQuestion_32 (lv_at hl 1 rfl) ?_
      refine gcallSi C h (kJ6_bitCount_0f7a4 l D ct (lvX (σ 3) (lm 3) n kd sn m q 3) (by omega)) (va_cwS 1 C.2.2.2.2 (gInS q469 q470 q74 q471) rfl rfl rfl hdJ6_bitCount_0f7a4 ⟨Nat.le_of_ble_eq_true rfl, Nat.le_of_ble_eq_true rfl⟩) rfl hl.1 rfl (Nat.le_of_ble_eq_true rfl) dX8_bestQuestion_34 ⟨Nat.zero_le _, Nat.zero_le _⟩ (fun H ll h => ?_)
      refine nb_ge hx hb (mxW (slX (σ 3) (lm 3) n kd m q) (lvX (σ 3) (lm 3) n kd sn m q 3) 3) (pcn (lvX (σ 3) (lm 3) n kd sn m q 3) 8) (by omega) (by omega) (tgt := 52) dX8_bestQuestion_37 (by decide) (fun c_37 => ?_) (fun c_37 => ?_)
      · refine ninc (lv' := [(4, .int (nI (q + 1))), (6, .int (nI (mxW (slX (σ 3) (lm 3) n kd m q) (lvX (σ 3) (lm 3) n kd sn m q 3) 3))), (5, .int (nI (lvX (σ 3) (lm 3) n kd sn m q 3))), (3, .int (nI ((akX (σ 3) (lm 3) n kd sn m q).2))), (2, .int (bI (akX (σ 3) (lm 3) n kd sn m q).1)), (0, .ref (ad 0 0)), (1, .int (nI m))]) hx hb q 1 dX8_bestQuestion_52 hl (k := 2) rfl (by decide) rfl (fun ls hl => ?_)
        refine lv_goto (tgt := 7) hx hb dX8_bestQuestion_55 (by decide) ?_
        have eA : akX (σ 3) (lm 3) n kd sn m (q + 1) = akX (σ 3) (lm 3) n kd sn m q := if_neg (fun q9 => absurd q9.1 (by omega))
        have hl : lv_has ls 7 [(4, .int (nI (q + 1))), (6, .int (nI (mxW (slX (σ 3) (lm 3) n kd m q) (lvX (σ 3) (lm 3) n kd sn m q 3) 3))), (5, .int (nI (lvX (σ 3) (lm 3) n kd sn m q 3))), (3, .int (nI ((akX (σ 3) (lm 3) n kd sn m q).2))), (2, .int (bI (akX (σ 3) (lm 3) n kd sn m (q + 1)).1)), (0, .ref (ad 0 0)), (1, .int (nI m))] := by have e9 : (bI (akX (σ 3) (lm 3) n kd sn m q).1 : Int32) = bI (akX (σ 3) (lm 3) n kd sn m (q + 1)).1 := (by rw [eA]); rw [← e9]; exact hl
        have hl : lv_has ls 7 [(4, .int (nI (q + 1))), (6, .int (nI (mxW (slX (σ 3) (lm 3) n kd m q) (lvX (σ 3) (lm 3) n kd sn m q 3) 3))), (5, .int (nI (lvX (σ 3) (lm 3) n kd sn m q 3))), (3, .int (nI ((akX (σ 3) (lm 3) n kd sn m (q + 1)).2))), (2, .int (bI (akX (σ 3) (lm 3) n kd sn m (q + 1)).1)), (0, .ref (ad 0 0)), (1, .int (nI m))] := by have e9 : (nI ((akX (σ 3) (lm 3) n kd sn m q).2) : Int32) = nI ((akX (σ 3) (lm 3) n kd sn m (q + 1)).2) := (by rw [eA]); rw [← e9]; exact hl
        exact ih7 _ (by omega) (q + 1) (σ 3) L5_c2 g0_5_c2 _ _ _ rfl (by omega) h (lv_sub hl [0, 3, 4, 5, 6] rfl)
      · refine lv_iload hx hb dX8_bestQuestion_40 (lv_at hl 0 rfl) ?_
        refine lv_iload_n hx hb dX8_bestQuestion_42 rfl (lv_at hl 3 rfl) ?_
        refine nb_ge hx hb (mxW (slX (σ 3) (lm 3) n kd m q) (lvX (σ 3) (lm 3) n kd sn m q 3) 3) ((akX (σ 3) (lm 3) n kd sn m q).2) (by omega) (by omega) (tgt := 52) dX8_bestQuestion_43 (by decide) (fun c_43 => ?_) (fun c_43 => ?_)
        · refine ninc (lv' := [(4, .int (nI (q + 1))), (6, .int (nI (mxW (slX (σ 3) (lm 3) n kd m q) (lvX (σ 3) (lm 3) n kd sn m q 3) 3))), (5, .int (nI (lvX (σ 3) (lm 3) n kd sn m q 3))), (3, .int (nI ((akX (σ 3) (lm 3) n kd sn m q).2))), (2, .int (bI (akX (σ 3) (lm 3) n kd sn m q).1)), (0, .ref (ad 0 0)), (1, .int (nI m))]) hx hb q 1 dX8_bestQuestion_52 hl (k := 2) rfl (by decide) rfl (fun ls hl => ?_)
          refine lv_goto (tgt := 7) hx hb dX8_bestQuestion_55 (by decide) ?_
          have eA : akX (σ 3) (lm 3) n kd sn m (q + 1) = akX (σ 3) (lm 3) n kd sn m q := if_neg (fun q9 => absurd q9.2 (by omega))
          have hl : lv_has ls 7 [(4, .int (nI (q + 1))), (6, .int (nI (mxW (slX (σ 3) (lm 3) n kd m q) (lvX (σ 3) (lm 3) n kd sn m q 3) 3))), (5, .int (nI (lvX (σ 3) (lm 3) n kd sn m q 3))), (3, .int (nI ((akX (σ 3) (lm 3) n kd sn m q).2))), (2, .int (bI (akX (σ 3) (lm 3) n kd sn m (q + 1)).1)), (0, .ref (ad 0 0)), (1, .int (nI m))] := by have e9 : (bI (akX (σ 3) (lm 3) n kd sn m q).1 : Int32) = bI (akX (σ 3) (lm 3) n kd sn m (q + 1)).1 := (by rw [eA]); rw [← e9]; exact hl
          have hl : lv_has ls 7 [(4, .int (nI (q + 1))), (6, .int (nI (mxW (slX (σ 3) (lm 3) n kd m q) (lvX (σ 3) (lm 3) n kd sn m q 3) 3))), (5, .int (nI (lvX (σ 3) (lm 3) n kd sn m q 3))), (3, .int (nI ((akX (σ 3) (lm 3) n kd sn m (q + 1)).2))), (2, .int (bI (akX (σ 3) (lm 3) n kd sn m (q + 1)).1)), (0, .ref (ad 0 0)), (1, .int (nI m))] := by have e9 : (nI ((akX (σ 3) (lm 3) n kd sn m q).2) : Int32) = nI ((akX (σ 3) (lm 3) n kd sn m (q + 1)).2) := (by rw [eA]); rw [← e9]; exact hl
          exact ih7 _ (by omega) (q + 1) (σ 3) L5_c2 g0_5_c2 _ _ _ rfl (by omega) h (lv_sub hl [0, 3, 4, 5, 6] rfl)
        · refine lv_iload hx hb dX8_bestQuestion_46 (lv_at hl 2 rfl) ?_
          refine lv_istore_n (lv' := [(2, .int (nI q)), (6, .int (nI (mxW (slX (σ 3) (lm 3) n kd m q) (lvX (σ 3) (lm 3) n kd sn m q 3) 3))), (5, .int (nI (lvX (σ 3) (lm 3) n kd sn m q 3))), (4, .int (nI q)), (3, .int (nI ((akX (σ 3) (lm 3) n kd sn m q).2))), (0, .ref (ad 0 0)), (1, .int (nI m))]) hx hb dX8_bestQuestion_48 rfl hl (by decide) rfl (fun ls hl => ?_)
          refine lv_iload hx hb dX8_bestQuestion_49 (lv_at hl 1 rfl) ?_
          refine lv_istore_n (lv' := [(3, .int (nI (mxW (slX (σ 3) (lm 3) n kd m q) (lvX (σ 3) (lm 3) n kd sn m q 3) 3))), (2, .int (nI q)), (6, .int (nI (mxW (slX (σ 3) (lm 3) n kd m q) (lvX (σ 3) (lm 3) n kd sn m q 3) 3))), (5, .int (nI (lvX (σ 3) (lm 3) n kd sn m q 3))), (4, .int (nI q)), (0, .ref (ad 0 0)), (1, .int (nI m))]) hx hb dX8_bestQuestion_51 rfl hl (by decide) rfl (fun ls hl => ?_)
          refine ninc (lv' := [(4, .int (nI (q + 1))), (3, .int (nI (mxW (slX (σ 3) (lm 3) n kd m q) (lvX (σ 3) (lm 3) n kd sn m q 3) 3))), (2, .int (nI q)), (6, .int (nI (mxW (slX (σ 3) (lm 3) n kd m q) (lvX (σ 3) (lm 3) n kd sn m q 3) 3))), (5, .int (nI (lvX (σ 3) (lm 3) n kd sn m q 3))), (0, .ref (ad 0 0)), (1, .int (nI m))]) hx hb q 1 dX8_bestQuestion_52 hl (k := 4) rfl (by decide) rfl (fun ls hl => ?_)
          refine lv_goto (tgt := 7) hx hb dX8_bestQuestion_55 (by decide) ?_
          have eA : akX (σ 3) (lm 3) n kd sn m (q + 1) = (some q, mxW (slX (σ 3) (lm 3) n kd m q) (lvX (σ 3) (lm 3) n kd sn m q 3) 3) := if_pos ⟨by omega, by omega⟩
          have hl : lv_has ls 7 [(4, .int (nI (q + 1))), (3, .int (nI (mxW (slX (σ 3) (lm 3) n kd m q) (lvX (σ 3) (lm 3) n kd sn m q 3) 3))), (2, .int (bI (akX (σ 3) (lm 3) n kd sn m (q + 1)).1)), (6, .int (nI (mxW (slX (σ 3) (lm 3) n kd m q) (lvX (σ 3) (lm 3) n kd sn m q 3) 3))), (5, .int (nI (lvX (σ 3) (lm 3) n kd sn m q 3))), (0, .ref (ad 0 0)), (1, .int (nI m))] := by have e9 : (nI q : Int32) = bI (akX (σ 3) (lm 3) n kd sn m (q + 1)).1 := (by rw [eA]; rfl); rw [← e9]; exact hl
          have hl : lv_has ls 7 [(4, .int (nI (q + 1))), (3, .int (nI ((akX (σ 3) (lm 3) n kd sn m (q + 1)).2))), (2, .int (bI (akX (σ 3) (lm 3) n kd sn m (q + 1)).1)), (6, .int (nI (mxW (slX (σ 3) (lm 3) n kd m q) (lvX (σ 3) (lm 3) n kd sn m q 3) 3))), (5, .int (nI (lvX (σ 3) (lm 3) n kd sn m q 3))), (0, .ref (ad 0 0)), (1, .int (nI m))] := by have e9 : (nI (mxW (slX (σ 3) (lm 3) n kd m q) (lvX (σ 3) (lm 3) n kd sn m q 3) 3) : Int32) = nI ((akX (σ 3) (lm 3) n kd sn m (q + 1)).2) := (by rw [eA]); rw [← e9]; exact hl
          exact ih7 _ (by omega) (q + 1) (σ 3) L5_c2 g0_5_c2 _ _ _ rfl (by omega) h (lv_sub hl [0, 1, 2, 5, 6] rfl)
  exact L7_0 _ 0 (σ 5) (lm 5) (σ 0 5) _ _ _ rfl (by omega) h (lv_sub hl [0, 1, 2, 3, 4] rfl)
