def leX (L : Nat → Nat → Int32) (m q : Nat) : Int32 := L q m
def cuX (S : Nat → Nat → Int32) (m : Nat) : Bool := !decide (S 6 m = 0)
theorem cuX_f {S : Nat → Nat → Int32} {m : Nat} (h : S 6 m = 0) : cuX S m = false := by unfold cuX; simp [h]
theorem cuX_t {S : Nat → Nat → Int32} {m : Nat} (h : ¬ S 6 m = 0) : cuX S m = true := by unfold cuX; simp [h]
/-- what is known of the class's rope: n mussels of kinds kd -/
def ROK (R : Nat → Nat → Int32) (n : Nat) (kd : Nat → Nat) : Prop := R 0 0 = nI n ∧ n ≤ 8 ∧ ∀ m, m < 8 → R 2 m = nI (kd m) ∧ kd m ≤ 4
/-- how many are felt: up to the first cut thread -/
def ffe (cu : Nat → Bool) : Nat → Nat → Nat
  | 0, i => i
  | d + 1, i => if cu i = true then i else ffe cu d (i + 1)
theorem ffe_le (cu : Nat → Bool) : ∀ d i, ffe cu d i ≤ i + d
  | 0, i => Nat.le_refl _
  | d + 1, i => by simp only [ffe]; have := ffe_le cu d (i + 1); split <;> omega
def pullX (k : Nat) (w x a b : Int32) : Int32 := if k = 0 then w * x else if k = 1 then 2 * w * x else if k = 2 then -w * x else if k = 3 then w * (if a = b then a else 0) else (if (if a = b then a else 0) = 0 then w * x else w * (if a = b then a else 0))
def plX (S L : Nat → Nat → Int32) (n : Nat) (kd : Nat → Nat) (q m : Nat) : Int32 := pullX (kd m) (S 1 m) (leX L m q) (lnA (leX L) (cuX S) m q) (lnB n (leX L) (cuX S) m q)
def smX (S L : Nat → Nat → Int32) (n : Nat) (kd : Nat → Nat) (q : Nat) : Int32 := bx_sum (plX S L n kd q) (ffe (cuX S) n 0)
def seeX (S : Nat → Nat → Int32) (m q : Nat) (x : Int32) : Nat → Bool
  | 0 => true
  | e + 1 => seeX S m q x e && decide (¬ S 9 e = nI m ∨ ¬ S 10 e = nI q ∨ S 11 e = x)
def cd1 (f : Nat → Int32) (h : Int64) : Nat → Int64
  | 0 => h
  | m + 1 => cd1 f h m * 3 + (f m).toInt64 + 1
def cdq (L : Nat → Nat → Int32) : Nat → Int64
  | 0 => 0
  | q + 1 => cd1 (L q) (cdq L q) 8
theorem hung_lt {R : Nat → Nat → Int32} {n : Nat} {kd : Nat → Nat} (h : ROK R n kd) {m : Nat} (hm : m < 8) : kd m < 5 := by have := (h.2.2 m hm).2; omega
set_option maxHeartbeats 1000000 in
set_option maxRecDepth 100000 in
theorem kX5_has (l : Launch) (D : va_G) (ct : Nat → ClassId) (aR : Nat → Nat) (R : Nat → Nat → Int32) (n : Nat) (hn : R 0 0 = nI n) (hn8 : n ≤ 8) (x : Int32) : MI l yX5_has (gWs yX5_has cX5_has 2 (some .boolean)) rmX5_has D ct gNo [.ref (aR 0), .int x] (wR aR ct R) (fun _ : Unit => (wR aR ct R)) (fun r _ => r = (if 0 ≤ x ∧ x < nI n then 1 else 0)) := by
  refine MI.ofZ RX5 rfl (by decide) (Nat.le_of_ble_eq_true rfl) ?_
  intro zp ze zs zm za zb zt zc zA ls zQ C h hX hl hret
  have hx := C.1
  have hb := C.2.1
  have hl : lv_has ls 2 [(0, .ref (aR 0)), (1, .int x)] := hl
  refine lv_iload_n hx hb dX5_has_0 rfl (lv_at hl 1 rfl) ?_
  refine lv_if_lt (tgt := 16) hx hb dX5_has_1 (by decide) (fun c_1 => ?_) (fun c_1 => ?_)
  · refine lv_iconst (v := 0) hx hb dX5_has_16 (by decide) ?_
    exact hret _ () _ _ _ _ h (by first | exact (if_pos ⟨Int32.not_lt.mp c_1, Int32.not_le.mp c_9⟩).symm | exact (if_neg (fun q => Int32.not_lt.mpr q.1 c_1)).symm | exact (if_neg (fun q => Int32.not_le.mpr q.2 c_9)).symm) dX5_has_17 (by decide)
  · refine lv_iload_n hx hb dX5_has_4 rfl (lv_at hl 1 rfl) ?_
    refine lv_aload_n hx hb dX5_has_5 rfl (lv_at hl 0 rfl) ?_
    refine gget C h igX5 0 rfl rfl 2 (by decide) q143 rfl rfl dX5_has_6 ?_
    refine gas hn ?_
    refine lv_icmp_ge (tgt := 16) hx hb dX5_has_9 (by decide) (fun c_9 => ?_) (fun c_9 => ?_)
    · refine lv_iconst (v := 0) hx hb dX5_has_16 (by decide) ?_
      exact hret _ () _ _ _ _ h (by first | exact (if_pos ⟨Int32.not_lt.mp c_1, Int32.not_le.mp c_9⟩).symm | exact (if_neg (fun q => Int32.not_lt.mpr q.1 c_1)).symm | exact (if_neg (fun q => Int32.not_le.mpr q.2 c_9)).symm) dX5_has_17 (by decide)
    · refine lv_iconst (v := 1) hx hb dX5_has_12 (by decide) ?_
      refine lv_goto (tgt := 17) hx hb dX5_has_13 (by decide) ?_
      exact hret _ () _ _ _ _ h (by first | exact (if_pos ⟨Int32.not_lt.mp c_1, Int32.not_le.mp c_9⟩).symm | exact (if_neg (fun q => Int32.not_lt.mpr q.1 c_1)).symm | exact (if_neg (fun q => Int32.not_le.mpr q.2 c_9)).symm) dX5_has_17 (by decide)
set_option maxHeartbeats 1000000 in
set_option maxRecDepth 100000 in
theorem kX5_hang (l : Launch) (D : va_G) (ct : Nat → ClassId) (aR : Nat → Nat) (R : Nat → Nat → Int32) (m k : Nat) (hm : m < 8) (hk : k < 5) : MV l yX5_hang (gWs yX5_hang cX5_hang 3 none) rmX5_hang D ct gNo [.ref (aR 0), .int (nI m), .int (nI k)] (wR aR ct R) (fun u : Nat → Nat → Int32 => wR aR ct u) (fun u => u = va_up R 2 (upd (R 2) m (nI k))) := by
  refine MV.of RX5 rfl (by decide) (Nat.le_of_ble_eq_true rfl) ?_
  intro zp ze zs zm za zb zt zc zA ls zQ C h hX hl hret
  have hx := C.1
  have hb := C.2.1
  have hl : lv_has ls 3 [(0, .ref (aR 0)), (1, .int (nI m)), (2, .int (nI k))] := hl
  refine lv_iload_n hx hb dX5_hang_0 rfl (lv_at hl 2 rfl) ?_
  refine lv_if_lt (tgt := 20) hx hb dX5_hang_1 (by decide) (fun q => absurd q (nI_pos (by omega))) (fun _ => ?_)
  refine lv_iload_n hx hb dX5_hang_4 rfl (lv_at hl 2 rfl) ?_
  refine lv_aload_n hx hb dX5_hang_5 rfl (lv_at hl 0 rfl) ?_
  refine gget C h igX5 0 rfl rfl 0 (by decide) q141 rfl rfl dX5_hang_6 ?_
  refine galen C h 1 3 rfl rfl dX5_hang_9 ?_
  refine nb_ge hx hb k 5 (by omega) (by omega) (tgt := 20) dX5_hang_10 (by decide) (fun c_10 => absurd c_10 (by omega)) (fun c_10 => ?_)
  refine lv_aload_n hx hb dX5_hang_13 rfl (lv_at hl 0 rfl) ?_
  refine gget C h igX5 0 rfl rfl 1 (by decide) q142 rfl rfl dX5_hang_14 ?_
  refine lv_iload_n hx hb dX5_hang_17 rfl (lv_at hl 1 rfl) ?_
  refine lv_iload_n hx hb dX5_hang_18 rfl (lv_at hl 2 rfl) ?_
  refine gist C h 2 rfl (j := m) (by omega) (by decide) dX5_hang_19 (fun H ll h => ?_)
  have h : gW D ct zA zs _ _ (wR aR ct (va_up R 2 (upd (R 2) m (nI k)))) := h
  have h : gW D ct zA zs _ _ ((fun u : Nat → Nat → Int32 => wR aR ct u) (va_up R 2 (upd (R 2) m (nI k)))) := h
  exact hret (va_up R 2 (upd (R 2) m (nI k))) _ _ _ _ h rfl dX5_hang_20
set_option maxRecDepth 100000 in
theorem kX5_kindOf (l : Launch) (D : va_G) (ct : Nat → ClassId) (aR : Nat → Nat) (R : Nat → Nat → Int32) (n : Nat) (kd : Nat → Nat) (hok : ROK R n kd) (m : Nat) (hm : m < 8) : MR l yX5_kindOf (gWs yX5_kindOf cX5_kindOf 2 (some (.object "RopeVote$Mussel"))) rmX5_kindOf D ct gNo [.ref (aR 0), .int (nI m)] (wR aR ct R) (aR (3 + kd m)) := by
  refine MR.of RX5 rfl (by decide) (Nat.le_of_ble_eq_true rfl) ?_
  intro zp ze zs zm za zb zt zc zA ls zQ C h hX hl hret
  have hx := C.1
  have hb := C.2.1
  have hl : lv_has ls 2 [(0, .ref (aR 0)), (1, .int (nI m))] := hl
  have hok0 := hok
  obtain ⟨hn, hn8, hkd⟩ := hok0
  have hk5 := hung_lt hok hm
  refine lv_aload_n hx hb dX5_kindOf_0 rfl (lv_at hl 0 rfl) ?_
  refine gget C h igX5 0 rfl rfl 0 (by decide) q141 rfl rfl dX5_kindOf_1 ?_
  refine lv_aload_n hx hb dX5_kindOf_4 rfl (lv_at hl 0 rfl) ?_
  refine gget C h igX5 0 rfl rfl 1 (by decide) q142 rfl rfl dX5_kindOf_5 ?_
  refine lv_iload_n hx hb dX5_kindOf_8 rfl (lv_at hl 1 rfl) ?_
  refine gild C h 2 rfl (j := m) (by omega) (by decide) dX5_kindOf_9 ?_
  refine gas (z := R 2 m) rfl ?_
  refine gas (hkd m (by omega)).1 ?_
  refine gald C h 1 3 rfl rfl rfl (j := kd m) (b := aR (3 + (kd m))) (by omega) (by decide) (if_pos (by omega)) dX5_kindOf_10 ?_
  exact hret _ _ _ _ h dX5_kindOf_11
set_option maxHeartbeats 1000000 in
set_option maxRecDepth 100000 in
theorem kX5_feltIn (l : Launch) (D : va_G) (ct : Nat → ClassId) (aR a : Nat → Nat) (R S L : Nat → Nat → Int32) (n : Nat) (kd : Nat → Nat) (hok : ROK R n kd)  : MI l yX5_feltIn (gWs yX5_feltIn cX5_feltIn 3 (some .int)) rmX5_feltIn D ct gNo [.ref (aR 0), .ref (a 0)] (wRS aR a ct R S L) (fun _ : Unit => (wRS aR a ct R S L)) (fun r _ => r = nI (ffe (cuX S) n 0)) := by
  refine MI.ofI RX5 rfl (by decide) (Nat.le_of_ble_eq_true rfl) ?_
  intro zp ze zs zm za zb zt zc zA ls zQ C h hX hl hret
  have hx := C.1
  have hb := C.2.1
  have hl : lv_has ls 3 [(0, .ref (aR 0)), (1, .ref (a 0))] := hl
  have hok0 := hok
  obtain ⟨hn, hn8, hkd⟩ := hok0
  refine lv_iconst (v := 0) hx hb dX5_feltIn_0 (by decide) ?_
  refine lv_istore_n (lv' := [(2, .int 0), (0, .ref (aR 0)), (1, .ref (a 0))]) hx hb dX5_feltIn_1 rfl hl (by decide) rfl (fun ls hl => ?_)
  have L2_0 : ∀ (kk : Nat) (i : Nat) (H : Heap) (ll : List Loc) (ls : Array Slot), n - i = kk → (i ≤ n) → (ffe (cuX S) n 0 = ffe (cuX S) (n - i) i) → gW D ct zA zs H ll (wRS aR a ct R S L) → lv_has ls 3 [(2, .int (nI i)), (0, .ref (aR 0)), (1, .ref (a 0))] → W zp l ze rmX5_feltIn zs zm za zb zt zc H ll 0 0 zQ (F0 zm 2 ls []) := by
    intro kk2
    induction kk2 using Nat.strongRecOn with
    | _ kk2 ih2 =>
    intro i H ll ls hk2 hi hf h hl
    refine lv_iload_n hx hb dX5_feltIn_2 rfl (lv_at hl 0 rfl) ?_
    refine lv_aload_n hx hb dX5_feltIn_3 rfl (lv_at hl 1 rfl) ?_
    refine gget C h igX5 0 rfl rfl 2 (by decide) q143 rfl rfl dX5_feltIn_4 ?_
    refine gas hn ?_
    refine nb_ge hx hb i n (by omega) (by omega) (tgt := 25) dX5_feltIn_7 (by decide) (fun c_7 => ?_) (fun c_7 => ?_)
    · refine lv_iload_n hx hb dX5_feltIn_25 rfl (lv_at hl 0 rfl) ?_
      exact hret _ () _ _ _ _ h (by rw [hf]; first | (rw [show n - i = 0 by omega]; rfl) | (rw [show n - i = (n - (i + 1)) + 1 by omega]; exact congrArg nI (if_pos (cuX_t c_16)).symm)) dX5_feltIn_26
    · refine lv_aload_n hx hb dX5_feltIn_10 rfl (lv_at hl 2 rfl) ?_
      refine gget C h igX6 8 rfl rfl 2 (by decide) q167 rfl rfl dX5_feltIn_11 ?_
      refine lv_iload_n hx hb dX5_feltIn_14 rfl (lv_at hl 0 rfl) ?_
      refine gild C h 14 rfl (j := i) (by omega) (by decide) dX5_feltIn_15 ?_
      refine gas (z := S 6 i) rfl ?_
      refine lv_if_ne (tgt := 25) hx hb dX5_feltIn_16 (by decide) (fun c_16 => ?_) (fun c_16 => ?_)
      · refine lv_iload_n hx hb dX5_feltIn_25 rfl (lv_at hl 0 rfl) ?_
        exact hret _ () _ _ _ _ h (by rw [hf]; first | (rw [show n - i = 0 by omega]; rfl) | (rw [show n - i = (n - (i + 1)) + 1 by omega]; exact congrArg nI (if_pos (cuX_t c_16)).symm)) dX5_feltIn_26
      · refine ninc (lv' := [(2, .int (nI (i + 1))), (0, .ref (aR 0)), (1, .ref (a 0))]) hx hb i 1 dX5_feltIn_19 hl (k := 0) rfl (by decide) rfl (fun ls hl => ?_)
        refine lv_goto (tgt := 2) hx hb dX5_feltIn_22 (by decide) ?_
        exact ih2 _ (by omega) (i + 1) _ _ _ rfl (by omega) (by rw [hf, show n - i = (n - (i + 1)) + 1 by omega]; exact if_neg (by rw [cuX_f c_16]; decide)) h (lv_sub hl [0, 1, 2] rfl)
  exact L2_0 _ 0 _ _ _ rfl (by omega) rfl h (lv_sub hl [0, 1, 2] rfl)
set_option maxHeartbeats 1000000 in
set_option maxRecDepth 100000 in
theorem kX5_leanAhead (l : Launch) (D : va_G) (ct : Nat → ClassId) (aR a : Nat → Nat) (R S L : Nat → Nat → Int32) (n : Nat) (kd : Nat → Nat) (hok : ROK R n kd) (m q : Nat) (hm : m < n) (hq : q < 3) : MI l yX5_leanAhead (gWs yX5_leanAhead cX5_leanAhead 4 (some .int)) rmX5_leanAhead D ct gNo [.ref (aR 0), .ref (a 0), .int (nI m), .int (nI q)] (wRS aR a ct R S L) (fun _ : Unit => (wRS aR a ct R S L)) (fun r _ => r = lnA (leX L) (cuX S) m q) := by
  refine MI.ofI RX5 rfl (by decide) (Nat.le_of_ble_eq_true rfl) ?_
  intro zp ze zs zm za zb zt zc zA ls zQ C h hX hl hret
  have hx := C.1
  have hb := C.2.1
  have hl : lv_has ls 4 [(0, .ref (aR 0)), (1, .ref (a 0)), (2, .int (nI m)), (3, .int (nI q))] := hl
  have hok0 := hok
  obtain ⟨hn, hn8, hkd⟩ := hok0
  refine lv_iload_n hx hb dX5_leanAhead_0 rfl (lv_at hl 2 rfl) ?_
  refine lv_iconst (v := 1) hx hb dX5_leanAhead_1 (by decide) ?_
  refine nb_lt hx hb m 1 (by omega) (by omega) (tgt := 14) dX5_leanAhead_2 (by decide) (fun c_2 => ?_) (fun c_2 => ?_)
  · refine lv_iconst (v := 0) hx hb dX5_leanAhead_14 (by decide) ?_
    exact hret _ () _ _ _ _ h (by unfold lnA; first | (rw [if_pos ⟨by omega, cuX_f c_11⟩]; rfl) | rw [if_neg (fun h => absurd h.1 (by omega))] | rw [if_neg (fun h => by rw [cuX_t c_11] at h; exact absurd h.2 (by decide))]) dX5_leanAhead_15
  · refine lv_aload_n hx hb dX5_leanAhead_5 rfl (lv_at hl 1 rfl) ?_
    refine gget C h igX6 8 rfl rfl 2 (by decide) q167 rfl rfl dX5_leanAhead_6 ?_
    refine lv_iload_n hx hb dX5_leanAhead_9 rfl (lv_at hl 2 rfl) ?_
    refine gild C h 14 rfl (j := m) (by omega) (by decide) dX5_leanAhead_10 ?_
    refine gas (z := S 6 m) rfl ?_
    refine lv_if_eq (tgt := 16) hx hb dX5_leanAhead_11 (by decide) (fun c_11 => ?_) (fun c_11 => ?_)
    · refine lv_aload_n hx hb dX5_leanAhead_16 rfl (lv_at hl 1 rfl) ?_
      refine gget C h igX6 8 rfl rfl 1 (by decide) q165 rfl rfl dX5_leanAhead_17 ?_
      refine lv_iload_n hx hb dX5_leanAhead_20 rfl (lv_at hl 3 rfl) ?_
      refine gald C h 10 4 rfl rfl rfl (j := q) (b := a (3 + q)) (by omega) (by decide) (if_pos (by omega)) dX5_leanAhead_21 ?_
      refine lv_iload_n hx hb dX5_leanAhead_22 rfl (lv_at hl 2 rfl) ?_
      refine lv_iconst (v := 1) hx hb dX5_leanAhead_23 (by decide) ?_
      refine nsub hx hb m 1 (by omega) dX5_leanAhead_24 ?_
      refine gild C h (11 + q) (wRS_row aR a ct _ _ _ (by omega)) (j := m - 1) (by omega) (by decide) dX5_leanAhead_25 ?_
      refine gas (z := L q (m - 1)) rfl ?_
      exact hret _ () _ _ _ _ h (by unfold lnA; first | (rw [if_pos ⟨by omega, cuX_f c_11⟩]; rfl) | rw [if_neg (fun h => absurd h.1 (by omega))] | rw [if_neg (fun h => by rw [cuX_t c_11] at h; exact absurd h.2 (by decide))]) dX5_leanAhead_26
    · refine lv_iconst (v := 0) hx hb dX5_leanAhead_14 (by decide) ?_
      exact hret _ () _ _ _ _ h (by unfold lnA; first | (rw [if_pos ⟨by omega, cuX_f c_11⟩]; rfl) | rw [if_neg (fun h => absurd h.1 (by omega))] | rw [if_neg (fun h => by rw [cuX_t c_11] at h; exact absurd h.2 (by decide))]) dX5_leanAhead_15
set_option maxHeartbeats 1000000 in
set_option maxRecDepth 100000 in
theorem kX5_leanBehind (l : Launch) (D : va_G) (ct : Nat → ClassId) (aR a : Nat → Nat) (R S L : Nat → Nat → Int32) (n : Nat) (kd : Nat → Nat) (hok : ROK R n kd) (m q : Nat) (hm : m < n) (hq : q < 3) : MI l yX5_leanBehind (gWs yX5_leanBehind cX5_leanBehind 5 (some .int)) rmX5_leanBehind D ct gNo [.ref (aR 0), .ref (a 0), .int (nI m), .int (nI q)] (wRS aR a ct R S L) (fun _ : Unit => (wRS aR a ct R S L)) (fun r _ => r = lnB n (leX L) (cuX S) m q) := by
  refine MI.ofI RX5 rfl (by decide) (Nat.le_of_ble_eq_true rfl) ?_
  intro zp ze zs zm za zb zt zc zA ls zQ C h hX hl hret
  have hx := C.1
  have hb := C.2.1
  have hl : lv_has ls 5 [(0, .ref (aR 0)), (1, .ref (a 0)), (2, .int (nI m)), (3, .int (nI q))] := hl
  have hok0 := hok
  obtain ⟨hn, hn8, hkd⟩ := hok0
  refine lv_iload_n hx hb dX5_leanBehind_0 rfl (lv_at hl 2 rfl) ?_
  refine lv_iconst (v := 1) hx hb dX5_leanBehind_1 (by decide) ?_
  refine nadd hx hb m 1 dX5_leanBehind_2 ?_
  refine lv_istore (lv' := [(4, .int (nI (m + 1))), (0, .ref (aR 0)), (1, .ref (a 0)), (2, .int (nI m)), (3, .int (nI q))]) hx hb dX5_leanBehind_3 hl (by decide) rfl (fun ls hl => ?_)
  refine lv_iload hx hb dX5_leanBehind_5 (lv_at hl 0 rfl) ?_
  refine lv_aload_n hx hb dX5_leanBehind_7 rfl (lv_at hl 1 rfl) ?_
  refine gget C h igX5 0 rfl rfl 2 (by decide) q143 rfl rfl dX5_leanBehind_8 ?_
  refine gas hn ?_
  refine nb_ge hx hb (m + 1) n (by omega) (by omega) (tgt := 24) dX5_leanBehind_11 (by decide) (fun c_11 => ?_) (fun c_11 => ?_)
  · refine lv_iconst (v := 0) hx hb dX5_leanBehind_24 (by decide) ?_
    exact hret _ () _ _ _ _ h (by unfold lnB; first | (rw [if_pos ⟨by omega, cuX_f c_21⟩]; rfl) | rw [if_neg (fun h => absurd h.1 (by omega))] | rw [if_neg (fun h => by rw [cuX_t c_21] at h; exact absurd h.2 (by decide))]) dX5_leanBehind_25
  · refine lv_aload_n hx hb dX5_leanBehind_14 rfl (lv_at hl 2 rfl) ?_
    refine gget C h igX6 8 rfl rfl 2 (by decide) q167 rfl rfl dX5_leanBehind_15 ?_
    refine lv_iload hx hb dX5_leanBehind_18 (lv_at hl 0 rfl) ?_
    refine gild C h 14 rfl (j := m + 1) (by omega) (by decide) dX5_leanBehind_20 ?_
    refine gas (z := S 6 (m + 1)) rfl ?_
    refine lv_if_eq (tgt := 26) hx hb dX5_leanBehind_21 (by decide) (fun c_21 => ?_) (fun c_21 => ?_)
    · refine lv_aload_n hx hb dX5_leanBehind_26 rfl (lv_at hl 2 rfl) ?_
      refine gget C h igX6 8 rfl rfl 1 (by decide) q165 rfl rfl dX5_leanBehind_27 ?_
      refine lv_iload_n hx hb dX5_leanBehind_30 rfl (lv_at hl 4 rfl) ?_
      refine gald C h 10 4 rfl rfl rfl (j := q) (b := a (3 + q)) (by omega) (by decide) (if_pos (by omega)) dX5_leanBehind_31 ?_
      refine lv_iload hx hb dX5_leanBehind_32 (lv_at hl 0 rfl) ?_
      refine gild C h (11 + q) (wRS_row aR a ct _ _ _ (by omega)) (j := m + 1) (by omega) (by decide) dX5_leanBehind_34 ?_
      refine gas (z := L q (m + 1)) rfl ?_
      exact hret _ () _ _ _ _ h (by unfold lnB; first | (rw [if_pos ⟨by omega, cuX_f c_21⟩]; rfl) | rw [if_neg (fun h => absurd h.1 (by omega))] | rw [if_neg (fun h => by rw [cuX_t c_21] at h; exact absurd h.2 (by decide))]) dX5_leanBehind_35
    · refine lv_iconst (v := 0) hx hb dX5_leanBehind_24 (by decide) ?_
      exact hret _ () _ _ _ _ h (by unfold lnB; first | (rw [if_pos ⟨by omega, cuX_f c_21⟩]; rfl) | rw [if_neg (fun h => absurd h.1 (by omega))] | rw [if_neg (fun h => by rw [cuX_t c_21] at h; exact absurd h.2 (by decide))]) dX5_leanBehind_25
set_option maxHeartbeats 1000000 in
set_option maxRecDepth 100000 in
theorem kX5_pullOf (l : Launch) (D : va_G) (ct : Nat → ClassId) (aR a : Nat → Nat) (R S L : Nat → Nat → Int32) (n : Nat) (kd : Nat → Nat) (hok : ROK R n kd) (m q : Nat) (hm : m < n) (hq : q < 3) : MI l yX5_pullOf (gWs yX5_pullOf cX5_pullOf 7 (some .int)) rmX5_pullOf D ct gNo [.ref (aR 0), .ref (a 0), .int (nI m), .int (nI q)] (wRS aR a ct R S L) (fun _ : Unit => (wRS aR a ct R S L)) (fun r _ => r = plX S L n kd q m) := by
  refine MI.ofI RX5 rfl (by decide) (Nat.le_of_ble_eq_true rfl) ?_
  intro zp ze zs zm za zb zt zc zA ls zQ C h hX hl hret
  have hx := C.1
  have hb := C.2.1
  have hl : lv_has ls 7 [(0, .ref (aR 0)), (1, .ref (a 0)), (2, .int (nI m)), (3, .int (nI q))] := hl
  have hok0 := hok
  obtain ⟨hn, hn8, hkd⟩ := hok0
  refine lv_aload_n hx hb dX5_pullOf_0 rfl (lv_at hl 0 rfl) ?_
  refine lv_aload_n hx hb dX5_pullOf_1 rfl (lv_at hl 1 rfl) ?_
  refine lv_iload_n hx hb dX5_pullOf_2 rfl (lv_at hl 2 rfl) ?_
  refine lv_iload_n hx hb dX5_pullOf_3 rfl (lv_at hl 3 rfl) ?_
  refine gcallVi C h trivial gNo_ok (kX5_leanAhead l D ct aR a R S L n kd hok m q (by omega) (by omega)) (cwV 3 C.2.2.2.2 (gInV q388 q390 q1 q59 q391) rfl rfl rfl hvX5_leanAhead ⟨Nat.le_of_ble_eq_true rfl, Nat.le_of_ble_eq_true rfl⟩) 0 rfl rfl rfl rfl hl.1 rfl (Nat.le_of_ble_eq_true rfl) dX5_pullOf_4 ⟨Nat.zero_le _, Nat.zero_le _⟩ (fun r9 u9 H ll hw h => ?_)
  have hw : r9 = lnA (leX L) (cuX S) m q := hw
  subst hw
  have h : gW D ct zA zs _ _ (wRS aR a ct R S L) := h
  refine lv_istore (lv' := [(4, .int (lnA (leX L) (cuX S) m q)), (0, .ref (aR 0)), (1, .ref (a 0)), (2, .int (nI m)), (3, .int (nI q))]) hx hb dX5_pullOf_7 hl (by decide) rfl (fun ls hl => ?_)
  refine lv_aload_n hx hb dX5_pullOf_9 rfl (lv_at hl 1 rfl) ?_
  refine lv_aload_n hx hb dX5_pullOf_10 rfl (lv_at hl 2 rfl) ?_
  refine lv_iload_n hx hb dX5_pullOf_11 rfl (lv_at hl 3 rfl) ?_
  refine lv_iload_n hx hb dX5_pullOf_12 rfl (lv_at hl 4 rfl) ?_
  refine gcallVi C h trivial gNo_ok (kX5_leanBehind l D ct aR a R S L n kd hok m q (by omega) (by omega)) (cwV 3 C.2.2.2.2 (gInV q392 q394 q2 q59 q395) rfl rfl rfl hvX5_leanBehind ⟨Nat.le_of_ble_eq_true rfl, Nat.le_of_ble_eq_true rfl⟩) 0 rfl rfl rfl rfl hl.1 rfl (Nat.le_of_ble_eq_true rfl) dX5_pullOf_13 ⟨Nat.zero_le _, Nat.zero_le _⟩ (fun r9 u9 H ll hw h => ?_)
  have hw : r9 = lnB n (leX L) (cuX S) m q := hw
  subst hw
  have h : gW D ct zA zs _ _ (wRS aR a ct R S L) := h
  refine lv_istore (lv' := [(5, .int (lnB n (leX L) (cuX S) m q)), (4, .int (lnA (leX L) (cuX S) m q)), (0, .ref (aR 0)), (1, .ref (a 0)), (2, .int (nI m)), (3, .int (nI q))]) hx hb dX5_pullOf_16 hl (by decide) rfl (fun ls hl => ?_)
  refine lv_iload hx hb dX5_pullOf_18 (lv_at hl 1 rfl) ?_
  refine lv_iload hx hb dX5_pullOf_20 (lv_at hl 0 rfl) ?_
  refine lv_icmp_ne (tgt := 30) hx hb dX5_pullOf_22 (by decide) (fun c_22 => ?_) (fun c_22 => ?_)
  · refine lv_iconst (v := 0) hx hb dX5_pullOf_30 (by decide) ?_
    refine gas (z := if lnA (leX L) (cuX S) m q = lnB n (leX L) (cuX S) m q then lnA (leX L) (cuX S) m q else 0) (by rw [if_neg c_22]) ?_
    refine lv_istore (lv' := [(6, .int (if lnA (leX L) (cuX S) m q = lnB n (leX L) (cuX S) m q then lnA (leX L) (cuX S) m q else 0)), (5, .int (lnB n (leX L) (cuX S) m q)), (4, .int (lnA (leX L) (cuX S) m q)), (0, .ref (aR 0)), (1, .ref (a 0)), (2, .int (nI m)), (3, .int (nI q))]) hx hb dX5_pullOf_31 hl (by decide) rfl (fun ls hl => ?_)
    refine lv_aload_n hx hb dX5_pullOf_33 rfl (lv_at hl 3 rfl) ?_
    refine lv_iload_n hx hb dX5_pullOf_34 rfl (lv_at hl 5 rfl) ?_
    refine gFq C h trivial gNo_ok (kX5_kindOf l D ct aR R n kd hok m (by omega)) (cwV 1 C.2.2.2.2 (gInV q396 q397 q398 q59 q399) rfl rfl rfl hvX5_kindOf ⟨Nat.le_of_ble_eq_true rfl, Nat.le_of_ble_eq_true rfl⟩) 0 rfl rfl rfl (fr_RS_R aR a ct _ _ _) rfl hl.1 rfl (Nat.le_of_ble_eq_true rfl) dX5_pullOf_35 ⟨Nat.zero_le _, Nat.zero_le _⟩ (fun H ll h => ?_)
    have h : gW D ct zA zs _ _ (wRS aR a ct R S L) := h
    rcases (show kd m = 0 ∨ kd m = 1 ∨ kd m = 2 ∨ kd m = 3 ∨ kd m = 4 by have := hung_lt hok (m := m) (by omega); omega) with hk_38 | hk_38 | hk_38 | hk_38 | hk_38
    · refine gasr (z := aR 3) (by rw [hk_38]) ?_
      refine lv_aload_n hx hb dX5_pullOf_38 rfl (lv_at hl 4 rfl) ?_
      refine gget C h igX6 8 rfl rfl 0 (by decide) q162 rfl rfl dX5_pullOf_39 ?_
      refine lv_iload_n hx hb dX5_pullOf_42 rfl (lv_at hl 5 rfl) ?_
      refine gild C h 9 rfl (j := m) (by omega) (by decide) dX5_pullOf_43 ?_
      refine gas (z := S 1 m) rfl ?_
      refine lv_aload_n hx hb dX5_pullOf_44 rfl (lv_at hl 4 rfl) ?_
      refine gget C h igX6 8 rfl rfl 1 (by decide) q165 rfl rfl dX5_pullOf_45 ?_
      refine lv_iload_n hx hb dX5_pullOf_48 rfl (lv_at hl 6 rfl) ?_
      refine gald C h 10 4 rfl rfl rfl (j := q) (b := a (3 + q)) (by omega) (by decide) (if_pos (by omega)) dX5_pullOf_49 ?_
      refine lv_iload_n hx hb dX5_pullOf_50 rfl (lv_at hl 5 rfl) ?_
      refine gild C h (11 + q) (wRS_row aR a ct _ _ _ (by omega)) (j := m) (by omega) (by decide) dX5_pullOf_51 ?_
      refine gas (z := L q m) rfl ?_
      refine lv_iload hx hb dX5_pullOf_52 (lv_at hl 0 rfl) ?_
      refine gFi C h trivial gNo_ok (kX3_pulled l D ct (aR 3) (S 1 m) (L q m) (if lnA (leX L) (cuX S) m q = lnB n (leX L) (cuX S) m q then lnA (leX L) (cuX S) m q else 0)) (cwV 3 C.2.2.2.2 (gInV q400 q401 q402 q60 q416) rfl rfl rfl hvX3_pulled ⟨Nat.le_of_ble_eq_true rfl, Nat.le_of_ble_eq_true rfl⟩) 3 rfl rfl rfl (fr_RS_K0 aR a ct _ _ _) rfl hl.1 rfl (Nat.le_of_ble_eq_true rfl) dX5_pullOf_54 ⟨Nat.zero_le _, Nat.zero_le _⟩ (fun r9 u9 H ll hw h => ?_)
      subst hw
      have h : gW D ct zA zs _ _ (wRS aR a ct R S L) := h
      exact hret _ () _ _ _ _ h (by unfold plX pullX; rw [hk_38]; rfl) dX5_pullOf_57
    · refine gasr (z := aR 4) (by rw [hk_38]) ?_
      refine lv_aload_n hx hb dX5_pullOf_38 rfl (lv_at hl 4 rfl) ?_
      refine gget C h igX6 8 rfl rfl 0 (by decide) q162 rfl rfl dX5_pullOf_39 ?_
      refine lv_iload_n hx hb dX5_pullOf_42 rfl (lv_at hl 5 rfl) ?_
      refine gild C h 9 rfl (j := m) (by omega) (by decide) dX5_pullOf_43 ?_
      refine gas (z := S 1 m) rfl ?_
      refine lv_aload_n hx hb dX5_pullOf_44 rfl (lv_at hl 4 rfl) ?_
      refine gget C h igX6 8 rfl rfl 1 (by decide) q165 rfl rfl dX5_pullOf_45 ?_
      refine lv_iload_n hx hb dX5_pullOf_48 rfl (lv_at hl 6 rfl) ?_
      refine gald C h 10 4 rfl rfl rfl (j := q) (b := a (3 + q)) (by omega) (by decide) (if_pos (by omega)) dX5_pullOf_49 ?_
      refine lv_iload_n hx hb dX5_pullOf_50 rfl (lv_at hl 5 rfl) ?_
      refine gild C h (11 + q) (wRS_row aR a ct _ _ _ (by omega)) (j := m) (by omega) (by decide) dX5_pullOf_51 ?_
      refine gas (z := L q m) rfl ?_
      refine lv_iload hx hb dX5_pullOf_52 (lv_at hl 0 rfl) ?_
      refine gUi C h (kX1_pulled l D ct (aR 4) (S 1 m) (L q m) (if lnA (leX L) (cuX S) m q = lnB n (leX L) (cuX S) m q then lnA (leX L) (cuX S) m q else 0)) (va_cwO 3 C.2.2.2.2 (gInO q400 q403 q401 q407 q408 q61 q409) rfl rfl rfl (gWs_in q416) hdX3_pulled ⟨Nat.le_of_ble_eq_true rfl, Nat.le_of_ble_eq_true rfl⟩) 4 rfl rfl rfl (fr_RS_K1 aR a ct _ _ _) rfl hl.1 rfl (Nat.le_of_ble_eq_true rfl) dX5_pullOf_54 ⟨Nat.zero_le _, Nat.zero_le _⟩ (fun H ll h => ?_)
      have h : gW D ct zA zs _ _ (wRS aR a ct R S L) := h
      exact hret _ () _ _ _ _ h (by unfold plX pullX; rw [hk_38]; rfl) dX5_pullOf_57
    · refine gasr (z := aR 5) (by rw [hk_38]) ?_
      refine lv_aload_n hx hb dX5_pullOf_38 rfl (lv_at hl 4 rfl) ?_
      refine gget C h igX6 8 rfl rfl 0 (by decide) q162 rfl rfl dX5_pullOf_39 ?_
      refine lv_iload_n hx hb dX5_pullOf_42 rfl (lv_at hl 5 rfl) ?_
      refine gild C h 9 rfl (j := m) (by omega) (by decide) dX5_pullOf_43 ?_
      refine gas (z := S 1 m) rfl ?_
      refine lv_aload_n hx hb dX5_pullOf_44 rfl (lv_at hl 4 rfl) ?_
      refine gget C h igX6 8 rfl rfl 1 (by decide) q165 rfl rfl dX5_pullOf_45 ?_
      refine lv_iload_n hx hb dX5_pullOf_48 rfl (lv_at hl 6 rfl) ?_
      refine gald C h 10 4 rfl rfl rfl (j := q) (b := a (3 + q)) (by omega) (by decide) (if_pos (by omega)) dX5_pullOf_49 ?_
      refine lv_iload_n hx hb dX5_pullOf_50 rfl (lv_at hl 5 rfl) ?_
      refine gild C h (11 + q) (wRS_row aR a ct _ _ _ (by omega)) (j := m) (by omega) (by decide) dX5_pullOf_51 ?_
      refine gas (z := L q m) rfl ?_
      refine lv_iload hx hb dX5_pullOf_52 (lv_at hl 0 rfl) ?_
      refine gUi C h (kX0_pulled l D ct (aR 5) (S 1 m) (L q m) (if lnA (leX L) (cuX S) m q = lnB n (leX L) (cuX S) m q then lnA (leX L) (cuX S) m q else 0)) (va_cwO 3 C.2.2.2.2 (gInO q400 q403 q401 q404 q405 q62 q406) rfl rfl rfl (gWs_in q416) hdX3_pulled ⟨Nat.le_of_ble_eq_true rfl, Nat.le_of_ble_eq_true rfl⟩) 5 rfl rfl rfl (fr_RS_K2 aR a ct _ _ _) rfl hl.1 rfl (Nat.le_of_ble_eq_true rfl) dX5_pullOf_54 ⟨Nat.zero_le _, Nat.zero_le _⟩ (fun H ll h => ?_)
      have h : gW D ct zA zs _ _ (wRS aR a ct R S L) := h
      exact hret _ () _ _ _ _ h (by unfold plX pullX; rw [hk_38]; rfl) dX5_pullOf_57
    · refine gasr (z := aR 6) (by rw [hk_38]) ?_
      refine lv_aload_n hx hb dX5_pullOf_38 rfl (lv_at hl 4 rfl) ?_
      refine gget C h igX6 8 rfl rfl 0 (by decide) q162 rfl rfl dX5_pullOf_39 ?_
      refine lv_iload_n hx hb dX5_pullOf_42 rfl (lv_at hl 5 rfl) ?_
      refine gild C h 9 rfl (j := m) (by omega) (by decide) dX5_pullOf_43 ?_
      refine gas (z := S 1 m) rfl ?_
      refine lv_aload_n hx hb dX5_pullOf_44 rfl (lv_at hl 4 rfl) ?_
      refine gget C h igX6 8 rfl rfl 1 (by decide) q165 rfl rfl dX5_pullOf_45 ?_
      refine lv_iload_n hx hb dX5_pullOf_48 rfl (lv_at hl 6 rfl) ?_
      refine gald C h 10 4 rfl rfl rfl (j := q) (b := a (3 + q)) (by omega) (by decide) (if_pos (by omega)) dX5_pullOf_49 ?_
      refine lv_iload_n hx hb dX5_pullOf_50 rfl (lv_at hl 5 rfl) ?_
      refine gild C h (11 + q) (wRS_row aR a ct _ _ _ (by omega)) (j := m) (by omega) (by decide) dX5_pullOf_51 ?_
      refine gas (z := L q m) rfl ?_
      refine lv_iload hx hb dX5_pullOf_52 (lv_at hl 0 rfl) ?_
      refine gUi C h (kX2_pulled l D ct (aR 6) (S 1 m) (L q m) (if lnA (leX L) (cuX S) m q = lnB n (leX L) (cuX S) m q then lnA (leX L) (cuX S) m q else 0)) (va_cwO 3 C.2.2.2.2 (gInO q400 q403 q401 q410 q411 q63 q412) rfl rfl rfl (gWs_in q416) hdX3_pulled ⟨Nat.le_of_ble_eq_true rfl, Nat.le_of_ble_eq_true rfl⟩) 6 rfl rfl rfl (fr_RS_K3 aR a ct _ _ _) rfl hl.1 rfl (Nat.le_of_ble_eq_true rfl) dX5_pullOf_54 ⟨Nat.zero_le _, Nat.zero_le _⟩ (fun H ll h => ?_)
      have h : gW D ct zA zs _ _ (wRS aR a ct R S L) := h
      exact hret _ () _ _ _ _ h (by unfold plX pullX; rw [hk_38]; rfl) dX5_pullOf_57
    · refine gasr (z := aR 7) (by rw [hk_38]) ?_
      refine lv_aload_n hx hb dX5_pullOf_38 rfl (lv_at hl 4 rfl) ?_
      refine gget C h igX6 8 rfl rfl 0 (by decide) q162 rfl rfl dX5_pullOf_39 ?_
      refine lv_iload_n hx hb dX5_pullOf_42 rfl (lv_at hl 5 rfl) ?_
      refine gild C h 9 rfl (j := m) (by omega) (by decide) dX5_pullOf_43 ?_
      refine gas (z := S 1 m) rfl ?_
      refine lv_aload_n hx hb dX5_pullOf_44 rfl (lv_at hl 4 rfl) ?_
      refine gget C h igX6 8 rfl rfl 1 (by decide) q165 rfl rfl dX5_pullOf_45 ?_
      refine lv_iload_n hx hb dX5_pullOf_48 rfl (lv_at hl 6 rfl) ?_
      refine gald C h 10 4 rfl rfl rfl (j := q) (b := a (3 + q)) (by omega) (by decide) (if_pos (by omega)) dX5_pullOf_49 ?_
      refine lv_iload_n hx hb dX5_pullOf_50 rfl (lv_at hl 5 rfl) ?_
      refine gild C h (11 + q) (wRS_row aR a ct _ _ _ (by omega)) (j := m) (by omega) (by decide) dX5_pullOf_51 ?_
      refine gas (z := L q m) rfl ?_
      refine lv_iload hx hb dX5_pullOf_52 (lv_at hl 0 rfl) ?_
      refine gUi C h (kX7_pulled l D ct (aR 7) (S 1 m) (L q m) (if lnA (leX L) (cuX S) m q = lnB n (leX L) (cuX S) m q then lnA (leX L) (cuX S) m q else 0)) (va_cwO 3 C.2.2.2.2 (gInO q400 q403 q401 q413 q414 q64 q415) rfl rfl rfl (gWs_in q416) hdX3_pulled ⟨Nat.le_of_ble_eq_true rfl, Nat.le_of_ble_eq_true rfl⟩) 7 rfl rfl rfl (fr_RS_K4 aR a ct _ _ _) rfl hl.1 rfl (Nat.le_of_ble_eq_true rfl) dX5_pullOf_54 ⟨Nat.zero_le _, Nat.zero_le _⟩ (fun H ll h => ?_)
      have h : gW D ct zA zs _ _ (wRS aR a ct R S L) := h
      exact hret _ () _ _ _ _ h (by unfold plX pullX; rw [hk_38]; rfl) dX5_pullOf_57
  · refine lv_iload hx hb dX5_pullOf_25 (lv_at hl 1 rfl) ?_
    refine lv_goto (tgt := 31) hx hb dX5_pullOf_27 (by decide) ?_
    refine gas (z := if lnA (leX L) (cuX S) m q = lnB n (leX L) (cuX S) m q then lnA (leX L) (cuX S) m q else 0) (by rw [if_pos c_22]) ?_
    refine lv_istore (lv' := [(6, .int (if lnA (leX L) (cuX S) m q = lnB n (leX L) (cuX S) m q then lnA (leX L) (cuX S) m q else 0)), (5, .int (lnB n (leX L) (cuX S) m q)), (4, .int (lnA (leX L) (cuX S) m q)), (0, .ref (aR 0)), (1, .ref (a 0)), (2, .int (nI m)), (3, .int (nI q))]) hx hb dX5_pullOf_31 hl (by decide) rfl (fun ls hl => ?_)
    refine lv_aload_n hx hb dX5_pullOf_33 rfl (lv_at hl 3 rfl) ?_
    refine lv_iload_n hx hb dX5_pullOf_34 rfl (lv_at hl 5 rfl) ?_
    refine gFq C h trivial gNo_ok (kX5_kindOf l D ct aR R n kd hok m (by omega)) (cwV 1 C.2.2.2.2 (gInV q396 q397 q398 q59 q399) rfl rfl rfl hvX5_kindOf ⟨Nat.le_of_ble_eq_true rfl, Nat.le_of_ble_eq_true rfl⟩) 0 rfl rfl rfl (fr_RS_R aR a ct _ _ _) rfl hl.1 rfl (Nat.le_of_ble_eq_true rfl) dX5_pullOf_35 ⟨Nat.zero_le _, Nat.zero_le _⟩ (fun H ll h => ?_)
    have h : gW D ct zA zs _ _ (wRS aR a ct R S L) := h
    rcases (show kd m = 0 ∨ kd m = 1 ∨ kd m = 2 ∨ kd m = 3 ∨ kd m = 4 by have := hung_lt hok (m := m) (by omega); omega) with hk_38 | hk_38 | hk_38 | hk_38 | hk_38
    · refine gasr (z := aR 3) (by rw [hk_38]) ?_
      refine lv_aload_n hx hb dX5_pullOf_38 rfl (lv_at hl 4 rfl) ?_
      refine gget C h igX6 8 rfl rfl 0 (by decide) q162 rfl rfl dX5_pullOf_39 ?_
      refine lv_iload_n hx hb dX5_pullOf_42 rfl (lv_at hl 5 rfl) ?_
      refine gild C h 9 rfl (j := m) (by omega) (by decide) dX5_pullOf_43 ?_
      refine gas (z := S 1 m) rfl ?_
      refine lv_aload_n hx hb dX5_pullOf_44 rfl (lv_at hl 4 rfl) ?_
      refine gget C h igX6 8 rfl rfl 1 (by decide) q165 rfl rfl dX5_pullOf_45 ?_
      refine lv_iload_n hx hb dX5_pullOf_48 rfl (lv_at hl 6 rfl) ?_
      refine gald C h 10 4 rfl rfl rfl (j := q) (b := a (3 + q)) (by omega) (by decide) (if_pos (by omega)) dX5_pullOf_49 ?_
      refine lv_iload_n hx hb dX5_pullOf_50 rfl (lv_at hl 5 rfl) ?_
      refine gild C h (11 + q) (wRS_row aR a ct _ _ _ (by omega)) (j := m) (by omega) (by decide) dX5_pullOf_51 ?_
      refine gas (z := L q m) rfl ?_
      refine lv_iload hx hb dX5_pullOf_52 (lv_at hl 0 rfl) ?_
      refine gFi C h trivial gNo_ok (kX3_pulled l D ct (aR 3) (S 1 m) (L q m) (if lnA (leX L) (cuX S) m q = lnB n (leX L) (cuX S) m q then lnA (leX L) (cuX S) m q else 0)) (cwV 3 C.2.2.2.2 (gInV q400 q401 q402 q60 q416) rfl rfl rfl hvX3_pulled ⟨Nat.le_of_ble_eq_true rfl, Nat.le_of_ble_eq_true rfl⟩) 3 rfl rfl rfl (fr_RS_K0 aR a ct _ _ _) rfl hl.1 rfl (Nat.le_of_ble_eq_true rfl) dX5_pullOf_54 ⟨Nat.zero_le _, Nat.zero_le _⟩ (fun r9 u9 H ll hw h => ?_)
      subst hw
      have h : gW D ct zA zs _ _ (wRS aR a ct R S L) := h
      exact hret _ () _ _ _ _ h (by unfold plX pullX; rw [hk_38]; rfl) dX5_pullOf_57
    · refine gasr (z := aR 4) (by rw [hk_38]) ?_
      refine lv_aload_n hx hb dX5_pullOf_38 rfl (lv_at hl 4 rfl) ?_
      refine gget C h igX6 8 rfl rfl 0 (by decide) q162 rfl rfl dX5_pullOf_39 ?_
      refine lv_iload_n hx hb dX5_pullOf_42 rfl (lv_at hl 5 rfl) ?_
      refine gild C h 9 rfl (j := m) (by omega) (by decide) dX5_pullOf_43 ?_
      refine gas (z := S 1 m) rfl ?_
      refine lv_aload_n hx hb dX5_pullOf_44 rfl (lv_at hl 4 rfl) ?_
      refine gget C h igX6 8 rfl rfl 1 (by decide) q165 rfl rfl dX5_pullOf_45 ?_
      refine lv_iload_n hx hb dX5_pullOf_48 rfl (lv_at hl 6 rfl) ?_
      refine gald C h 10 4 rfl rfl rfl (j := q) (b := a (3 + q)) (by omega) (by decide) (if_pos (by omega)) dX5_pullOf_49 ?_
      refine lv_iload_n hx hb dX5_pullOf_50 rfl (lv_at hl 5 rfl) ?_
      refine gild C h (11 + q) (wRS_row aR a ct _ _ _ (by omega)) (j := m) (by omega) (by decide) dX5_pullOf_51 ?_
      refine gas (z := L q m) rfl ?_
      refine lv_iload hx hb dX5_pullOf_52 (lv_at hl 0 rfl) ?_
      refine gUi C h (kX1_pulled l D ct (aR 4) (S 1 m) (L q m) (if lnA (leX L) (cuX S) m q = lnB n (leX L) (cuX S) m q then lnA (leX L) (cuX S) m q else 0)) (va_cwO 3 C.2.2.2.2 (gInO q400 q403 q401 q407 q408 q61 q409) rfl rfl rfl (gWs_in q416) hdX3_pulled ⟨Nat.le_of_ble_eq_true rfl, Nat.le_of_ble_eq_true rfl⟩) 4 rfl rfl rfl (fr_RS_K1 aR a ct _ _ _) rfl hl.1 rfl (Nat.le_of_ble_eq_true rfl) dX5_pullOf_54 ⟨Nat.zero_le _, Nat.zero_le _⟩ (fun H ll h => ?_)
      have h : gW D ct zA zs _ _ (wRS aR a ct R S L) := h
      exact hret _ () _ _ _ _ h (by unfold plX pullX; rw [hk_38]; rfl) dX5_pullOf_57
    · refine gasr (z := aR 5) (by rw [hk_38]) ?_
      refine lv_aload_n hx hb dX5_pullOf_38 rfl (lv_at hl 4 rfl) ?_
      refine gget C h igX6 8 rfl rfl 0 (by decide) q162 rfl rfl dX5_pullOf_39 ?_
      refine lv_iload_n hx hb dX5_pullOf_42 rfl (lv_at hl 5 rfl) ?_
      refine gild C h 9 rfl (j := m) (by omega) (by decide) dX5_pullOf_43 ?_
      refine gas (z := S 1 m) rfl ?_
      refine lv_aload_n hx hb dX5_pullOf_44 rfl (lv_at hl 4 rfl) ?_
      refine gget C h igX6 8 rfl rfl 1 (by decide) q165 rfl rfl dX5_pullOf_45 ?_
      refine lv_iload_n hx hb dX5_pullOf_48 rfl (lv_at hl 6 rfl) ?_
      refine gald C h 10 4 rfl rfl rfl (j := q) (b := a (3 + q)) (by omega) (by decide) (if_pos (by omega)) dX5_pullOf_49 ?_
      refine lv_iload_n hx hb dX5_pullOf_50 rfl (lv_at hl 5 rfl) ?_
      refine gild C h (11 + q) (wRS_row aR a ct _ _ _ (by omega)) (j := m) (by omega) (by decide) dX5_pullOf_51 ?_
      refine gas (z := L q m) rfl ?_
      refine lv_iload hx hb dX5_pullOf_52 (lv_at hl 0 rfl) ?_
      refine gUi C h (kX0_pulled l D ct (aR 5) (S 1 m) (L q m) (if lnA (leX L) (cuX S) m q = lnB n (leX L) (cuX S) m q then lnA (leX L) (cuX S) m q else 0)) (va_cwO 3 C.2.2.2.2 (gInO q400 q403 q401 q404 q405 q62 q406) rfl rfl rfl (gWs_in q416) hdX3_pulled ⟨Nat.le_of_ble_eq_true rfl, Nat.le_of_ble_eq_true rfl⟩) 5 rfl rfl rfl (fr_RS_K2 aR a ct _ _ _) rfl hl.1 rfl (Nat.le_of_ble_eq_true rfl) dX5_pullOf_54 ⟨Nat.zero_le _, Nat.zero_le _⟩ (fun H ll h => ?_)
      have h : gW D ct zA zs _ _ (wRS aR a ct R S L) := h
      exact hret _ () _ _ _ _ h (by unfold plX pullX; rw [hk_38]; rfl) dX5_pullOf_57
    · refine gasr (z := aR 6) (by rw [hk_38]) ?_
      refine lv_aload_n hx hb dX5_pullOf_38 rfl (lv_at hl 4 rfl) ?_
      refine gget C h igX6 8 rfl rfl 0 (by decide) q162 rfl rfl dX5_pullOf_39 ?_
      refine lv_iload_n hx hb dX5_pullOf_42 rfl (lv_at hl 5 rfl) ?_
      refine gild C h 9 rfl (j := m) (by omega) (by decide) dX5_pullOf_43 ?_
      refine gas (z := S 1 m) rfl ?_
      refine lv_aload_n hx hb dX5_pullOf_44 rfl (lv_at hl 4 rfl) ?_
      refine gget C h igX6 8 rfl rfl 1 (by decide) q165 rfl rfl dX5_pullOf_45 ?_
      refine lv_iload_n hx hb dX5_pullOf_48 rfl (lv_at hl 6 rfl) ?_
      refine gald C h 10 4 rfl rfl rfl (j := q) (b := a (3 + q)) (by omega) (by decide) (if_pos (by omega)) dX5_pullOf_49 ?_
      refine lv_iload_n hx hb dX5_pullOf_50 rfl (lv_at hl 5 rfl) ?_
      refine gild C h (11 + q) (wRS_row aR a ct _ _ _ (by omega)) (j := m) (by omega) (by decide) dX5_pullOf_51 ?_
      refine gas (z := L q m) rfl ?_
      refine lv_iload hx hb dX5_pullOf_52 (lv_at hl 0 rfl) ?_
      refine gUi C h (kX2_pulled l D ct (aR 6) (S 1 m) (L q m) (if lnA (leX L) (cuX S) m q = lnB n (leX L) (cuX S) m q then lnA (leX L) (cuX S) m q else 0)) (va_cwO 3 C.2.2.2.2 (gInO q400 q403 q401 q410 q411 q63 q412) rfl rfl rfl (gWs_in q416) hdX3_pulled ⟨Nat.le_of_ble_eq_true rfl, Nat.le_of_ble_eq_true rfl⟩) 6 rfl rfl rfl (fr_RS_K3 aR a ct _ _ _) rfl hl.1 rfl (Nat.le_of_ble_eq_true rfl) dX5_pullOf_54 ⟨Nat.zero_le _, Nat.zero_le _⟩ (fun H ll h => ?_)
      have h : gW D ct zA zs _ _ (wRS aR a ct R S L) := h
      exact hret _ () _ _ _ _ h (by unfold plX pullX; rw [hk_38]; rfl) dX5_pullOf_57
    · refine gasr (z := aR 7) (by rw [hk_38]) ?_
      refine lv_aload_n hx hb dX5_pullOf_38 rfl (lv_at hl 4 rfl) ?_
      refine gget C h igX6 8 rfl rfl 0 (by decide) q162 rfl rfl dX5_pullOf_39 ?_
      refine lv_iload_n hx hb dX5_pullOf_42 rfl (lv_at hl 5 rfl) ?_
      refine gild C h 9 rfl (j := m) (by omega) (by decide) dX5_pullOf_43 ?_
      refine gas (z := S 1 m) rfl ?_
      refine lv_aload_n hx hb dX5_pullOf_44 rfl (lv_at hl 4 rfl) ?_
      refine gget C h igX6 8 rfl rfl 1 (by decide) q165 rfl rfl dX5_pullOf_45 ?_
      refine lv_iload_n hx hb dX5_pullOf_48 rfl (lv_at hl 6 rfl) ?_
      refine gald C h 10 4 rfl rfl rfl (j := q) (b := a (3 + q)) (by omega) (by decide) (if_pos (by omega)) dX5_pullOf_49 ?_
      refine lv_iload_n hx hb dX5_pullOf_50 rfl (lv_at hl 5 rfl) ?_
      refine gild C h (11 + q) (wRS_row aR a ct _ _ _ (by omega)) (j := m) (by omega) (by decide) dX5_pullOf_51 ?_
      refine gas (z := L q m) rfl ?_
      refine lv_iload hx hb dX5_pullOf_52 (lv_at hl 0 rfl) ?_
      refine gUi C h (kX7_pulled l D ct (aR 7) (S 1 m) (L q m) (if lnA (leX L) (cuX S) m q = lnB n (leX L) (cuX S) m q then lnA (leX L) (cuX S) m q else 0)) (va_cwO 3 C.2.2.2.2 (gInO q400 q403 q401 q413 q414 q64 q415) rfl rfl rfl (gWs_in q416) hdX3_pulled ⟨Nat.le_of_ble_eq_true rfl, Nat.le_of_ble_eq_true rfl⟩) 7 rfl rfl rfl (fr_RS_K4 aR a ct _ _ _) rfl hl.1 rfl (Nat.le_of_ble_eq_true rfl) dX5_pullOf_54 ⟨Nat.zero_le _, Nat.zero_le _⟩ (fun H ll h => ?_)
      have h : gW D ct zA zs _ _ (wRS aR a ct R S L) := h
      exact hret _ () _ _ _ _ h (by unfold plX pullX; rw [hk_38]; rfl) dX5_pullOf_57
set_option maxHeartbeats 1000000 in
set_option maxRecDepth 100000 in
theorem kX5_sumOf (l : Launch) (D : va_G) (ct : Nat → ClassId) (aR a : Nat → Nat) (R S L : Nat → Nat → Int32) (n : Nat) (kd : Nat → Nat) (hok : ROK R n kd) (q : Nat) (hq : q < 3) : MI l yX5_sumOf (gWs yX5_sumOf cX5_sumOf 6 (some .int)) rmX5_sumOf D ct gNo [.ref (aR 0), .ref (a 0), .int (nI q)] (wRS aR a ct R S L) (fun _ : Unit => (wRS aR a ct R S L)) (fun r _ => r = smX S L n kd q) := by
  refine MI.ofI RX5 rfl (by decide) (Nat.le_of_ble_eq_true rfl) ?_
  intro zp ze zs zm za zb zt zc zA ls zQ C h hX hl hret
  have hx := C.1
  have hb := C.2.1
  have hl : lv_has ls 6 [(0, .ref (aR 0)), (1, .ref (a 0)), (2, .int (nI q))] := hl
  have hok0 := hok
  obtain ⟨hn, hn8, hkd⟩ := hok0
  refine lv_aload_n hx hb dX5_sumOf_0 rfl (lv_at hl 0 rfl) ?_
  refine lv_aload_n hx hb dX5_sumOf_1 rfl (lv_at hl 1 rfl) ?_
  refine gcallVi C h trivial gNo_ok (kX5_feltIn l D ct aR a R S L n kd hok) (cwV 1 C.2.2.2.2 (gInV q432 q433 q434 q59 q435) rfl rfl rfl hvX5_feltIn ⟨Nat.le_of_ble_eq_true rfl, Nat.le_of_ble_eq_true rfl⟩) 0 rfl rfl rfl rfl hl.1 rfl (Nat.le_of_ble_eq_true rfl) dX5_sumOf_2 ⟨Nat.zero_le _, Nat.zero_le _⟩ (fun r9 u9 H ll hw h => ?_)
  have hw : r9 = nI (ffe (cuX S) n 0) := hw
  subst hw
  have h : gW D ct zA zs _ _ (wRS aR a ct R S L) := h
  refine lv_istore_n (lv' := [(3, .int (nI (ffe (cuX S) n 0))), (0, .ref (aR 0)), (1, .ref (a 0)), (2, .int (nI q))]) hx hb dX5_sumOf_5 rfl hl (by decide) rfl (fun ls hl => ?_)
  refine lv_iconst (v := 0) hx hb dX5_sumOf_6 (by decide) ?_
  refine lv_istore (lv' := [(4, .int 0), (3, .int (nI (ffe (cuX S) n 0))), (0, .ref (aR 0)), (1, .ref (a 0)), (2, .int (nI q))]) hx hb dX5_sumOf_7 hl (by decide) rfl (fun ls hl => ?_)
  refine lv_iconst (v := 0) hx hb dX5_sumOf_9 (by decide) ?_
  refine lv_istore (lv' := [(5, .int 0), (4, .int 0), (3, .int (nI (ffe (cuX S) n 0))), (0, .ref (aR 0)), (1, .ref (a 0)), (2, .int (nI q))]) hx hb dX5_sumOf_10 hl (by decide) rfl (fun ls hl => ?_)
  have L12_0 : ∀ (kk : Nat) (i : Nat) (H : Heap) (ll : List Loc) (ls : Array Slot), ffe (cuX S) n 0 - i = kk → (i ≤ ffe (cuX S) n 0) → gW D ct zA zs H ll (wRS aR a ct R S L) → lv_has ls 6 [(5, .int (nI i)), (4, .int (bx_sum (plX S L n kd q) i)), (3, .int (nI (ffe (cuX S) n 0))), (0, .ref (aR 0)), (1, .ref (a 0)), (2, .int (nI q))] → W zp l ze rmX5_sumOf zs zm za zb zt zc H ll 0 0 zQ (F0 zm 12 ls []) := by
    intro kk12
    induction kk12 using Nat.strongRecOn with
    | _ kk12 ih12 =>
    intro i H ll ls hk12 hi h hl
    have hfe := ffe_le (cuX S) n 0
    refine lv_iload hx hb dX5_sumOf_12 (lv_at hl 0 rfl) ?_
    refine lv_iload_n hx hb dX5_sumOf_14 rfl (lv_at hl 2 rfl) ?_
    refine nb_ge hx hb i (ffe (cuX S) n 0) (by omega) (by omega) (tgt := 37) dX5_sumOf_15 (by decide) (fun c_15 => ?_) (fun c_15 => ?_)
    · refine lv_iload hx hb dX5_sumOf_37 (lv_at hl 1 rfl) ?_
      exact hret _ () _ _ _ _ h (by rw [show i = ffe (cuX S) n 0 by omega]; rfl) dX5_sumOf_39
    · refine lv_iload hx hb dX5_sumOf_18 (lv_at hl 1 rfl) ?_
      refine lv_aload_n hx hb dX5_sumOf_20 rfl (lv_at hl 3 rfl) ?_
      refine lv_aload_n hx hb dX5_sumOf_21 rfl (lv_at hl 4 rfl) ?_
      refine lv_iload hx hb dX5_sumOf_22 (lv_at hl 0 rfl) ?_
      refine lv_iload_n hx hb dX5_sumOf_24 rfl (lv_at hl 5 rfl) ?_
      refine gcallVi C h trivial gNo_ok (kX5_pullOf l D ct aR a R S L n kd hok i q (by omega) (by omega)) (cwV 3 C.2.2.2.2 (gInV q436 q385 q386 q59 q387) rfl rfl rfl hvX5_pullOf ⟨Nat.le_of_ble_eq_true rfl, Nat.le_of_ble_eq_true rfl⟩) 0 rfl rfl rfl rfl hl.1 rfl (Nat.le_of_ble_eq_true rfl) dX5_sumOf_25 ⟨Nat.zero_le _, Nat.zero_le _⟩ (fun r9 u9 H ll hw h => ?_)
      have hw : r9 = plX S L n kd q i := hw
      subst hw
      have h : gW D ct zA zs _ _ (wRS aR a ct R S L) := h
      refine lv_iadd hx hb dX5_sumOf_28 ?_
      refine lv_istore (lv' := [(4, .int ((bx_sum (plX S L n kd q) i) + (plX S L n kd q i))), (5, .int (nI i)), (3, .int (nI (ffe (cuX S) n 0))), (0, .ref (aR 0)), (1, .ref (a 0)), (2, .int (nI q))]) hx hb dX5_sumOf_29 hl (by decide) rfl (fun ls hl => ?_)
      refine ninc (lv' := [(5, .int (nI (i + 1))), (4, .int ((bx_sum (plX S L n kd q) i) + (plX S L n kd q i))), (3, .int (nI (ffe (cuX S) n 0))), (0, .ref (aR 0)), (1, .ref (a 0)), (2, .int (nI q))]) hx hb i 1 dX5_sumOf_31 hl (k := 1) rfl (by decide) rfl (fun ls hl => ?_)
      refine lv_goto (tgt := 12) hx hb dX5_sumOf_34 (by decide) ?_
      exact ih12 _ (by omega) (i + 1) _ _ _ rfl (by omega) h (lv_sub hl [0, 1, 2, 3, 4, 5] rfl)
  exact L12_0 _ 0 _ _ _ rfl (Nat.zero_le _) h (lv_sub hl [0, 1, 2, 3, 4, 5] rfl)
