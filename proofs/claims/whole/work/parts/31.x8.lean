theorem fit47 {a : Nat → Int32} {j : Nat} (h : fitX a j = true) : j < 47 := by
  unfold fitX at h
  simp only [Bool.and_eq_true, decide_eq_true_eq] at h
  exact h.1
theorem fitK {a : Nat → Int32} {m : Nat} (h : fitX a (m * 6) = true) : ¬ kindC (a (m * 6)) < 0 := by
  unfold fitX at h
  simp only [Bool.and_eq_true, decide_eq_true_eq] at h
  rw [if_pos (by omega)] at h
  simpa using h.2
theorem ff_all {a : Nat → Int32} {d : Nat} (h : ffe (fun j => !fitX a j) d 0 = d) : ∀ j, j < d → fitX a j = true := by
  intro j hj
  have := ffe_not (cu := fun j => !fitX a j) (d := d) (i := 0) (Nat.zero_le j) (by rw [h]; exact hj)
  simpa using this
/-- the kind's number of a mussel on the page -/
def kn (a : Nat → Int32) (m : Nat) : Nat := (kindC (a (m * 6))).toNatClampNeg
theorem kn_eq {a : Nat → Int32} {m : Nat} (h : ¬ kindC (a (m * 6)) < 0) : kindC (a (m * 6)) = nI (kn a m) ∧ kn a m < 5 := by
  unfold kn
  rcases kin (x := a (m * 6)) with q | q | q | q | q | q <;> rw [q] at h ⊢
  · exact ⟨rfl, by decide⟩
  · exact ⟨rfl, by decide⟩
  · exact ⟨rfl, by decide⟩
  · exact ⟨rfl, by decide⟩
  · exact ⟨rfl, by decide⟩
  · exact absurd (by decide) h
theorem rp_row {L M : Nat → Nat → Int32} {a : Nat → Int32} {i k : Nat} (h : ∀ q, q < 3 → ∀ j, L q j = if j < i ∨ (j = i ∧ q < k) then lnC (a (j * 6 + 2 + q)) else 0) : ∀ q, q < 3 → ∀ j, (va_up L k (upd (L k) i (lnC (a (i * 6 + 2 + k))))) q j = if j < i ∨ (j = i ∧ q < k + 1) then lnC (a (j * 6 + 2 + q)) else 0 := by
  intro q hq j
  by_cases e : q = k
  · subst e
    rw [va_up_self]
    by_cases e2 : j = i
    · subst e2; rw [pk_us, if_pos (Or.inr ⟨rfl, by omega⟩)]
    · rw [pk_un e2, h q hq j]
      by_cases e3 : j < i
      · rw [if_pos (Or.inl e3), if_pos (Or.inl e3)]
      · rw [if_neg (fun q9 => q9.elim e3 (fun q9 => e2 q9.1)), if_neg (fun q9 => q9.elim e3 (fun q9 => e2 q9.1))]
  · rw [va_up_ne _ _ e, h q hq j]
    by_cases e3 : j < i
    · rw [if_pos (Or.inl e3), if_pos (Or.inl e3)]
    · by_cases e4 : j = i ∧ q < k
      · rw [if_pos (Or.inr e4), if_pos (Or.inr ⟨e4.1, by omega⟩)]
      · rw [if_neg (fun q9 => q9.elim e3 e4), if_neg (fun q9 => q9.elim e3 (fun q9 => e4 ⟨q9.1, by omega⟩))]
def mqX (S L : Nat → Nat → Int32) (n : Nat) (kd : Nat → Nat) (q : Nat) (h0 : Int64) : Int64 :=
  31 * (31 * (31 * (31 * hx31 (fun k => nI (sayX S L n kd (k / 2) q (k % 2))) (hx31 (qnX S L n kd q) h0 6) (2 * n) + (nI (chX S L n kd q 3 0)).toInt64) + (nI (chX S L n kd q 3 1)).toInt64) + (toldB (ctX S L n kd q 1) 0).toInt64) + (toldB (ctX S L n kd q 1) 1).toInt64
theorem hx2 {f : Nat → Nat → Nat} {h0 : Int64} {m : Nat} : 31 * (31 * hx31 (fun k => nI (f (k / 2) (k % 2))) h0 (2 * m) + (nI (f m 0)).toInt64) + (nI (f m 1)).toInt64 = hx31 (fun k => nI (f (k / 2) (k % 2))) h0 (2 * (m + 1)) := by
  rw [show 2 * (m + 1) = 2 * m + 1 + 1 by omega]
  simp only [hx31]
  rw [show (2 * m + 1) / 2 = m by omega, show (2 * m + 1) % 2 = 1 by omega, show 2 * m / 2 = m by omega, show 2 * m % 2 = 0 by omega]
def digN (j : Nat) : Nat := [0, 1, 2, 3, 4, 5, 6, 7, 10, 11, 12, 20, 21, 22].getD j 0
theorem digN_ok : ∀ j, j < 14 → digA j = nI (digN j) ∧ (digN j ≤ 7 ∨ (10 ≤ digN j ∧ digN j ≤ 12) ∨ (20 ≤ digN j ∧ digN j ≤ 22)) := by decide
def dmX (S L : Nat → Nat → Int32) (n : Nat) (kd : Nat → Nat) (sn : Nat) : Nat → Int64
  | 0 => 1171
  | m + 1 => hx31 (fun i => mnX S L n kd sn m (digN i)) (dmX S L n kd sn m) 14
def dqX (S L : Nat → Nat → Int32) (n : Nat) (kd : Nat → Nat) (h0 : Int64) : Nat → Int64
  | 0 => h0
  | q + 1 => mqX S L n kd q (dqX S L n kd h0 q)
def dsX (S L : Nat → Nat → Int32) (n : Nat) (kd : Nat → Nat) (sn : Nat) : Int64 := if 0 < n then 31 * (31 * dqX S L n kd (dmX S L n kd sn n) 3 + (nI (stX1 (hcX S L n kd) 0)).toInt64) + (nI (stX1 (hcX S L n kd) 1)).toInt64 else dmX S L n kd sn n
def dgX (o1 o2 p0 : Int32) (P1 : Nat → Int32) (S L : Nat → Nat → Int32) (n : Nat) (kd : Nat → Nat) (sn pn : Nat) : Int64 := hx31 (hmX o1 o2 p0 S L n kd) (hx31 P1 (dsX S L n kd sn) pn) 12
set_option maxHeartbeats 1000000 in
set_option maxRecDepth 100000 in
theorem kX8_rope (l : Launch) (D : va_G) (ct : Nat → ClassId) (ad : Nat → Nat → Nat) (σ lm : Nat → Nat → Nat → Int32) (τ : Nat → Int64) (dt : Nat → Nat) (n : Nat) (kd : Nat → Nat) (hok : ROK (σ 2) n kd) (pn : Nat) (pg : Nat → Nat) (hpk : POK (σ 1) pn pg) (h11 : 11 ≤ pn) (h65 : pn % 6 = 5) (hff : ffe (fun j => !fitX (σ 1 1) j) pn 0 = pn) : MI l yX8_rope (gWs yX8_rope cX8_rope 3 (some .int)) rmX8_rope D ct (stX dt) [.ref (ad 0 0)] (wX ad ct σ lm τ) (fun u : (Nat → Nat → Nat → Int32) × (Nat → Nat → Nat → Int32) × (Nat → Int64) => wX ad ct u.1 u.2.1 u.2.2) (fun r u => r = nI ((pn + 1) / 6) ∧ ∃ (g3_1 : Nat → Int32) (L3 : Nat → Nat → Int32) (g2_2 : Nat → Int32), (∀ j, g3_1 j = if j < (pn + 1) / 6 then σ 1 1 (j * 6 + 1) - 48 else z0 j) ∧ (∀ q, q < 3 → ∀ j, L3 q j = if j < (pn + 1) / 6 then lnC (σ 1 1 (j * 6 + 2 + q)) else 0) ∧ (∀ j, g2_2 j = if j < (pn + 1) / 6 then kindC (σ 1 1 (j * 6)) else σ 2 2 j) ∧ u = (va_up (va_up (va_up (va_up σ 3 (va_up (clS (σ 3)) 1 g3_1)) 2 (va_up (va_up (σ 2) 0 (fun _ => nI ((pn + 1) / 6))) 2 g2_2)) 1 (va_up (σ 1) 0 (fun _ => 0))) 0 (va_up (va_up (σ 0) 0 (fun _ => 0)) 1 (fun _ => σ 0 1 0 + 1)), va_up lm 3 L3, τ)) := by
  refine MI.ofI RX8 rfl (by decide) (Nat.le_of_ble_eq_true rfl) ?_
  intro zp ze zs zm za zb zt zc zA ls zQ C h hX hl hret
  have hx := C.1
  have hb := C.2.1
  have hl : lv_has ls 3 [(0, .ref (ad 0 0))] := hl
  have hok0 := hok
  obtain ⟨hn, hn8, hkd⟩ := hok0
  have hpk0 := hpk
  obtain ⟨hpn, hpn50, hpg⟩ := hpk0
  have hall := ff_all hff
  have hp47 : pn ≤ 47 := by by_cases q9 : pn ≤ 47; exact q9; exact absurd (fit47 (hall 47 (by omega))) (by omega)
  have hK8 : (pn + 1) / 6 ≤ 8 := by omega
  refine lv_aload_n hx hb dX8_rope_0 rfl (lv_at hl 0 rfl) ?_
  refine gget C h igX8 0 rfl rfl 0 (by decide) q201 rfl rfl dX8_rope_1 ?_
  refine gFi C h hX (stX_ok _) (kX4_readsAsRope l D ct (ad 1) (σ 1) dt pn pg hpk) (cwV 0 C.2.2.2.2 (gInV q351 q352 q353 q58 q354) rfl rfl rfl hvX4_readsAsRope ⟨Nat.le_of_ble_eq_true rfl, Nat.le_of_ble_eq_true rfl⟩) 1 rfl rfl rfl (fr_X_P ad ct _ _ _) rfl hl.1 rfl (Nat.le_of_ble_eq_true rfl) dX8_rope_4 ⟨Nat.zero_le _, Nat.zero_le _⟩ (fun r9 u9 H ll hw h => ?_)
  have hw : r9 = (if 11 ≤ pn ∧ pn % 6 = 5 ∧ ffe (fun j => !fitX ((σ 1) 1) j) pn 0 = pn then 1 else 0) := hw
  subst hw
  have h : gW D ct zA zs _ _ (wX ad ct σ lm τ) := h
  refine bz_ne hx hb (11 ≤ pn ∧ pn % 6 = 5 ∧ ffe (fun j => !fitX ((σ 1) 1) j) pn 0 = pn) (tgt := 13) dX8_rope_7 (by decide) (fun c_7 => ?_) (fun c_7 => absurd c_7 (fun q9 => q9 ⟨h11, h65, hff⟩))
  refine lv_aload_n hx hb dX8_rope_13 rfl (lv_at hl 0 rfl) ?_
  refine gget C h igX8 0 rfl rfl 2 (by decide) q203 rfl rfl dX8_rope_14 ?_
  refine gFv C h trivial gNo_ok (kX6_clearAll l D ct (ad 3) (σ 3) (lm 3)) (cwV 0 C.2.2.2.2 (gInV q356 q357 q358 q65 q359) rfl rfl rfl hvX6_clearAll ⟨Nat.le_of_ble_eq_true rfl, Nat.le_of_ble_eq_true rfl⟩) 11 rfl rfl rfl (fr_X_S3m ad ct _ _ _) rfl hl.1 rfl (Nat.le_of_ble_eq_true rfl) dX8_rope_17 ⟨Nat.zero_le _, Nat.zero_le _⟩ (fun u9 H ll hw h => ?_)
  subst hw
  have h : gW D ct zA zs _ _ (wX ad ct (va_up σ 3 (clS (σ 3))) (va_up lm 3 zz) τ) := h
  refine lv_aload_n hx hb dX8_rope_20 rfl (lv_at hl 0 rfl) ?_
  refine gget C h igX8 0 rfl rfl 1 (by decide) q202 rfl rfl dX8_rope_21 ?_
  refine lv_aload_n hx hb dX8_rope_24 rfl (lv_at hl 0 rfl) ?_
  refine gget C h igX8 0 rfl rfl 0 (by decide) q201 rfl rfl dX8_rope_25 ?_
  refine gget C h igX4 1 rfl rfl 1 (by decide) q92 rfl rfl dX8_rope_28 ?_
  refine gas hpn ?_
  refine lv_iconst (v := 1) hx hb dX8_rope_31 (by decide) ?_
  refine nadd hx hb pn 1 dX8_rope_32 ?_
  refine lv_bipush (v := 6) hx hb dX8_rope_33 (by decide) ?_
  refine ndiv hx hb (pn + 1) 6 (by omega) (by omega) (by omega) dX8_rope_35 ?_
  refine gput C h igX5 tyX5 tyX5_ok nmX5 3 rfl rfl 2 (by decide) q144 rfl rfl (ty := .int) (by decide +kernel) rfl rfl (Nat.le_of_ble_eq_true rfl) dX8_rope_36 (fun H ll h => ?_)
  have h : gW D ct zA zs _ _ (wX ad ct (va_up (va_up σ 2 (va_up (σ 2) 0 (fun _ => nI ((pn + 1) / 6)))) 3 (clS (σ 3))) (va_up lm 3 zz) τ) := h
  refine lv_iconst (v := 0) hx hb dX8_rope_39 (by decide) ?_
  refine lv_istore_n (lv' := [(1, .int 0), (0, .ref (ad 0 0))]) hx hb dX8_rope_40 rfl hl (by decide) rfl (fun ls hl => ?_)
  have L41_1 : ∀ (kk : Nat) (i : Nat) (f1 : Nat → Int32) (f2 : Nat → Int32) (L9 : Nat → Nat → Int32) (H : Heap) (ll : List Loc) (ls : Array Slot), (pn + 1) / 6 - i = kk → (i ≤ (pn + 1) / 6) → (∀ j, f1 j = if j < i then σ 1 1 (j * 6 + 1) - 48 else z0 j) → (∀ j, f2 j = if j < i then kindC (σ 1 1 (j * 6)) else σ 2 2 j) → (∀ q, q < 3 → ∀ j, L9 q j = if j < i then lnC (σ 1 1 (j * 6 + 2 + q)) else 0) → gW D ct zA zs H ll (wX ad ct (va_up (va_up σ 2 (va_up (va_up (σ 2) 0 (fun _ => nI ((pn + 1) / 6))) 2 f2)) 3 (va_up (clS (σ 3)) 1 f1)) (va_up lm 3 L9) τ) → lv_has ls 3 [(1, .int (nI i)), (0, .ref (ad 0 0))] → W zp l ze rmX8_rope zs zm za zb zt zc H ll 0 0 zQ (F0 zm 41 ls []) := by
    intro kk41
    induction kk41 using Nat.strongRecOn with
    | _ kk41 ih41 =>
    intro i f1 f2 L9 H ll ls hk41 hi h1 h2 hL h hl
    refine lv_iload_n hx hb dX8_rope_41 rfl (lv_at hl 0 rfl) ?_
    refine lv_aload_n hx hb dX8_rope_42 rfl (lv_at hl 1 rfl) ?_
    refine gget C h igX8 0 rfl rfl 1 (by decide) q202 rfl rfl dX8_rope_43 ?_
    refine gget C h igX5 3 rfl rfl 2 (by decide) q144 rfl rfl dX8_rope_46 ?_
    refine nb_ge hx hb i ((pn + 1) / 6) (by omega) (by omega) (tgt := 124) dX8_rope_49 (by decide) (fun c_49 => ?_) (fun c_49 => ?_)
    · refine lv_aload_n hx hb dX8_rope_124 rfl (lv_at hl 1 rfl) ?_
      refine gget C h igX8 0 rfl rfl 0 (by decide) q201 rfl rfl dX8_rope_125 ?_
      refine lv_iconst (v := 0) hx hb dX8_rope_128 (by decide) ?_
      refine gput C h igX4 tyX4 tyX4_ok nmX4 1 rfl rfl 1 (by decide) q92 rfl rfl (ty := .int) (by decide +kernel) rfl rfl (Nat.le_of_ble_eq_true rfl) dX8_rope_129 (fun H ll h => ?_)
      have h : gW D ct zA zs _ _ (wX ad ct (va_up (va_up (va_up σ 1 (va_up (σ 1) 0 (fun _ => 0))) 2 (va_up (va_up (σ 2) 0 (fun _ => nI ((pn + 1) / 6))) 2 f2)) 3 (va_up (clS (σ 3)) 1 f1)) (va_up lm 3 L9) τ) := h
      refine lv_aload_n hx hb dX8_rope_132 rfl (lv_at hl 1 rfl) ?_
      refine lv_iconst (v := 0) hx hb dX8_rope_133 (by decide) ?_
      refine gput C h igX8 tyX8 tyX8_ok nmX8 0 rfl rfl 9 (by decide) q210 rfl rfl (ty := .boolean) (by decide +kernel) (by decide) (by decide) (Nat.le_of_ble_eq_true rfl) dX8_rope_134 (fun H ll h => ?_)
      have h : gW D ct zA zs _ _ (wX ad ct (va_up (va_up (va_up (va_up σ 0 (va_up (σ 0) 0 (fun _ => 0))) 1 (va_up (σ 1) 0 (fun _ => 0))) 2 (va_up (va_up (σ 2) 0 (fun _ => nI ((pn + 1) / 6))) 2 f2)) 3 (va_up (clS (σ 3)) 1 f1)) (va_up lm 3 L9) τ) := h
      refine lv_aload_n hx hb dX8_rope_137 rfl (lv_at hl 1 rfl) ?_
      refine lv_dup hx hb dX8_rope_138 rfl ?_
      refine gget C h igX8 0 rfl rfl 10 (by decide) q211 rfl rfl dX8_rope_139 ?_
      refine lv_iconst (v := 1) hx hb dX8_rope_142 (by decide) ?_
      refine lv_iadd hx hb dX8_rope_143 ?_
      refine gput C h igX8 tyX8 tyX8_ok nmX8 0 rfl rfl 10 (by decide) q211 rfl rfl (ty := .int) (by decide +kernel) rfl rfl (Nat.le_of_ble_eq_true rfl) dX8_rope_144 (fun H ll h => ?_)
      have h : gW D ct zA zs _ _ (wX ad ct (va_up (va_up (va_up (va_up σ 0 (va_up (va_up (σ 0) 0 (fun _ => 0)) 1 (fun _ => (σ 0 1 0) + 1))) 1 (va_up (σ 1) 0 (fun _ => 0))) 2 (va_up (va_up (σ 2) 0 (fun _ => nI ((pn + 1) / 6))) 2 f2)) 3 (va_up (clS (σ 3)) 1 f1)) (va_up lm 3 L9) τ) := h
      refine lv_aload_n hx hb dX8_rope_147 rfl (lv_at hl 1 rfl) ?_
      refine gget C h igX8 0 rfl rfl 1 (by decide) q202 rfl rfl dX8_rope_148 ?_
      refine gget C h igX5 3 rfl rfl 2 (by decide) q144 rfl rfl dX8_rope_151 ?_
      have eK : i = (pn + 1) / 6 := by omega
      have h : gW D ct zA zs _ _ ((fun u : (Nat → Nat → Nat → Int32) × (Nat → Nat → Nat → Int32) × (Nat → Int64) => wX ad ct u.1 u.2.1 u.2.2) ((va_up (va_up (va_up (va_up σ 3 (va_up (clS (σ 3)) 1 f1)) 2 (va_up (va_up (σ 2) 0 (fun _ => nI ((pn + 1) / 6))) 2 f2)) 1 (va_up (σ 1) 0 (fun _ => 0))) 0 (va_up (va_up (σ 0) 0 (fun _ => 0)) 1 (fun _ => σ 0 1 0 + 1)), va_up lm 3 L9, τ))) := h
      exact hret _ ((va_up (va_up (va_up (va_up σ 3 (va_up (clS (σ 3)) 1 f1)) 2 (va_up (va_up (σ 2) 0 (fun _ => nI ((pn + 1) / 6))) 2 f2)) 1 (va_up (σ 1) 0 (fun _ => 0))) 0 (va_up (va_up (σ 0) 0 (fun _ => 0)) 1 (fun _ => σ 0 1 0 + 1)), va_up lm 3 L9, τ)) _ _ _ _ h ⟨rfl, f1, L9, f2, (fun j => by rw [← eK]; exact h1 j), (fun q hq j => by rw [← eK]; exact hL q hq j), (fun j => by rw [← eK]; exact h2 j), rfl⟩ dX8_rope_154
    · have hkn := kn_eq (a := σ 1 1) (m := i) (fitK (hall (i * 6) (by omega)))
      have hkn5 := hkn.2
      refine lv_aload_n hx hb dX8_rope_52 rfl (lv_at hl 1 rfl) ?_
      refine gget C h igX8 0 rfl rfl 1 (by decide) q202 rfl rfl dX8_rope_53 ?_
      refine lv_iload_n hx hb dX8_rope_56 rfl (lv_at hl 0 rfl) ?_
      refine lv_aload_n hx hb dX8_rope_57 rfl (lv_at hl 1 rfl) ?_
      refine gget C h igX8 0 rfl rfl 0 (by decide) q201 rfl rfl dX8_rope_58 ?_
      refine lv_iload_n hx hb dX8_rope_61 rfl (lv_at hl 0 rfl) ?_
      refine gFi C h hX (stX_ok _) (kX4_kindAt l D ct (ad 1) (σ 1) dt pn pg hpk i (by omega)) (cwV 1 C.2.2.2.2 (gInV q360 q361 q362 q58 q363) rfl rfl rfl hvX4_kindAt ⟨Nat.le_of_ble_eq_true rfl, Nat.le_of_ble_eq_true rfl⟩) 1 rfl rfl rfl (fr_X_P ad ct _ _ _) rfl hl.1 rfl (Nat.le_of_ble_eq_true rfl) dX8_rope_62 ⟨Nat.zero_le _, Nat.zero_le _⟩ (fun r9 u9 H ll hw h => ?_)
      have hw : r9 = kindC ((σ 1) 1 (i * 6)) := hw
      subst hw
      have h : gW D ct zA zs _ _ (wX ad ct (va_up (va_up σ 2 (va_up (va_up (σ 2) 0 (fun _ => nI ((pn + 1) / 6))) 2 f2)) 3 (va_up (clS (σ 3)) 1 f1)) (va_up lm 3 L9) τ) := h
      refine gas (z := nI (kn (σ 1 1) i)) hkn.1 ?_
      refine gFv C h trivial gNo_ok (kX5_hang l D ct (ad 2) (va_up (va_up (σ 2) 0 (fun _ => nI ((pn + 1) / 6))) 2 f2) i (kn (σ 1 1) i) (by omega) (by omega)) (cwV 2 C.2.2.2.2 (gInV q364 q365 q366 q59 q367) rfl rfl rfl hvX5_hang ⟨Nat.le_of_ble_eq_true rfl, Nat.le_of_ble_eq_true rfl⟩) 3 rfl rfl rfl (fr_X_Rm ad ct _ _ _) rfl hl.1 rfl (Nat.le_of_ble_eq_true rfl) dX8_rope_65 ⟨Nat.zero_le _, Nat.zero_le _⟩ (fun u9 H ll hw h => ?_)
      subst hw
      have h : gW D ct zA zs _ _ (wX ad ct (va_up (va_up σ 2 (va_up (va_up (va_up (σ 2) 0 (fun _ => nI ((pn + 1) / 6))) 2 f2) 2 (upd ((va_up (va_up (σ 2) 0 (fun _ => nI ((pn + 1) / 6))) 2 f2) 2) i (nI (kn (σ 1 1) i))))) 3 (va_up (clS (σ 3)) 1 f1)) (va_up lm 3 L9) τ) := h
      refine lv_aload_n hx hb dX8_rope_68 rfl (lv_at hl 1 rfl) ?_
      refine gget C h igX8 0 rfl rfl 2 (by decide) q203 rfl rfl dX8_rope_69 ?_
      refine gget C h igX6 11 rfl rfl 0 (by decide) q161 rfl rfl dX8_rope_72 ?_
      refine lv_iload_n hx hb dX8_rope_75 rfl (lv_at hl 0 rfl) ?_
      refine lv_aload_n hx hb dX8_rope_76 rfl (lv_at hl 1 rfl) ?_
      refine gget C h igX8 0 rfl rfl 0 (by decide) q201 rfl rfl dX8_rope_77 ?_
      refine lv_iload_n hx hb dX8_rope_80 rfl (lv_at hl 0 rfl) ?_
      refine gFi C h hX (stX_ok _) (kX4_weightAt l D ct (ad 1) (σ 1) dt pn pg hpk i (by omega)) (cwV 1 C.2.2.2.2 (gInV q368 q369 q370 q58 q371) rfl rfl rfl hvX4_weightAt ⟨Nat.le_of_ble_eq_true rfl, Nat.le_of_ble_eq_true rfl⟩) 1 rfl rfl rfl (fr_X_P ad ct _ _ _) rfl hl.1 rfl (Nat.le_of_ble_eq_true rfl) dX8_rope_81 ⟨Nat.zero_le _, Nat.zero_le _⟩ (fun r9 u9 H ll hw h => ?_)
      have hw : r9 = (σ 1) 1 (i * 6 + 1) - 48 := hw
      subst hw
      have h : gW D ct zA zs _ _ (wX ad ct (va_up (va_up σ 2 (va_up (va_up (va_up (σ 2) 0 (fun _ => nI ((pn + 1) / 6))) 2 f2) 2 (upd ((va_up (va_up (σ 2) 0 (fun _ => nI ((pn + 1) / 6))) 2 f2) 2) i (nI (kn (σ 1 1) i))))) 3 (va_up (clS (σ 3)) 1 f1)) (va_up lm 3 L9) τ) := h
      refine gist C h 12 rfl (j := i) (by omega) (by decide) dX8_rope_84 (fun H ll h => ?_)
      have h : gW D ct zA zs _ _ (wX ad ct (va_up (va_up σ 2 (va_up (va_up (va_up (σ 2) 0 (fun _ => nI ((pn + 1) / 6))) 2 f2) 2 (upd ((va_up (va_up (σ 2) 0 (fun _ => nI ((pn + 1) / 6))) 2 f2) 2) i (nI (kn (σ 1 1) i))))) 3 (va_up (clS (σ 3)) 1 (upd f1 i ((σ 1) 1 (i * 6 + 1) - 48)))) (va_up lm 3 L9) τ) := h
      refine lv_iconst (v := 0) hx hb dX8_rope_85 (by decide) ?_
      refine lv_istore_n (lv' := [(2, .int 0), (1, .int (nI i)), (0, .ref (ad 0 0))]) hx hb dX8_rope_86 rfl hl (by decide) rfl (fun ls hl => ?_)
      have L87_3 : ∀ (kk : Nat) (k : Nat) (L8 : Nat → Nat → Int32) (H : Heap) (ll : List Loc) (ls : Array Slot), 3 - k = kk → (k ≤ 3) → (∀ q, q < 3 → ∀ j, L8 q j = if j < i ∨ (j = i ∧ q < k) then lnC (σ 1 1 (j * 6 + 2 + q)) else 0) → gW D ct zA zs H ll (wX ad ct (va_up (va_up σ 2 (va_up (va_up (va_up (σ 2) 0 (fun _ => nI ((pn + 1) / 6))) 2 f2) 2 (upd ((va_up (va_up (σ 2) 0 (fun _ => nI ((pn + 1) / 6))) 2 f2) 2) i (nI (kn (σ 1 1) i))))) 3 (va_up (clS (σ 3)) 1 (upd f1 i ((σ 1) 1 (i * 6 + 1) - 48)))) (va_up lm 3 L8) τ) → lv_has ls 3 [(2, .int (nI k)), (1, .int (nI i)), (0, .ref (ad 0 0))] → W zp l ze rmX8_rope zs zm za zb zt zc H ll 0 0 zQ (F0 zm 87 ls []) := by
        intro kk87
        induction kk87 using Nat.strongRecOn with
        | _ kk87 ih87 =>
        intro k L8 H ll ls hk87 hk hL8 h hl
        refine lv_iload_n hx hb dX8_rope_87 rfl (lv_at hl 0 rfl) ?_
        refine lv_iconst (v := 3) hx hb dX8_rope_88 (by decide) ?_
        refine nb_ge hx hb k 3 (by omega) (by omega) (tgt := 118) dX8_rope_89 (by decide) (fun c_89 => ?_) (fun c_89 => ?_)
        · refine ninc (lv' := [(1, .int (nI (i + 1))), (2, .int (nI k)), (0, .ref (ad 0 0))]) hx hb i 1 dX8_rope_118 hl (k := 1) rfl (by decide) rfl (fun ls hl => ?_)
          refine lv_goto (tgt := 41) hx hb dX8_rope_121 (by decide) ?_
          have h : gW D ct zA zs _ _ (wX ad ct (va_up (va_up σ 2 (va_up (va_up (σ 2) 0 (fun _ => nI ((pn + 1) / 6))) 2 (upd f2 i (nI (kn (σ 1 1) i))))) 3 (va_up (clS (σ 3)) 1 (upd f1 i ((σ 1) 1 (i * 6 + 1) - 48)))) (va_up lm 3 L8) τ) := h
          exact ih41 _ (by omega) (i + 1) (upd f1 i ((σ 1) 1 (i * 6 + 1) - 48)) (upd f2 i (nI (kn (σ 1 1) i))) L8 _ _ _ rfl (by omega) (updk2 h1 rfl) (updk2 h2 hkn.1.symm) (fun q hq j => by rw [hL8 q hq j]; by_cases e9 : j < i + 1; (rw [if_pos e9, if_pos (by omega)]); (rw [if_neg e9, if_neg (by omega)])) h (lv_sub hl [0, 2] rfl)
        · refine lv_aload_n hx hb dX8_rope_92 rfl (lv_at hl 2 rfl) ?_
          refine gget C h igX8 0 rfl rfl 2 (by decide) q203 rfl rfl dX8_rope_93 ?_
          refine gget C h igX6 11 rfl rfl 1 (by decide) q164 rfl rfl dX8_rope_96 ?_
          refine lv_iload_n hx hb dX8_rope_99 rfl (lv_at hl 0 rfl) ?_
          refine gald C h 13 4 rfl rfl rfl (j := k) (b := ad 3 (3 + k)) (by omega) (by decide) (if_pos (by omega)) dX8_rope_100 ?_
          refine lv_iload_n hx hb dX8_rope_101 rfl (lv_at hl 1 rfl) ?_
          refine lv_aload_n hx hb dX8_rope_102 rfl (lv_at hl 2 rfl) ?_
          refine gget C h igX8 0 rfl rfl 0 (by decide) q201 rfl rfl dX8_rope_103 ?_
          refine lv_iload_n hx hb dX8_rope_106 rfl (lv_at hl 1 rfl) ?_
          refine lv_iload_n hx hb dX8_rope_107 rfl (lv_at hl 0 rfl) ?_
          refine gFi C h hX (stX_ok _) (kX4_leanAt l D ct (ad 1) (σ 1) dt pn pg hpk i k (by omega) (by omega)) (cwV 2 C.2.2.2.2 (gInV q372 q373 q374 q58 q375) rfl rfl rfl hvX4_leanAt ⟨Nat.le_of_ble_eq_true rfl, Nat.le_of_ble_eq_true rfl⟩) 1 rfl rfl rfl (fr_X_P ad ct _ _ _) rfl hl.1 rfl (Nat.le_of_ble_eq_true rfl) dX8_rope_108 ⟨Nat.zero_le _, Nat.zero_le _⟩ (fun r9 u9 H ll hw h => ?_)
          have hw : r9 = lnC ((σ 1) 1 (i * 6 + 2 + k)) := hw
          subst hw
          have h : gW D ct zA zs _ _ (wX ad ct (va_up (va_up σ 2 (va_up (va_up (va_up (σ 2) 0 (fun _ => nI ((pn + 1) / 6))) 2 f2) 2 (upd ((va_up (va_up (σ 2) 0 (fun _ => nI ((pn + 1) / 6))) 2 f2) 2) i (nI (kn (σ 1 1) i))))) 3 (va_up (clS (σ 3)) 1 (upd f1 i ((σ 1) 1 (i * 6 + 1) - 48)))) (va_up lm 3 L8) τ) := h
          refine gist C h (14 + k) (wX_row3 ad ct _ _ _ (by omega)) (j := i) (by omega) (by decide) dX8_rope_111 (fun H ll h => ?_)
          have h := h.to (wX_rset3 ad ct _ _ _ (by omega) _)
          have h : gW D ct zA zs _ _ (wX ad ct (va_up (va_up σ 2 (va_up (va_up (va_up (σ 2) 0 (fun _ => nI ((pn + 1) / 6))) 2 f2) 2 (upd ((va_up (va_up (σ 2) 0 (fun _ => nI ((pn + 1) / 6))) 2 f2) 2) i (nI (kn (σ 1 1) i))))) 3 (va_up (clS (σ 3)) 1 (upd f1 i ((σ 1) 1 (i * 6 + 1) - 48)))) (va_up lm 3 (va_up L8 k (upd (L8 k) i (lnC ((σ 1) 1 (i * 6 + 2 + k)))))) τ) := h
          refine ninc (lv' := [(2, .int (nI (k + 1))), (1, .int (nI i)), (0, .ref (ad 0 0))]) hx hb k 1 dX8_rope_112 hl (k := 0) rfl (by decide) rfl (fun ls hl => ?_)
          refine lv_goto (tgt := 87) hx hb dX8_rope_115 (by decide) ?_
          exact ih87 _ (by omega) (k + 1) (va_up L8 k (upd (L8 k) i (lnC ((σ 1) 1 (i * 6 + 2 + k))))) _ _ _ rfl (by omega) (rp_row (M := L8) hL8) h (lv_sub hl [0, 1, 2] rfl)
      exact L87_3 _ 0 L9 _ _ _ rfl (Nat.zero_le _) (fun q hq j => by rw [hL q hq j]; by_cases e9 : j < i; (rw [if_pos e9, if_pos (Or.inl e9)]); (rw [if_neg e9, if_neg (by omega)])) h (lv_sub hl [0, 1, 2] rfl)
  exact L41_1 _ 0 z0 (σ 2 2) zz _ _ _ rfl (Nat.zero_le _) (fun j => by rw [if_neg (by omega)]) (fun j => by rw [if_neg (by omega)]) (fun q hq j => by rw [if_neg (by omega)]; rfl) h (lv_sub hl [0, 1] rfl)
set_option maxHeartbeats 1000000 in
set_option maxRecDepth 100000 in
theorem kX8_mixedQuestion (l : Launch) (D : va_G) (ct : Nat → ClassId) (ad : Nat → Nat → Nat) (σ lm : Nat → Nat → Nat → Int32) (τ : Nat → Int64) (dt : Nat → Nat) (n : Nat) (kd : Nat → Nat) (hok : ROK (σ 2) n kd) (h0 : Int64) (q : Nat) (hq : q < 3) (hn0 : 0 < n) : ML l yX8_mixedQuestion (gWs yX8_mixedQuestion cX8_mixedQuestion 7 (some .long)) rmX8_mixedQuestion D ct (stX dt) [.ref (ad 0 0), .long h0, .int (nI q)] (wX ad ct σ lm τ) (fun u : (Nat → Nat → Nat → Int32) × (Nat → Nat → Nat → Int32) × (Nat → Int64) => wX ad ct u.1 u.2.1 u.2.2) (fun r u => r = mqX (σ 3) (lm 3) n kd q h0 ∧ ∃ (g0_3 : Nat → Int32) (g0_4 : Nat → Int32) (g5 : Nat → Nat → Int32) (L5 : Nat → Nat → Int32), u = (va_up (va_up σ 0 (va_up (va_up (σ 0) 3 g0_3) 4 g0_4)) 5 g5, va_up lm 5 L5, τ)) := by
  refine ML.of RX8 rfl (by decide) (Nat.le_of_ble_eq_true rfl) ?_
  intro zp ze zs zm za zb zt zc zA ls zQ C h hX hl hret
  have hx := C.1
  have hb := C.2.1
  have hl : lv_has ls 7 [(0, .ref (ad 0 0)), (1, .long h0), (3, .int (nI q))] := hl
  have hok0 := hok
  obtain ⟨hn, hn8, hkd⟩ := hok0
  refine lv_lload_n hx hb dX8_mixedQuestion_0 rfl (lv_at hl 1 rfl) ?_
  refine lv_lstore (lv' := [(4, .long h0), (0, .ref (ad 0 0)), (1, .long h0), (3, .int (nI q))]) hx hb dX8_mixedQuestion_1 hl (by decide) rfl (fun ls hl => ?_)
  refine lv_iconst (v := 0) hx hb dX8_mixedQuestion_3 (by decide) ?_
  refine lv_istore (lv' := [(6, .int 0), (4, .long h0), (0, .ref (ad 0 0)), (1, .long h0), (3, .int (nI q))]) hx hb dX8_mixedQuestion_4 hl (by decide) rfl (fun ls hl => ?_)
  have L6_0 : ∀ (kk : Nat) (k : Nat) (H : Heap) (ll : List Loc) (ls : Array Slot), 6 - k = kk → (k ≤ 6) → gW D ct zA zs H ll (wX ad ct σ lm τ) → lv_has ls 7 [(6, .int (nI k)), (4, .long (hx31 (qnX (σ 3) (lm 3) n kd q) h0 k)), (0, .ref (ad 0 0)), (1, .long h0), (3, .int (nI q))] → W zp l ze rmX8_mixedQuestion zs zm za zb zt zc H ll 0 0 zQ (F0 zm 6 ls []) := by
    intro kk6
    induction kk6 using Nat.strongRecOn with
    | _ kk6 ih6 =>
    intro k H ll ls hk6 hk h hl
    refine lv_iload hx hb dX8_mixedQuestion_6 (lv_at hl 0 rfl) ?_
    refine lv_iconst (v := 5) hx hb dX8_mixedQuestion_8 (by decide) ?_
    refine nb_gt hx hb k 5 (by omega) (by omega) (tgt := 33) dX8_mixedQuestion_9 (by decide) (fun c_9 => ?_) (fun c_9 => ?_)
    · have e6 : k = 6 := by omega
      rw [e6] at hl
      refine lv_iconst (v := 0) hx hb dX8_mixedQuestion_33 (by decide) ?_
      refine lv_istore (lv' := [(6, .int 0), (4, .long (hx31 (qnX (σ 3) (lm 3) n kd q) h0 6)), (0, .ref (ad 0 0)), (1, .long h0), (3, .int (nI q))]) hx hb dX8_mixedQuestion_34 hl (by decide) rfl (fun ls hl => ?_)
      have L36_1 : ∀ (kk : Nat) (m : Nat) (g : Nat → Int32) (H : Heap) (ll : List Loc) (ls : Array Slot), n - m = kk → (m ≤ n) → gW D ct zA zs H ll (wX ad ct (va_up σ 0 (va_up (σ 0) 3 g)) lm τ) → lv_has ls 7 [(6, .int (nI m)), (4, .long (hx31 (fun k => nI (sayX (σ 3) (lm 3) n kd (k / 2) q (k % 2))) (hx31 (qnX (σ 3) (lm 3) n kd q) h0 6) (2 * m))), (0, .ref (ad 0 0)), (1, .long h0), (3, .int (nI q))] → W zp l ze rmX8_mixedQuestion zs zm za zb zt zc H ll 0 0 zQ (F0 zm 36 ls []) := by
        intro kk36
        induction kk36 using Nat.strongRecOn with
        | _ kk36 ih36 =>
        intro m g H ll ls hk36 hm h hl
        refine lv_iload hx hb dX8_mixedQuestion_36 (lv_at hl 0 rfl) ?_
        refine lv_aload_n hx hb dX8_mixedQuestion_38 rfl (lv_at hl 2 rfl) ?_
        refine gget C h igX8 0 rfl rfl 1 (by decide) q202 rfl rfl dX8_mixedQuestion_39 ?_
        refine gget C h igX5 3 rfl rfl 2 (by decide) q144 rfl rfl dX8_mixedQuestion_42 ?_
        refine gas hn ?_
        refine nb_ge hx hb m n (by omega) (by omega) (tgt := 86) dX8_mixedQuestion_45 (by decide) (fun c_45 => ?_) (fun c_45 => ?_)
        · have en : m = n := by omega
          rw [en] at hl
          refine lv_lload hx hb dX8_mixedQuestion_86 (lv_at hl 1 rfl) ?_
          refine lv_aload_n hx hb dX8_mixedQuestion_88 rfl (lv_at hl 2 rfl) ?_
          refine lv_iload_n hx hb dX8_mixedQuestion_89 rfl (lv_at hl 4 rfl) ?_
          refine lv_iconst (v := 3) hx hb dX8_mixedQuestion_90 (by decide) ?_
          refine lv_iconst (v := 0) hx hb dX8_mixedQuestion_91 (by decide) ?_
          refine gcallVi C h trivial gNo_ok (kX8_chance l D ct ad (va_up σ 0 (va_up (σ 0) 3 g)) lm τ n kd hok q 3 0 (by omega) (by omega) (by omega) (by omega)) (cwV 3 C.2.2.2.2 (gInV q691 q570 q571 q57 q572) rfl rfl rfl hvX8_chance ⟨Nat.le_of_ble_eq_true rfl, Nat.le_of_ble_eq_true rfl⟩) 0 rfl rfl rfl rfl hl.1 rfl (Nat.le_of_ble_eq_true rfl) dX8_mixedQuestion_92 ⟨Nat.zero_le _, Nat.zero_le _⟩ (fun r9 u9 H ll hw h => ?_)
          obtain ⟨hw, g0_3_c3, g0_4_c3, rfl⟩ := hw
          have hw : r9 = nI (chX (σ 3) (lm 3) n kd q 3 0) := hw
          subst hw
          have h : gW D ct zA zs _ _ (wX ad ct (va_up σ 0 (va_up (va_up (σ 0) 3 g0_3_c3) 4 g0_4_c3)) lm τ) := h
          refine lv_i2l (v := (nI (chX (σ 3) (lm 3) n kd q 3 0)).toInt64) hx hb dX8_mixedQuestion_95 rfl ?_
          refine gcallSl C h (kX8_mixed l D ct (hx31 (fun k => nI (sayX (σ 3) (lm 3) n kd (k / 2) q (k % 2))) (hx31 (qnX (σ 3) (lm 3) n kd q) h0 6) (2 * n)) ((nI (chX (σ 3) (lm 3) n kd q 3 0)).toInt64)) (va_cwS 2 C.2.2.2.2 (gInS q681 q682 q57 q683) rfl rfl rfl hdX8_mixed ⟨Nat.le_of_ble_eq_true rfl, Nat.le_of_ble_eq_true rfl⟩) rfl hl.1 rfl (Nat.le_of_ble_eq_true rfl) dX8_mixedQuestion_96 ⟨Nat.zero_le _, Nat.zero_le _⟩ (fun H ll h => ?_)
          refine lv_lstore (lv' := [(4, .long (31 * (hx31 (fun k => nI (sayX (σ 3) (lm 3) n kd (k / 2) q (k % 2))) (hx31 (qnX (σ 3) (lm 3) n kd q) h0 6) (2 * n)) + ((nI (chX (σ 3) (lm 3) n kd q 3 0)).toInt64))), (6, .int (nI n)), (0, .ref (ad 0 0)), (1, .long h0), (3, .int (nI q))]) hx hb dX8_mixedQuestion_99 hl (by decide) rfl (fun ls hl => ?_)
          refine lv_lload hx hb dX8_mixedQuestion_101 (lv_at hl 0 rfl) ?_
          refine lv_aload_n hx hb dX8_mixedQuestion_103 rfl (lv_at hl 2 rfl) ?_
          refine lv_iload_n hx hb dX8_mixedQuestion_104 rfl (lv_at hl 4 rfl) ?_
          refine lv_iconst (v := 3) hx hb dX8_mixedQuestion_105 (by decide) ?_
          refine lv_iconst (v := 1) hx hb dX8_mixedQuestion_106 (by decide) ?_
          refine gcallVi C h trivial gNo_ok (kX8_chance l D ct ad (va_up σ 0 (va_up (va_up (σ 0) 3 g0_3_c3) 4 g0_4_c3)) lm τ n kd hok q 3 1 (by omega) (by omega) (by omega) (by omega)) (cwV 3 C.2.2.2.2 (gInV q691 q570 q571 q57 q572) rfl rfl rfl hvX8_chance ⟨Nat.le_of_ble_eq_true rfl, Nat.le_of_ble_eq_true rfl⟩) 0 rfl rfl rfl rfl hl.1 rfl (Nat.le_of_ble_eq_true rfl) dX8_mixedQuestion_107 ⟨Nat.zero_le _, Nat.zero_le _⟩ (fun r9 u9 H ll hw h => ?_)
          obtain ⟨hw, g0_3_c4, g0_4_c4, rfl⟩ := hw
          have hw : r9 = nI (chX (σ 3) (lm 3) n kd q 3 1) := hw
          subst hw
          have h : gW D ct zA zs _ _ (wX ad ct (va_up σ 0 (va_up (va_up (σ 0) 3 g0_3_c4) 4 g0_4_c4)) lm τ) := h
          refine lv_i2l (v := (nI (chX (σ 3) (lm 3) n kd q 3 1)).toInt64) hx hb dX8_mixedQuestion_110 rfl ?_
          refine gcallSl C h (kX8_mixed l D ct (31 * (hx31 (fun k => nI (sayX (σ 3) (lm 3) n kd (k / 2) q (k % 2))) (hx31 (qnX (σ 3) (lm 3) n kd q) h0 6) (2 * n)) + ((nI (chX (σ 3) (lm 3) n kd q 3 0)).toInt64)) ((nI (chX (σ 3) (lm 3) n kd q 3 1)).toInt64)) (va_cwS 2 C.2.2.2.2 (gInS q681 q682 q57 q683) rfl rfl rfl hdX8_mixed ⟨Nat.le_of_ble_eq_true rfl, Nat.le_of_ble_eq_true rfl⟩) rfl hl.1 rfl (Nat.le_of_ble_eq_true rfl) dX8_mixedQuestion_111 ⟨Nat.zero_le _, Nat.zero_le _⟩ (fun H ll h => ?_)
          refine lv_lstore (lv' := [(4, .long (31 * (31 * (hx31 (fun k => nI (sayX (σ 3) (lm 3) n kd (k / 2) q (k % 2))) (hx31 (qnX (σ 3) (lm 3) n kd q) h0 6) (2 * n)) + ((nI (chX (σ 3) (lm 3) n kd q 3 0)).toInt64)) + ((nI (chX (σ 3) (lm 3) n kd q 3 1)).toInt64))), (6, .int (nI n)), (0, .ref (ad 0 0)), (1, .long h0), (3, .int (nI q))]) hx hb dX8_mixedQuestion_114 hl (by decide) rfl (fun ls hl => ?_)
          refine lv_lload hx hb dX8_mixedQuestion_116 (lv_at hl 0 rfl) ?_
          refine lv_aload_n hx hb dX8_mixedQuestion_118 rfl (lv_at hl 2 rfl) ?_
          refine lv_iload_n hx hb dX8_mixedQuestion_119 rfl (lv_at hl 4 rfl) ?_
          refine lv_iconst (v := 1) hx hb dX8_mixedQuestion_120 (by decide) ?_
          refine lv_iconst (v := 0) hx hb dX8_mixedQuestion_121 (by decide) ?_
          refine gcallVi C h trivial gNo_ok (kX8_cuts l D ct ad (va_up σ 0 (va_up (va_up (σ 0) 3 g0_3_c4) 4 g0_4_c4)) lm τ n kd hok q 1 0 (by omega) (by omega) (by decide) (by omega)) (cwV 3 C.2.2.2.2 (gInV q692 q581 q582 q57 q583) rfl rfl rfl hvX8_cuts ⟨Nat.le_of_ble_eq_true rfl, Nat.le_of_ble_eq_true rfl⟩) 0 rfl rfl rfl rfl hl.1 rfl (Nat.le_of_ble_eq_true rfl) dX8_mixedQuestion_122 ⟨Nat.zero_le _, Nat.zero_le _⟩ (fun r9 u9 H ll hw h => ?_)
          obtain ⟨hw, g5_c5, L5_c5, rfl⟩ := hw
          have hw : r9 = toldB (ctX (σ 3) (lm 3) n kd q 1) 0 := hw
          subst hw
          have h : gW D ct zA zs _ _ (wX ad ct (va_up (va_up σ 0 (va_up (va_up (σ 0) 3 g0_3_c4) 4 g0_4_c4)) 5 g5_c5) (va_up lm 5 L5_c5) τ) := h
          refine lv_i2l (v := (toldB (ctX (σ 3) (lm 3) n kd q 1) 0).toInt64) hx hb dX8_mixedQuestion_125 rfl ?_
          refine gcallSl C h (kX8_mixed l D ct (31 * (31 * (hx31 (fun k => nI (sayX (σ 3) (lm 3) n kd (k / 2) q (k % 2))) (hx31 (qnX (σ 3) (lm 3) n kd q) h0 6) (2 * n)) + ((nI (chX (σ 3) (lm 3) n kd q 3 0)).toInt64)) + ((nI (chX (σ 3) (lm 3) n kd q 3 1)).toInt64)) ((toldB (ctX (σ 3) (lm 3) n kd q 1) 0).toInt64)) (va_cwS 2 C.2.2.2.2 (gInS q681 q682 q57 q683) rfl rfl rfl hdX8_mixed ⟨Nat.le_of_ble_eq_true rfl, Nat.le_of_ble_eq_true rfl⟩) rfl hl.1 rfl (Nat.le_of_ble_eq_true rfl) dX8_mixedQuestion_126 ⟨Nat.zero_le _, Nat.zero_le _⟩ (fun H ll h => ?_)
          refine lv_lstore (lv' := [(4, .long (31 * (31 * (31 * (hx31 (fun k => nI (sayX (σ 3) (lm 3) n kd (k / 2) q (k % 2))) (hx31 (qnX (σ 3) (lm 3) n kd q) h0 6) (2 * n)) + ((nI (chX (σ 3) (lm 3) n kd q 3 0)).toInt64)) + ((nI (chX (σ 3) (lm 3) n kd q 3 1)).toInt64)) + ((toldB (ctX (σ 3) (lm 3) n kd q 1) 0).toInt64))), (6, .int (nI n)), (0, .ref (ad 0 0)), (1, .long h0), (3, .int (nI q))]) hx hb dX8_mixedQuestion_129 hl (by decide) rfl (fun ls hl => ?_)
          refine lv_lload hx hb dX8_mixedQuestion_131 (lv_at hl 0 rfl) ?_
          refine lv_aload_n hx hb dX8_mixedQuestion_133 rfl (lv_at hl 2 rfl) ?_
          refine lv_iload_n hx hb dX8_mixedQuestion_134 rfl (lv_at hl 4 rfl) ?_
          refine lv_iconst (v := 1) hx hb dX8_mixedQuestion_135 (by decide) ?_
          refine lv_iconst (v := 1) hx hb dX8_mixedQuestion_136 (by decide) ?_
          refine gcallVi C h trivial gNo_ok (kX8_cuts l D ct ad (va_up (va_up σ 0 (va_up (va_up (σ 0) 3 g0_3_c4) 4 g0_4_c4)) 5 g5_c5) (va_up lm 5 L5_c5) τ n kd hok q 1 1 (by omega) (by omega) (by decide) (by omega)) (cwV 3 C.2.2.2.2 (gInV q692 q581 q582 q57 q583) rfl rfl rfl hvX8_cuts ⟨Nat.le_of_ble_eq_true rfl, Nat.le_of_ble_eq_true rfl⟩) 0 rfl rfl rfl rfl hl.1 rfl (Nat.le_of_ble_eq_true rfl) dX8_mixedQuestion_137 ⟨Nat.zero_le _, Nat.zero_le _⟩ (fun r9 u9 H ll hw h => ?_)
          obtain ⟨hw, g5_c6, L5_c6, rfl⟩ := hw
          have hw : r9 = toldB (ctX (σ 3) (lm 3) n kd q 1) 1 := hw
          subst hw
          have h : gW D ct zA zs _ _ (wX ad ct (va_up (va_up σ 0 (va_up (va_up (σ 0) 3 g0_3_c4) 4 g0_4_c4)) 5 g5_c6) (va_up lm 5 L5_c6) τ) := h
          refine lv_i2l (v := (toldB (ctX (σ 3) (lm 3) n kd q 1) 1).toInt64) hx hb dX8_mixedQuestion_140 rfl ?_
          refine gcallSl C h (kX8_mixed l D ct (31 * (31 * (31 * (hx31 (fun k => nI (sayX (σ 3) (lm 3) n kd (k / 2) q (k % 2))) (hx31 (qnX (σ 3) (lm 3) n kd q) h0 6) (2 * n)) + ((nI (chX (σ 3) (lm 3) n kd q 3 0)).toInt64)) + ((nI (chX (σ 3) (lm 3) n kd q 3 1)).toInt64)) + ((toldB (ctX (σ 3) (lm 3) n kd q 1) 0).toInt64)) ((toldB (ctX (σ 3) (lm 3) n kd q 1) 1).toInt64)) (va_cwS 2 C.2.2.2.2 (gInS q681 q682 q57 q683) rfl rfl rfl hdX8_mixed ⟨Nat.le_of_ble_eq_true rfl, Nat.le_of_ble_eq_true rfl⟩) rfl hl.1 rfl (Nat.le_of_ble_eq_true rfl) dX8_mixedQuestion_141 ⟨Nat.zero_le _, Nat.zero_le _⟩ (fun H ll h => ?_)
          have h : gW D ct zA zs _ _ ((fun u : (Nat → Nat → Nat → Int32) × (Nat → Nat → Nat → Int32) × (Nat → Int64) => wX ad ct u.1 u.2.1 u.2.2) ((va_up (va_up σ 0 (va_up (va_up (σ 0) 3 g0_3_c4) 4 g0_4_c4)) 5 g5_c6, va_up lm 5 L5_c6, τ))) := h
          exact hret _ ((va_up (va_up σ 0 (va_up (va_up (σ 0) 3 g0_3_c4) 4 g0_4_c4)) 5 g5_c6, va_up lm 5 L5_c6, τ)) _ _ _ _ h ⟨rfl, g0_3_c4, g0_4_c4, g5_c6, L5_c6, rfl⟩ dX8_mixedQuestion_144
        · refine lv_lload hx hb dX8_mixedQuestion_48 (lv_at hl 1 rfl) ?_
          refine lv_aload_n hx hb dX8_mixedQuestion_50 rfl (lv_at hl 2 rfl) ?_
          refine lv_iload hx hb dX8_mixedQuestion_51 (lv_at hl 0 rfl) ?_
          refine lv_iload_n hx hb dX8_mixedQuestion_53 rfl (lv_at hl 4 rfl) ?_
          refine lv_iconst (v := 0) hx hb dX8_mixedQuestion_54 (by decide) ?_
          refine gcallVi C h hX (stX_ok _) (kX8_say l D ct ad (va_up σ 0 (va_up (σ 0) 3 g)) lm τ dt n kd hok m q 0 (by omega) (by omega) (by omega) (by omega)) (cwV 3 C.2.2.2.2 (gInV q690 q547 q548 q57 q549) rfl rfl rfl hvX8_say ⟨Nat.le_of_ble_eq_true rfl, Nat.le_of_ble_eq_true rfl⟩) 0 rfl rfl rfl rfl hl.1 rfl (Nat.le_of_ble_eq_true rfl) dX8_mixedQuestion_55 ⟨Nat.zero_le _, Nat.zero_le _⟩ (fun r9 u9 H ll hw h => ?_)
          obtain ⟨hw, g0_3_c7, rfl⟩ := hw
          have hw : r9 = nI (sayX (σ 3) (lm 3) n kd m q 0) := hw
          subst hw
          have h : gW D ct zA zs _ _ (wX ad ct (va_up σ 0 (va_up (σ 0) 3 g0_3_c7)) lm τ) := h
          refine lv_i2l (v := (nI (sayX (σ 3) (lm 3) n kd m q 0)).toInt64) hx hb dX8_mixedQuestion_58 rfl ?_
          refine gcallSl C h (kX8_mixed l D ct (hx31 (fun k => nI (sayX (σ 3) (lm 3) n kd (k / 2) q (k % 2))) (hx31 (qnX (σ 3) (lm 3) n kd q) h0 6) (2 * m)) ((nI (sayX (σ 3) (lm 3) n kd m q 0)).toInt64)) (va_cwS 2 C.2.2.2.2 (gInS q681 q682 q57 q683) rfl rfl rfl hdX8_mixed ⟨Nat.le_of_ble_eq_true rfl, Nat.le_of_ble_eq_true rfl⟩) rfl hl.1 rfl (Nat.le_of_ble_eq_true rfl) dX8_mixedQuestion_59 ⟨Nat.zero_le _, Nat.zero_le _⟩ (fun H ll h => ?_)
          refine lv_lstore (lv' := [(4, .long (31 * (hx31 (fun k => nI (sayX (σ 3) (lm 3) n kd (k / 2) q (k % 2))) (hx31 (qnX (σ 3) (lm 3) n kd q) h0 6) (2 * m)) + ((nI (sayX (σ 3) (lm 3) n kd m q 0)).toInt64))), (6, .int (nI m)), (0, .ref (ad 0 0)), (1, .long h0), (3, .int (nI q))]) hx hb dX8_mixedQuestion_62 hl (by decide) rfl (fun ls hl => ?_)
          refine lv_lload hx hb dX8_mixedQuestion_64 (lv_at hl 0 rfl) ?_
          refine lv_aload_n hx hb dX8_mixedQuestion_66 rfl (lv_at hl 2 rfl) ?_
          refine lv_iload hx hb dX8_mixedQuestion_67 (lv_at hl 1 rfl) ?_
          refine lv_iload_n hx hb dX8_mixedQuestion_69 rfl (lv_at hl 4 rfl) ?_
          refine lv_iconst (v := 1) hx hb dX8_mixedQuestion_70 (by decide) ?_
          refine gcallVi C h hX (stX_ok _) (kX8_say l D ct ad (va_up σ 0 (va_up (σ 0) 3 g0_3_c7)) lm τ dt n kd hok m q 1 (by omega) (by omega) (by omega) (by omega)) (cwV 3 C.2.2.2.2 (gInV q690 q547 q548 q57 q549) rfl rfl rfl hvX8_say ⟨Nat.le_of_ble_eq_true rfl, Nat.le_of_ble_eq_true rfl⟩) 0 rfl rfl rfl rfl hl.1 rfl (Nat.le_of_ble_eq_true rfl) dX8_mixedQuestion_71 ⟨Nat.zero_le _, Nat.zero_le _⟩ (fun r9 u9 H ll hw h => ?_)
          obtain ⟨hw, g0_3_c8, rfl⟩ := hw
          have hw : r9 = nI (sayX (σ 3) (lm 3) n kd m q 1) := hw
          subst hw
          have h : gW D ct zA zs _ _ (wX ad ct (va_up σ 0 (va_up (σ 0) 3 g0_3_c8)) lm τ) := h
          refine lv_i2l (v := (nI (sayX (σ 3) (lm 3) n kd m q 1)).toInt64) hx hb dX8_mixedQuestion_74 rfl ?_
          refine gcallSl C h (kX8_mixed l D ct (31 * (hx31 (fun k => nI (sayX (σ 3) (lm 3) n kd (k / 2) q (k % 2))) (hx31 (qnX (σ 3) (lm 3) n kd q) h0 6) (2 * m)) + ((nI (sayX (σ 3) (lm 3) n kd m q 0)).toInt64)) ((nI (sayX (σ 3) (lm 3) n kd m q 1)).toInt64)) (va_cwS 2 C.2.2.2.2 (gInS q681 q682 q57 q683) rfl rfl rfl hdX8_mixed ⟨Nat.le_of_ble_eq_true rfl, Nat.le_of_ble_eq_true rfl⟩) rfl hl.1 rfl (Nat.le_of_ble_eq_true rfl) dX8_mixedQuestion_75 ⟨Nat.zero_le _, Nat.zero_le _⟩ (fun H ll h => ?_)
          refine lv_lstore (lv' := [(4, .long (31 * (31 * (hx31 (fun k => nI (sayX (σ 3) (lm 3) n kd (k / 2) q (k % 2))) (hx31 (qnX (σ 3) (lm 3) n kd q) h0 6) (2 * m)) + ((nI (sayX (σ 3) (lm 3) n kd m q 0)).toInt64)) + ((nI (sayX (σ 3) (lm 3) n kd m q 1)).toInt64))), (6, .int (nI m)), (0, .ref (ad 0 0)), (1, .long h0), (3, .int (nI q))]) hx hb dX8_mixedQuestion_78 hl (by decide) rfl (fun ls hl => ?_)
          refine ninc (lv' := [(6, .int (nI (m + 1))), (4, .long (31 * (31 * (hx31 (fun k => nI (sayX (σ 3) (lm 3) n kd (k / 2) q (k % 2))) (hx31 (qnX (σ 3) (lm 3) n kd q) h0 6) (2 * m)) + ((nI (sayX (σ 3) (lm 3) n kd m q 0)).toInt64)) + ((nI (sayX (σ 3) (lm 3) n kd m q 1)).toInt64))), (0, .ref (ad 0 0)), (1, .long h0), (3, .int (nI q))]) hx hb m 1 dX8_mixedQuestion_80 hl (k := 1) rfl (by decide) rfl (fun ls hl => ?_)
          refine lv_goto (tgt := 36) hx hb dX8_mixedQuestion_83 (by decide) ?_
          have hl : lv_has ls 7 [(6, .int (nI (m + 1))), (4, .long (hx31 (fun k => nI (sayX (σ 3) (lm 3) n kd (k / 2) q (k % 2))) (hx31 (qnX (σ 3) (lm 3) n kd q) h0 6) (2 * (m + 1)))), (0, .ref (ad 0 0)), (1, .long h0), (3, .int (nI q))] := by have e9 : (31 * (31 * (hx31 (fun k => nI (sayX (σ 3) (lm 3) n kd (k / 2) q (k % 2))) (hx31 (qnX (σ 3) (lm 3) n kd q) h0 6) (2 * m)) + ((nI (sayX (σ 3) (lm 3) n kd m q 0)).toInt64)) + ((nI (sayX (σ 3) (lm 3) n kd m q 1)).toInt64) : Int64) = hx31 (fun k => nI (sayX (σ 3) (lm 3) n kd (k / 2) q (k % 2))) (hx31 (qnX (σ 3) (lm 3) n kd q) h0 6) (2 * (m + 1)) := hx2 (f := fun a b => sayX (σ 3) (lm 3) n kd a q b); rw [← e9]; exact hl
          exact ih36 _ (by omega) (m + 1) g0_3_c8 _ _ _ rfl (by omega) h (lv_sub hl [0, 1, 2, 3, 4] rfl)
      exact L36_1 _ 0 (σ 0 3) _ _ _ rfl (by omega) h (lv_sub hl [0, 1, 2, 3, 4] rfl)
    · refine lv_lload hx hb dX8_mixedQuestion_12 (lv_at hl 1 rfl) ?_
      refine lv_aload_n hx hb dX8_mixedQuestion_14 rfl (lv_at hl 2 rfl) ?_
      refine lv_iload_n hx hb dX8_mixedQuestion_15 rfl (lv_at hl 4 rfl) ?_
      refine lv_iload hx hb dX8_mixedQuestion_16 (lv_at hl 0 rfl) ?_
      refine gcallVi C h trivial gNo_ok (kX8_question l D ct ad σ lm τ n kd hok q k (by omega) (by omega) (by omega)) (cwV 2 C.2.2.2.2 (gInV q689 q489 q490 q57 q491) rfl rfl rfl hvX8_question ⟨Nat.le_of_ble_eq_true rfl, Nat.le_of_ble_eq_true rfl⟩) 0 rfl rfl rfl rfl hl.1 rfl (Nat.le_of_ble_eq_true rfl) dX8_mixedQuestion_18 ⟨Nat.zero_le _, Nat.zero_le _⟩ (fun r9 u9 H ll hw h => ?_)
      have hw : r9 = qnX (σ 3) (lm 3) n kd q k := hw
      subst hw
      have h : gW D ct zA zs _ _ (wX ad ct σ lm τ) := h
      refine lv_i2l (v := (qnX (σ 3) (lm 3) n kd q k).toInt64) hx hb dX8_mixedQuestion_21 rfl ?_
      refine gcallSl C h (kX8_mixed l D ct (hx31 (qnX (σ 3) (lm 3) n kd q) h0 k) ((qnX (σ 3) (lm 3) n kd q k).toInt64)) (va_cwS 2 C.2.2.2.2 (gInS q681 q682 q57 q683) rfl rfl rfl hdX8_mixed ⟨Nat.le_of_ble_eq_true rfl, Nat.le_of_ble_eq_true rfl⟩) rfl hl.1 rfl (Nat.le_of_ble_eq_true rfl) dX8_mixedQuestion_22 ⟨Nat.zero_le _, Nat.zero_le _⟩ (fun H ll h => ?_)
      refine lv_lstore (lv' := [(4, .long (31 * (hx31 (qnX (σ 3) (lm 3) n kd q) h0 k) + ((qnX (σ 3) (lm 3) n kd q k).toInt64))), (6, .int (nI k)), (0, .ref (ad 0 0)), (1, .long h0), (3, .int (nI q))]) hx hb dX8_mixedQuestion_25 hl (by decide) rfl (fun ls hl => ?_)
      refine ninc (lv' := [(6, .int (nI (k + 1))), (4, .long (31 * (hx31 (qnX (σ 3) (lm 3) n kd q) h0 k) + ((qnX (σ 3) (lm 3) n kd q k).toInt64))), (0, .ref (ad 0 0)), (1, .long h0), (3, .int (nI q))]) hx hb k 1 dX8_mixedQuestion_27 hl (k := 1) rfl (by decide) rfl (fun ls hl => ?_)
      refine lv_goto (tgt := 6) hx hb dX8_mixedQuestion_30 (by decide) ?_
      exact ih6 _ (by omega) (k + 1) _ _ _ rfl (by omega) h (lv_sub hl [0, 1, 2, 3, 4] rfl)
  exact L6_0 _ 0 _ _ _ rfl (by omega) h (lv_sub hl [0, 1, 2, 3, 4] rfl)
set_option maxHeartbeats 1000000 in
set_option maxRecDepth 100000 in
theorem kX8_digest (l : Launch) (D : va_G) (ct : Nat → ClassId) (ad : Nat → Nat → Nat) (σ lm : Nat → Nat → Nat → Int32) (τ : Nat → Int64) (dt : Nat → Nat) (n : Nat) (kd : Nat → Nat) (hok : ROK (σ 2) n kd) (pn : Nat) (pg : Nat → Nat) (hpk : POK (σ 1) pn pg) (sn : Nat) (hsn : σ 3 0 0 = nI sn) (hsn6 : sn ≤ 6) : ML l yX8_digest (gWs yX8_digest cX8_digest 8 (some .long)) rmX8_digest D ct (stX dt) [.ref (ad 0 0)] (wX ad ct σ lm τ) (fun u : (Nat → Nat → Nat → Int32) × (Nat → Nat → Nat → Int32) × (Nat → Int64) => wX ad ct u.1 u.2.1 u.2.2) (fun r u => r = dgX (σ 0 1 0) (σ 0 2 0) (σ 1 0 0) (σ 1 1) (σ 3) (lm 3) n kd sn pn ∧ ∃ (g0_3 : Nat → Int32) (g0_4 : Nat → Int32) (g0_5 : Nat → Int32) (g5 : Nat → Nat → Int32) (L5 : Nat → Nat → Int32) (t9 : Nat → Int64), u = (va_up (va_up σ 0 (va_up (va_up (va_up (σ 0) 3 g0_3) 4 g0_4) 5 g0_5)) 5 g5, va_up lm 5 L5, t9)) := by
  refine ML.of RX8 rfl (by decide) (Nat.le_of_ble_eq_true rfl) ?_
  intro zp ze zs zm za zb zt zc zA ls zQ C h hX hl hret
  have hx := C.1
  have hb := C.2.1
  have hl : lv_has ls 8 [(0, .ref (ad 0 0))] := hl
  have hok0 := hok
  obtain ⟨hn, hn8, hkd⟩ := hok0
  have hpk0 := hpk
  obtain ⟨hpn, hpn50, hpg⟩ := hpk0
  refine lv_ldc2 (v := 1171) hx hb C.2.2.2.1 (C.2.2.2.2 _ (gWs_in q677)) dX8_digest_0 ?_
  refine lv_lstore_n (lv' := [(1, .long 1171), (0, .ref (ad 0 0))]) hx hb dX8_digest_3 rfl hl (by decide) rfl (fun ls hl => ?_)
  refine lv_iconst (v := 0) hx hb dX8_digest_4 (by decide) ?_
  refine lv_istore_n (lv' := [(3, .int 0), (1, .long 1171), (0, .ref (ad 0 0))]) hx hb dX8_digest_5 rfl hl (by decide) rfl (fun ls hl => ?_)
  have L6_0 : ∀ (kk : Nat) (m : Nat) (g5 : Nat → Nat → Int32) (L5 : Nat → Nat → Int32) (g05 : Nat → Int32) (H : Heap) (ll : List Loc) (ls : Array Slot), n - m = kk → (m ≤ n) → gW D ct zA zs H ll (wX ad ct (va_up (va_up σ 0 (va_up (σ 0) 5 g05)) 5 g5) (va_up lm 5 L5) τ) → lv_has ls 8 [(3, .int (nI m)), (1, .long (dmX (σ 3) (lm 3) n kd sn m)), (0, .ref (ad 0 0))] → W zp l ze rmX8_digest zs zm za zb zt zc H ll 0 0 zQ (F0 zm 6 ls []) := by
    intro kk6
    induction kk6 using Nat.strongRecOn with
    | _ kk6 ih6 =>
    intro m g5 L5 g05 H ll ls hk6 hm h hl
    refine lv_iload_n hx hb dX8_digest_6 rfl (lv_at hl 0 rfl) ?_
    refine lv_aload_n hx hb dX8_digest_7 rfl (lv_at hl 2 rfl) ?_
    refine gget C h igX8 0 rfl rfl 1 (by decide) q202 rfl rfl dX8_digest_8 ?_
    refine gget C h igX5 3 rfl rfl 2 (by decide) q144 rfl rfl dX8_digest_11 ?_
    refine gas hn ?_
    refine nb_ge hx hb m n (by omega) (by omega) (tgt := 69) dX8_digest_14 (by decide) (fun c_14 => ?_) (fun c_14 => ?_)
    · have en : m = n := by omega
      rw [en] at hl
      refine lv_aload_n hx hb dX8_digest_69 rfl (lv_at hl 2 rfl) ?_
      refine gget C h igX8 0 rfl rfl 1 (by decide) q202 rfl rfl dX8_digest_70 ?_
      refine gget C h igX5 3 rfl rfl 2 (by decide) q144 rfl rfl dX8_digest_73 ?_
      refine gas hn ?_
      refine nz_le hx hb n (by omega) (tgt := 121) dX8_digest_76 (by decide) (fun c_76 => ?_) (fun c_76 => ?_)
      · have hl : lv_has ls 8 [(3, .int (nI n)), (1, .long (dsX (σ 3) (lm 3) n kd sn)), (0, .ref (ad 0 0))] := by have e9 : (dmX (σ 3) (lm 3) n kd sn n : Int64) = dsX (σ 3) (lm 3) n kd sn := (if_neg (show ¬ 0 < n by omega)).symm; rw [← e9]; exact hl
        refine lv_iconst (v := 0) hx hb dX8_digest_121 (by decide) ?_
        refine lv_istore_n (lv' := [(3, .int 0), (1, .long (dsX (σ 3) (lm 3) n kd sn)), (0, .ref (ad 0 0))]) hx hb dX8_digest_122 rfl hl (by decide) rfl (fun ls hl => ?_)
        have L123_1 : ∀ (kk : Nat) (i : Nat) (H : Heap) (ll : List Loc) (ls : Array Slot), pn - i = kk → (i ≤ pn) → gW D ct zA zs H ll (wX ad ct (va_up (va_up σ 0 (va_up (σ 0) 5 g05)) 5 g5) (va_up lm 5 L5) τ) → lv_has ls 8 [(3, .int (nI i)), (1, .long (hx31 (σ 1 1) (dsX (σ 3) (lm 3) n kd sn) i)), (0, .ref (ad 0 0))] → W zp l ze rmX8_digest zs zm za zb zt zc H ll 0 0 zQ (F0 zm 123 ls []) := by
          intro kk123
          induction kk123 using Nat.strongRecOn with
          | _ kk123 ih123 =>
          intro i H ll ls hk123 hi h hl
          refine lv_iload_n hx hb dX8_digest_123 rfl (lv_at hl 0 rfl) ?_
          refine lv_aload_n hx hb dX8_digest_124 rfl (lv_at hl 2 rfl) ?_
          refine gget C h igX8 0 rfl rfl 0 (by decide) q201 rfl rfl dX8_digest_125 ?_
          refine gget C h igX4 1 rfl rfl 1 (by decide) q92 rfl rfl dX8_digest_128 ?_
          refine gas hpn ?_
          refine nb_ge hx hb i pn (by omega) (by omega) (tgt := 155) dX8_digest_131 (by decide) (fun c_131 => ?_) (fun c_131 => ?_)
          · have epn : i = pn := by omega
            rw [epn] at hl
            refine lv_iconst (v := 0) hx hb dX8_digest_155 (by decide) ?_
            refine lv_istore_n (lv' := [(3, .int 0), (1, .long (hx31 (σ 1 1) (dsX (σ 3) (lm 3) n kd sn) pn)), (0, .ref (ad 0 0))]) hx hb dX8_digest_156 rfl hl (by decide) rfl (fun ls hl => ?_)
            have L157_2 : ∀ (kk : Nat) (k : Nat) (H : Heap) (ll : List Loc) (ls : Array Slot), 12 - k = kk → (k ≤ 12) → gW D ct zA zs H ll (wX ad ct (va_up (va_up σ 0 (va_up (σ 0) 5 g05)) 5 g5) (va_up lm 5 L5) τ) → lv_has ls 8 [(3, .int (nI k)), (1, .long (hx31 (hmX (σ 0 1 0) (σ 0 2 0) (σ 1 0 0) (σ 3) (lm 3) n kd) (hx31 (σ 1 1) (dsX (σ 3) (lm 3) n kd sn) pn) k)), (0, .ref (ad 0 0))] → W zp l ze rmX8_digest zs zm za zb zt zc H ll 0 0 zQ (F0 zm 157 ls []) := by
              intro kk157
              induction kk157 using Nat.strongRecOn with
              | _ kk157 ih157 =>
              intro k H ll ls hk157 hk h hl
              refine lv_iload_n hx hb dX8_digest_157 rfl (lv_at hl 0 rfl) ?_
              refine lv_bipush (v := 11) hx hb dX8_digest_158 (by decide) ?_
              refine nb_gt hx hb k 11 (by omega) (by omega) (tgt := 180) dX8_digest_160 (by decide) (fun c_160 => ?_) (fun c_160 => ?_)
              · refine lv_lload_n hx hb dX8_digest_180 rfl (lv_at hl 1 rfl) ?_
                have h : gW D ct zA zs _ _ ((fun u : (Nat → Nat → Nat → Int32) × (Nat → Nat → Nat → Int32) × (Nat → Int64) => wX ad ct u.1 u.2.1 u.2.2) ((va_up (va_up σ 0 (va_up (va_up (va_up (σ 0) 3 (σ 0 3)) 4 (σ 0 4)) 5 g05)) 5 g5, va_up lm 5 L5, τ))) := h
                exact hret _ ((va_up (va_up σ 0 (va_up (va_up (va_up (σ 0) 3 (σ 0 3)) 4 (σ 0 4)) 5 g05)) 5 g5, va_up lm 5 L5, τ)) _ _ _ _ h ⟨(by rw [show k = 12 by omega]; rfl), (σ 0 3), (σ 0 4), g05, g5, L5, τ, rfl⟩ dX8_digest_181
              · refine lv_lload_n hx hb dX8_digest_163 rfl (lv_at hl 1 rfl) ?_
                refine lv_aload_n hx hb dX8_digest_164 rfl (lv_at hl 2 rfl) ?_
                refine lv_iload_n hx hb dX8_digest_165 rfl (lv_at hl 0 rfl) ?_
                refine gcallVi C h trivial gNo_ok (kX8_count l D ct ad (va_up (va_up σ 0 (va_up (σ 0) 5 g05)) 5 g5) (va_up lm 5 L5) τ n kd hok pn hpn hpn50 sn hsn hsn6 k (by omega)) (cwV 1 C.2.2.2.2 (gInV q694 q663 q664 q57 q665) rfl rfl rfl hvX8_count ⟨Nat.le_of_ble_eq_true rfl, Nat.le_of_ble_eq_true rfl⟩) 0 rfl rfl rfl rfl hl.1 rfl (Nat.le_of_ble_eq_true rfl) dX8_digest_166 ⟨Nat.zero_le _, Nat.zero_le _⟩ (fun r9 u9 H ll hw h => ?_)
                have hw : r9 = hmX ((σ 0 1 0)) ((σ 0 2 0)) ((σ 1 0 0)) (σ 3) (lm 3) n kd k := hw
                subst hw
                have h : gW D ct zA zs _ _ (wX ad ct (va_up (va_up σ 0 (va_up (σ 0) 5 g05)) 5 g5) (va_up lm 5 L5) τ) := h
                refine lv_i2l (v := (hmX ((σ 0 1 0)) ((σ 0 2 0)) ((σ 1 0 0)) (σ 3) (lm 3) n kd k).toInt64) hx hb dX8_digest_169 rfl ?_
                refine gcallSl C h (kX8_mixed l D ct (hx31 (hmX (σ 0 1 0) (σ 0 2 0) (σ 1 0 0) (σ 3) (lm 3) n kd) (hx31 (σ 1 1) (dsX (σ 3) (lm 3) n kd sn) pn) k) ((hmX ((σ 0 1 0)) ((σ 0 2 0)) ((σ 1 0 0)) (σ 3) (lm 3) n kd k).toInt64)) (va_cwS 2 C.2.2.2.2 (gInS q681 q682 q57 q683) rfl rfl rfl hdX8_mixed ⟨Nat.le_of_ble_eq_true rfl, Nat.le_of_ble_eq_true rfl⟩) rfl hl.1 rfl (Nat.le_of_ble_eq_true rfl) dX8_digest_170 ⟨Nat.zero_le _, Nat.zero_le _⟩ (fun H ll h => ?_)
                refine lv_lstore_n (lv' := [(1, .long (31 * (hx31 (hmX (σ 0 1 0) (σ 0 2 0) (σ 1 0 0) (σ 3) (lm 3) n kd) (hx31 (σ 1 1) (dsX (σ 3) (lm 3) n kd sn) pn) k) + ((hmX ((σ 0 1 0)) ((σ 0 2 0)) ((σ 1 0 0)) (σ 3) (lm 3) n kd k).toInt64))), (3, .int (nI k)), (0, .ref (ad 0 0))]) hx hb dX8_digest_173 rfl hl (by decide) rfl (fun ls hl => ?_)
                refine ninc (lv' := [(3, .int (nI (k + 1))), (1, .long (31 * (hx31 (hmX (σ 0 1 0) (σ 0 2 0) (σ 1 0 0) (σ 3) (lm 3) n kd) (hx31 (σ 1 1) (dsX (σ 3) (lm 3) n kd sn) pn) k) + ((hmX ((σ 0 1 0)) ((σ 0 2 0)) ((σ 1 0 0)) (σ 3) (lm 3) n kd k).toInt64))), (0, .ref (ad 0 0))]) hx hb k 1 dX8_digest_174 hl (k := 1) rfl (by decide) rfl (fun ls hl => ?_)
                refine lv_goto (tgt := 157) hx hb dX8_digest_177 (by decide) ?_
                exact ih157 _ (by omega) (k + 1) _ _ _ rfl (by omega) h (lv_sub hl [0, 1, 2] rfl)
            exact L157_2 _ 0 _ _ _ rfl (by omega) h (lv_sub hl [0, 1, 2] rfl)
          · refine lv_lload_n hx hb dX8_digest_134 rfl (lv_at hl 1 rfl) ?_
            refine lv_aload_n hx hb dX8_digest_135 rfl (lv_at hl 2 rfl) ?_
            refine gget C h igX8 0 rfl rfl 0 (by decide) q201 rfl rfl dX8_digest_136 ?_
            refine gget C h igX4 1 rfl rfl 0 (by decide) q90 rfl rfl dX8_digest_139 ?_
            refine lv_iload_n hx hb dX8_digest_142 rfl (lv_at hl 0 rfl) ?_
            refine gild C h 2 rfl (j := i) (by omega) (by decide) dX8_digest_143 ?_
            refine gas (z := σ 1 1 i) rfl ?_
            refine lv_i2l (v := (σ 1 1 i).toInt64) hx hb dX8_digest_144 rfl ?_
            refine gcallSl C h (kX8_mixed l D ct (hx31 (σ 1 1) (dsX (σ 3) (lm 3) n kd sn) i) ((σ 1 1 i).toInt64)) (va_cwS 2 C.2.2.2.2 (gInS q681 q682 q57 q683) rfl rfl rfl hdX8_mixed ⟨Nat.le_of_ble_eq_true rfl, Nat.le_of_ble_eq_true rfl⟩) rfl hl.1 rfl (Nat.le_of_ble_eq_true rfl) dX8_digest_145 ⟨Nat.zero_le _, Nat.zero_le _⟩ (fun H ll h => ?_)
            refine lv_lstore_n (lv' := [(1, .long (31 * (hx31 (σ 1 1) (dsX (σ 3) (lm 3) n kd sn) i) + ((σ 1 1 i).toInt64))), (3, .int (nI i)), (0, .ref (ad 0 0))]) hx hb dX8_digest_148 rfl hl (by decide) rfl (fun ls hl => ?_)
            refine ninc (lv' := [(3, .int (nI (i + 1))), (1, .long (31 * (hx31 (σ 1 1) (dsX (σ 3) (lm 3) n kd sn) i) + ((σ 1 1 i).toInt64))), (0, .ref (ad 0 0))]) hx hb i 1 dX8_digest_149 hl (k := 1) rfl (by decide) rfl (fun ls hl => ?_)
            refine lv_goto (tgt := 123) hx hb dX8_digest_152 (by decide) ?_
            exact ih123 _ (by omega) (i + 1) _ _ _ rfl (by omega) h (lv_sub hl [0, 1, 2] rfl)
        exact L123_1 _ 0 _ _ _ rfl (by omega) h (lv_sub hl [0, 1, 2] rfl)
      · refine lv_iconst (v := 0) hx hb dX8_digest_79 (by decide) ?_
        refine lv_istore_n (lv' := [(3, .int 0), (1, .long (dmX (σ 3) (lm 3) n kd sn n)), (0, .ref (ad 0 0))]) hx hb dX8_digest_80 rfl hl (by decide) rfl (fun ls hl => ?_)
        have L81_3 : ∀ (kk : Nat) (q : Nat) (g5 : Nat → Nat → Int32) (L5 : Nat → Nat → Int32) (g05 : Nat → Int32) (g03 : Nat → Int32) (g04 : Nat → Int32) (H : Heap) (ll : List Loc) (ls : Array Slot), 3 - q = kk → (q ≤ 3) → gW D ct zA zs H ll (wX ad ct (va_up (va_up σ 0 (va_up (va_up (va_up (σ 0) 5 g05) 3 g03) 4 g04)) 5 g5) (va_up lm 5 L5) τ) → lv_has ls 8 [(3, .int (nI q)), (1, .long (dqX (σ 3) (lm 3) n kd (dmX (σ 3) (lm 3) n kd sn n) q)), (0, .ref (ad 0 0))] → W zp l ze rmX8_digest zs zm za zb zt zc H ll 0 0 zQ (F0 zm 81 ls []) := by
          intro kk81
          induction kk81 using Nat.strongRecOn with
          | _ kk81 ih81 =>
          intro q g5 L5 g05 g03 g04 H ll ls hk81 hq h hl
          refine lv_iload_n hx hb dX8_digest_81 rfl (lv_at hl 0 rfl) ?_
          refine lv_iconst (v := 3) hx hb dX8_digest_82 (by decide) ?_
          refine nb_ge hx hb q 3 (by omega) (by omega) (tgt := 99) dX8_digest_83 (by decide) (fun c_83 => ?_) (fun c_83 => ?_)
          · have e3 : q = 3 := by omega
            rw [e3] at hl
            refine lv_lload_n hx hb dX8_digest_99 rfl (lv_at hl 1 rfl) ?_
            refine lv_aload_n hx hb dX8_digest_100 rfl (lv_at hl 2 rfl) ?_
            refine lv_iconst (v := 0) hx hb dX8_digest_101 (by decide) ?_
            refine gcallVi C h hX (stX_ok _) (kX8_settle l D ct ad (va_up (va_up σ 0 (va_up (va_up (va_up (σ 0) 5 g05) 3 g03) 4 g04)) 5 g5) (va_up lm 5 L5) τ dt n kd hok 0 (by omega) (by omega)) (cwV 1 C.2.2.2.2 (gInV q693 q608 q609 q57 q610) rfl rfl rfl hvX8_settle ⟨Nat.le_of_ble_eq_true rfl, Nat.le_of_ble_eq_true rfl⟩) 0 rfl rfl rfl rfl hl.1 rfl (Nat.le_of_ble_eq_true rfl) dX8_digest_102 ⟨Nat.zero_le _, Nat.zero_le _⟩ (fun r9 u9 H ll hw h => ?_)
            obtain ⟨hw, L5_c5, t9_c5, rfl⟩ := hw
            have hw : r9 = nI (stX1 (hcX (σ 3) (lm 3) n kd) 0) := hw
            subst hw
            have h : gW D ct zA zs _ _ (wX ad ct (va_up (va_up σ 0 (va_up (va_up (va_up (σ 0) 5 g05) 3 g03) 4 g04)) 5 (σ 3)) (va_up lm 5 L5_c5) t9_c5) := h
            refine lv_i2l (v := (nI (stX1 (hcX (σ 3) (lm 3) n kd) 0)).toInt64) hx hb dX8_digest_105 rfl ?_
            refine gcallSl C h (kX8_mixed l D ct (dqX (σ 3) (lm 3) n kd (dmX (σ 3) (lm 3) n kd sn n) 3) ((nI (stX1 (hcX (σ 3) (lm 3) n kd) 0)).toInt64)) (va_cwS 2 C.2.2.2.2 (gInS q681 q682 q57 q683) rfl rfl rfl hdX8_mixed ⟨Nat.le_of_ble_eq_true rfl, Nat.le_of_ble_eq_true rfl⟩) rfl hl.1 rfl (Nat.le_of_ble_eq_true rfl) dX8_digest_106 ⟨Nat.zero_le _, Nat.zero_le _⟩ (fun H ll h => ?_)
            refine lv_lstore_n (lv' := [(1, .long (31 * (dqX (σ 3) (lm 3) n kd (dmX (σ 3) (lm 3) n kd sn n) 3) + ((nI (stX1 (hcX (σ 3) (lm 3) n kd) 0)).toInt64))), (3, .int (nI 3)), (0, .ref (ad 0 0))]) hx hb dX8_digest_109 rfl hl (by decide) rfl (fun ls hl => ?_)
            refine lv_lload_n hx hb dX8_digest_110 rfl (lv_at hl 0 rfl) ?_
            refine lv_aload_n hx hb dX8_digest_111 rfl (lv_at hl 2 rfl) ?_
            refine lv_iconst (v := 1) hx hb dX8_digest_112 (by decide) ?_
            refine gcallVi C h hX (stX_ok _) (kX8_settle l D ct ad (va_up (va_up σ 0 (va_up (va_up (va_up (σ 0) 5 g05) 3 g03) 4 g04)) 5 (σ 3)) (va_up lm 5 L5_c5) t9_c5 dt n kd hok 1 (by omega) (by omega)) (cwV 1 C.2.2.2.2 (gInV q693 q608 q609 q57 q610) rfl rfl rfl hvX8_settle ⟨Nat.le_of_ble_eq_true rfl, Nat.le_of_ble_eq_true rfl⟩) 0 rfl rfl rfl rfl hl.1 rfl (Nat.le_of_ble_eq_true rfl) dX8_digest_113 ⟨Nat.zero_le _, Nat.zero_le _⟩ (fun r9 u9 H ll hw h => ?_)
            obtain ⟨hw, L5_c6, t9_c6, rfl⟩ := hw
            have hw : r9 = nI (stX1 (hcX (σ 3) (lm 3) n kd) 1) := hw
            subst hw
            have h : gW D ct zA zs _ _ (wX ad ct (va_up (va_up σ 0 (va_up (va_up (va_up (σ 0) 5 g05) 3 g03) 4 g04)) 5 (σ 3)) (va_up lm 5 L5_c6) t9_c6) := h
            refine lv_i2l (v := (nI (stX1 (hcX (σ 3) (lm 3) n kd) 1)).toInt64) hx hb dX8_digest_116 rfl ?_
            refine gcallSl C h (kX8_mixed l D ct (31 * (dqX (σ 3) (lm 3) n kd (dmX (σ 3) (lm 3) n kd sn n) 3) + ((nI (stX1 (hcX (σ 3) (lm 3) n kd) 0)).toInt64)) ((nI (stX1 (hcX (σ 3) (lm 3) n kd) 1)).toInt64)) (va_cwS 2 C.2.2.2.2 (gInS q681 q682 q57 q683) rfl rfl rfl hdX8_mixed ⟨Nat.le_of_ble_eq_true rfl, Nat.le_of_ble_eq_true rfl⟩) rfl hl.1 rfl (Nat.le_of_ble_eq_true rfl) dX8_digest_117 ⟨Nat.zero_le _, Nat.zero_le _⟩ (fun H ll h => ?_)
            refine lv_lstore_n (lv' := [(1, .long (31 * (31 * (dqX (σ 3) (lm 3) n kd (dmX (σ 3) (lm 3) n kd sn n) 3) + ((nI (stX1 (hcX (σ 3) (lm 3) n kd) 0)).toInt64)) + ((nI (stX1 (hcX (σ 3) (lm 3) n kd) 1)).toInt64))), (3, .int (nI 3)), (0, .ref (ad 0 0))]) hx hb dX8_digest_120 rfl hl (by decide) rfl (fun ls hl => ?_)
            have hl : lv_has ls 8 [(1, .long (dsX (σ 3) (lm 3) n kd sn)), (3, .int (nI 3)), (0, .ref (ad 0 0))] := by have e9 : (31 * (31 * (dqX (σ 3) (lm 3) n kd (dmX (σ 3) (lm 3) n kd sn n) 3) + ((nI (stX1 (hcX (σ 3) (lm 3) n kd) 0)).toInt64)) + ((nI (stX1 (hcX (σ 3) (lm 3) n kd) 1)).toInt64) : Int64) = dsX (σ 3) (lm 3) n kd sn := (if_pos (show 0 < n by omega)).symm; rw [← e9]; exact hl
            refine lv_iconst (v := 0) hx hb dX8_digest_121 (by decide) ?_
            refine lv_istore_n (lv' := [(3, .int 0), (1, .long (dsX (σ 3) (lm 3) n kd sn)), (0, .ref (ad 0 0))]) hx hb dX8_digest_122 rfl hl (by decide) rfl (fun ls hl => ?_)
            have L123_6 : ∀ (kk : Nat) (i : Nat) (H : Heap) (ll : List Loc) (ls : Array Slot), pn - i = kk → (i ≤ pn) → gW D ct zA zs H ll (wX ad ct (va_up (va_up σ 0 (va_up (va_up (va_up (σ 0) 5 g05) 3 g03) 4 g04)) 5 (σ 3)) (va_up lm 5 L5_c6) t9_c6) → lv_has ls 8 [(3, .int (nI i)), (1, .long (hx31 (σ 1 1) (dsX (σ 3) (lm 3) n kd sn) i)), (0, .ref (ad 0 0))] → W zp l ze rmX8_digest zs zm za zb zt zc H ll 0 0 zQ (F0 zm 123 ls []) := by
              intro kk123
              induction kk123 using Nat.strongRecOn with
              | _ kk123 ih123 =>
              intro i H ll ls hk123 hi h hl
              refine lv_iload_n hx hb dX8_digest_123 rfl (lv_at hl 0 rfl) ?_
              refine lv_aload_n hx hb dX8_digest_124 rfl (lv_at hl 2 rfl) ?_
              refine gget C h igX8 0 rfl rfl 0 (by decide) q201 rfl rfl dX8_digest_125 ?_
              refine gget C h igX4 1 rfl rfl 1 (by decide) q92 rfl rfl dX8_digest_128 ?_
              refine gas hpn ?_
              refine nb_ge hx hb i pn (by omega) (by omega) (tgt := 155) dX8_digest_131 (by decide) (fun c_131 => ?_) (fun c_131 => ?_)
              · have epn : i = pn := by omega
                rw [epn] at hl
                refine lv_iconst (v := 0) hx hb dX8_digest_155 (by decide) ?_
                refine lv_istore_n (lv' := [(3, .int 0), (1, .long (hx31 (σ 1 1) (dsX (σ 3) (lm 3) n kd sn) pn)), (0, .ref (ad 0 0))]) hx hb dX8_digest_156 rfl hl (by decide) rfl (fun ls hl => ?_)
                have L157_7 : ∀ (kk : Nat) (k : Nat) (H : Heap) (ll : List Loc) (ls : Array Slot), 12 - k = kk → (k ≤ 12) → gW D ct zA zs H ll (wX ad ct (va_up (va_up σ 0 (va_up (va_up (va_up (σ 0) 5 g05) 3 g03) 4 g04)) 5 (σ 3)) (va_up lm 5 L5_c6) t9_c6) → lv_has ls 8 [(3, .int (nI k)), (1, .long (hx31 (hmX (σ 0 1 0) (σ 0 2 0) (σ 1 0 0) (σ 3) (lm 3) n kd) (hx31 (σ 1 1) (dsX (σ 3) (lm 3) n kd sn) pn) k)), (0, .ref (ad 0 0))] → W zp l ze rmX8_digest zs zm za zb zt zc H ll 0 0 zQ (F0 zm 157 ls []) := by
                  intro kk157
                  induction kk157 using Nat.strongRecOn with
                  | _ kk157 ih157 =>
                  intro k H ll ls hk157 hk h hl
                  refine lv_iload_n hx hb dX8_digest_157 rfl (lv_at hl 0 rfl) ?_
                  refine lv_bipush (v := 11) hx hb dX8_digest_158 (by decide) ?_
                  refine nb_gt hx hb k 11 (by omega) (by omega) (tgt := 180) dX8_digest_160 (by decide) (fun c_160 => ?_) (fun c_160 => ?_)
                  · refine lv_lload_n hx hb dX8_digest_180 rfl (lv_at hl 1 rfl) ?_
                    have h : gW D ct zA zs _ _ ((fun u : (Nat → Nat → Nat → Int32) × (Nat → Nat → Nat → Int32) × (Nat → Int64) => wX ad ct u.1 u.2.1 u.2.2) ((va_up (va_up σ 0 (va_up (va_up (va_up (σ 0) 3 g03) 4 g04) 5 g05)) 5 (σ 3), va_up lm 5 L5_c6, t9_c6))) := h
                    exact hret _ ((va_up (va_up σ 0 (va_up (va_up (va_up (σ 0) 3 g03) 4 g04) 5 g05)) 5 (σ 3), va_up lm 5 L5_c6, t9_c6)) _ _ _ _ h ⟨(by rw [show k = 12 by omega]; rfl), g03, g04, g05, (σ 3), L5_c6, t9_c6, rfl⟩ dX8_digest_181
                  · refine lv_lload_n hx hb dX8_digest_163 rfl (lv_at hl 1 rfl) ?_
                    refine lv_aload_n hx hb dX8_digest_164 rfl (lv_at hl 2 rfl) ?_
                    refine lv_iload_n hx hb dX8_digest_165 rfl (lv_at hl 0 rfl) ?_
                    refine gcallVi C h trivial gNo_ok (kX8_count l D ct ad (va_up (va_up σ 0 (va_up (va_up (va_up (σ 0) 5 g05) 3 g03) 4 g04)) 5 (σ 3)) (va_up lm 5 L5_c6) t9_c6 n kd hok pn hpn hpn50 sn hsn hsn6 k (by omega)) (cwV 1 C.2.2.2.2 (gInV q694 q663 q664 q57 q665) rfl rfl rfl hvX8_count ⟨Nat.le_of_ble_eq_true rfl, Nat.le_of_ble_eq_true rfl⟩) 0 rfl rfl rfl rfl hl.1 rfl (Nat.le_of_ble_eq_true rfl) dX8_digest_166 ⟨Nat.zero_le _, Nat.zero_le _⟩ (fun r9 u9 H ll hw h => ?_)
                    have hw : r9 = hmX ((σ 0 1 0)) ((σ 0 2 0)) ((σ 1 0 0)) (σ 3) (lm 3) n kd k := hw
                    subst hw
                    have h : gW D ct zA zs _ _ (wX ad ct (va_up (va_up σ 0 (va_up (va_up (va_up (σ 0) 5 g05) 3 g03) 4 g04)) 5 (σ 3)) (va_up lm 5 L5_c6) t9_c6) := h
                    refine lv_i2l (v := (hmX ((σ 0 1 0)) ((σ 0 2 0)) ((σ 1 0 0)) (σ 3) (lm 3) n kd k).toInt64) hx hb dX8_digest_169 rfl ?_
                    refine gcallSl C h (kX8_mixed l D ct (hx31 (hmX (σ 0 1 0) (σ 0 2 0) (σ 1 0 0) (σ 3) (lm 3) n kd) (hx31 (σ 1 1) (dsX (σ 3) (lm 3) n kd sn) pn) k) ((hmX ((σ 0 1 0)) ((σ 0 2 0)) ((σ 1 0 0)) (σ 3) (lm 3) n kd k).toInt64)) (va_cwS 2 C.2.2.2.2 (gInS q681 q682 q57 q683) rfl rfl rfl hdX8_mixed ⟨Nat.le_of_ble_eq_true rfl, Nat.le_of_ble_eq_true rfl⟩) rfl hl.1 rfl (Nat.le_of_ble_eq_true rfl) dX8_digest_170 ⟨Nat.zero_le _, Nat.zero_le _⟩ (fun H ll h => ?_)
                    refine lv_lstore_n (lv' := [(1, .long (31 * (hx31 (hmX (σ 0 1 0) (σ 0 2 0) (σ 1 0 0) (σ 3) (lm 3) n kd) (hx31 (σ 1 1) (dsX (σ 3) (lm 3) n kd sn) pn) k) + ((hmX ((σ 0 1 0)) ((σ 0 2 0)) ((σ 1 0 0)) (σ 3) (lm 3) n kd k).toInt64))), (3, .int (nI k)), (0, .ref (ad 0 0))]) hx hb dX8_digest_173 rfl hl (by decide) rfl (fun ls hl => ?_)
                    refine ninc (lv' := [(3, .int (nI (k + 1))), (1, .long (31 * (hx31 (hmX (σ 0 1 0) (σ 0 2 0) (σ 1 0 0) (σ 3) (lm 3) n kd) (hx31 (σ 1 1) (dsX (σ 3) (lm 3) n kd sn) pn) k) + ((hmX ((σ 0 1 0)) ((σ 0 2 0)) ((σ 1 0 0)) (σ 3) (lm 3) n kd k).toInt64))), (0, .ref (ad 0 0))]) hx hb k 1 dX8_digest_174 hl (k := 1) rfl (by decide) rfl (fun ls hl => ?_)
                    refine lv_goto (tgt := 157) hx hb dX8_digest_177 (by decide) ?_
                    exact ih157 _ (by omega) (k + 1) _ _ _ rfl (by omega) h (lv_sub hl [0, 1, 2] rfl)
                exact L157_7 _ 0 _ _ _ rfl (by omega) h (lv_sub hl [0, 1, 2] rfl)
              · refine lv_lload_n hx hb dX8_digest_134 rfl (lv_at hl 1 rfl) ?_
                refine lv_aload_n hx hb dX8_digest_135 rfl (lv_at hl 2 rfl) ?_
                refine gget C h igX8 0 rfl rfl 0 (by decide) q201 rfl rfl dX8_digest_136 ?_
                refine gget C h igX4 1 rfl rfl 0 (by decide) q90 rfl rfl dX8_digest_139 ?_
                refine lv_iload_n hx hb dX8_digest_142 rfl (lv_at hl 0 rfl) ?_
                refine gild C h 2 rfl (j := i) (by omega) (by decide) dX8_digest_143 ?_
                refine gas (z := σ 1 1 i) rfl ?_
                refine lv_i2l (v := (σ 1 1 i).toInt64) hx hb dX8_digest_144 rfl ?_
                refine gcallSl C h (kX8_mixed l D ct (hx31 (σ 1 1) (dsX (σ 3) (lm 3) n kd sn) i) ((σ 1 1 i).toInt64)) (va_cwS 2 C.2.2.2.2 (gInS q681 q682 q57 q683) rfl rfl rfl hdX8_mixed ⟨Nat.le_of_ble_eq_true rfl, Nat.le_of_ble_eq_true rfl⟩) rfl hl.1 rfl (Nat.le_of_ble_eq_true rfl) dX8_digest_145 ⟨Nat.zero_le _, Nat.zero_le _⟩ (fun H ll h => ?_)
                refine lv_lstore_n (lv' := [(1, .long (31 * (hx31 (σ 1 1) (dsX (σ 3) (lm 3) n kd sn) i) + ((σ 1 1 i).toInt64))), (3, .int (nI i)), (0, .ref (ad 0 0))]) hx hb dX8_digest_148 rfl hl (by decide) rfl (fun ls hl => ?_)
                refine ninc (lv' := [(3, .int (nI (i + 1))), (1, .long (31 * (hx31 (σ 1 1) (dsX (σ 3) (lm 3) n kd sn) i) + ((σ 1 1 i).toInt64))), (0, .ref (ad 0 0))]) hx hb i 1 dX8_digest_149 hl (k := 1) rfl (by decide) rfl (fun ls hl => ?_)
                refine lv_goto (tgt := 123) hx hb dX8_digest_152 (by decide) ?_
                exact ih123 _ (by omega) (i + 1) _ _ _ rfl (by omega) h (lv_sub hl [0, 1, 2] rfl)
            exact L123_6 _ 0 _ _ _ rfl (by omega) h (lv_sub hl [0, 1, 2] rfl)
          · refine lv_aload_n hx hb dX8_digest_86 rfl (lv_at hl 2 rfl) ?_
            refine lv_lload_n hx hb dX8_digest_87 rfl (lv_at hl 1 rfl) ?_
            refine lv_iload_n hx hb dX8_digest_88 rfl (lv_at hl 0 rfl) ?_
            refine gcallVl C h hX (stX_ok _) (kX8_mixedQuestion l D ct ad (va_up (va_up σ 0 (va_up (va_up (va_up (σ 0) 5 g05) 3 g03) 4 g04)) 5 g5) (va_up lm 5 L5) τ dt n kd hok (dqX (σ 3) (lm 3) n kd (dmX (σ 3) (lm 3) n kd sn n) q) q (by omega) (by omega)) (cwV 2 C.2.2.2.2 (gInV q685 q687 q18 q57 q688) rfl rfl rfl hvX8_mixedQuestion ⟨Nat.le_of_ble_eq_true rfl, Nat.le_of_ble_eq_true rfl⟩) 0 rfl rfl rfl rfl hl.1 rfl (Nat.le_of_ble_eq_true rfl) dX8_digest_89 ⟨Nat.zero_le _, Nat.zero_le _⟩ (fun r9 u9 H ll hw h => ?_)
            obtain ⟨hw, g0_3_c9, g0_4_c9, g5_c9, L5_c9, rfl⟩ := hw
            have hw : r9 = mqX (σ 3) (lm 3) n kd q (dqX (σ 3) (lm 3) n kd (dmX (σ 3) (lm 3) n kd sn n) q) := hw
            subst hw
            have h : gW D ct zA zs _ _ (wX ad ct (va_up (va_up σ 0 (va_up (va_up (va_up (σ 0) 5 g05) 3 g0_3_c9) 4 g0_4_c9)) 5 g5_c9) (va_up lm 5 L5_c9) τ) := h
            refine lv_lstore_n (lv' := [(1, .long (mqX (σ 3) (lm 3) n kd q (dqX (σ 3) (lm 3) n kd (dmX (σ 3) (lm 3) n kd sn n) q))), (3, .int (nI q)), (0, .ref (ad 0 0))]) hx hb dX8_digest_92 rfl hl (by decide) rfl (fun ls hl => ?_)
            refine ninc (lv' := [(3, .int (nI (q + 1))), (1, .long (mqX (σ 3) (lm 3) n kd q (dqX (σ 3) (lm 3) n kd (dmX (σ 3) (lm 3) n kd sn n) q))), (0, .ref (ad 0 0))]) hx hb q 1 dX8_digest_93 hl (k := 1) rfl (by decide) rfl (fun ls hl => ?_)
            refine lv_goto (tgt := 81) hx hb dX8_digest_96 (by decide) ?_
            exact ih81 _ (by omega) (q + 1) g5_c9 L5_c9 g05 g0_3_c9 g0_4_c9 _ _ _ rfl (by omega) h (lv_sub hl [0, 1, 2] rfl)
        exact L81_3 _ 0 g5 L5 g05 (σ 0 3) (σ 0 4) _ _ _ rfl (by omega) h (lv_sub hl [0, 1, 2] rfl)
    · refine va_gets C.1 C.2.1 (stX_dig hX) h.2.2.2.1 C.2.2.2.1 (C.2.2.2.2 _ (gWs_in q678)) (fun _ h9 => h9) dX8_digest_17 ?_
      refine lv_astore (lv' := [(4, .ref (dt 1)), (3, .int (nI m)), (1, .long (dmX (σ 3) (lm 3) n kd sn m)), (0, .ref (ad 0 0))]) hx hb dX8_digest_20 hl (by decide) rfl (fun ls hl => ?_)
      refine lv_aload hx hb dX8_digest_22 (lv_at hl 0 rfl) ?_
      refine va_tlen C.1 C.2.1 (stX_digT hX) h.2.2.2.1 (v := nI 14) rfl dX8_digest_24 ?_
      refine lv_istore (lv' := [(5, .int (nI 14)), (4, .ref (dt 1)), (3, .int (nI m)), (1, .long (dmX (σ 3) (lm 3) n kd sn m)), (0, .ref (ad 0 0))]) hx hb dX8_digest_25 hl (by decide) rfl (fun ls hl => ?_)
      refine lv_iconst (v := 0) hx hb dX8_digest_27 (by decide) ?_
      refine lv_istore (lv' := [(6, .int 0), (5, .int (nI 14)), (4, .ref (dt 1)), (3, .int (nI m)), (1, .long (dmX (σ 3) (lm 3) n kd sn m)), (0, .ref (ad 0 0))]) hx hb dX8_digest_28 hl (by decide) rfl (fun ls hl => ?_)
      have L30_9 : ∀ (kk : Nat) (i : Nat) (g5 : Nat → Nat → Int32) (L5 : Nat → Nat → Int32) (g05 : Nat → Int32) (H : Heap) (ll : List Loc) (ls : Array Slot), 14 - i = kk → (i ≤ 14) → gW D ct zA zs H ll (wX ad ct (va_up (va_up σ 0 (va_up (σ 0) 5 g05)) 5 g5) (va_up lm 5 L5) τ) → lv_has ls 8 [(6, .int (nI i)), (5, .int (nI 14)), (4, .ref (dt 1)), (3, .int (nI m)), (1, .long (hx31 (fun i => mnX (σ 3) (lm 3) n kd sn m (digN i)) (dmX (σ 3) (lm 3) n kd sn m) i)), (0, .ref (ad 0 0))] → W zp l ze rmX8_digest zs zm za zb zt zc H ll 0 0 zQ (F0 zm 30 ls []) := by
        intro kk30
        induction kk30 using Nat.strongRecOn with
        | _ kk30 ih30 =>
        intro i g5 L5 g05 H ll ls hk30 hi h hl
        refine lv_iload hx hb dX8_digest_30 (lv_at hl 0 rfl) ?_
        refine lv_iload hx hb dX8_digest_32 (lv_at hl 1 rfl) ?_
        refine nb_ge hx hb i 14 (by omega) (by omega) (tgt := 63) dX8_digest_34 (by decide) (fun c_34 => ?_) (fun c_34 => ?_)
        · have e14 : i = 14 := by omega
          rw [e14] at hl
          refine ninc (lv' := [(3, .int (nI (m + 1))), (6, .int (nI 14)), (5, .int (nI 14)), (4, .ref (dt 1)), (1, .long (hx31 (fun i => mnX (σ 3) (lm 3) n kd sn m (digN i)) (dmX (σ 3) (lm 3) n kd sn m) 14)), (0, .ref (ad 0 0))]) hx hb m 1 dX8_digest_63 hl (k := 3) rfl (by decide) rfl (fun ls hl => ?_)
          refine lv_goto (tgt := 6) hx hb dX8_digest_66 (by decide) ?_
          exact ih6 _ (by omega) (m + 1) g5 L5 g05 _ _ _ rfl (by omega) h (lv_sub hl [0, 4, 5] rfl)
        · refine lv_aload hx hb dX8_digest_37 (lv_at hl 2 rfl) ?_
          refine lv_iload hx hb dX8_digest_39 (lv_at hl 0 rfl) ?_
          refine va_ti C.1 C.2.1 (stX_digT hX) h.2.2.2.1 (vp_in_nI (show i < 14 from (by omega)) (by decide)) (v := .int (digA i)) (by rw [nI_clamp (by omega)]) dX8_digest_41 ?_
          refine gas (digN_ok i (by omega)).1 ?_
          refine lv_istore (lv' := [(7, .int (nI (digN i))), (6, .int (nI i)), (5, .int (nI 14)), (4, .ref (dt 1)), (3, .int (nI m)), (1, .long (hx31 (fun i => mnX (σ 3) (lm 3) n kd sn m (digN i)) (dmX (σ 3) (lm 3) n kd sn m) i)), (0, .ref (ad 0 0))]) hx hb dX8_digest_42 hl (by decide) rfl (fun ls hl => ?_)
          have hdg := (digN_ok i (by omega)).2
          refine lv_lload_n hx hb dX8_digest_44 rfl (lv_at hl 5 rfl) ?_
          refine lv_aload_n hx hb dX8_digest_45 rfl (lv_at hl 6 rfl) ?_
          refine lv_iload_n hx hb dX8_digest_46 rfl (lv_at hl 4 rfl) ?_
          refine lv_iload hx hb dX8_digest_47 (lv_at hl 0 rfl) ?_
          refine gcallVi C h trivial gNo_ok (kX8_mussel l D ct ad (va_up (va_up σ 0 (va_up (σ 0) 5 g05)) 5 g5) (va_up lm 5 L5) τ n kd hok sn hsn hsn6 m (digN i) (by omega) (by omega)) (cwV 2 C.2.2.2.2 (gInV q680 q377 q378 q57 q379) rfl rfl rfl hvX8_mussel ⟨Nat.le_of_ble_eq_true rfl, Nat.le_of_ble_eq_true rfl⟩) 0 rfl rfl rfl rfl hl.1 rfl (Nat.le_of_ble_eq_true rfl) dX8_digest_49 ⟨Nat.zero_le _, Nat.zero_le _⟩ (fun r9 u9 H ll hw h => ?_)
          obtain ⟨hw, g5_c11, L5_c11, g0_5_c11, rfl⟩ := hw
          have hw : r9 = mnX (σ 3) (lm 3) n kd sn m (digN i) := hw
          subst hw
          have h : gW D ct zA zs _ _ (wX ad ct (va_up (va_up σ 0 (va_up (σ 0) 5 g0_5_c11)) 5 g5_c11) (va_up lm 5 L5_c11) τ) := h
          refine lv_i2l (v := (mnX (σ 3) (lm 3) n kd sn m (digN i)).toInt64) hx hb dX8_digest_52 rfl ?_
          refine gcallSl C h (kX8_mixed l D ct (hx31 (fun i => mnX (σ 3) (lm 3) n kd sn m (digN i)) (dmX (σ 3) (lm 3) n kd sn m) i) ((mnX (σ 3) (lm 3) n kd sn m (digN i)).toInt64)) (va_cwS 2 C.2.2.2.2 (gInS q681 q682 q57 q683) rfl rfl rfl hdX8_mixed ⟨Nat.le_of_ble_eq_true rfl, Nat.le_of_ble_eq_true rfl⟩) rfl hl.1 rfl (Nat.le_of_ble_eq_true rfl) dX8_digest_53 ⟨Nat.zero_le _, Nat.zero_le _⟩ (fun H ll h => ?_)
          refine lv_lstore_n (lv' := [(1, .long (31 * (hx31 (fun i => mnX (σ 3) (lm 3) n kd sn m (digN i)) (dmX (σ 3) (lm 3) n kd sn m) i) + ((mnX (σ 3) (lm 3) n kd sn m (digN i)).toInt64))), (7, .int (nI (digN i))), (6, .int (nI i)), (5, .int (nI 14)), (4, .ref (dt 1)), (3, .int (nI m)), (0, .ref (ad 0 0))]) hx hb dX8_digest_56 rfl hl (by decide) rfl (fun ls hl => ?_)
          refine ninc (lv' := [(6, .int (nI (i + 1))), (1, .long (31 * (hx31 (fun i => mnX (σ 3) (lm 3) n kd sn m (digN i)) (dmX (σ 3) (lm 3) n kd sn m) i) + ((mnX (σ 3) (lm 3) n kd sn m (digN i)).toInt64))), (7, .int (nI (digN i))), (5, .int (nI 14)), (4, .ref (dt 1)), (3, .int (nI m)), (0, .ref (ad 0 0))]) hx hb i 1 dX8_digest_57 hl (k := 2) rfl (by decide) rfl (fun ls hl => ?_)
          refine lv_goto (tgt := 30) hx hb dX8_digest_60 (by decide) ?_
          exact ih30 _ (by omega) (i + 1) g5_c11 L5_c11 g0_5_c11 _ _ _ rfl (by omega) h (lv_sub hl [0, 3, 4, 5, 1, 6] rfl)
      exact L30_9 _ 0 g5 L5 g05 _ _ _ rfl (by omega) h (lv_sub hl [0, 1, 2, 3, 4, 5] rfl)
  exact L6_0 _ 0 (σ 5) (lm 5) (σ 0 5) _ _ _ rfl (by omega) h (lv_sub hl [0, 1, 2] rfl)
