def ssX (P : Nat → Int32) (s k : Nat) : Int32 := bx_sum (fun m => if s.testBit m = true then P m else 0) k
/-- a pull, or only what pulls for -/
def pfX (of : Bool) (S L : Nat → Nat → Int32) (n : Nat) (kd : Nat → Nat) (q m : Nat) : Int32 := if of = true ∧ plX S L n kd q m < 0 then 0 else plX S L n kd q m
theorem bx_cong {f g : Nat → Int32} : ∀ {n : Nat}, (∀ k, k < n → f k = g k) → bx_sum f n = bx_sum g n
  | 0, _ => rfl
  | n + 1, h => by show bx_sum f n + f n = bx_sum g n + g n; rw [bx_cong (fun k hk => h k (by omega)), h n (by omega)]
theorem ss_lo {P : Nat → Int32} {s m : Nat} (h : s < 2 ^ m) : ssX P s (m + 1) = ssX P s m := by
  show ssX P s m + (if s.testBit m = true then P m else 0) = _
  rw [Nat.testBit_lt_two_pow h, if_neg (by decide)]; exact Int32.add_zero _
theorem ss_hi {P : Nat → Int32} {s m : Nat} (h : s < 2 ^ m) : ssX P (2 ^ m + s) (m + 1) = ssX P s m + P m := by
  show bx_sum _ m + (if (2 ^ m + s).testBit m = true then P m else 0) = _
  rw [tb_hi h, if_pos rfl]
  congr 1
  exact bx_cong (fun k hk => by rw [tb_lo hk])
theorem fill_step {P g : Nat → Int32} {m k : Nat} (hk : k < 2 ^ m) (hg : ∀ s, s < 2 ^ m + k → g s = ssX P s (m + 1)) : ∀ s, s < 2 ^ m + (k + 1) → upd g (2 ^ m + k) (g k + P m) s = ssX P s (m + 1) := by
  intro s hs
  by_cases e : s = 2 ^ m + k
  · subst e; rw [pk_us, ss_hi hk, hg k (by omega), ss_lo hk]
  · rw [pk_un e]; exact hg s (by omega)
/-- SAY: orders in which one decides, of those with the set x ahead -/
def ordT (P : Nat → Int32) (m f x : Nat) : Nat := if x.testBit m = false ∧ ¬ ssX P (2 ^ f - 1) f < 2 * ssX P x f ∧ ¬ 2 * (ssX P x f + ssX P (2 ^ m) f) ≤ ssX P (2 ^ f - 1) f then fac (pcn x 8) * fac (f - 1 - pcn x 8) else 0
def ordX (P : Nat → Int32) (m f : Nat) : Nat := if f ≤ m then 0 else nsm (ordT P m f) (2 ^ f)
def parT (P : Nat → Int32) (t f x : Nat) : Nat := if ssX P x f ≤ 0 then 0 else (10 - t) ^ pcn x 8 * t ^ (f - pcn x 8)
def parX (P : Nat → Int32) (t f : Nat) : Nat := nsm (parT P t f) (2 ^ f)
theorem pcn_le_of_lt {x f : Nat} (hx : x < 2 ^ f) : ∀ k, pcn x k ≤ f
  | 0 => Nat.zero_le _
  | k + 1 => by
    have h := pcn_le_of_lt hx k
    have h1 := pcn_le x k
    simp only [pcn]
    by_cases hk : k < f
    · have := Nat.mod_lt (x / 2 ^ k) (show 2 > 0 by decide); omega
    · have : x / 2 ^ k = 0 := Nat.div_eq_of_lt (Nat.lt_of_lt_of_le hx (Nat.pow_le_pow_right (by decide) (by omega)))
      rw [this]; omega
theorem pcn_lt_of {x f m : Nat} (hx : x < 2 ^ f) (hf : f ≤ 8) (hm : m < f) (hb : x.testBit m = false) : pcn x 8 < f := by
  have h1 : ∀ i, i < 8 → x.testBit i = true → (2 ^ f - 1).testBit i = true := by
    intro i hi hx1
    have : i < f := by
      by_cases q : i < f
      · exact q
      · rw [Nat.testBit_lt_two_pow (Nat.lt_of_lt_of_le hx (Nat.pow_le_pow_right (by decide) (by omega)))] at hx1; simp at hx1
    rw [Nat.testBit_two_pow_sub_one]; simp [this]
  have h2 := pcn_lt (F := 2 ^ f - 1) (x := x) (m := m) (by rw [Nat.testBit_two_pow_sub_one]; simp [hm]) (by rw [hb]; decide) 8 (by omega) h1
  have h3 : 2 ^ f - 1 < 2 ^ f := Nat.sub_lt (Nat.two_pow_pos f) (by decide)
  have h4 := pcn_le_of_lt h3 8
  omega
theorem ordT_le {P : Nat → Int32} {m f x : Nat} (hx : x < 2 ^ f) (hf : f ≤ 8) (hm : m < f) : ordT P m f x ≤ 5040 := by
  unfold ordT
  split
  · rename_i h
    have h1 := pcn_lt_of hx hf hm h.1
    exact fac_le _ (by omega) _ (by omega) (by omega)
  · exact Nat.zero_le _
theorem nsm_bound2 {f : Nat → Nat} {b : Nat} : ∀ n, (∀ k, k < n → f k ≤ b) → nsm f n ≤ n * b
  | 0, _ => by simp [nsm]
  | n + 1, h => by have h1 := nsm_bound2 n (fun k hk => h k (by omega)); have h2 := h n (by omega); simp only [nsm, Nat.succ_mul]; omega
theorem ordX_lt {P : Nat → Int32} {m f : Nat} (hf : f ≤ 8) : ordX P m f < 2 ^ 31 := by
  unfold ordX
  split
  · decide
  · rename_i h
    have h1 := nsm_bound2 (f := ordT P m f) (b := 5040) (2 ^ f) (fun k hk => ordT_le hk hf (by omega))
    have h2 := p2le hf
    have h3 : 2 ^ f * 5040 ≤ 256 * 5040 := Nat.mul_le_mul_right _ h2
    omega
/-- how many sets below i, of k, have it carried -/
def ckX (P : Nat → Int32) (f k : Nat) : Nat → Nat
  | 0 => 0
  | i + 1 => ckX P f k i + (if ssX P i f ≤ 0 then 0 else if pcn i 8 = k then 1 else 0)
theorem ckX_le (P : Nat → Int32) (f k : Nat) : ∀ i, ckX P f k i ≤ i
  | 0 => Nat.le_refl 0
  | i + 1 => by have h := ckX_le P f k i; simp only [ckX]; split <;> (try split) <;> omega
theorem nsm_pt {w : Nat → Nat} {k : Nat} : ∀ n, nsm (fun j => (if k = j then 1 else 0) * w j) n = if k < n then w k else 0
  | 0 => rfl
  | n + 1 => by
    simp only [nsm]; rw [nsm_pt n]
    by_cases h : k = n
    · subst h; rw [if_neg (by omega), if_pos rfl, if_pos (by omega)]; omega
    · rw [if_neg h]
      by_cases h2 : k < n
      · rw [if_pos h2, if_pos (by omega)]; omega
      · rw [if_neg h2, if_neg (by omega)]; omega
theorem nsm_add (f g : Nat → Nat) : ∀ n, nsm (fun k => f k + g k) n = nsm f n + nsm g n
  | 0 => rfl
  | n + 1 => by simp only [nsm]; rw [nsm_add f g n]; omega
theorem par_sum {P : Nat → Int32} {t f : Nat} : ∀ i, i ≤ 2 ^ f → nsm (fun k => ckX P f k i * ((10 - t) ^ k * t ^ (f - k))) (f + 1) = nsm (parT P t f) i
  | 0, _ => by
    refine (nsm_cong (g := fun _ => 0) (fun k hk => by simp [ckX])).trans (nsm_z _)
  | i + 1, hi => by
    simp only [nsm]
    have ih := par_sum (P := P) (t := t) (f := f) i (by omega)
    simp only [nsm] at ih
    rw [← ih]
    have e : (fun k => ckX P f k (i + 1) * ((10 - t) ^ k * t ^ (f - k))) = fun k => ckX P f k i * ((10 - t) ^ k * t ^ (f - k)) + (if ssX P i f ≤ 0 then 0 else if pcn i 8 = k then 1 else 0) * ((10 - t) ^ k * t ^ (f - k)) := by
      funext k; simp only [ckX]; rw [Nat.add_mul]
    have e2 := nsm_add (fun k => ckX P f k i * ((10 - t) ^ k * t ^ (f - k))) (fun k => (if ssX P i f ≤ 0 then 0 else if pcn i 8 = k then 1 else 0) * ((10 - t) ^ k * t ^ (f - k))) (f + 1)
    have e3 : nsm (fun k => (if ssX P i f ≤ 0 then 0 else if pcn i 8 = k then 1 else 0) * ((10 - t) ^ k * t ^ (f - k))) (f + 1) = parT P t f i := by
      unfold parT
      by_cases h : ssX P i f ≤ 0
      · rw [if_pos h]; simp only [if_pos h]; refine (nsm_cong (g := fun _ => 0) (fun k hk => by simp)).trans (nsm_z _)
      · rw [if_neg h]; simp only [if_neg h]
        rw [nsm_pt (w := fun k => (10 - t) ^ k * t ^ (f - k)) (f + 1), if_pos (by have := pcn_le_of_lt (show i < 2 ^ f by omega) 8; omega)]
    have e4 : nsm (fun k => ckX P f k (i + 1) * ((10 - t) ^ k * t ^ (f - k))) (f + 1) = nsm (fun k => ckX P f k i * ((10 - t) ^ k * t ^ (f - k))) (f + 1) + parT P t f i := by rw [e, e2, e3]
    simpa only [nsm] using e4
/-- what cannot happen and what can: ten to the number of those felt -/
theorem par_all {t f : Nat} (ht : t ≤ 10) : ∀ i, i ≤ f → f ≤ 8 → nsm (fun x => (10 - t) ^ pcn x i * t ^ (i - pcn x i)) (2 ^ i) = 10 ^ i
  | 0, _, _ => by simp [nsm, pcn]
  | i + 1, hi, hf => by
    have ih := par_all (t := t) (f := f) ht i (by omega) hf
    rw [Nat.pow_succ 2, Nat.mul_two, nsm_app]
    have e1 : nsm (fun x => (10 - t) ^ pcn x (i + 1) * t ^ (i + 1 - pcn x (i + 1))) (2 ^ i) = 10 ^ i * t := by
      rw [← ih, ← nsm_mul]
      apply nsm_cong
      intro x hx
      simp only [pcn]
      have h1 := pcn_le x i
      rw [Nat.div_eq_of_lt hx, Nat.zero_mod, Nat.add_zero, show i + 1 - pcn x i = (i - pcn x i) + 1 by omega, Nat.pow_succ, Nat.mul_assoc]
    have e2 : nsm (fun k => (10 - t) ^ pcn (2 ^ i + k) (i + 1) * t ^ (i + 1 - pcn (2 ^ i + k) (i + 1))) (2 ^ i) = 10 ^ i * (10 - t) := by
      rw [← ih, ← nsm_mul]
      apply nsm_cong
      intro x hx
      have h1 := pcn_le x i
      have h2 : ∀ j, j ≤ i → pcn (2 ^ i + x) j = pcn x j := by
        intro j
        induction j with
        | zero => intro _; rfl
        | succ j ihj =>
          intro hj
          simp only [pcn]
          rw [ihj (by omega)]
          have h3 := tb_lo (i := i) (j := j) (y := x) (by omega)
          have h4 := tb_div (2 ^ i + x) j
          have h5 := tb_div x j
          rw [h3] at h4
          have h6 := Nat.mod_lt ((2 ^ i + x) / 2 ^ j) (show 2 > 0 by decide)
          have h7 := Nat.mod_lt (x / 2 ^ j) (show 2 > 0 by decide)
          by_cases hb : x.testBit j = true
          · rw [h4.mp hb, h5.mp hb]
          · have a1 : ¬ (2 ^ i + x) / 2 ^ j % 2 = 1 := fun q => hb (h4.mpr q)
            have a2 : ¬ x / 2 ^ j % 2 = 1 := fun q => hb (h5.mpr q)
            omega
      have h3 : (2 ^ i + x) / 2 ^ i % 2 = 1 := (tb_div _ _).mp (tb_hi hx)
      simp only [pcn]
      rw [h2 i (Nat.le_refl i), h3, show i + 1 - (pcn x i + 1) = i - pcn x i by omega, Nat.pow_succ]
      rw [Nat.mul_assoc, Nat.mul_comm (10 - t), ← Nat.mul_assoc]
    rw [e1, e2, ← Nat.mul_add, show t + (10 - t) = 10 by omega, Nat.pow_succ]
theorem pcn_hi {x f : Nat} (hx : x < 2 ^ f) : ∀ d, pcn x (f + d) = pcn x f
  | 0 => rfl
  | d + 1 => by
    show pcn x (f + d) + x / 2 ^ (f + d) % 2 = _
    rw [pcn_hi hx d, Nat.div_eq_of_lt (Nat.lt_of_lt_of_le hx (Nat.pow_le_pow_right (by decide) (by omega)))]
    rfl
theorem parX_lt {P : Nat → Int32} {t f : Nat} (hf : f ≤ 8) (ht : t ≤ 10) : parX P t f < 2 ^ 31 := by
  have h1 : nsm (parT P t f) (2 ^ f) ≤ nsm (fun x => (10 - t) ^ pcn x f * t ^ (f - pcn x f)) (2 ^ f) := nsm_lem (fun x hx => by
    unfold parT
    split
    · exact Nat.zero_le _
    · have := pcn_hi hx (8 - f); rw [show f + (8 - f) = 8 by omega] at this; rw [this]; exact Nat.le_refl _)
  rw [par_all ht f (Nat.le_refl f) hf] at h1
  have h2 := p10 f hf
  unfold parX
  omega
theorem tbz {x m : Nat} (h : x / 2 ^ m &&& 1 = 0) : x.testBit m = false := by
  rw [and1] at h
  cases q : x.testBit m with
  | false => rfl
  | true => rw [tb_div] at q; omega
theorem tbn {x m : Nat} (h : ¬ x / 2 ^ m &&& 1 = 0) : x.testBit m = true := by
  rw [and1] at h
  have := Nat.mod_lt (x / 2 ^ m) (show 2 > 0 by decide)
  exact (tb_div x m).mpr (by omega)
set_option maxHeartbeats 1000000 in
set_option maxRecDepth 100000 in
theorem kX8_isQuestion (l : Launch) (D : va_G) (ct : Nat → ClassId) (ad : Nat → Nat → Nat) (σ lm : Nat → Nat → Nat → Int32) (τ : Nat → Int64) (n : Nat) (kd : Nat → Nat) (hok : ROK (σ 2) n kd) (x : Int32) : MI l yX8_isQuestion (gWs yX8_isQuestion cX8_isQuestion 2 (some .boolean)) rmX8_isQuestion D ct gNo [.ref (ad 0 0), .int x] (wX ad ct σ lm τ) (fun _ : Unit => (wX ad ct σ lm τ)) (fun r _ => r = (if 0 < n ∧ 0 ≤ x ∧ x < 3 then 1 else 0)) := by
  refine MI.ofZ RX8 rfl (by decide) (Nat.le_of_ble_eq_true rfl) ?_
  intro zp ze zs zm za zb zt zc zA ls zQ C h hX hl hret
  have hx := C.1
  have hb := C.2.1
  have hl : lv_has ls 2 [(0, .ref (ad 0 0)), (1, .int x)] := hl
  have hok0 := hok
  obtain ⟨hn, hn8, hkd⟩ := hok0
  refine lv_aload_n hx hb dX8_isQuestion_0 rfl (lv_at hl 0 rfl) ?_
  refine gget C h igX8 0 rfl rfl 1 (by decide) q202 rfl rfl dX8_isQuestion_1 ?_
  refine gget C h igX5 3 rfl rfl 2 (by decide) q144 rfl rfl dX8_isQuestion_4 ?_
  refine gas hn ?_
  refine nz_le hx hb n (by omega) (tgt := 23) dX8_isQuestion_7 (by decide) (fun c_7 => ?_) (fun c_7 => ?_)
  · refine lv_iconst (v := 0) hx hb dX8_isQuestion_23 (by decide) ?_
    exact hret _ () _ _ _ _ h (by first | exact (if_pos ⟨by omega, Int32.not_lt.mp c_11, Int32.not_le.mp c_16⟩).symm | exact (if_neg (fun q => absurd q.1 (by omega))).symm | exact (if_neg (fun q => Int32.not_lt.mpr q.2.1 c_11)).symm | exact (if_neg (fun q => Int32.not_le.mpr q.2.2 c_16)).symm) dX8_isQuestion_24 (by decide)
  · refine lv_iload_n hx hb dX8_isQuestion_10 rfl (lv_at hl 1 rfl) ?_
    refine lv_if_lt (tgt := 23) hx hb dX8_isQuestion_11 (by decide) (fun c_11 => ?_) (fun c_11 => ?_)
    · refine lv_iconst (v := 0) hx hb dX8_isQuestion_23 (by decide) ?_
      exact hret _ () _ _ _ _ h (by first | exact (if_pos ⟨by omega, Int32.not_lt.mp c_11, Int32.not_le.mp c_16⟩).symm | exact (if_neg (fun q => absurd q.1 (by omega))).symm | exact (if_neg (fun q => Int32.not_lt.mpr q.2.1 c_11)).symm | exact (if_neg (fun q => Int32.not_le.mpr q.2.2 c_16)).symm) dX8_isQuestion_24 (by decide)
    · refine lv_iload_n hx hb dX8_isQuestion_14 rfl (lv_at hl 1 rfl) ?_
      refine lv_iconst (v := 3) hx hb dX8_isQuestion_15 (by decide) ?_
      refine lv_icmp_ge (tgt := 23) hx hb dX8_isQuestion_16 (by decide) (fun c_16 => ?_) (fun c_16 => ?_)
      · refine lv_iconst (v := 0) hx hb dX8_isQuestion_23 (by decide) ?_
        exact hret _ () _ _ _ _ h (by first | exact (if_pos ⟨by omega, Int32.not_lt.mp c_11, Int32.not_le.mp c_16⟩).symm | exact (if_neg (fun q => absurd q.1 (by omega))).symm | exact (if_neg (fun q => Int32.not_lt.mpr q.2.1 c_11)).symm | exact (if_neg (fun q => Int32.not_le.mpr q.2.2 c_16)).symm) dX8_isQuestion_24 (by decide)
      · refine lv_iconst (v := 1) hx hb dX8_isQuestion_19 (by decide) ?_
        refine lv_goto (tgt := 24) hx hb dX8_isQuestion_20 (by decide) ?_
        exact hret _ () _ _ _ _ h (by first | exact (if_pos ⟨by omega, Int32.not_lt.mp c_11, Int32.not_le.mp c_16⟩).symm | exact (if_neg (fun q => absurd q.1 (by omega))).symm | exact (if_neg (fun q => Int32.not_lt.mpr q.2.1 c_11)).symm | exact (if_neg (fun q => Int32.not_le.mpr q.2.2 c_16)).symm) dX8_isQuestion_24 (by decide)
set_option maxHeartbeats 1000000 in
set_option maxRecDepth 100000 in
theorem kX8_howManyLean (l : Launch) (D : va_G) (ct : Nat → ClassId) (ad : Nat → Nat → Nat) (σ lm : Nat → Nat → Nat → Int32) (τ : Nat → Int64) (n : Nat) (kd : Nat → Nat) (hok : ROK (σ 2) n kd) (q : Nat) (x : Int32) (hq : q < 3) : MI l yX8_howManyLean (gWs yX8_howManyLean cX8_howManyLean 5 (some .int)) rmX8_howManyLean D ct gNo [.ref (ad 0 0), .int (nI q), .int x] (wX ad ct σ lm τ) (fun _ : Unit => (wX ad ct σ lm τ)) (fun r _ => r = nI (cntTo (fun m => lm 3 q m = x) n)) := by
  refine MI.ofI RX8 rfl (by decide) (Nat.le_of_ble_eq_true rfl) ?_
  intro zp ze zs zm za zb zt zc zA ls zQ C h hX hl hret
  have hx := C.1
  have hb := C.2.1
  have hl : lv_has ls 5 [(0, .ref (ad 0 0)), (1, .int (nI q)), (2, .int x)] := hl
  have hok0 := hok
  obtain ⟨hn, hn8, hkd⟩ := hok0
  refine lv_iconst (v := 0) hx hb dX8_howManyLean_0 (by decide) ?_
  refine lv_istore_n (lv' := [(3, .int 0), (0, .ref (ad 0 0)), (1, .int (nI q)), (2, .int x)]) hx hb dX8_howManyLean_1 rfl hl (by decide) rfl (fun ls hl => ?_)
  refine lv_iconst (v := 0) hx hb dX8_howManyLean_2 (by decide) ?_
  refine lv_istore (lv' := [(4, .int 0), (3, .int 0), (0, .ref (ad 0 0)), (1, .int (nI q)), (2, .int x)]) hx hb dX8_howManyLean_3 hl (by decide) rfl (fun ls hl => ?_)
  have L5_0 : ∀ (kk : Nat) (i : Nat) (H : Heap) (ll : List Loc) (ls : Array Slot), n - i = kk → (i ≤ n) → gW D ct zA zs H ll (wX ad ct σ lm τ) → lv_has ls 5 [(4, .int (nI i)), (3, .int (nI (cntTo (fun m => lm 3 q m = x) i))), (0, .ref (ad 0 0)), (1, .int (nI q)), (2, .int x)] → W zp l ze rmX8_howManyLean zs zm za zb zt zc H ll 0 0 zQ (F0 zm 5 ls []) := by
    intro kk5
    induction kk5 using Nat.strongRecOn with
    | _ kk5 ih5 =>
    intro i H ll ls hk5 hi h hl
    refine lv_iload hx hb dX8_howManyLean_5 (lv_at hl 0 rfl) ?_
    refine lv_aload_n hx hb dX8_howManyLean_7 rfl (lv_at hl 2 rfl) ?_
    refine gget C h igX8 0 rfl rfl 1 (by decide) q202 rfl rfl dX8_howManyLean_8 ?_
    refine gget C h igX5 3 rfl rfl 2 (by decide) q144 rfl rfl dX8_howManyLean_11 ?_
    refine gas hn ?_
    refine nb_ge hx hb i n (by omega) (by omega) (tgt := 42) dX8_howManyLean_14 (by decide) (fun c_14 => ?_) (fun c_14 => ?_)
    · refine lv_iload_n hx hb dX8_howManyLean_42 rfl (lv_at hl 1 rfl) ?_
      exact hret _ () _ _ _ _ h (by rw [show i = n by omega]) dX8_howManyLean_43
    · refine lv_aload_n hx hb dX8_howManyLean_17 rfl (lv_at hl 2 rfl) ?_
      refine gget C h igX8 0 rfl rfl 2 (by decide) q203 rfl rfl dX8_howManyLean_18 ?_
      refine gget C h igX6 11 rfl rfl 1 (by decide) q164 rfl rfl dX8_howManyLean_21 ?_
      refine lv_iload_n hx hb dX8_howManyLean_24 rfl (lv_at hl 3 rfl) ?_
      refine gald C h 13 4 rfl rfl rfl (j := q) (b := ad 3 (3 + q)) (by omega) (by decide) (if_pos (by omega)) dX8_howManyLean_25 ?_
      refine lv_iload hx hb dX8_howManyLean_26 (lv_at hl 0 rfl) ?_
      refine gild C h (14 + q) (wX_row3 ad ct _ _ _ (by omega)) (j := i) (by omega) (by decide) dX8_howManyLean_28 ?_
      refine gas (z := lm 3 q i) rfl ?_
      refine lv_iload_n hx hb dX8_howManyLean_29 rfl (lv_at hl 4 rfl) ?_
      refine lv_icmp_ne (tgt := 36) hx hb dX8_howManyLean_30 (by decide) (fun c_30 => ?_) (fun c_30 => ?_)
      · refine ninc (lv' := [(4, .int (nI (i + 1))), (3, .int (nI (cntTo (fun m => lm 3 q m = x) i))), (0, .ref (ad 0 0)), (1, .int (nI q)), (2, .int x)]) hx hb i 1 dX8_howManyLean_36 hl (k := 0) rfl (by decide) rfl (fun ls hl => ?_)
        refine lv_goto (tgt := 5) hx hb dX8_howManyLean_39 (by decide) ?_
        have hl : lv_has ls 5 [(4, .int (nI (i + 1))), (3, .int (nI (cntTo (fun m => lm 3 q m = x) (i + 1)))), (0, .ref (ad 0 0)), (1, .int (nI q)), (2, .int x)] := by have e9 : (nI (cntTo (fun m => lm 3 q m = x) i) : Int32) = nI (cntTo (fun m => lm 3 q m = x) (i + 1)) := congrArg nI (by show _ = cntTo (fun m => lm 3 q m = x) i + (if lm 3 q i = x then 1 else 0); rw [if_neg c_30]; rfl); rw [← e9]; exact hl
        exact ih5 _ (by omega) (i + 1) _ _ _ rfl (by omega) h (lv_sub hl [0, 1, 2, 3, 4] rfl)
      · refine ninc (lv' := [(3, .int (nI (cntTo (fun m => lm 3 q m = x) i + 1))), (4, .int (nI i)), (0, .ref (ad 0 0)), (1, .int (nI q)), (2, .int x)]) hx hb (cntTo (fun m => lm 3 q m = x) i) 1 dX8_howManyLean_33 hl (k := 1) rfl (by decide) rfl (fun ls hl => ?_)
        refine ninc (lv' := [(4, .int (nI (i + 1))), (3, .int (nI (cntTo (fun m => lm 3 q m = x) i + 1))), (0, .ref (ad 0 0)), (1, .int (nI q)), (2, .int x)]) hx hb i 1 dX8_howManyLean_36 hl (k := 1) rfl (by decide) rfl (fun ls hl => ?_)
        refine lv_goto (tgt := 5) hx hb dX8_howManyLean_39 (by decide) ?_
        have hl : lv_has ls 5 [(4, .int (nI (i + 1))), (3, .int (nI (cntTo (fun m => lm 3 q m = x) (i + 1)))), (0, .ref (ad 0 0)), (1, .int (nI q)), (2, .int x)] := by have e9 : (nI (cntTo (fun m => lm 3 q m = x) i + 1) : Int32) = nI (cntTo (fun m => lm 3 q m = x) (i + 1)) := congrArg nI (by show _ = cntTo (fun m => lm 3 q m = x) i + (if lm 3 q i = x then 1 else 0); rw [if_pos c_30]); rw [← e9]; exact hl
        exact ih5 _ (by omega) (i + 1) _ _ _ rfl (by omega) h (lv_sub hl [0, 1, 2, 3, 4] rfl)
  exact L5_0 _ 0 _ _ _ rfl (by omega) h (lv_sub hl [0, 1, 2, 3, 4] rfl)
set_option maxHeartbeats 1000000 in
set_option maxRecDepth 100000 in
theorem kX8_howManyCarriedNow (l : Launch) (D : va_G) (ct : Nat → ClassId) (ad : Nat → Nat → Nat) (σ lm : Nat → Nat → Nat → Int32) (τ : Nat → Int64) (n : Nat) (kd : Nat → Nat) (hok : ROK (σ 2) n kd)  : MI l yX8_howManyCarriedNow (gWs yX8_howManyCarriedNow cX8_howManyCarriedNow 3 (some .int)) rmX8_howManyCarriedNow D ct gNo [.ref (ad 0 0)] (wX ad ct σ lm τ) (fun _ : Unit => (wX ad ct σ lm τ)) (fun r _ => r = nI (cntTo (fun q => 0 < smX (σ 3) (lm 3) n kd q) 3)) := by
  refine MI.ofI RX8 rfl (by decide) (Nat.le_of_ble_eq_true rfl) ?_
  intro zp ze zs zm za zb zt zc zA ls zQ C h hX hl hret
  have hx := C.1
  have hb := C.2.1
  have hl : lv_has ls 3 [(0, .ref (ad 0 0))] := hl
  have hok0 := hok
  obtain ⟨hn, hn8, hkd⟩ := hok0
  refine lv_iconst (v := 0) hx hb dX8_howManyCarriedNow_0 (by decide) ?_
  refine lv_istore_n (lv' := [(1, .int 0), (0, .ref (ad 0 0))]) hx hb dX8_howManyCarriedNow_1 rfl hl (by decide) rfl (fun ls hl => ?_)
  refine lv_iconst (v := 0) hx hb dX8_howManyCarriedNow_2 (by decide) ?_
  refine lv_istore_n (lv' := [(2, .int 0), (1, .int 0), (0, .ref (ad 0 0))]) hx hb dX8_howManyCarriedNow_3 rfl hl (by decide) rfl (fun ls hl => ?_)
  have L4_0 : ∀ (kk : Nat) (i : Nat) (H : Heap) (ll : List Loc) (ls : Array Slot), 3 - i = kk → (i ≤ 3) → gW D ct zA zs H ll (wX ad ct σ lm τ) → lv_has ls 3 [(2, .int (nI i)), (1, .int (nI (cntTo (fun q => 0 < smX (σ 3) (lm 3) n kd q) i))), (0, .ref (ad 0 0))] → W zp l ze rmX8_howManyCarriedNow zs zm za zb zt zc H ll 0 0 zQ (F0 zm 4 ls []) := by
    intro kk4
    induction kk4 using Nat.strongRecOn with
    | _ kk4 ih4 =>
    intro i H ll ls hk4 hi h hl
    refine lv_iload_n hx hb dX8_howManyCarriedNow_4 rfl (lv_at hl 0 rfl) ?_
    refine lv_iconst (v := 3) hx hb dX8_howManyCarriedNow_5 (by decide) ?_
    refine nb_ge hx hb i 3 (by omega) (by omega) (tgt := 33) dX8_howManyCarriedNow_6 (by decide) (fun c_6 => ?_) (fun c_6 => ?_)
    · refine lv_iload_n hx hb dX8_howManyCarriedNow_33 rfl (lv_at hl 1 rfl) ?_
      exact hret _ () _ _ _ _ h (by rw [show i = 3 by omega]) dX8_howManyCarriedNow_34
    · refine lv_aload_n hx hb dX8_howManyCarriedNow_9 rfl (lv_at hl 2 rfl) ?_
      refine gget C h igX8 0 rfl rfl 1 (by decide) q202 rfl rfl dX8_howManyCarriedNow_10 ?_
      refine lv_aload_n hx hb dX8_howManyCarriedNow_13 rfl (lv_at hl 2 rfl) ?_
      refine gget C h igX8 0 rfl rfl 2 (by decide) q203 rfl rfl dX8_howManyCarriedNow_14 ?_
      refine lv_iload_n hx hb dX8_howManyCarriedNow_17 rfl (lv_at hl 0 rfl) ?_
      refine gFi C h trivial gNo_ok (kX5_sumOf l D ct (ad 2) (ad 3) (σ 2) (σ 3) (lm 3) n kd hok i (by omega)) (cwV 2 C.2.2.2.2 (gInV q428 q429 q430 q59 q431) rfl rfl rfl hvX5_sumOf ⟨Nat.le_of_ble_eq_true rfl, Nat.le_of_ble_eq_true rfl⟩) 3 rfl rfl rfl (fr_X_RS3 ad ct _ _ _) rfl hl.1 rfl (Nat.le_of_ble_eq_true rfl) dX8_howManyCarriedNow_18 ⟨Nat.zero_le _, Nat.zero_le _⟩ (fun r9 u9 H ll hw h => ?_)
      have hw : r9 = smX (σ 3) (lm 3) n kd i := hw
      subst hw
      have h : gW D ct zA zs _ _ (wX ad ct σ lm τ) := h
      refine lv_if_le (tgt := 27) hx hb dX8_howManyCarriedNow_21 (by decide) (fun c_21 => ?_) (fun c_21 => ?_)
      · refine ninc (lv' := [(2, .int (nI (i + 1))), (1, .int (nI (cntTo (fun q => 0 < smX (σ 3) (lm 3) n kd q) i))), (0, .ref (ad 0 0))]) hx hb i 1 dX8_howManyCarriedNow_27 hl (k := 0) rfl (by decide) rfl (fun ls hl => ?_)
        refine lv_goto (tgt := 4) hx hb dX8_howManyCarriedNow_30 (by decide) ?_
        have hl : lv_has ls 3 [(2, .int (nI (i + 1))), (1, .int (nI (cntTo (fun q => 0 < smX (σ 3) (lm 3) n kd q) (i + 1)))), (0, .ref (ad 0 0))] := by have e9 : (nI (cntTo (fun q => 0 < smX (σ 3) (lm 3) n kd q) i) : Int32) = nI (cntTo (fun q => 0 < smX (σ 3) (lm 3) n kd q) (i + 1)) := congrArg nI (by show _ = cntTo (fun q => 0 < smX (σ 3) (lm 3) n kd q) i + (if 0 < smX (σ 3) (lm 3) n kd i then 1 else 0); rw [if_neg (Int32.not_lt.mpr c_21)]; rfl); rw [← e9]; exact hl
        exact ih4 _ (by omega) (i + 1) _ _ _ rfl (by omega) h (lv_sub hl [0, 1, 2] rfl)
      · refine ninc (lv' := [(1, .int (nI (cntTo (fun q => 0 < smX (σ 3) (lm 3) n kd q) i + 1))), (2, .int (nI i)), (0, .ref (ad 0 0))]) hx hb (cntTo (fun q => 0 < smX (σ 3) (lm 3) n kd q) i) 1 dX8_howManyCarriedNow_24 hl (k := 1) rfl (by decide) rfl (fun ls hl => ?_)
        refine ninc (lv' := [(2, .int (nI (i + 1))), (1, .int (nI (cntTo (fun q => 0 < smX (σ 3) (lm 3) n kd q) i + 1))), (0, .ref (ad 0 0))]) hx hb i 1 dX8_howManyCarriedNow_27 hl (k := 1) rfl (by decide) rfl (fun ls hl => ?_)
        refine lv_goto (tgt := 4) hx hb dX8_howManyCarriedNow_30 (by decide) ?_
        have hl : lv_has ls 3 [(2, .int (nI (i + 1))), (1, .int (nI (cntTo (fun q => 0 < smX (σ 3) (lm 3) n kd q) (i + 1)))), (0, .ref (ad 0 0))] := by have e9 : (nI (cntTo (fun q => 0 < smX (σ 3) (lm 3) n kd q) i + 1) : Int32) = nI (cntTo (fun q => 0 < smX (σ 3) (lm 3) n kd q) (i + 1)) := congrArg nI (by show _ = cntTo (fun q => 0 < smX (σ 3) (lm 3) n kd q) i + (if 0 < smX (σ 3) (lm 3) n kd i then 1 else 0); rw [if_pos (Int32.not_le.mp c_21)]); rw [← e9]; exact hl
        exact ih4 _ (by omega) (i + 1) _ _ _ rfl (by omega) h (lv_sub hl [0, 1, 2] rfl)
  exact L4_0 _ 0 _ _ _ rfl (by omega) h (lv_sub hl [0, 1, 2] rfl)
set_option maxHeartbeats 1000000 in
set_option maxRecDepth 100000 in
theorem kX8_fillSubsetSums (l : Launch) (D : va_G) (ct : Nat → ClassId) (ad : Nat → Nat → Nat) (σ lm : Nat → Nat → Nat → Int32) (τ : Nat → Int64) (n : Nat) (kd : Nat → Nat) (hok : ROK (σ 2) n kd) (q f : Nat) (of : Bool) (hq : q < 3) (hf : f ≤ n) : MV l yX8_fillSubsetSums (gWs yX8_fillSubsetSums cX8_fillSubsetSums 8 none) rmX8_fillSubsetSums D ct gNo [.ref (ad 0 0), .int (nI q), .int (nI f), .int (if of = true then 1 else 0)] (wX ad ct σ lm τ) (fun u : (Nat → Nat → Nat → Int32) × (Nat → Nat → Nat → Int32) × (Nat → Int64) => wX ad ct u.1 u.2.1 u.2.2) (fun u => ∃ (g0_3 : Nat → Int32), (∀ s, s < 2 ^ f → g0_3 s = ssX (pfX of (σ 3) (lm 3) n kd q) s f) ∧ u = (va_up σ 0 (va_up (σ 0) 3 g0_3), lm, τ)) := by
  refine MV.of RX8 rfl (by decide) (Nat.le_of_ble_eq_true rfl) ?_
  intro zp ze zs zm za zb zt zc zA ls zQ C h hX hl hret
  have hx := C.1
  have hb := C.2.1
  have hl : lv_has ls 8 [(0, .ref (ad 0 0)), (1, .int (nI q)), (2, .int (nI f)), (3, .int (if of = true then 1 else 0))] := hl
  have hok0 := hok
  obtain ⟨hn, hn8, hkd⟩ := hok0
  have hp2 := p2le (Nat.le_trans hf hn8)
  have hp20 : 0 < 2 ^ f := Nat.two_pow_pos f
  refine lv_aload_n hx hb dX8_fillSubsetSums_0 rfl (lv_at hl 0 rfl) ?_
  refine gget C h igX8 0 rfl rfl 5 (by decide) q206 rfl rfl dX8_fillSubsetSums_1 ?_
  refine lv_iconst (v := 0) hx hb dX8_fillSubsetSums_4 (by decide) ?_
  refine lv_iconst (v := 0) hx hb dX8_fillSubsetSums_5 (by decide) ?_
  refine gist C h 47 rfl (j := 0) (by omega) (by decide) dX8_fillSubsetSums_6 (fun H ll h => ?_)
  have h : gW D ct zA zs _ _ (wX ad ct (va_up σ 0 (va_up (σ 0) 3 (upd (σ 0 3) 0 0))) lm τ) := h
  refine lv_iconst (v := 0) hx hb dX8_fillSubsetSums_7 (by decide) ?_
  refine lv_istore (lv' := [(4, .int 0), (0, .ref (ad 0 0)), (1, .int (nI q)), (2, .int (nI f)), (3, .int (if of = true then 1 else 0))]) hx hb dX8_fillSubsetSums_8 hl (by decide) rfl (fun ls hl => ?_)
  have L10_0 : ∀ (kk : Nat) (i : Nat) (g : Nat → Int32) (H : Heap) (ll : List Loc) (ls : Array Slot), f - i = kk → (i ≤ f) → (∀ s, s < 2 ^ i → g s = ssX (pfX of (σ 3) (lm 3) n kd q) s i) → gW D ct zA zs H ll (wX ad ct (va_up σ 0 (va_up (σ 0) 3 g)) lm τ) → lv_has ls 8 [(4, .int (nI i)), (0, .ref (ad 0 0)), (1, .int (nI q)), (2, .int (nI f)), (3, .int (if of = true then 1 else 0))] → W zp l ze rmX8_fillSubsetSums zs zm za zb zt zc H ll 0 0 zQ (F0 zm 10 ls []) := by
    intro kk10
    induction kk10 using Nat.strongRecOn with
    | _ kk10 ih10 =>
    intro i g H ll ls hk10 hi hg h hl
    refine lv_iload hx hb dX8_fillSubsetSums_10 (lv_at hl 0 rfl) ?_
    refine lv_iload_n hx hb dX8_fillSubsetSums_12 rfl (lv_at hl 3 rfl) ?_
    refine nb_ge hx hb i f (by omega) (by omega) (tgt := 92) dX8_fillSubsetSums_13 (by decide) (fun c_13 => ?_) (fun c_13 => ?_)
    · have h : gW D ct zA zs _ _ ((fun u : (Nat → Nat → Nat → Int32) × (Nat → Nat → Nat → Int32) × (Nat → Int64) => wX ad ct u.1 u.2.1 u.2.2) ((va_up σ 0 (va_up (σ 0) 3 g), lm, τ))) := h
      exact hret ((va_up σ 0 (va_up (σ 0) 3 g), lm, τ)) _ _ _ _ h ⟨g, (fun s hs => by have e9 : i = f := (by omega); subst e9; exact hg s hs), rfl⟩ dX8_fillSubsetSums_92
    · refine lv_aload_n hx hb dX8_fillSubsetSums_16 rfl (lv_at hl 1 rfl) ?_
      refine gget C h igX8 0 rfl rfl 1 (by decide) q202 rfl rfl dX8_fillSubsetSums_17 ?_
      refine lv_aload_n hx hb dX8_fillSubsetSums_20 rfl (lv_at hl 1 rfl) ?_
      refine gget C h igX8 0 rfl rfl 2 (by decide) q203 rfl rfl dX8_fillSubsetSums_21 ?_
      refine lv_iload hx hb dX8_fillSubsetSums_24 (lv_at hl 0 rfl) ?_
      refine lv_iload_n hx hb dX8_fillSubsetSums_26 rfl (lv_at hl 2 rfl) ?_
      refine gFi C h trivial gNo_ok (kX5_pullOf l D ct (ad 2) (ad 3) (σ 2) (σ 3) (lm 3) n kd hok i q (by omega) (by omega)) (cwV 3 C.2.2.2.2 (gInV q384 q385 q386 q59 q387) rfl rfl rfl hvX5_pullOf ⟨Nat.le_of_ble_eq_true rfl, Nat.le_of_ble_eq_true rfl⟩) 3 rfl rfl rfl (fr_X_RS3 ad ct _ _ _) rfl hl.1 rfl (Nat.le_of_ble_eq_true rfl) dX8_fillSubsetSums_27 ⟨Nat.zero_le _, Nat.zero_le _⟩ (fun r9 u9 H ll hw h => ?_)
      have hw : r9 = plX (σ 3) (lm 3) n kd q i := hw
      subst hw
      have h : gW D ct zA zs _ _ (wX ad ct (va_up σ 0 (va_up (σ 0) 3 g)) lm τ) := h
      refine lv_istore (lv' := [(5, .int (plX (σ 3) (lm 3) n kd q i)), (4, .int (nI i)), (0, .ref (ad 0 0)), (1, .int (nI q)), (2, .int (nI f)), (3, .int (if of = true then 1 else 0))]) hx hb dX8_fillSubsetSums_30 hl (by decide) rfl (fun ls hl => ?_)
      refine lv_iload_n hx hb dX8_fillSubsetSums_32 rfl (lv_at hl 5 rfl) ?_
      refine bz_eq hx hb (of = true) (tgt := 44) dX8_fillSubsetSums_33 (by decide) (fun c_33 => ?_) (fun c_33 => ?_)
      · have hpi : 2 ^ (i + 1) ≤ 256 := p2le (by omega)
        have hpi2 : 2 ^ (i + 1) = 2 ^ i * 2 := Nat.pow_succ 2 i
        have hl : lv_has ls 8 [(5, .int (pfX of (σ 3) (lm 3) n kd q i)), (4, .int (nI i)), (0, .ref (ad 0 0)), (1, .int (nI q)), (2, .int (nI f)), (3, .int (if of = true then 1 else 0))] := by have e9 : (plX (σ 3) (lm 3) n kd q i : Int32) = pfX of (σ 3) (lm 3) n kd q i := (if_neg (fun q9 => c_33 q9.1)).symm; rw [← e9]; exact hl
        refine lv_iconst (v := 1) hx hb dX8_fillSubsetSums_44 (by decide) ?_
        refine lv_iload hx hb dX8_fillSubsetSums_45 (lv_at hl 1 rfl) ?_
        refine nshl hx hb 1 i (by omega) (by omega) dX8_fillSubsetSums_47 ?_
        refine lv_istore (lv' := [(6, .int (nI (1 * 2 ^ i))), (5, .int (pfX of (σ 3) (lm 3) n kd q i)), (4, .int (nI i)), (0, .ref (ad 0 0)), (1, .int (nI q)), (2, .int (nI f)), (3, .int (if of = true then 1 else 0))]) hx hb dX8_fillSubsetSums_48 hl (by decide) rfl (fun ls hl => ?_)
        refine lv_iconst (v := 0) hx hb dX8_fillSubsetSums_50 (by decide) ?_
        refine lv_istore (lv' := [(7, .int 0), (6, .int (nI (1 * 2 ^ i))), (5, .int (pfX of (σ 3) (lm 3) n kd q i)), (4, .int (nI i)), (0, .ref (ad 0 0)), (1, .int (nI q)), (2, .int (nI f)), (3, .int (if of = true then 1 else 0))]) hx hb dX8_fillSubsetSums_51 hl (by decide) rfl (fun ls hl => ?_)
        have L53_1 : ∀ (kk : Nat) (k : Nat) (g2 : Nat → Int32) (H : Heap) (ll : List Loc) (ls : Array Slot), 2 ^ i - k = kk → (k ≤ 2 ^ i) → (∀ s, s < 2 ^ i + k → g2 s = ssX (pfX of (σ 3) (lm 3) n kd q) s (i + 1)) → gW D ct zA zs H ll (wX ad ct (va_up σ 0 (va_up (σ 0) 3 g2)) lm τ) → lv_has ls 8 [(7, .int (nI k)), (6, .int (nI (1 * 2 ^ i))), (5, .int (pfX of (σ 3) (lm 3) n kd q i)), (4, .int (nI i)), (0, .ref (ad 0 0)), (1, .int (nI q)), (2, .int (nI f)), (3, .int (if of = true then 1 else 0))] → W zp l ze rmX8_fillSubsetSums zs zm za zb zt zc H ll 0 0 zQ (F0 zm 53 ls []) := by
          intro kk53
          induction kk53 using Nat.strongRecOn with
          | _ kk53 ih53 =>
          intro k g2 H ll ls hk53 hk hg2 h hl
          refine lv_iload hx hb dX8_fillSubsetSums_53 (lv_at hl 0 rfl) ?_
          refine lv_iload hx hb dX8_fillSubsetSums_55 (lv_at hl 1 rfl) ?_
          refine nb_ge hx hb k (1 * 2 ^ i) (by omega) (by omega) (tgt := 86) dX8_fillSubsetSums_57 (by decide) (fun c_57 => ?_) (fun c_57 => ?_)
          · refine ninc (lv' := [(4, .int (nI (i + 1))), (7, .int (nI k)), (6, .int (nI (1 * 2 ^ i))), (5, .int (pfX of (σ 3) (lm 3) n kd q i)), (0, .ref (ad 0 0)), (1, .int (nI q)), (2, .int (nI f)), (3, .int (if of = true then 1 else 0))]) hx hb i 1 dX8_fillSubsetSums_86 hl (k := 3) rfl (by decide) rfl (fun ls hl => ?_)
            refine lv_goto (tgt := 10) hx hb dX8_fillSubsetSums_89 (by decide) ?_
            exact ih10 _ (by omega) (i + 1) g2 _ _ _ rfl (by omega) (fun s hs => hg2 s (by omega)) h (lv_sub hl [0, 4, 5, 6, 7] rfl)
          · refine lv_aload_n hx hb dX8_fillSubsetSums_60 rfl (lv_at hl 4 rfl) ?_
            refine gget C h igX8 0 rfl rfl 5 (by decide) q206 rfl rfl dX8_fillSubsetSums_61 ?_
            refine lv_iload hx hb dX8_fillSubsetSums_64 (lv_at hl 1 rfl) ?_
            refine lv_iload hx hb dX8_fillSubsetSums_66 (lv_at hl 0 rfl) ?_
            refine nadd hx hb (1 * 2 ^ i) k dX8_fillSubsetSums_68 ?_
            refine lv_aload_n hx hb dX8_fillSubsetSums_69 rfl (lv_at hl 4 rfl) ?_
            refine gget C h igX8 0 rfl rfl 5 (by decide) q206 rfl rfl dX8_fillSubsetSums_70 ?_
            refine lv_iload hx hb dX8_fillSubsetSums_73 (lv_at hl 0 rfl) ?_
            refine gild C h 47 rfl (j := k) (by omega) (by decide) dX8_fillSubsetSums_75 ?_
            refine gas (z := g2 k) rfl ?_
            refine lv_iload hx hb dX8_fillSubsetSums_76 (lv_at hl 2 rfl) ?_
            refine lv_iadd hx hb dX8_fillSubsetSums_78 ?_
            refine gist C h 47 rfl (j := (1 * 2 ^ i) + k) (by omega) (by decide) dX8_fillSubsetSums_79 (fun H ll h => ?_)
            have h : gW D ct zA zs _ _ (wX ad ct (va_up σ 0 (va_up (σ 0) 3 (upd g2 ((1 * 2 ^ i) + k) ((g2 k) + (pfX of (σ 3) (lm 3) n kd q i))))) lm τ) := h
            refine ninc (lv' := [(7, .int (nI (k + 1))), (6, .int (nI (1 * 2 ^ i))), (5, .int (pfX of (σ 3) (lm 3) n kd q i)), (4, .int (nI i)), (0, .ref (ad 0 0)), (1, .int (nI q)), (2, .int (nI f)), (3, .int (if of = true then 1 else 0))]) hx hb k 1 dX8_fillSubsetSums_80 hl (k := 0) rfl (by decide) rfl (fun ls hl => ?_)
            refine lv_goto (tgt := 53) hx hb dX8_fillSubsetSums_83 (by decide) ?_
            rw [Nat.one_mul] at h
            exact ih53 _ (by omega) (k + 1) (upd g2 (2 ^ i + k) (g2 k + pfX of (σ 3) (lm 3) n kd q i)) _ _ _ rfl (by omega) (fill_step (by omega) hg2) h (lv_sub hl [0, 1, 2, 3, 4, 5, 6, 7] rfl)
        exact L53_1 _ 0 g _ _ _ rfl (Nat.zero_le _) (fun s hs => by rw [hg s (by omega), ss_lo (by omega)]) h (lv_sub hl [0, 1, 2, 3, 4, 5, 6, 7] rfl)
      · refine lv_iload hx hb dX8_fillSubsetSums_36 (lv_at hl 0 rfl) ?_
        refine lv_if_ge (tgt := 44) hx hb dX8_fillSubsetSums_38 (by decide) (fun c_38 => ?_) (fun c_38 => ?_)
        · have hpi : 2 ^ (i + 1) ≤ 256 := p2le (by omega)
          have hpi2 : 2 ^ (i + 1) = 2 ^ i * 2 := Nat.pow_succ 2 i
          have hl : lv_has ls 8 [(5, .int (pfX of (σ 3) (lm 3) n kd q i)), (4, .int (nI i)), (0, .ref (ad 0 0)), (1, .int (nI q)), (2, .int (nI f)), (3, .int (if of = true then 1 else 0))] := by have e9 : (plX (σ 3) (lm 3) n kd q i : Int32) = pfX of (σ 3) (lm 3) n kd q i := (if_neg (fun q9 => Int32.not_lt.mpr c_38 q9.2)).symm; rw [← e9]; exact hl
          refine lv_iconst (v := 1) hx hb dX8_fillSubsetSums_44 (by decide) ?_
          refine lv_iload hx hb dX8_fillSubsetSums_45 (lv_at hl 1 rfl) ?_
          refine nshl hx hb 1 i (by omega) (by omega) dX8_fillSubsetSums_47 ?_
          refine lv_istore (lv' := [(6, .int (nI (1 * 2 ^ i))), (5, .int (pfX of (σ 3) (lm 3) n kd q i)), (4, .int (nI i)), (0, .ref (ad 0 0)), (1, .int (nI q)), (2, .int (nI f)), (3, .int (if of = true then 1 else 0))]) hx hb dX8_fillSubsetSums_48 hl (by decide) rfl (fun ls hl => ?_)
          refine lv_iconst (v := 0) hx hb dX8_fillSubsetSums_50 (by decide) ?_
          refine lv_istore (lv' := [(7, .int 0), (6, .int (nI (1 * 2 ^ i))), (5, .int (pfX of (σ 3) (lm 3) n kd q i)), (4, .int (nI i)), (0, .ref (ad 0 0)), (1, .int (nI q)), (2, .int (nI f)), (3, .int (if of = true then 1 else 0))]) hx hb dX8_fillSubsetSums_51 hl (by decide) rfl (fun ls hl => ?_)
          have L53_2 : ∀ (kk : Nat) (k : Nat) (g2 : Nat → Int32) (H : Heap) (ll : List Loc) (ls : Array Slot), 2 ^ i - k = kk → (k ≤ 2 ^ i) → (∀ s, s < 2 ^ i + k → g2 s = ssX (pfX of (σ 3) (lm 3) n kd q) s (i + 1)) → gW D ct zA zs H ll (wX ad ct (va_up σ 0 (va_up (σ 0) 3 g2)) lm τ) → lv_has ls 8 [(7, .int (nI k)), (6, .int (nI (1 * 2 ^ i))), (5, .int (pfX of (σ 3) (lm 3) n kd q i)), (4, .int (nI i)), (0, .ref (ad 0 0)), (1, .int (nI q)), (2, .int (nI f)), (3, .int (if of = true then 1 else 0))] → W zp l ze rmX8_fillSubsetSums zs zm za zb zt zc H ll 0 0 zQ (F0 zm 53 ls []) := by
            intro kk53
            induction kk53 using Nat.strongRecOn with
            | _ kk53 ih53 =>
            intro k g2 H ll ls hk53 hk hg2 h hl
            refine lv_iload hx hb dX8_fillSubsetSums_53 (lv_at hl 0 rfl) ?_
            refine lv_iload hx hb dX8_fillSubsetSums_55 (lv_at hl 1 rfl) ?_
            refine nb_ge hx hb k (1 * 2 ^ i) (by omega) (by omega) (tgt := 86) dX8_fillSubsetSums_57 (by decide) (fun c_57 => ?_) (fun c_57 => ?_)
            · refine ninc (lv' := [(4, .int (nI (i + 1))), (7, .int (nI k)), (6, .int (nI (1 * 2 ^ i))), (5, .int (pfX of (σ 3) (lm 3) n kd q i)), (0, .ref (ad 0 0)), (1, .int (nI q)), (2, .int (nI f)), (3, .int (if of = true then 1 else 0))]) hx hb i 1 dX8_fillSubsetSums_86 hl (k := 3) rfl (by decide) rfl (fun ls hl => ?_)
              refine lv_goto (tgt := 10) hx hb dX8_fillSubsetSums_89 (by decide) ?_
              exact ih10 _ (by omega) (i + 1) g2 _ _ _ rfl (by omega) (fun s hs => hg2 s (by omega)) h (lv_sub hl [0, 4, 5, 6, 7] rfl)
            · refine lv_aload_n hx hb dX8_fillSubsetSums_60 rfl (lv_at hl 4 rfl) ?_
              refine gget C h igX8 0 rfl rfl 5 (by decide) q206 rfl rfl dX8_fillSubsetSums_61 ?_
              refine lv_iload hx hb dX8_fillSubsetSums_64 (lv_at hl 1 rfl) ?_
              refine lv_iload hx hb dX8_fillSubsetSums_66 (lv_at hl 0 rfl) ?_
              refine nadd hx hb (1 * 2 ^ i) k dX8_fillSubsetSums_68 ?_
              refine lv_aload_n hx hb dX8_fillSubsetSums_69 rfl (lv_at hl 4 rfl) ?_
              refine gget C h igX8 0 rfl rfl 5 (by decide) q206 rfl rfl dX8_fillSubsetSums_70 ?_
              refine lv_iload hx hb dX8_fillSubsetSums_73 (lv_at hl 0 rfl) ?_
              refine gild C h 47 rfl (j := k) (by omega) (by decide) dX8_fillSubsetSums_75 ?_
              refine gas (z := g2 k) rfl ?_
              refine lv_iload hx hb dX8_fillSubsetSums_76 (lv_at hl 2 rfl) ?_
              refine lv_iadd hx hb dX8_fillSubsetSums_78 ?_
              refine gist C h 47 rfl (j := (1 * 2 ^ i) + k) (by omega) (by decide) dX8_fillSubsetSums_79 (fun H ll h => ?_)
              have h : gW D ct zA zs _ _ (wX ad ct (va_up σ 0 (va_up (σ 0) 3 (upd g2 ((1 * 2 ^ i) + k) ((g2 k) + (pfX of (σ 3) (lm 3) n kd q i))))) lm τ) := h
              refine ninc (lv' := [(7, .int (nI (k + 1))), (6, .int (nI (1 * 2 ^ i))), (5, .int (pfX of (σ 3) (lm 3) n kd q i)), (4, .int (nI i)), (0, .ref (ad 0 0)), (1, .int (nI q)), (2, .int (nI f)), (3, .int (if of = true then 1 else 0))]) hx hb k 1 dX8_fillSubsetSums_80 hl (k := 0) rfl (by decide) rfl (fun ls hl => ?_)
              refine lv_goto (tgt := 53) hx hb dX8_fillSubsetSums_83 (by decide) ?_
              rw [Nat.one_mul] at h
              exact ih53 _ (by omega) (k + 1) (upd g2 (2 ^ i + k) (g2 k + pfX of (σ 3) (lm 3) n kd q i)) _ _ _ rfl (by omega) (fill_step (by omega) hg2) h (lv_sub hl [0, 1, 2, 3, 4, 5, 6, 7] rfl)
          exact L53_2 _ 0 g _ _ _ rfl (Nat.zero_le _) (fun s hs => by rw [hg s (by omega), ss_lo (by omega)]) h (lv_sub hl [0, 1, 2, 3, 4, 5, 6, 7] rfl)
        · refine lv_iconst (v := 0) hx hb dX8_fillSubsetSums_41 (by decide) ?_
          refine lv_istore (lv' := [(5, .int 0), (4, .int (nI i)), (0, .ref (ad 0 0)), (1, .int (nI q)), (2, .int (nI f)), (3, .int (if of = true then 1 else 0))]) hx hb dX8_fillSubsetSums_42 hl (by decide) rfl (fun ls hl => ?_)
          have hpi : 2 ^ (i + 1) ≤ 256 := p2le (by omega)
          have hpi2 : 2 ^ (i + 1) = 2 ^ i * 2 := Nat.pow_succ 2 i
          have hl : lv_has ls 8 [(5, .int (pfX of (σ 3) (lm 3) n kd q i)), (4, .int (nI i)), (0, .ref (ad 0 0)), (1, .int (nI q)), (2, .int (nI f)), (3, .int (if of = true then 1 else 0))] := by have e9 : (0 : Int32) = pfX of (σ 3) (lm 3) n kd q i := (if_pos ⟨c_33, Int32.not_le.mp c_38⟩).symm; rw [← e9]; exact hl
          refine lv_iconst (v := 1) hx hb dX8_fillSubsetSums_44 (by decide) ?_
          refine lv_iload hx hb dX8_fillSubsetSums_45 (lv_at hl 1 rfl) ?_
          refine nshl hx hb 1 i (by omega) (by omega) dX8_fillSubsetSums_47 ?_
          refine lv_istore (lv' := [(6, .int (nI (1 * 2 ^ i))), (5, .int (pfX of (σ 3) (lm 3) n kd q i)), (4, .int (nI i)), (0, .ref (ad 0 0)), (1, .int (nI q)), (2, .int (nI f)), (3, .int (if of = true then 1 else 0))]) hx hb dX8_fillSubsetSums_48 hl (by decide) rfl (fun ls hl => ?_)
          refine lv_iconst (v := 0) hx hb dX8_fillSubsetSums_50 (by decide) ?_
          refine lv_istore (lv' := [(7, .int 0), (6, .int (nI (1 * 2 ^ i))), (5, .int (pfX of (σ 3) (lm 3) n kd q i)), (4, .int (nI i)), (0, .ref (ad 0 0)), (1, .int (nI q)), (2, .int (nI f)), (3, .int (if of = true then 1 else 0))]) hx hb dX8_fillSubsetSums_51 hl (by decide) rfl (fun ls hl => ?_)
          have L53_3 : ∀ (kk : Nat) (k : Nat) (g2 : Nat → Int32) (H : Heap) (ll : List Loc) (ls : Array Slot), 2 ^ i - k = kk → (k ≤ 2 ^ i) → (∀ s, s < 2 ^ i + k → g2 s = ssX (pfX of (σ 3) (lm 3) n kd q) s (i + 1)) → gW D ct zA zs H ll (wX ad ct (va_up σ 0 (va_up (σ 0) 3 g2)) lm τ) → lv_has ls 8 [(7, .int (nI k)), (6, .int (nI (1 * 2 ^ i))), (5, .int (pfX of (σ 3) (lm 3) n kd q i)), (4, .int (nI i)), (0, .ref (ad 0 0)), (1, .int (nI q)), (2, .int (nI f)), (3, .int (if of = true then 1 else 0))] → W zp l ze rmX8_fillSubsetSums zs zm za zb zt zc H ll 0 0 zQ (F0 zm 53 ls []) := by
            intro kk53
            induction kk53 using Nat.strongRecOn with
            | _ kk53 ih53 =>
            intro k g2 H ll ls hk53 hk hg2 h hl
            refine lv_iload hx hb dX8_fillSubsetSums_53 (lv_at hl 0 rfl) ?_
            refine lv_iload hx hb dX8_fillSubsetSums_55 (lv_at hl 1 rfl) ?_
            refine nb_ge hx hb k (1 * 2 ^ i) (by omega) (by omega) (tgt := 86) dX8_fillSubsetSums_57 (by decide) (fun c_57 => ?_) (fun c_57 => ?_)
            · refine ninc (lv' := [(4, .int (nI (i + 1))), (7, .int (nI k)), (6, .int (nI (1 * 2 ^ i))), (5, .int (pfX of (σ 3) (lm 3) n kd q i)), (0, .ref (ad 0 0)), (1, .int (nI q)), (2, .int (nI f)), (3, .int (if of = true then 1 else 0))]) hx hb i 1 dX8_fillSubsetSums_86 hl (k := 3) rfl (by decide) rfl (fun ls hl => ?_)
              refine lv_goto (tgt := 10) hx hb dX8_fillSubsetSums_89 (by decide) ?_
              exact ih10 _ (by omega) (i + 1) g2 _ _ _ rfl (by omega) (fun s hs => hg2 s (by omega)) h (lv_sub hl [0, 4, 5, 6, 7] rfl)
            · refine lv_aload_n hx hb dX8_fillSubsetSums_60 rfl (lv_at hl 4 rfl) ?_
              refine gget C h igX8 0 rfl rfl 5 (by decide) q206 rfl rfl dX8_fillSubsetSums_61 ?_
              refine lv_iload hx hb dX8_fillSubsetSums_64 (lv_at hl 1 rfl) ?_
              refine lv_iload hx hb dX8_fillSubsetSums_66 (lv_at hl 0 rfl) ?_
              refine nadd hx hb (1 * 2 ^ i) k dX8_fillSubsetSums_68 ?_
              refine lv_aload_n hx hb dX8_fillSubsetSums_69 rfl (lv_at hl 4 rfl) ?_
              refine gget C h igX8 0 rfl rfl 5 (by decide) q206 rfl rfl dX8_fillSubsetSums_70 ?_
              refine lv_iload hx hb dX8_fillSubsetSums_73 (lv_at hl 0 rfl) ?_
              refine gild C h 47 rfl (j := k) (by omega) (by decide) dX8_fillSubsetSums_75 ?_
              refine gas (z := g2 k) rfl ?_
              refine lv_iload hx hb dX8_fillSubsetSums_76 (lv_at hl 2 rfl) ?_
              refine lv_iadd hx hb dX8_fillSubsetSums_78 ?_
              refine gist C h 47 rfl (j := (1 * 2 ^ i) + k) (by omega) (by decide) dX8_fillSubsetSums_79 (fun H ll h => ?_)
              have h : gW D ct zA zs _ _ (wX ad ct (va_up σ 0 (va_up (σ 0) 3 (upd g2 ((1 * 2 ^ i) + k) ((g2 k) + (pfX of (σ 3) (lm 3) n kd q i))))) lm τ) := h
              refine ninc (lv' := [(7, .int (nI (k + 1))), (6, .int (nI (1 * 2 ^ i))), (5, .int (pfX of (σ 3) (lm 3) n kd q i)), (4, .int (nI i)), (0, .ref (ad 0 0)), (1, .int (nI q)), (2, .int (nI f)), (3, .int (if of = true then 1 else 0))]) hx hb k 1 dX8_fillSubsetSums_80 hl (k := 0) rfl (by decide) rfl (fun ls hl => ?_)
              refine lv_goto (tgt := 53) hx hb dX8_fillSubsetSums_83 (by decide) ?_
              rw [Nat.one_mul] at h
              exact ih53 _ (by omega) (k + 1) (upd g2 (2 ^ i + k) (g2 k + pfX of (σ 3) (lm 3) n kd q i)) _ _ _ rfl (by omega) (fill_step (by omega) hg2) h (lv_sub hl [0, 1, 2, 3, 4, 5, 6, 7] rfl)
          exact L53_3 _ 0 g _ _ _ rfl (Nat.zero_le _) (fun s hs => by rw [hg s (by omega), ss_lo (by omega)]) h (lv_sub hl [0, 1, 2, 3, 4, 5, 6, 7] rfl)
  exact L10_0 _ 0 (upd (σ 0 3) 0 0) _ _ _ rfl (by omega) (fun s hs => by have e9 : s = 0 := (by omega); subst e9; rw [pk_us]; rfl) h (lv_sub hl [0, 1, 2, 3, 4] rfl)
set_option maxHeartbeats 1000000 in
set_option maxRecDepth 100000 in
theorem kX8_ordersDecided (l : Launch) (D : va_G) (ct : Nat → ClassId) (ad : Nat → Nat → Nat) (σ lm : Nat → Nat → Nat → Int32) (τ : Nat → Int64) (dt : Nat → Nat) (n : Nat) (kd : Nat → Nat) (hok : ROK (σ 2) n kd) (m q f : Nat) (hm : m < 8) (hq : q < 3) (hf : f ≤ n) : MI l yX8_ordersDecided (gWs yX8_ordersDecided cX8_ordersDecided 11 (some .int)) rmX8_ordersDecided D ct (stX dt) [.ref (ad 0 0), .int (nI m), .int (nI q), .int (nI f)] (wX ad ct σ lm τ) (fun u : (Nat → Nat → Nat → Int32) × (Nat → Nat → Nat → Int32) × (Nat → Int64) => wX ad ct u.1 u.2.1 u.2.2) (fun r u => r = nI (ordX (pfX true (σ 3) (lm 3) n kd q) m f) ∧ ∃ (g0_3 : Nat → Int32), u = (va_up σ 0 (va_up (σ 0) 3 g0_3), lm, τ)) := by
  refine MI.ofI RX8 rfl (by decide) (Nat.le_of_ble_eq_true rfl) ?_
  intro zp ze zs zm za zb zt zc zA ls zQ C h hX hl hret
  have hx := C.1
  have hb := C.2.1
  have hl : lv_has ls 11 [(0, .ref (ad 0 0)), (1, .int (nI m)), (2, .int (nI q)), (3, .int (nI f))] := hl
  have hok0 := hok
  obtain ⟨hn, hn8, hkd⟩ := hok0
  have hp2 := p2le (Nat.le_trans hf hn8)
  have hp20 : 0 < 2 ^ f := Nat.two_pow_pos f
  refine lv_iload_n hx hb dX8_ordersDecided_0 rfl (lv_at hl 1 rfl) ?_
  refine lv_iload_n hx hb dX8_ordersDecided_1 rfl (lv_at hl 3 rfl) ?_
  refine nb_lt hx hb m f (by omega) (by omega) (tgt := 7) dX8_ordersDecided_2 (by decide) (fun c_2 => ?_) (fun c_2 => ?_)
  · refine lv_aload_n hx hb dX8_ordersDecided_7 rfl (lv_at hl 0 rfl) ?_
    refine lv_iload_n hx hb dX8_ordersDecided_8 rfl (lv_at hl 2 rfl) ?_
    refine lv_iload_n hx hb dX8_ordersDecided_9 rfl (lv_at hl 3 rfl) ?_
    refine lv_iconst (v := 1) hx hb dX8_ordersDecided_10 (by decide) ?_
    refine gcallVv C h trivial gNo_ok (kX8_fillSubsetSums l D ct ad σ lm τ n kd hok q f true (by omega) (by omega)) (cwV 3 C.2.2.2.2 (gInV q557 q559 q9 q57 q560) rfl rfl rfl hvX8_fillSubsetSums ⟨Nat.le_of_ble_eq_true rfl, Nat.le_of_ble_eq_true rfl⟩) 0 rfl rfl rfl rfl hl.1 rfl (Nat.le_of_ble_eq_true rfl) dX8_ordersDecided_11 ⟨Nat.zero_le _, Nat.zero_le _⟩ (fun u9 H ll hw h => ?_)
    obtain ⟨g0_3_c1, hp0_c1, rfl⟩ := hw
    have hp0_c1 : ∀ s, s < 2 ^ f → g0_3_c1 s = ssX (pfX true (σ 3) (lm 3) n kd q) s f := hp0_c1
    have h : gW D ct zA zs _ _ (wX ad ct (va_up σ 0 (va_up (σ 0) 3 g0_3_c1)) lm τ) := h
    have hpm : 2 ^ m < 2 ^ f := Nat.pow_lt_pow_right (by decide) (by omega)
    refine lv_aload_n hx hb dX8_ordersDecided_14 rfl (lv_at hl 0 rfl) ?_
    refine gget C h igX8 0 rfl rfl 5 (by decide) q206 rfl rfl dX8_ordersDecided_15 ?_
    refine lv_iconst (v := 1) hx hb dX8_ordersDecided_18 (by decide) ?_
    refine lv_iload_n hx hb dX8_ordersDecided_19 rfl (lv_at hl 1 rfl) ?_
    refine nshl hx hb 1 m (by omega) (by omega) dX8_ordersDecided_20 ?_
    refine gild C h 47 rfl (j := 1 * 2 ^ m) (by omega) (by decide) dX8_ordersDecided_21 ?_
    refine gas (z := g0_3_c1 (1 * 2 ^ m)) rfl ?_
    refine gas ((congrArg _ (Nat.one_mul _)).trans (hp0_c1 _ hpm)) ?_
    refine lv_istore (lv' := [(4, .int (ssX (pfX true (σ 3) (lm 3) n kd q) (2 ^ m) f)), (0, .ref (ad 0 0)), (1, .int (nI m)), (2, .int (nI q)), (3, .int (nI f))]) hx hb dX8_ordersDecided_22 hl (by decide) rfl (fun ls hl => ?_)
    refine lv_aload_n hx hb dX8_ordersDecided_24 rfl (lv_at hl 1 rfl) ?_
    refine gget C h igX8 0 rfl rfl 5 (by decide) q206 rfl rfl dX8_ordersDecided_25 ?_
    refine lv_iconst (v := 1) hx hb dX8_ordersDecided_28 (by decide) ?_
    refine lv_iload_n hx hb dX8_ordersDecided_29 rfl (lv_at hl 4 rfl) ?_
    refine nshl hx hb 1 f (by omega) (by omega) dX8_ordersDecided_30 ?_
    refine lv_iconst (v := 1) hx hb dX8_ordersDecided_31 (by decide) ?_
    refine nsub hx hb (1 * 2 ^ f) 1 (by omega) dX8_ordersDecided_32 ?_
    refine gild C h 47 rfl (j := (1 * 2 ^ f) - 1) (by omega) (by decide) dX8_ordersDecided_33 ?_
    refine gas (z := g0_3_c1 ((1 * 2 ^ f) - 1)) rfl ?_
    refine gas ((congrArg _ (by rw [Nat.one_mul])).trans (hp0_c1 _ (by omega))) ?_
    refine lv_istore (lv' := [(5, .int (ssX (pfX true (σ 3) (lm 3) n kd q) (2 ^ f - 1) f)), (4, .int (ssX (pfX true (σ 3) (lm 3) n kd q) (2 ^ m) f)), (0, .ref (ad 0 0)), (1, .int (nI m)), (2, .int (nI q)), (3, .int (nI f))]) hx hb dX8_ordersDecided_34 hl (by decide) rfl (fun ls hl => ?_)
    refine lv_iconst (v := 0) hx hb dX8_ordersDecided_36 (by decide) ?_
    refine lv_istore (lv' := [(6, .int 0), (5, .int (ssX (pfX true (σ 3) (lm 3) n kd q) (2 ^ f - 1) f)), (4, .int (ssX (pfX true (σ 3) (lm 3) n kd q) (2 ^ m) f)), (0, .ref (ad 0 0)), (1, .int (nI m)), (2, .int (nI q)), (3, .int (nI f))]) hx hb dX8_ordersDecided_37 hl (by decide) rfl (fun ls hl => ?_)
    refine lv_iconst (v := 0) hx hb dX8_ordersDecided_39 (by decide) ?_
    refine lv_istore (lv' := [(7, .int 0), (6, .int 0), (5, .int (ssX (pfX true (σ 3) (lm 3) n kd q) (2 ^ f - 1) f)), (4, .int (ssX (pfX true (σ 3) (lm 3) n kd q) (2 ^ m) f)), (0, .ref (ad 0 0)), (1, .int (nI m)), (2, .int (nI q)), (3, .int (nI f))]) hx hb dX8_ordersDecided_40 hl (by decide) rfl (fun ls hl => ?_)
    have L42_1 : ∀ (kk : Nat) (x : Nat) (H : Heap) (ll : List Loc) (ls : Array Slot), 2 ^ f - x = kk → (x ≤ 2 ^ f) → gW D ct zA zs H ll (wX ad ct (va_up σ 0 (va_up (σ 0) 3 g0_3_c1)) lm τ) → lv_has ls 11 [(7, .int (nI x)), (6, .int (nI (nsm (ordT (pfX true (σ 3) (lm 3) n kd q) m f) x))), (5, .int (ssX (pfX true (σ 3) (lm 3) n kd q) (2 ^ f - 1) f)), (4, .int (ssX (pfX true (σ 3) (lm 3) n kd q) (2 ^ m) f)), (0, .ref (ad 0 0)), (1, .int (nI m)), (2, .int (nI q)), (3, .int (nI f))] → W zp l ze rmX8_ordersDecided zs zm za zb zt zc H ll 0 0 zQ (F0 zm 42 ls []) := by
      intro kk42
      induction kk42 using Nat.strongRecOn with
      | _ kk42 ih42 =>
      intro x H ll ls hk42 hxx h hl
      refine lv_iload hx hb dX8_ordersDecided_42 (lv_at hl 0 rfl) ?_
      refine lv_iconst (v := 1) hx hb dX8_ordersDecided_44 (by decide) ?_
      refine lv_iload_n hx hb dX8_ordersDecided_45 rfl (lv_at hl 7 rfl) ?_
      refine nshl hx hb 1 f (by omega) (by omega) dX8_ordersDecided_46 ?_
      refine nb_ge hx hb x (1 * 2 ^ f) (by omega) (by omega) (tgt := 136) dX8_ordersDecided_47 (by decide) (fun c_47 => ?_) (fun c_47 => ?_)
      · refine lv_iload hx hb dX8_ordersDecided_136 (lv_at hl 1 rfl) ?_
        have h : gW D ct zA zs _ _ ((fun u : (Nat → Nat → Nat → Int32) × (Nat → Nat → Nat → Int32) × (Nat → Int64) => wX ad ct u.1 u.2.1 u.2.2) ((va_up σ 0 (va_up (σ 0) 3 g0_3_c1), lm, τ))) := h
        exact hret _ ((va_up σ 0 (va_up (σ 0) 3 g0_3_c1), lm, τ)) _ _ _ _ h ⟨(by rw [show x = 2 ^ f by omega]; exact congrArg nI (if_neg (show ¬ f ≤ m by omega)).symm), g0_3_c1, rfl⟩ dX8_ordersDecided_138
      · have hx8 : x < 256 := by omega
        refine lv_iload hx hb dX8_ordersDecided_50 (lv_at hl 0 rfl) ?_
        refine lv_iload_n hx hb dX8_ordersDecided_52 rfl (lv_at hl 5 rfl) ?_
        refine nshr hx hb x m (by omega) (by omega) dX8_ordersDecided_53 ?_
        refine lv_iconst (v := 1) hx hb dX8_ordersDecided_54 (by decide) ?_
        refine nand hx hb (x / 2 ^ m) 1 dX8_ordersDecided_55 ?_
        refine nz_ne hx hb ((x / 2 ^ m) &&& 1) (by rw [and1]; omega) (tgt := 63) dX8_ordersDecided_56 (by decide) (fun c_56 => ?_) (fun c_56 => ?_)
        · refine lv_iconst (v := 0) hx hb dX8_ordersDecided_63 (by decide) ?_
          refine lv_istore (lv' := [(8, .int 0), (7, .int (nI x)), (6, .int (nI (nsm (ordT (pfX true (σ 3) (lm 3) n kd q) m f) x))), (5, .int (ssX (pfX true (σ 3) (lm 3) n kd q) (2 ^ f - 1) f)), (4, .int (ssX (pfX true (σ 3) (lm 3) n kd q) (2 ^ m) f)), (0, .ref (ad 0 0)), (1, .int (nI m)), (2, .int (nI q)), (3, .int (nI f))]) hx hb dX8_ordersDecided_64 hl (by decide) rfl (fun ls hl => ?_)
          refine lv_aload_n hx hb dX8_ordersDecided_66 rfl (lv_at hl 5 rfl) ?_
          refine gget C h igX8 0 rfl rfl 5 (by decide) q206 rfl rfl dX8_ordersDecided_67 ?_
          refine lv_iload hx hb dX8_ordersDecided_70 (lv_at hl 1 rfl) ?_
          refine gild C h 47 rfl (j := x) (by omega) (by decide) dX8_ordersDecided_72 ?_
          refine gas (z := g0_3_c1 x) rfl ?_
          refine gas (hp0_c1 _ (by omega)) ?_
          refine lv_istore (lv' := [(9, .int (ssX (pfX true (σ 3) (lm 3) n kd q) x f)), (8, .int 0), (7, .int (nI x)), (6, .int (nI (nsm (ordT (pfX true (σ 3) (lm 3) n kd q) m f) x))), (5, .int (ssX (pfX true (σ 3) (lm 3) n kd q) (2 ^ f - 1) f)), (4, .int (ssX (pfX true (σ 3) (lm 3) n kd q) (2 ^ m) f)), (0, .ref (ad 0 0)), (1, .int (nI m)), (2, .int (nI q)), (3, .int (nI f))]) hx hb dX8_ordersDecided_73 hl (by decide) rfl (fun ls hl => ?_)
          refine lv_iload hx hb dX8_ordersDecided_75 (lv_at hl 1 rfl) ?_
          refine lv_if_eq (tgt := 130) hx hb dX8_ordersDecided_77 (by decide) (fun _ => ?_) (fun q => absurd (by decide) q)
          refine ninc (lv' := [(7, .int (nI (x + 1))), (9, .int (ssX (pfX true (σ 3) (lm 3) n kd q) x f)), (8, .int 0), (6, .int (nI (nsm (ordT (pfX true (σ 3) (lm 3) n kd q) m f) x))), (5, .int (ssX (pfX true (σ 3) (lm 3) n kd q) (2 ^ f - 1) f)), (4, .int (ssX (pfX true (σ 3) (lm 3) n kd q) (2 ^ m) f)), (0, .ref (ad 0 0)), (1, .int (nI m)), (2, .int (nI q)), (3, .int (nI f))]) hx hb x 1 dX8_ordersDecided_130 hl (k := 2) rfl (by decide) rfl (fun ls hl => ?_)
          refine lv_goto (tgt := 42) hx hb dX8_ordersDecided_133 (by decide) ?_
          have eT : ordT (pfX true (σ 3) (lm 3) n kd q) m f x = _ := if_neg (fun q9 => by rw [tbn c_56] at q9; exact absurd q9.1 (by decide))
          have hl : lv_has ls 11 [(7, .int (nI (x + 1))), (9, .int (ssX (pfX true (σ 3) (lm 3) n kd q) x f)), (8, .int 0), (6, .int (nI (nsm (ordT (pfX true (σ 3) (lm 3) n kd q) m f) (x + 1)))), (5, .int (ssX (pfX true (σ 3) (lm 3) n kd q) (2 ^ f - 1) f)), (4, .int (ssX (pfX true (σ 3) (lm 3) n kd q) (2 ^ m) f)), (0, .ref (ad 0 0)), (1, .int (nI m)), (2, .int (nI q)), (3, .int (nI f))] := by have e9 : (nI (nsm (ordT (pfX true (σ 3) (lm 3) n kd q) m f) x) : Int32) = nI (nsm (ordT (pfX true (σ 3) (lm 3) n kd q) m f) (x + 1)) := congrArg nI (by show _ = nsm (ordT (pfX true (σ 3) (lm 3) n kd q) m f) x + ordT (pfX true (σ 3) (lm 3) n kd q) m f x; rw [eT]; rfl); rw [← e9]; exact hl
          exact ih42 _ (by omega) (x + 1) _ _ _ rfl (by omega) h (lv_sub hl [0, 3, 4, 5, 6, 7, 8, 9] rfl)
        · refine lv_iconst (v := 1) hx hb dX8_ordersDecided_59 (by decide) ?_
          refine lv_goto (tgt := 64) hx hb dX8_ordersDecided_60 (by decide) ?_
          refine lv_istore (lv' := [(8, .int 1), (7, .int (nI x)), (6, .int (nI (nsm (ordT (pfX true (σ 3) (lm 3) n kd q) m f) x))), (5, .int (ssX (pfX true (σ 3) (lm 3) n kd q) (2 ^ f - 1) f)), (4, .int (ssX (pfX true (σ 3) (lm 3) n kd q) (2 ^ m) f)), (0, .ref (ad 0 0)), (1, .int (nI m)), (2, .int (nI q)), (3, .int (nI f))]) hx hb dX8_ordersDecided_64 hl (by decide) rfl (fun ls hl => ?_)
          refine lv_aload_n hx hb dX8_ordersDecided_66 rfl (lv_at hl 5 rfl) ?_
          refine gget C h igX8 0 rfl rfl 5 (by decide) q206 rfl rfl dX8_ordersDecided_67 ?_
          refine lv_iload hx hb dX8_ordersDecided_70 (lv_at hl 1 rfl) ?_
          refine gild C h 47 rfl (j := x) (by omega) (by decide) dX8_ordersDecided_72 ?_
          refine gas (z := g0_3_c1 x) rfl ?_
          refine gas (hp0_c1 _ (by omega)) ?_
          refine lv_istore (lv' := [(9, .int (ssX (pfX true (σ 3) (lm 3) n kd q) x f)), (8, .int 1), (7, .int (nI x)), (6, .int (nI (nsm (ordT (pfX true (σ 3) (lm 3) n kd q) m f) x))), (5, .int (ssX (pfX true (σ 3) (lm 3) n kd q) (2 ^ f - 1) f)), (4, .int (ssX (pfX true (σ 3) (lm 3) n kd q) (2 ^ m) f)), (0, .ref (ad 0 0)), (1, .int (nI m)), (2, .int (nI q)), (3, .int (nI f))]) hx hb dX8_ordersDecided_73 hl (by decide) rfl (fun ls hl => ?_)
          refine lv_iload hx hb dX8_ordersDecided_75 (lv_at hl 1 rfl) ?_
          refine lv_if_eq (tgt := 130) hx hb dX8_ordersDecided_77 (by decide) (fun q => absurd q (by decide)) (fun _ => ?_)
          refine lv_iconst (v := 2) hx hb dX8_ordersDecided_80 (by decide) ?_
          refine lv_iload hx hb dX8_ordersDecided_81 (lv_at hl 0 rfl) ?_
          refine lv_imul hx hb dX8_ordersDecided_83 ?_
          refine lv_iload hx hb dX8_ordersDecided_84 (lv_at hl 4 rfl) ?_
          refine lv_icmp_gt (tgt := 130) hx hb dX8_ordersDecided_86 (by decide) (fun c_86 => ?_) (fun c_86 => ?_)
          · refine ninc (lv' := [(7, .int (nI (x + 1))), (9, .int (ssX (pfX true (σ 3) (lm 3) n kd q) x f)), (8, .int 1), (6, .int (nI (nsm (ordT (pfX true (σ 3) (lm 3) n kd q) m f) x))), (5, .int (ssX (pfX true (σ 3) (lm 3) n kd q) (2 ^ f - 1) f)), (4, .int (ssX (pfX true (σ 3) (lm 3) n kd q) (2 ^ m) f)), (0, .ref (ad 0 0)), (1, .int (nI m)), (2, .int (nI q)), (3, .int (nI f))]) hx hb x 1 dX8_ordersDecided_130 hl (k := 2) rfl (by decide) rfl (fun ls hl => ?_)
            refine lv_goto (tgt := 42) hx hb dX8_ordersDecided_133 (by decide) ?_
            have eT : ordT (pfX true (σ 3) (lm 3) n kd q) m f x = _ := if_neg (fun q9 => q9.2.1 c_86)
            have hl : lv_has ls 11 [(7, .int (nI (x + 1))), (9, .int (ssX (pfX true (σ 3) (lm 3) n kd q) x f)), (8, .int 1), (6, .int (nI (nsm (ordT (pfX true (σ 3) (lm 3) n kd q) m f) (x + 1)))), (5, .int (ssX (pfX true (σ 3) (lm 3) n kd q) (2 ^ f - 1) f)), (4, .int (ssX (pfX true (σ 3) (lm 3) n kd q) (2 ^ m) f)), (0, .ref (ad 0 0)), (1, .int (nI m)), (2, .int (nI q)), (3, .int (nI f))] := by have e9 : (nI (nsm (ordT (pfX true (σ 3) (lm 3) n kd q) m f) x) : Int32) = nI (nsm (ordT (pfX true (σ 3) (lm 3) n kd q) m f) (x + 1)) := congrArg nI (by show _ = nsm (ordT (pfX true (σ 3) (lm 3) n kd q) m f) x + ordT (pfX true (σ 3) (lm 3) n kd q) m f x; rw [eT]; rfl); rw [← e9]; exact hl
            exact ih42 _ (by omega) (x + 1) _ _ _ rfl (by omega) h (lv_sub hl [0, 3, 4, 5, 6, 7, 8, 9] rfl)
          · refine lv_iconst (v := 2) hx hb dX8_ordersDecided_89 (by decide) ?_
            refine lv_iload hx hb dX8_ordersDecided_90 (lv_at hl 0 rfl) ?_
            refine lv_iload hx hb dX8_ordersDecided_92 (lv_at hl 5 rfl) ?_
            refine lv_iadd hx hb dX8_ordersDecided_94 ?_
            refine lv_imul hx hb dX8_ordersDecided_95 ?_
            refine lv_iload hx hb dX8_ordersDecided_96 (lv_at hl 4 rfl) ?_
            refine lv_icmp_le (tgt := 130) hx hb dX8_ordersDecided_98 (by decide) (fun c_98 => ?_) (fun c_98 => ?_)
            · refine ninc (lv' := [(7, .int (nI (x + 1))), (9, .int (ssX (pfX true (σ 3) (lm 3) n kd q) x f)), (8, .int 1), (6, .int (nI (nsm (ordT (pfX true (σ 3) (lm 3) n kd q) m f) x))), (5, .int (ssX (pfX true (σ 3) (lm 3) n kd q) (2 ^ f - 1) f)), (4, .int (ssX (pfX true (σ 3) (lm 3) n kd q) (2 ^ m) f)), (0, .ref (ad 0 0)), (1, .int (nI m)), (2, .int (nI q)), (3, .int (nI f))]) hx hb x 1 dX8_ordersDecided_130 hl (k := 2) rfl (by decide) rfl (fun ls hl => ?_)
              refine lv_goto (tgt := 42) hx hb dX8_ordersDecided_133 (by decide) ?_
              have eT : ordT (pfX true (σ 3) (lm 3) n kd q) m f x = _ := if_neg (fun q9 => q9.2.2 c_98)
              have hl : lv_has ls 11 [(7, .int (nI (x + 1))), (9, .int (ssX (pfX true (σ 3) (lm 3) n kd q) x f)), (8, .int 1), (6, .int (nI (nsm (ordT (pfX true (σ 3) (lm 3) n kd q) m f) (x + 1)))), (5, .int (ssX (pfX true (σ 3) (lm 3) n kd q) (2 ^ f - 1) f)), (4, .int (ssX (pfX true (σ 3) (lm 3) n kd q) (2 ^ m) f)), (0, .ref (ad 0 0)), (1, .int (nI m)), (2, .int (nI q)), (3, .int (nI f))] := by have e9 : (nI (nsm (ordT (pfX true (σ 3) (lm 3) n kd q) m f) x) : Int32) = nI (nsm (ordT (pfX true (σ 3) (lm 3) n kd q) m f) (x + 1)) := congrArg nI (by show _ = nsm (ordT (pfX true (σ 3) (lm 3) n kd q) m f) x + ordT (pfX true (σ 3) (lm 3) n kd q) m f x; rw [eT]; rfl); rw [← e9]; exact hl
              exact ih42 _ (by omega) (x + 1) _ _ _ rfl (by omega) h (lv_sub hl [0, 3, 4, 5, 6, 7, 8, 9] rfl)
            · refine lv_iload hx hb dX8_ordersDecided_101 (lv_at hl 2 rfl) ?_
              refine gcallSi C h (kJ6_bitCount_0f7a4 l D ct x (by omega)) (va_cwS 1 C.2.2.2.2 (gInS q469 q470 q74 q471) rfl rfl rfl hdJ6_bitCount_0f7a4 ⟨Nat.le_of_ble_eq_true rfl, Nat.le_of_ble_eq_true rfl⟩) rfl hl.1 rfl (Nat.le_of_ble_eq_true rfl) dX8_ordersDecided_103 ⟨Nat.zero_le _, Nat.zero_le _⟩ (fun H ll h => ?_)
              have hpl := pcn_lt_of (f := f) (show x < 2 ^ f by omega) (by omega) (show m < f by omega) (tbz c_56)
              refine lv_istore (lv' := [(10, .int (nI (pcn x 8))), (9, .int (ssX (pfX true (σ 3) (lm 3) n kd q) x f)), (8, .int 1), (7, .int (nI x)), (6, .int (nI (nsm (ordT (pfX true (σ 3) (lm 3) n kd q) m f) x))), (5, .int (ssX (pfX true (σ 3) (lm 3) n kd q) (2 ^ f - 1) f)), (4, .int (ssX (pfX true (σ 3) (lm 3) n kd q) (2 ^ m) f)), (0, .ref (ad 0 0)), (1, .int (nI m)), (2, .int (nI q)), (3, .int (nI f))]) hx hb dX8_ordersDecided_106 hl (by decide) rfl (fun ls hl => ?_)
              refine lv_iload hx hb dX8_ordersDecided_108 (lv_at hl 4 rfl) ?_
              refine va_gets C.1 C.2.1 (stX_fac hX) h.2.2.2.1 C.2.2.2.1 (C.2.2.2.2 _ (gWs_in q561)) (fun _ h9 => h9) dX8_ordersDecided_110 ?_
              refine lv_iload hx hb dX8_ordersDecided_113 (lv_at hl 0 rfl) ?_
              refine va_ti C.1 C.2.1 (stX_facT hX) h.2.2.2.1 (vp_in_nI (show pcn x 8 < 9 from (by omega)) (by decide)) (v := .int (nI (fac (pcn x 8)))) (by rw [nI_clamp (by omega)]; rfl) dX8_ordersDecided_115 ?_
              refine va_gets C.1 C.2.1 (stX_fac hX) h.2.2.2.1 C.2.2.2.1 (C.2.2.2.2 _ (gWs_in q561)) (fun _ h9 => h9) dX8_ordersDecided_116 ?_
              refine lv_iload_n hx hb dX8_ordersDecided_119 rfl (lv_at hl 10 rfl) ?_
              refine lv_iconst (v := 1) hx hb dX8_ordersDecided_120 (by decide) ?_
              refine nsub hx hb f 1 (by omega) dX8_ordersDecided_121 ?_
              refine lv_iload hx hb dX8_ordersDecided_122 (lv_at hl 0 rfl) ?_
              refine nsub hx hb (f - 1) (pcn x 8) (by have := pcn_lt_of (f := f) (show x < 2 ^ f by omega) (by omega) (show m < f by omega) (tbz c_56); omega) dX8_ordersDecided_124 ?_
              refine va_ti C.1 C.2.1 (stX_facT hX) h.2.2.2.1 (vp_in_nI (show (f - 1) - (pcn x 8) < 9 from (by omega)) (by decide)) (v := .int (nI (fac ((f - 1) - (pcn x 8))))) (by rw [nI_clamp (by omega)]; rfl) dX8_ordersDecided_125 ?_
              refine nmul hx hb (fac (pcn x 8)) (fac ((f - 1) - (pcn x 8))) dX8_ordersDecided_126 ?_
              refine nadd hx hb (nsm (ordT (pfX true (σ 3) (lm 3) n kd q) m f) x) ((fac (pcn x 8)) * (fac ((f - 1) - (pcn x 8)))) dX8_ordersDecided_127 ?_
              refine lv_istore (lv' := [(6, .int (nI ((nsm (ordT (pfX true (σ 3) (lm 3) n kd q) m f) x) + ((fac (pcn x 8)) * (fac ((f - 1) - (pcn x 8))))))), (10, .int (nI (pcn x 8))), (9, .int (ssX (pfX true (σ 3) (lm 3) n kd q) x f)), (8, .int 1), (7, .int (nI x)), (5, .int (ssX (pfX true (σ 3) (lm 3) n kd q) (2 ^ f - 1) f)), (4, .int (ssX (pfX true (σ 3) (lm 3) n kd q) (2 ^ m) f)), (0, .ref (ad 0 0)), (1, .int (nI m)), (2, .int (nI q)), (3, .int (nI f))]) hx hb dX8_ordersDecided_128 hl (by decide) rfl (fun ls hl => ?_)
              refine ninc (lv' := [(7, .int (nI (x + 1))), (6, .int (nI ((nsm (ordT (pfX true (σ 3) (lm 3) n kd q) m f) x) + ((fac (pcn x 8)) * (fac ((f - 1) - (pcn x 8))))))), (10, .int (nI (pcn x 8))), (9, .int (ssX (pfX true (σ 3) (lm 3) n kd q) x f)), (8, .int 1), (5, .int (ssX (pfX true (σ 3) (lm 3) n kd q) (2 ^ f - 1) f)), (4, .int (ssX (pfX true (σ 3) (lm 3) n kd q) (2 ^ m) f)), (0, .ref (ad 0 0)), (1, .int (nI m)), (2, .int (nI q)), (3, .int (nI f))]) hx hb x 1 dX8_ordersDecided_130 hl (k := 4) rfl (by decide) rfl (fun ls hl => ?_)
              refine lv_goto (tgt := 42) hx hb dX8_ordersDecided_133 (by decide) ?_
              have eT : ordT (pfX true (σ 3) (lm 3) n kd q) m f x = _ := if_pos ⟨tbz c_56, c_86, c_98⟩
              have hl : lv_has ls 11 [(7, .int (nI (x + 1))), (6, .int (nI (nsm (ordT (pfX true (σ 3) (lm 3) n kd q) m f) (x + 1)))), (10, .int (nI (pcn x 8))), (9, .int (ssX (pfX true (σ 3) (lm 3) n kd q) x f)), (8, .int 1), (5, .int (ssX (pfX true (σ 3) (lm 3) n kd q) (2 ^ f - 1) f)), (4, .int (ssX (pfX true (σ 3) (lm 3) n kd q) (2 ^ m) f)), (0, .ref (ad 0 0)), (1, .int (nI m)), (2, .int (nI q)), (3, .int (nI f))] := by have e9 : (nI ((nsm (ordT (pfX true (σ 3) (lm 3) n kd q) m f) x) + ((fac (pcn x 8)) * (fac ((f - 1) - (pcn x 8))))) : Int32) = nI (nsm (ordT (pfX true (σ 3) (lm 3) n kd q) m f) (x + 1)) := congrArg nI (by show _ = nsm (ordT (pfX true (σ 3) (lm 3) n kd q) m f) x + ordT (pfX true (σ 3) (lm 3) n kd q) m f x; rw [eT]); rw [← e9]; exact hl
              exact ih42 _ (by omega) (x + 1) _ _ _ rfl (by omega) h (lv_sub hl [0, 1, 5, 6, 7, 8, 9, 10] rfl)
    exact L42_1 _ 0 _ _ _ rfl (Nat.zero_le _) h (lv_sub hl [0, 1, 2, 3, 4, 5, 6, 7] rfl)
  · refine lv_iconst (v := 0) hx hb dX8_ordersDecided_5 (by decide) ?_
    have h : gW D ct zA zs _ _ ((fun u : (Nat → Nat → Nat → Int32) × (Nat → Nat → Nat → Int32) × (Nat → Int64) => wX ad ct u.1 u.2.1 u.2.2) ((va_up σ 0 (va_up (σ 0) 3 (σ 0 3)), lm, τ))) := h
    exact hret _ ((va_up σ 0 (va_up (σ 0) 3 (σ 0 3)), lm, τ)) _ _ _ _ h ⟨(congrArg nI (if_pos (show f ≤ m by omega))).symm, (σ 0 3), rfl⟩ dX8_ordersDecided_6
set_option maxHeartbeats 1000000 in
set_option maxRecDepth 100000 in
theorem kX8_partsCarried (l : Launch) (D : va_G) (ct : Nat → ClassId) (ad : Nat → Nat → Nat) (σ lm : Nat → Nat → Nat → Int32) (τ : Nat → Int64) (n : Nat) (kd : Nat → Nat) (hok : ROK (σ 2) n kd) (q t f : Nat) (hq : q < 3) (ht : t ≤ 10) (hf : f ≤ n) : MI l yX8_partsCarried (gWs yX8_partsCarried cX8_partsCarried 6 (some .int)) rmX8_partsCarried D ct gNo [.ref (ad 0 0), .int (nI q), .int (nI t), .int (nI f)] (wX ad ct σ lm τ) (fun u : (Nat → Nat → Nat → Int32) × (Nat → Nat → Nat → Int32) × (Nat → Int64) => wX ad ct u.1 u.2.1 u.2.2) (fun r u => r = nI (parX (pfX false (σ 3) (lm 3) n kd q) t f) ∧ ∃ (g0_3 : Nat → Int32) (g0_4 : Nat → Int32), u = (va_up σ 0 (va_up (va_up (σ 0) 3 g0_3) 4 g0_4), lm, τ)) := by
  refine MI.ofI RX8 rfl (by decide) (Nat.le_of_ble_eq_true rfl) ?_
  intro zp ze zs zm za zb zt zc zA ls zQ C h hX hl hret
  have hx := C.1
  have hb := C.2.1
  have hl : lv_has ls 6 [(0, .ref (ad 0 0)), (1, .int (nI q)), (2, .int (nI t)), (3, .int (nI f))] := hl
  have hok0 := hok
  obtain ⟨hn, hn8, hkd⟩ := hok0
  have hp2 := p2le (Nat.le_trans hf hn8)
  have hp20 : 0 < 2 ^ f := Nat.two_pow_pos f
  refine lv_aload_n hx hb dX8_partsCarried_0 rfl (lv_at hl 0 rfl) ?_
  refine lv_iload_n hx hb dX8_partsCarried_1 rfl (lv_at hl 1 rfl) ?_
  refine lv_iload_n hx hb dX8_partsCarried_2 rfl (lv_at hl 3 rfl) ?_
  refine lv_iconst (v := 0) hx hb dX8_partsCarried_3 (by decide) ?_
  refine gcallVv C h trivial gNo_ok (kX8_fillSubsetSums l D ct ad σ lm τ n kd hok q f false (by omega) (by omega)) (cwV 3 C.2.2.2.2 (gInV q557 q559 q9 q57 q560) rfl rfl rfl hvX8_fillSubsetSums ⟨Nat.le_of_ble_eq_true rfl, Nat.le_of_ble_eq_true rfl⟩) 0 rfl rfl rfl rfl hl.1 rfl (Nat.le_of_ble_eq_true rfl) dX8_partsCarried_4 ⟨Nat.zero_le _, Nat.zero_le _⟩ (fun u9 H ll hw h => ?_)
  obtain ⟨g0_3_c1, hp0_c1, rfl⟩ := hw
  have hp0_c1 : ∀ s, s < 2 ^ f → g0_3_c1 s = ssX (pfX false (σ 3) (lm 3) n kd q) s f := hp0_c1
  have h : gW D ct zA zs _ _ (wX ad ct (va_up σ 0 (va_up (σ 0) 3 g0_3_c1)) lm τ) := h
  refine lv_iconst (v := 0) hx hb dX8_partsCarried_7 (by decide) ?_
  refine lv_istore (lv' := [(4, .int 0), (0, .ref (ad 0 0)), (1, .int (nI q)), (2, .int (nI t)), (3, .int (nI f))]) hx hb dX8_partsCarried_8 hl (by decide) rfl (fun ls hl => ?_)
  have L10_1 : ∀ (kk : Nat) (i : Nat) (f4 : Nat → Int32) (H : Heap) (ll : List Loc) (ls : Array Slot), f + 1 - i = kk → (i ≤ f + 1) → (∀ j, j < i → f4 j = z0 j) → gW D ct zA zs H ll (wX ad ct (va_up σ 0 (va_up (va_up (σ 0) 3 g0_3_c1) 4 f4)) lm τ) → lv_has ls 6 [(4, .int (nI i)), (0, .ref (ad 0 0)), (1, .int (nI q)), (2, .int (nI t)), (3, .int (nI f))] → W zp l ze rmX8_partsCarried zs zm za zb zt zc H ll 0 0 zQ (F0 zm 10 ls []) := by
    intro kk10
    induction kk10 using Nat.strongRecOn with
    | _ kk10 ih10 =>
    intro i f4 H ll ls hk10 hi h4 h hl
    refine lv_iload hx hb dX8_partsCarried_10 (lv_at hl 0 rfl) ?_
    refine lv_iload_n hx hb dX8_partsCarried_12 rfl (lv_at hl 4 rfl) ?_
    refine nb_gt hx hb i f (by omega) (by omega) (tgt := 30) dX8_partsCarried_13 (by decide) (fun c_13 => ?_) (fun c_13 => ?_)
    · refine lv_iconst (v := 0) hx hb dX8_partsCarried_30 (by decide) ?_
      refine lv_istore (lv' := [(4, .int 0), (0, .ref (ad 0 0)), (1, .int (nI q)), (2, .int (nI t)), (3, .int (nI f))]) hx hb dX8_partsCarried_31 hl (by decide) rfl (fun ls hl => ?_)
      have L33_2 : ∀ (kk : Nat) (x : Nat) (f4 : Nat → Int32) (H : Heap) (ll : List Loc) (ls : Array Slot), 2 ^ f - x = kk → (x ≤ 2 ^ f) → (∀ k, k ≤ f → f4 k = nI (ckX (pfX false (σ 3) (lm 3) n kd q) f k x)) → gW D ct zA zs H ll (wX ad ct (va_up σ 0 (va_up (va_up (σ 0) 3 g0_3_c1) 4 f4)) lm τ) → lv_has ls 6 [(4, .int (nI x)), (0, .ref (ad 0 0)), (1, .int (nI q)), (2, .int (nI t)), (3, .int (nI f))] → W zp l ze rmX8_partsCarried zs zm za zb zt zc H ll 0 0 zQ (F0 zm 33 ls []) := by
        intro kk33
        induction kk33 using Nat.strongRecOn with
        | _ kk33 ih33 =>
        intro x f4 H ll ls hk33 hxx h4 h hl
        refine lv_iload hx hb dX8_partsCarried_33 (lv_at hl 0 rfl) ?_
        refine lv_iconst (v := 1) hx hb dX8_partsCarried_35 (by decide) ?_
        refine lv_iload_n hx hb dX8_partsCarried_36 rfl (lv_at hl 4 rfl) ?_
        refine nshl hx hb 1 f (by omega) (by omega) dX8_partsCarried_37 ?_
        refine nb_ge hx hb x (1 * 2 ^ f) (by omega) (by omega) (tgt := 71) dX8_partsCarried_38 (by decide) (fun c_38 => ?_) (fun c_38 => ?_)
        · have hx2 : x = 2 ^ f := by omega
          subst hx2
          refine lv_iconst (v := 0) hx hb dX8_partsCarried_71 (by decide) ?_
          refine lv_istore (lv' := [(4, .int 0), (0, .ref (ad 0 0)), (1, .int (nI q)), (2, .int (nI t)), (3, .int (nI f))]) hx hb dX8_partsCarried_72 hl (by decide) rfl (fun ls hl => ?_)
          refine lv_iconst (v := 0) hx hb dX8_partsCarried_74 (by decide) ?_
          refine lv_istore (lv' := [(5, .int 0), (4, .int 0), (0, .ref (ad 0 0)), (1, .int (nI q)), (2, .int (nI t)), (3, .int (nI f))]) hx hb dX8_partsCarried_75 hl (by decide) rfl (fun ls hl => ?_)
          have L77_3 : ∀ (kk : Nat) (k : Nat) (H : Heap) (ll : List Loc) (ls : Array Slot), f + 1 - k = kk → (k ≤ f + 1) → gW D ct zA zs H ll (wX ad ct (va_up σ 0 (va_up (va_up (σ 0) 3 g0_3_c1) 4 f4)) lm τ) → lv_has ls 6 [(5, .int (nI k)), (4, .int (nI (nsm (fun k => ckX (pfX false (σ 3) (lm 3) n kd q) f k (2 ^ f) * (10 - t) ^ k * t ^ (f - k)) k))), (0, .ref (ad 0 0)), (1, .int (nI q)), (2, .int (nI t)), (3, .int (nI f))] → W zp l ze rmX8_partsCarried zs zm za zb zt zc H ll 0 0 zQ (F0 zm 77 ls []) := by
            intro kk77
            induction kk77 using Nat.strongRecOn with
            | _ kk77 ih77 =>
            intro k H ll ls hk77 hk h hl
            refine lv_iload hx hb dX8_partsCarried_77 (lv_at hl 0 rfl) ?_
            refine lv_iload_n hx hb dX8_partsCarried_79 rfl (lv_at hl 5 rfl) ?_
            refine nb_gt hx hb k f (by omega) (by omega) (tgt := 120) dX8_partsCarried_80 (by decide) (fun c_80 => ?_) (fun c_80 => ?_)
            · refine lv_iload hx hb dX8_partsCarried_120 (lv_at hl 1 rfl) ?_
              have h : gW D ct zA zs _ _ ((fun u : (Nat → Nat → Nat → Int32) × (Nat → Nat → Nat → Int32) × (Nat → Int64) => wX ad ct u.1 u.2.1 u.2.2) ((va_up σ 0 (va_up (va_up (σ 0) 3 g0_3_c1) 4 f4), lm, τ))) := h
              exact hret _ ((va_up σ 0 (va_up (va_up (σ 0) 3 g0_3_c1) 4 f4), lm, τ)) _ _ _ _ h ⟨(by rw [show k = f + 1 by omega]; exact congrArg nI ((nsm_cong (fun k hk => Nat.mul_assoc _ _ _)).trans (par_sum (2 ^ f) (Nat.le_refl _)))), g0_3_c1, f4, rfl⟩ dX8_partsCarried_122
            · refine lv_iload hx hb dX8_partsCarried_83 (lv_at hl 1 rfl) ?_
              refine lv_aload_n hx hb dX8_partsCarried_85 rfl (lv_at hl 2 rfl) ?_
              refine gget C h igX8 0 rfl rfl 6 (by decide) q207 rfl rfl dX8_partsCarried_86 ?_
              refine lv_iload hx hb dX8_partsCarried_89 (lv_at hl 0 rfl) ?_
              refine gild C h 48 rfl (j := k) (by omega) (by decide) dX8_partsCarried_91 ?_
              refine gas (z := f4 k) rfl ?_
              refine gas (h4 _ (by omega)) ?_
              refine lv_bipush (v := 10) hx hb dX8_partsCarried_92 (by decide) ?_
              refine lv_iload_n hx hb dX8_partsCarried_94 rfl (lv_at hl 4 rfl) ?_
              refine nsub hx hb 10 t (by omega) dX8_partsCarried_95 ?_
              refine lv_iload hx hb dX8_partsCarried_96 (lv_at hl 0 rfl) ?_
              refine gcallSi C h (kX8_power l D ct (10 - t) k (by omega)) (va_cwS 2 C.2.2.2.2 (gInS q577 q578 q57 q579) rfl rfl rfl hdX8_power ⟨Nat.le_of_ble_eq_true rfl, Nat.le_of_ble_eq_true rfl⟩) rfl hl.1 rfl (Nat.le_of_ble_eq_true rfl) dX8_partsCarried_98 ⟨Nat.zero_le _, Nat.zero_le _⟩ (fun H ll h => ?_)
              refine nmul hx hb (ckX (pfX false (σ 3) (lm 3) n kd q) f k (2 ^ f)) ((10 - t) ^ k) dX8_partsCarried_101 ?_
              refine lv_iload_n hx hb dX8_partsCarried_102 rfl (lv_at hl 4 rfl) ?_
              refine lv_iload_n hx hb dX8_partsCarried_103 rfl (lv_at hl 5 rfl) ?_
              refine lv_iload hx hb dX8_partsCarried_104 (lv_at hl 0 rfl) ?_
              refine nsub hx hb f k (by omega) dX8_partsCarried_106 ?_
              refine gcallSi C h (kX8_power l D ct t (f - k) (by omega)) (va_cwS 2 C.2.2.2.2 (gInS q577 q578 q57 q579) rfl rfl rfl hdX8_power ⟨Nat.le_of_ble_eq_true rfl, Nat.le_of_ble_eq_true rfl⟩) rfl hl.1 rfl (Nat.le_of_ble_eq_true rfl) dX8_partsCarried_107 ⟨Nat.zero_le _, Nat.zero_le _⟩ (fun H ll h => ?_)
              refine nmul hx hb ((ckX (pfX false (σ 3) (lm 3) n kd q) f k (2 ^ f)) * ((10 - t) ^ k)) (t ^ (f - k)) dX8_partsCarried_110 ?_
              refine nadd hx hb (nsm (fun k => ckX (pfX false (σ 3) (lm 3) n kd q) f k (2 ^ f) * (10 - t) ^ k * t ^ (f - k)) k) (((ckX (pfX false (σ 3) (lm 3) n kd q) f k (2 ^ f)) * ((10 - t) ^ k)) * (t ^ (f - k))) dX8_partsCarried_111 ?_
              refine lv_istore (lv' := [(4, .int (nI ((nsm (fun k => ckX (pfX false (σ 3) (lm 3) n kd q) f k (2 ^ f) * (10 - t) ^ k * t ^ (f - k)) k) + (((ckX (pfX false (σ 3) (lm 3) n kd q) f k (2 ^ f)) * ((10 - t) ^ k)) * (t ^ (f - k)))))), (5, .int (nI k)), (0, .ref (ad 0 0)), (1, .int (nI q)), (2, .int (nI t)), (3, .int (nI f))]) hx hb dX8_partsCarried_112 hl (by decide) rfl (fun ls hl => ?_)
              refine ninc (lv' := [(5, .int (nI (k + 1))), (4, .int (nI ((nsm (fun k => ckX (pfX false (σ 3) (lm 3) n kd q) f k (2 ^ f) * (10 - t) ^ k * t ^ (f - k)) k) + (((ckX (pfX false (σ 3) (lm 3) n kd q) f k (2 ^ f)) * ((10 - t) ^ k)) * (t ^ (f - k)))))), (0, .ref (ad 0 0)), (1, .int (nI q)), (2, .int (nI t)), (3, .int (nI f))]) hx hb k 1 dX8_partsCarried_114 hl (k := 1) rfl (by decide) rfl (fun ls hl => ?_)
              refine lv_goto (tgt := 77) hx hb dX8_partsCarried_117 (by decide) ?_
              exact ih77 _ (by omega) (k + 1) _ _ _ rfl (by omega) h (lv_sub hl [0, 1, 2, 3, 4, 5] rfl)
          exact L77_3 _ 0 _ _ _ rfl (Nat.zero_le _) h (lv_sub hl [0, 1, 2, 3, 4, 5] rfl)
        · have hpl := pcn_le_of_lt (show x < 2 ^ f by omega) 8
          have hc4 := ckX_le (pfX false (σ 3) (lm 3) n kd q) f (pcn x 8) x
          refine lv_aload_n hx hb dX8_partsCarried_41 rfl (lv_at hl 1 rfl) ?_
          refine gget C h igX8 0 rfl rfl 5 (by decide) q206 rfl rfl dX8_partsCarried_42 ?_
          refine lv_iload hx hb dX8_partsCarried_45 (lv_at hl 0 rfl) ?_
          refine gild C h 47 rfl (j := x) (by omega) (by decide) dX8_partsCarried_47 ?_
          refine gas (z := g0_3_c1 x) rfl ?_
          refine gas (hp0_c1 _ (by omega)) ?_
          refine lv_if_le (tgt := 65) hx hb dX8_partsCarried_48 (by decide) (fun c_48 => ?_) (fun c_48 => ?_)
          · refine ninc (lv' := [(4, .int (nI (x + 1))), (0, .ref (ad 0 0)), (1, .int (nI q)), (2, .int (nI t)), (3, .int (nI f))]) hx hb x 1 dX8_partsCarried_65 hl (k := 0) rfl (by decide) rfl (fun ls hl => ?_)
            refine lv_goto (tgt := 33) hx hb dX8_partsCarried_68 (by decide) ?_
            exact ih33 _ (by omega) (x + 1) f4 _ _ _ rfl (by omega) (fun k hk => by have e7 : ckX (pfX false (σ 3) (lm 3) n kd q) f k (x + 1) = ckX (pfX false (σ 3) (lm 3) n kd q) f k x + 0 := (by show _ + _ = _; rw [if_pos c_48]); rw [e7]; exact h4 k hk) h (lv_sub hl [0, 1, 2, 3, 4] rfl)
          · refine lv_aload_n hx hb dX8_partsCarried_51 rfl (lv_at hl 1 rfl) ?_
            refine gget C h igX8 0 rfl rfl 6 (by decide) q207 rfl rfl dX8_partsCarried_52 ?_
            refine lv_iload hx hb dX8_partsCarried_55 (lv_at hl 0 rfl) ?_
            refine gcallSi C h (kJ6_bitCount_0f7a4 l D ct x (by omega)) (va_cwS 1 C.2.2.2.2 (gInS q469 q470 q74 q471) rfl rfl rfl hdJ6_bitCount_0f7a4 ⟨Nat.le_of_ble_eq_true rfl, Nat.le_of_ble_eq_true rfl⟩) rfl hl.1 rfl (Nat.le_of_ble_eq_true rfl) dX8_partsCarried_57 ⟨Nat.zero_le _, Nat.zero_le _⟩ (fun H ll h => ?_)
            refine lv_dup2_11 hx hb dX8_partsCarried_60 rfl rfl ?_
            refine gild C h 48 rfl (j := pcn x 8) (by omega) (by decide) dX8_partsCarried_61 ?_
            refine gas (z := f4 (pcn x 8)) rfl ?_
            refine gas (h4 _ hpl) ?_
            refine lv_iconst (v := 1) hx hb dX8_partsCarried_62 (by decide) ?_
            refine nadd hx hb (ckX (pfX false (σ 3) (lm 3) n kd q) f (pcn x 8) x) 1 dX8_partsCarried_63 ?_
            refine gist C h 48 rfl (j := pcn x 8) (by omega) (by decide) dX8_partsCarried_64 (fun H ll h => ?_)
            have h : gW D ct zA zs _ _ (wX ad ct (va_up σ 0 (va_up (va_up (σ 0) 3 g0_3_c1) 4 (upd f4 (pcn x 8) (nI ((ckX (pfX false (σ 3) (lm 3) n kd q) f (pcn x 8) x) + 1))))) lm τ) := h
            refine ninc (lv' := [(4, .int (nI (x + 1))), (0, .ref (ad 0 0)), (1, .int (nI q)), (2, .int (nI t)), (3, .int (nI f))]) hx hb x 1 dX8_partsCarried_65 hl (k := 0) rfl (by decide) rfl (fun ls hl => ?_)
            refine lv_goto (tgt := 33) hx hb dX8_partsCarried_68 (by decide) ?_
            exact ih33 _ (by omega) (x + 1) (upd f4 (pcn x 8) (nI ((ckX (pfX false (σ 3) (lm 3) n kd q) f (pcn x 8) x) + 1))) _ _ _ rfl (by omega) (fun k hk => by have e7 : ckX (pfX false (σ 3) (lm 3) n kd q) f k (x + 1) = ckX (pfX false (σ 3) (lm 3) n kd q) f k x + (if pcn x 8 = k then 1 else 0) := (by show _ + _ = _; rw [if_neg c_48]); rw [e7]; by_cases e8 : k = pcn x 8; (subst e8; rw [pk_us, if_pos rfl]); (rw [pk_un e8, if_neg (fun q9 => e8 q9.symm)]; exact h4 k hk)) h (lv_sub hl [0, 1, 2, 3, 4] rfl)
      exact L33_2 _ 0 f4 _ _ _ rfl (Nat.zero_le _) (fun k hk => h4 k (by omega)) h (lv_sub hl [0, 1, 2, 3, 4] rfl)
    · refine lv_aload_n hx hb dX8_partsCarried_16 rfl (lv_at hl 1 rfl) ?_
      refine gget C h igX8 0 rfl rfl 6 (by decide) q207 rfl rfl dX8_partsCarried_17 ?_
      refine lv_iload hx hb dX8_partsCarried_20 (lv_at hl 0 rfl) ?_
      refine lv_iconst (v := 0) hx hb dX8_partsCarried_22 (by decide) ?_
      refine gist C h 48 rfl (j := i) (by omega) (by decide) dX8_partsCarried_23 (fun H ll h => ?_)
      have h : gW D ct zA zs _ _ (wX ad ct (va_up σ 0 (va_up (va_up (σ 0) 3 g0_3_c1) 4 (upd f4 i 0))) lm τ) := h
      refine ninc (lv' := [(4, .int (nI (i + 1))), (0, .ref (ad 0 0)), (1, .int (nI q)), (2, .int (nI t)), (3, .int (nI f))]) hx hb i 1 dX8_partsCarried_24 hl (k := 0) rfl (by decide) rfl (fun ls hl => ?_)
      refine lv_goto (tgt := 10) hx hb dX8_partsCarried_27 (by decide) ?_
      exact ih10 _ (by omega) (i + 1) (upd f4 i 0) _ _ _ rfl (by omega) (updk h4 rfl) h (lv_sub hl [0, 1, 2, 3, 4] rfl)
  exact L10_1 _ 0 (σ 0 4) _ _ _ rfl (by omega) (fun j hj => absurd hj (by omega)) h (lv_sub hl [0, 1, 2, 3, 4] rfl)
