def nsm (f : Nat → Nat) : Nat → Nat
  | 0 => 0
  | k + 1 => nsm f k + f k
theorem nsm_bound {f : Nat → Nat} {b : Nat} (h : ∀ k, f k ≤ b) : ∀ n, nsm f n ≤ n * b
  | 0 => by simp [nsm]
  | n + 1 => by have h1 := nsm_bound h n; have h2 := h n; simp only [nsm, Nat.succ_mul]; omega
theorem nsm_mono (f : Nat → Nat) (m : Nat) : ∀ k, nsm f m ≤ nsm f (m + k)
  | 0 => Nat.le_refl _
  | k + 1 => Nat.le_trans (nsm_mono f m k) (Nat.le_add_right _ _)
theorem nsm_le (f : Nat → Nat) {a b : Nat} (h : a ≤ b) : nsm f a ≤ nsm f b := by
  have := nsm_mono f a (b - a); rwa [Nat.add_sub_cancel' h] at this
theorem nsm_cong {f g : Nat → Nat} : ∀ {n : Nat}, (∀ k, k < n → f k = g k) → nsm f n = nsm g n
  | 0, _ => rfl
  | n + 1, h => by simp only [nsm]; rw [nsm_cong (fun k hk => h k (by omega)), h n (by omega)]
/-- x's bits, less those of F (F below 256) -/
theorem andnot {x F : Nat} (hx : x < 256) (hF : F < 256) : nI x &&& (nI F ^^^ (-1)) = nI (x &&& (F ^^^ 255)) := by
  apply Int32.toBitVec_inj.mp
  show (BitVec.ofNat 32 x) &&& ((BitVec.ofNat 32 F) ^^^ (BitVec.allOnes 32)) = BitVec.ofNat 32 (x &&& (F ^^^ 255))
  apply BitVec.eq_of_getLsbD_eq
  intro i hi
  rw [BitVec.getLsbD_and, BitVec.getLsbD_xor, BitVec.getLsbD_ofNat, BitVec.getLsbD_ofNat, BitVec.getLsbD_ofNat, BitVec.getLsbD_allOnes, Nat.testBit_and, Nat.testBit_xor]
  simp only [hi, decide_true, Bool.true_and]
  by_cases h8 : i < 8
  · have : (255 : Nat).testBit i = true := by
      have h : ∀ i, i < 8 → (255 : Nat).testBit i = true := by decide
      exact h i h8
    rw [this]
  · have : x.testBit i = false := Nat.testBit_lt_two_pow (Nat.lt_of_lt_of_le hx (show 256 ≤ 2 ^ i from Nat.pow_le_pow_right (by decide : 0 < 2) (show 8 ≤ i by omega)))
    rw [this]; simp
theorem sub_bit {x F : Nat} (h : x &&& (F ^^^ 255) = 0) {i : Nat} (hi : i < 8) (hx : x.testBit i = true) : F.testBit i = true := by
  have h1 : (x &&& (F ^^^ 255)).testBit i = false := by rw [h]; exact Nat.zero_testBit i
  rw [Nat.testBit_and, Nat.testBit_xor, hx] at h1
  have : (255 : Nat).testBit i = true := by
    have h : ∀ i, i < 8 → (255 : Nat).testBit i = true := by decide
    exact h i hi
  rw [this] at h1
  cases hF : F.testBit i with
  | true => rfl
  | false => rw [hF] at h1; simp at h1
theorem bit_le {x F k : Nat} (h : x.testBit k = true → F.testBit k = true) : x / 2 ^ k % 2 ≤ F / 2 ^ k % 2 := by
  rw [tb_div, tb_div] at h
  have h1 := Nat.mod_lt (x / 2 ^ k) (show 2 > 0 by decide)
  rcases (show x / 2 ^ k % 2 = 0 ∨ x / 2 ^ k % 2 = 1 by omega) with q | q
  · rw [q]; exact Nat.zero_le _
  · rw [q, h q]; exact Nat.le_refl 1
theorem pcn_sub {x F : Nat} : ∀ k, (∀ i, i < k → x.testBit i = true → F.testBit i = true) → pcn x k ≤ pcn F k
  | 0, _ => Nat.le_refl _
  | k + 1, h => Nat.add_le_add (pcn_sub k (fun i hi => h i (by omega))) (bit_le (h k (by omega)))
theorem pcn_lt {x F m : Nat} (hm : F.testBit m = true) (hm2 : ¬ x.testBit m = true) : ∀ k, m < k → (∀ i, i < k → x.testBit i = true → F.testBit i = true) → pcn x k + 1 ≤ pcn F k
  | 0, h, _ => absurd h (by omega)
  | k + 1, hk, h => by
    simp only [pcn]
    by_cases e : m = k
    · subst e
      have h1 := pcn_sub m (fun i hi => h i (by omega))
      rw [tb_div] at hm hm2
      have := Nat.mod_lt (x / 2 ^ m) (show 2 > 0 by decide)
      omega
    · have h1 := pcn_lt hm hm2 k (by omega) (fun i hi => h i (by omega))
      have h2 := bit_le (h k (by omega))
      omega
theorem fbits_lt (c : Nat) : ∀ n, fbits c n < 2 ^ n
  | 0 => by show 0 < 1; decide
  | n + 1 => by
    simp only [fbits]
    have h := fbits_lt c n
    have e : 2 ^ (n + 1) = 2 ^ n * 2 := Nat.pow_succ 2 n
    apply Nat.or_lt_two_pow (by omega)
    split <;> omega
theorem p2le {n : Nat} (h : n ≤ 8) : 2 ^ n ≤ 256 := Nat.pow_le_pow_right (by decide : 0 < 2) (show n ≤ 8 from h)
theorem fb256 (c : Nat) {n : Nat} (h : n ≤ 8) : fbits c n < 256 := Nat.lt_of_lt_of_le (fbits_lt c n) (p2le h)
theorem fac_le : ∀ a, a < 8 → ∀ b, b < 8 → a + b ≤ 7 → fac a * fac b ≤ 5040 := by decide
theorem fac_pos : ∀ n, 0 < fac n
  | 0 => by decide
  | n + 1 => Nat.mul_pos (fac_pos n) (by omega)
theorem fac_lt : ∀ n, n ≤ 8 → fac n < 2 ^ 31 := by decide
/-- SAY, as the reference counts it: for one set of those ahead -/
def sayT (σ : Nat → Nat → Int32) (n c : Nat) (kd : Nat → Nat) (m q x : Nat) : Nat := if (x &&& (fbits c n ^^^ 255) = 0 ∧ ¬ x.testBit m = true) ∧ 2 * frM σ n c kd q x ≤ frM σ n c kd q (fbits c n) ∧ ¬ 2 * (frM σ n c kd q x + frM σ n c kd q (1 * 2 ^ m)) ≤ frM σ n c kd q (fbits c n) then fac (pcn x 8) * fac (pcn (fbits c n) 8 - 1 - pcn x 8) else 0
def sayA (σ : Nat → Nat → Int32) (n c : Nat) (kd : Nat → Nat) (m q : Nat) : Nat := nsm (sayT σ n c kd m q) (1 * 2 ^ n)
def sayM (σ : Nat → Nat → Int32) (n c : Nat) (kd : Nat → Nat) (m q t : Nat) : Nat := if frM σ n c kd q (fbits c n) = 0 ∨ ¬ (fbits c n).testBit m = true then t else (if t = 0 then sayA σ n c kd m q else fac (pcn (fbits c n) 8)) / Nat.gcd (fac (pcn (fbits c n) 8)) (sayA σ n c kd m q)
theorem sayT_le (σ : Nat → Nat → Int32) (n c : Nat) (kd : Nat → Nat) (m q x : Nat) (hF : 0 < pcn (fbits c n) 8) (hm : (fbits c n).testBit m = true) (hm8 : m < 8) : sayT σ n c kd m q x ≤ 5040 := by
  unfold sayT
  split
  · rename_i h
    have h1 := pcn_lt hm h.1.2 8 hm8 (fun i hi => sub_bit h.1.1 hi)
    have h2 := pcn_le (fbits c n) 8
    exact fac_le _ (by omega) _ (by omega) (by omega)
  · exact Nat.zero_le _
theorem sayA_lt (σ : Nat → Nat → Int32) {n c : Nat} (kd : Nat → Nat) (m q : Nat) (hm : (fbits c n).testBit m = true) (hm8 : m < 8) (hn : n ≤ 8) : sayA σ n c kd m q < 2 ^ 31 := by
  have hF : 0 < pcn (fbits c n) 8 := by
    have := pcn_lt (x := 0) hm (by simp) 8 hm8 (fun i _ h => by simp at h)
    omega
  have h1 := nsm_bound (fun x => sayT_le σ n c kd m q x hF hm hm8) (1 * 2 ^ n)
  have h2 := p2le hn
  unfold sayA
  have h3 : 1 * 2 ^ n * 5040 ≤ 256 * 5040 := Nat.mul_le_mul_right _ (by omega)
  omega
theorem pcn_pos {F m : Nat} (hm : F.testBit m = true) (hm8 : m < 8) : 0 < pcn F 8 := by
  have := pcn_lt (x := 0) hm (by simp) 8 hm8 (fun i _ h => by simp at h)
  omega
set_option maxHeartbeats 4000000 in
set_option maxRecDepth 100000 in
theorem kX9_sayNow (l : Launch) (D : va_G) (ct : Nat → ClassId) (ad : Nat → Nat) (σ : Nat → Nat → Int32) (τ : Nat → Nat → Int64) (n c : Nat) (kd : Nat → Nat) (hok : MOK σ n c kd) (m q t : Nat) (hm : m < n) (hq : q < 3) (ht : t < 2) : MI l yX9_sayNow (gWs yX9_sayNow cX9_sayNow 13 (some .int)) rmX9_sayNow D ct gNo [.ref (ad 0), .int (nI m), .int (nI q), .int (nI t)] (wM ad ct σ τ) (fun _ : Unit => (wM ad ct σ τ)) (fun r _ => r = nI (sayM σ n c kd m q t)) := by
  refine MI.ofI RX9 rfl (by decide) (Nat.le_of_ble_eq_true rfl) ?_
  intro zp ze zs zm za zb zt zc zA ls zQ C h hX hl hret
  have hx := C.1
  have hb := C.2.1
  have hl : lv_has ls 13 [(0, .ref (ad 0)), (1, .int (nI m)), (2, .int (nI q)), (3, .int (nI t))] := hl
  have hok0 := hok
  obtain ⟨hn, hn8, hc, hc8, hkd⟩ := hok0
  have hF := fb256 c hn8
  have hp2 := p2le hn8
  have hpm := pow_lt8 m (by omega)
  refine lv_aload_n hx hb dX9_sayNow_0 rfl (lv_at hl 0 rfl) ?_
  refine gcallVi C h trivial gNo_ok (kX9_felt l D ct ad σ τ n c kd hok) (cwV 0 C.2.2.2.2 (gInV q948 q950 q38 q66 q951) rfl rfl rfl hvX9_felt ⟨Nat.le_of_ble_eq_true rfl, Nat.le_of_ble_eq_true rfl⟩) 0 (wM_o ad ct σ τ) rfl rfl rfl hl.1 rfl (Nat.le_of_ble_eq_true rfl) dX9_sayNow_1 ⟨Nat.zero_le _, Nat.zero_le _⟩ (fun r9 u9 H ll hw h => ?_)
  have hw : r9 = nI (fbits c n) := hw
  subst hw
  have h : gW D ct zA zs _ _ (wM ad ct σ τ) := h
  refine lv_istore (lv' := [(4, .int (nI (fbits c n))), (0, .ref (ad 0)), (1, .int (nI m)), (2, .int (nI q)), (3, .int (nI t))]) hx hb dX9_sayNow_4 hl (by decide) rfl (fun ls hl => ?_)
  refine lv_aload_n hx hb dX9_sayNow_6 rfl (lv_at hl 1 rfl) ?_
  refine lv_iload hx hb dX9_sayNow_7 (lv_at hl 0 rfl) ?_
  refine lv_iload_n hx hb dX9_sayNow_9 rfl (lv_at hl 3 rfl) ?_
  refine gcallVi C h trivial gNo_ok (kX9_forBy l D ct ad σ τ n c kd hok (fbits c n) q (by omega) (by omega)) (cwV 2 C.2.2.2.2 (gInV q972 q974 q40 q66 q975) rfl rfl rfl hvX9_forBy ⟨Nat.le_of_ble_eq_true rfl, Nat.le_of_ble_eq_true rfl⟩) 0 (wM_o ad ct σ τ) rfl rfl rfl hl.1 rfl (Nat.le_of_ble_eq_true rfl) dX9_sayNow_10 ⟨Nat.zero_le _, Nat.zero_le _⟩ (fun r9 u9 H ll hw h => ?_)
  have hw : r9 = frM σ n c kd q (fbits c n) := hw
  subst hw
  have h : gW D ct zA zs _ _ (wM ad ct σ τ) := h
  refine lv_istore (lv' := [(5, .int (frM σ n c kd q (fbits c n))), (4, .int (nI (fbits c n))), (0, .ref (ad 0)), (1, .int (nI m)), (2, .int (nI q)), (3, .int (nI t))]) hx hb dX9_sayNow_13 hl (by decide) rfl (fun ls hl => ?_)
  refine lv_iload hx hb dX9_sayNow_15 (lv_at hl 0 rfl) ?_
  refine lv_if_eq (tgt := 29) hx hb dX9_sayNow_17 (by decide) (fun c_17 => ?_) (fun c_17 => ?_)
  · refine lv_iload_n hx hb dX9_sayNow_29 rfl (lv_at hl 5 rfl) ?_
    refine nz_ne hx hb t (by omega) (tgt := 37) dX9_sayNow_30 (by decide) (fun c_30 => ?_) (fun c_30 => ?_)
    · refine lv_iconst (v := 1) hx hb dX9_sayNow_37 (by decide) ?_
      exact hret _ () _ _ _ _ h (by unfold sayM; rw [if_pos (by first | exact Or.inl c_17 | exact Or.inr c_26)]; first | (rw [c_30]; rfl) | (rw [show t = 1 by omega]; rfl)) dX9_sayNow_38
    · refine lv_iconst (v := 0) hx hb dX9_sayNow_33 (by decide) ?_
      refine lv_goto (tgt := 38) hx hb dX9_sayNow_34 (by decide) ?_
      exact hret _ () _ _ _ _ h (by unfold sayM; rw [if_pos (by first | exact Or.inl c_17 | exact Or.inr c_26)]; first | (rw [c_30]; rfl) | (rw [show t = 1 by omega]; rfl)) dX9_sayNow_38
  · refine lv_iload hx hb dX9_sayNow_20 (lv_at hl 1 rfl) ?_
    refine lv_iload_n hx hb dX9_sayNow_22 rfl (lv_at hl 3 rfl) ?_
    refine gcallSi C h (kX9_isIn l D ct (fbits c n) m (by omega) (by omega)) (va_cwS 2 C.2.2.2.2 (gInS q889 q890 q66 q891) rfl rfl rfl hdX9_isIn ⟨Nat.le_of_ble_eq_true rfl, Nat.le_of_ble_eq_true rfl⟩) rfl hl.1 rfl (Nat.le_of_ble_eq_true rfl) dX9_sayNow_23 ⟨Nat.zero_le _, Nat.zero_le _⟩ (fun H ll h => ?_)
    refine bz_ne hx hb ((fbits c n).testBit m = true) (tgt := 39) dX9_sayNow_26 (by decide) (fun c_26 => ?_) (fun c_26 => ?_)
    · have hFm : (fbits c n).testBit m = true := by first | exact c_26 | simpa using c_26
      have hFp := pcn_pos hFm (by omega)
      refine lv_iload hx hb dX9_sayNow_39 (lv_at hl 1 rfl) ?_
      refine gcallSi C h (kX9_size l D ct (fbits c n) (by omega)) (va_cwS 1 C.2.2.2.2 (gInS q905 q906 q66 q907) rfl rfl rfl hdX9_size ⟨Nat.le_of_ble_eq_true rfl, Nat.le_of_ble_eq_true rfl⟩) rfl hl.1 rfl (Nat.le_of_ble_eq_true rfl) dX9_sayNow_41 ⟨Nat.zero_le _, Nat.zero_le _⟩ (fun H ll h => ?_)
      refine lv_istore (lv' := [(6, .int (nI (pcn (fbits c n) 8))), (5, .int (frM σ n c kd q (fbits c n))), (4, .int (nI (fbits c n))), (0, .ref (ad 0)), (1, .int (nI m)), (2, .int (nI q)), (3, .int (nI t))]) hx hb dX9_sayNow_44 hl (by decide) rfl (fun ls hl => ?_)
      refine lv_aload_n hx hb dX9_sayNow_46 rfl (lv_at hl 3 rfl) ?_
      refine lv_iconst (v := 1) hx hb dX9_sayNow_47 (by decide) ?_
      refine lv_iload_n hx hb dX9_sayNow_48 rfl (lv_at hl 4 rfl) ?_
      refine nshl hx hb 1 m (by omega) (by omega) dX9_sayNow_49 ?_
      refine lv_iload_n hx hb dX9_sayNow_50 rfl (lv_at hl 5 rfl) ?_
      refine gcallVi C h trivial gNo_ok (kX9_forBy l D ct ad σ τ n c kd hok (1 * 2 ^ m) q (by omega) (by omega)) (cwV 2 C.2.2.2.2 (gInV q972 q974 q40 q66 q975) rfl rfl rfl hvX9_forBy ⟨Nat.le_of_ble_eq_true rfl, Nat.le_of_ble_eq_true rfl⟩) 0 (wM_o ad ct σ τ) rfl rfl rfl hl.1 rfl (Nat.le_of_ble_eq_true rfl) dX9_sayNow_51 ⟨Nat.zero_le _, Nat.zero_le _⟩ (fun r9 u9 H ll hw h => ?_)
      have hw : r9 = frM σ n c kd q (1 * 2 ^ m) := hw
      subst hw
      have h : gW D ct zA zs _ _ (wM ad ct σ τ) := h
      refine lv_istore (lv' := [(7, .int (frM σ n c kd q (1 * 2 ^ m))), (6, .int (nI (pcn (fbits c n) 8))), (5, .int (frM σ n c kd q (fbits c n))), (4, .int (nI (fbits c n))), (0, .ref (ad 0)), (1, .int (nI m)), (2, .int (nI q)), (3, .int (nI t))]) hx hb dX9_sayNow_54 hl (by decide) rfl (fun ls hl => ?_)
      refine lv_iconst (v := 0) hx hb dX9_sayNow_56 (by decide) ?_
      refine lv_istore (lv' := [(8, .int 0), (7, .int (frM σ n c kd q (1 * 2 ^ m))), (6, .int (nI (pcn (fbits c n) 8))), (5, .int (frM σ n c kd q (fbits c n))), (4, .int (nI (fbits c n))), (0, .ref (ad 0)), (1, .int (nI m)), (2, .int (nI q)), (3, .int (nI t))]) hx hb dX9_sayNow_57 hl (by decide) rfl (fun ls hl => ?_)
      refine lv_iconst (v := 0) hx hb dX9_sayNow_59 (by decide) ?_
      refine lv_istore (lv' := [(9, .int 0), (8, .int 0), (7, .int (frM σ n c kd q (1 * 2 ^ m))), (6, .int (nI (pcn (fbits c n) 8))), (5, .int (frM σ n c kd q (fbits c n))), (4, .int (nI (fbits c n))), (0, .ref (ad 0)), (1, .int (nI m)), (2, .int (nI q)), (3, .int (nI t))]) hx hb dX9_sayNow_60 hl (by decide) rfl (fun ls hl => ?_)
      have L62_0 : ∀ (kk : Nat) (i : Nat) (H : Heap) (ll : List Loc) (ls : Array Slot), 1 * 2 ^ n - i = kk → (i ≤ 1 * 2 ^ n) → gW D ct zA zs H ll (wM ad ct σ τ) → lv_has ls 13 [(9, .int (nI i)), (8, .int (nI (nsm (sayT σ n c kd m q) i))), (7, .int (frM σ n c kd q (1 * 2 ^ m))), (6, .int (nI (pcn (fbits c n) 8))), (5, .int (frM σ n c kd q (fbits c n))), (4, .int (nI (fbits c n))), (0, .ref (ad 0)), (1, .int (nI m)), (2, .int (nI q)), (3, .int (nI t))] → W zp l ze rmX9_sayNow zs zm za zb zt zc H ll 0 0 zQ (F0 zm 62 ls []) := by
        intro kk62
        induction kk62 using Nat.strongRecOn with
        | _ kk62 ih62 =>
        intro i H ll ls hk62 hi h hl
        refine lv_iload hx hb dX9_sayNow_62 (lv_at hl 0 rfl) ?_
        refine lv_iconst (v := 1) hx hb dX9_sayNow_64 (by decide) ?_
        refine lv_aload_n hx hb dX9_sayNow_65 rfl (lv_at hl 6 rfl) ?_
        refine mg_mussels C h dX9_sayNow_66 ?_
        refine gas hn ?_
        refine nshl hx hb 1 n (by omega) (by omega) dX9_sayNow_69 ?_
        refine nb_ge hx hb i (1 * 2 ^ n) (by omega) (by omega) (tgt := 192) dX9_sayNow_70 (by decide) (fun c_70 => ?_) (fun c_70 => ?_)
        · have h15 := pcn_le (fbits c n) 8
          have h19 := sayA_lt σ kd m q hFm (by omega) hn8
          have e19 : nsm (sayT σ n c kd m q) i = sayA σ n c kd m q := by rw [show i = 1 * 2 ^ n by omega]; rfl
          rw [e19] at hl
          have h20 := fac_pos (pcn (fbits c n) 8)
          have h21 := fac_lt (pcn (fbits c n) 8) h15
          refine lv_iload hx hb dX9_sayNow_192 (lv_at hl 1 rfl) ?_
          refine lv_iload hx hb dX9_sayNow_194 (lv_at hl 3 rfl) ?_
          refine gcallSi C h (kX9_orders l D ct (pcn (fbits c n) 8) (by omega)) (va_cwS 1 C.2.2.2.2 (gInS q976 q977 q66 q978) rfl rfl rfl hdX9_orders ⟨Nat.le_of_ble_eq_true rfl, Nat.le_of_ble_eq_true rfl⟩) rfl hl.1 rfl (Nat.le_of_ble_eq_true rfl) dX9_sayNow_196 ⟨Nat.zero_le _, Nat.zero_le _⟩ (fun H ll h => ?_)
          refine lv_iload_n hx hb dX9_sayNow_199 rfl (lv_at hl 9 rfl) ?_
          refine gcallSi C h (kX9_part l D ct (sayA σ n c kd m q) (fac (pcn (fbits c n) 8)) t (by omega) (by omega) (by omega) (by omega)) (va_cwS 3 C.2.2.2.2 (gInS q979 q980 q66 q981) rfl rfl rfl hdX9_part ⟨Nat.le_of_ble_eq_true rfl, Nat.le_of_ble_eq_true rfl⟩) rfl hl.1 rfl (Nat.le_of_ble_eq_true rfl) dX9_sayNow_200 ⟨Nat.zero_le _, Nat.zero_le _⟩ (fun H ll h => ?_)
          exact hret _ () _ _ _ _ h (by unfold sayM; rw [if_neg (show ¬ (frM σ n c kd q (fbits c n) = 0 ∨ ¬ (fbits c n).testBit m = true) from fun h9 => h9.elim c_17 (fun h9 => h9 hFm))]) dX9_sayNow_203
        · refine lv_iload hx hb dX9_sayNow_73 (lv_at hl 0 rfl) ?_
          refine lv_iload hx hb dX9_sayNow_75 (lv_at hl 5 rfl) ?_
          refine lv_iconst (v := -1) hx hb dX9_sayNow_77 (by decide) ?_
          refine lv_ixor hx hb dX9_sayNow_78 ?_
          refine lv_iand hx hb dX9_sayNow_79 ?_
          refine gas (andnot (by omega) (fb256 c hn8)) ?_
          refine nz_ne hx hb (i &&& (fbits c n ^^^ 255)) (Nat.lt_of_le_of_lt Nat.and_le_left (by omega)) (tgt := 96) dX9_sayNow_80 (by decide) (fun c_80 => ?_) (fun c_80 => ?_)
          · refine lv_iconst (v := 0) hx hb dX9_sayNow_96 (by decide) ?_
            refine lv_istore (lv' := [(10, .int 0), (9, .int (nI i)), (8, .int (nI (nsm (sayT σ n c kd m q) i))), (7, .int (frM σ n c kd q (1 * 2 ^ m))), (6, .int (nI (pcn (fbits c n) 8))), (5, .int (frM σ n c kd q (fbits c n))), (4, .int (nI (fbits c n))), (0, .ref (ad 0)), (1, .int (nI m)), (2, .int (nI q)), (3, .int (nI t))]) hx hb dX9_sayNow_97 hl (by decide) rfl (fun ls hl => ?_)
            refine lv_iload hx hb dX9_sayNow_99 (lv_at hl 0 rfl) ?_
            refine lv_if_eq (tgt := 114) hx hb dX9_sayNow_101 (by decide) (fun _ => ?_) (fun q => absurd (by decide) q)
            refine lv_iconst (v := 0) hx hb dX9_sayNow_114 (by decide) ?_
            refine lv_istore (lv' := [(11, .int 0), (10, .int 0), (9, .int (nI i)), (8, .int (nI (nsm (sayT σ n c kd m q) i))), (7, .int (frM σ n c kd q (1 * 2 ^ m))), (6, .int (nI (pcn (fbits c n) 8))), (5, .int (frM σ n c kd q (fbits c n))), (4, .int (nI (fbits c n))), (0, .ref (ad 0)), (1, .int (nI m)), (2, .int (nI q)), (3, .int (nI t))]) hx hb dX9_sayNow_115 hl (by decide) rfl (fun ls hl => ?_)
            refine lv_iload hx hb dX9_sayNow_117 (lv_at hl 1 rfl) ?_
            refine lv_if_eq (tgt := 147) hx hb dX9_sayNow_119 (by decide) (fun _ => ?_) (fun q => absurd (by decide) q)
            refine lv_iconst (v := 0) hx hb dX9_sayNow_147 (by decide) ?_
            refine lv_istore (lv' := [(12, .int 0), (11, .int 0), (10, .int 0), (9, .int (nI i)), (8, .int (nI (nsm (sayT σ n c kd m q) i))), (7, .int (frM σ n c kd q (1 * 2 ^ m))), (6, .int (nI (pcn (fbits c n) 8))), (5, .int (frM σ n c kd q (fbits c n))), (4, .int (nI (fbits c n))), (0, .ref (ad 0)), (1, .int (nI m)), (2, .int (nI q)), (3, .int (nI t))]) hx hb dX9_sayNow_148 hl (by decide) rfl (fun ls hl => ?_)
            refine lv_iload hx hb dX9_sayNow_150 (lv_at hl 4 rfl) ?_
            refine lv_iload hx hb dX9_sayNow_152 (lv_at hl 0 rfl) ?_
            refine lv_if_eq (tgt := 182) hx hb dX9_sayNow_154 (by decide) (fun _ => ?_) (fun q => absurd (by decide) q)
            refine lv_iconst (v := 0) hx hb dX9_sayNow_182 (by decide) ?_
            refine nadd hx hb (nsm (sayT σ n c kd m q) i) 0 dX9_sayNow_183 ?_
            refine lv_istore (lv' := [(8, .int (nI ((nsm (sayT σ n c kd m q) i) + 0))), (12, .int 0), (11, .int 0), (10, .int 0), (9, .int (nI i)), (7, .int (frM σ n c kd q (1 * 2 ^ m))), (6, .int (nI (pcn (fbits c n) 8))), (5, .int (frM σ n c kd q (fbits c n))), (4, .int (nI (fbits c n))), (0, .ref (ad 0)), (1, .int (nI m)), (2, .int (nI q)), (3, .int (nI t))]) hx hb dX9_sayNow_184 hl (by decide) rfl (fun ls hl => ?_)
            refine ninc (lv' := [(9, .int (nI (i + 1))), (8, .int (nI ((nsm (sayT σ n c kd m q) i) + 0))), (12, .int 0), (11, .int 0), (10, .int 0), (7, .int (frM σ n c kd q (1 * 2 ^ m))), (6, .int (nI (pcn (fbits c n) 8))), (5, .int (frM σ n c kd q (fbits c n))), (4, .int (nI (fbits c n))), (0, .ref (ad 0)), (1, .int (nI m)), (2, .int (nI q)), (3, .int (nI t))]) hx hb i 1 dX9_sayNow_186 hl (k := 4) rfl (by decide) rfl (fun ls hl => ?_)
            refine lv_goto (tgt := 62) hx hb dX9_sayNow_189 (by decide) ?_
            have e9 : nsm (sayT σ n c kd m q) (i + 1) = (nsm (sayT σ n c kd m q) i) + 0 := by show _ + sayT σ n c kd m q i = _; unfold sayT; rw [if_neg (fun q => c_80 q.1.1)]
            rw [← e9] at hl
            exact ih62 _ (by omega) (i + 1) _ _ _ rfl (by omega) h (lv_sub hl [0, 1, 5, 6, 7, 8, 9, 10, 11, 12] rfl)
          · refine lv_iload hx hb dX9_sayNow_83 (lv_at hl 0 rfl) ?_
            refine lv_iload_n hx hb dX9_sayNow_85 rfl (lv_at hl 7 rfl) ?_
            refine gcallSi C h (kX9_isIn l D ct i m (by omega) (by omega)) (va_cwS 2 C.2.2.2.2 (gInS q889 q890 q66 q891) rfl rfl rfl hdX9_isIn ⟨Nat.le_of_ble_eq_true rfl, Nat.le_of_ble_eq_true rfl⟩) rfl hl.1 rfl (Nat.le_of_ble_eq_true rfl) dX9_sayNow_86 ⟨Nat.zero_le _, Nat.zero_le _⟩ (fun H ll h => ?_)
            refine bz_ne hx hb (i.testBit m = true) (tgt := 96) dX9_sayNow_89 (by decide) (fun c_89 => ?_) (fun c_89 => ?_)
            · refine lv_iconst (v := 0) hx hb dX9_sayNow_96 (by decide) ?_
              refine lv_istore (lv' := [(10, .int 0), (9, .int (nI i)), (8, .int (nI (nsm (sayT σ n c kd m q) i))), (7, .int (frM σ n c kd q (1 * 2 ^ m))), (6, .int (nI (pcn (fbits c n) 8))), (5, .int (frM σ n c kd q (fbits c n))), (4, .int (nI (fbits c n))), (0, .ref (ad 0)), (1, .int (nI m)), (2, .int (nI q)), (3, .int (nI t))]) hx hb dX9_sayNow_97 hl (by decide) rfl (fun ls hl => ?_)
              refine lv_iload hx hb dX9_sayNow_99 (lv_at hl 0 rfl) ?_
              refine lv_if_eq (tgt := 114) hx hb dX9_sayNow_101 (by decide) (fun _ => ?_) (fun q => absurd (by decide) q)
              refine lv_iconst (v := 0) hx hb dX9_sayNow_114 (by decide) ?_
              refine lv_istore (lv' := [(11, .int 0), (10, .int 0), (9, .int (nI i)), (8, .int (nI (nsm (sayT σ n c kd m q) i))), (7, .int (frM σ n c kd q (1 * 2 ^ m))), (6, .int (nI (pcn (fbits c n) 8))), (5, .int (frM σ n c kd q (fbits c n))), (4, .int (nI (fbits c n))), (0, .ref (ad 0)), (1, .int (nI m)), (2, .int (nI q)), (3, .int (nI t))]) hx hb dX9_sayNow_115 hl (by decide) rfl (fun ls hl => ?_)
              refine lv_iload hx hb dX9_sayNow_117 (lv_at hl 1 rfl) ?_
              refine lv_if_eq (tgt := 147) hx hb dX9_sayNow_119 (by decide) (fun _ => ?_) (fun q => absurd (by decide) q)
              refine lv_iconst (v := 0) hx hb dX9_sayNow_147 (by decide) ?_
              refine lv_istore (lv' := [(12, .int 0), (11, .int 0), (10, .int 0), (9, .int (nI i)), (8, .int (nI (nsm (sayT σ n c kd m q) i))), (7, .int (frM σ n c kd q (1 * 2 ^ m))), (6, .int (nI (pcn (fbits c n) 8))), (5, .int (frM σ n c kd q (fbits c n))), (4, .int (nI (fbits c n))), (0, .ref (ad 0)), (1, .int (nI m)), (2, .int (nI q)), (3, .int (nI t))]) hx hb dX9_sayNow_148 hl (by decide) rfl (fun ls hl => ?_)
              refine lv_iload hx hb dX9_sayNow_150 (lv_at hl 4 rfl) ?_
              refine lv_iload hx hb dX9_sayNow_152 (lv_at hl 0 rfl) ?_
              refine lv_if_eq (tgt := 182) hx hb dX9_sayNow_154 (by decide) (fun _ => ?_) (fun q => absurd (by decide) q)
              refine lv_iconst (v := 0) hx hb dX9_sayNow_182 (by decide) ?_
              refine nadd hx hb (nsm (sayT σ n c kd m q) i) 0 dX9_sayNow_183 ?_
              refine lv_istore (lv' := [(8, .int (nI ((nsm (sayT σ n c kd m q) i) + 0))), (12, .int 0), (11, .int 0), (10, .int 0), (9, .int (nI i)), (7, .int (frM σ n c kd q (1 * 2 ^ m))), (6, .int (nI (pcn (fbits c n) 8))), (5, .int (frM σ n c kd q (fbits c n))), (4, .int (nI (fbits c n))), (0, .ref (ad 0)), (1, .int (nI m)), (2, .int (nI q)), (3, .int (nI t))]) hx hb dX9_sayNow_184 hl (by decide) rfl (fun ls hl => ?_)
              refine ninc (lv' := [(9, .int (nI (i + 1))), (8, .int (nI ((nsm (sayT σ n c kd m q) i) + 0))), (12, .int 0), (11, .int 0), (10, .int 0), (7, .int (frM σ n c kd q (1 * 2 ^ m))), (6, .int (nI (pcn (fbits c n) 8))), (5, .int (frM σ n c kd q (fbits c n))), (4, .int (nI (fbits c n))), (0, .ref (ad 0)), (1, .int (nI m)), (2, .int (nI q)), (3, .int (nI t))]) hx hb i 1 dX9_sayNow_186 hl (k := 4) rfl (by decide) rfl (fun ls hl => ?_)
              refine lv_goto (tgt := 62) hx hb dX9_sayNow_189 (by decide) ?_
              have e9 : nsm (sayT σ n c kd m q) (i + 1) = (nsm (sayT σ n c kd m q) i) + 0 := by show _ + sayT σ n c kd m q i = _; unfold sayT; rw [if_neg (fun q => q.1.2 c_89)]
              rw [← e9] at hl
              exact ih62 _ (by omega) (i + 1) _ _ _ rfl (by omega) h (lv_sub hl [0, 1, 5, 6, 7, 8, 9, 10, 11, 12] rfl)
            · refine lv_iconst (v := 1) hx hb dX9_sayNow_92 (by decide) ?_
              refine lv_goto (tgt := 97) hx hb dX9_sayNow_93 (by decide) ?_
              refine lv_istore (lv' := [(10, .int 1), (9, .int (nI i)), (8, .int (nI (nsm (sayT σ n c kd m q) i))), (7, .int (frM σ n c kd q (1 * 2 ^ m))), (6, .int (nI (pcn (fbits c n) 8))), (5, .int (frM σ n c kd q (fbits c n))), (4, .int (nI (fbits c n))), (0, .ref (ad 0)), (1, .int (nI m)), (2, .int (nI q)), (3, .int (nI t))]) hx hb dX9_sayNow_97 hl (by decide) rfl (fun ls hl => ?_)
              refine lv_iload hx hb dX9_sayNow_99 (lv_at hl 0 rfl) ?_
              refine lv_if_eq (tgt := 114) hx hb dX9_sayNow_101 (by decide) (fun q => absurd q (by decide)) (fun _ => ?_)
              refine lv_aload_n hx hb dX9_sayNow_104 rfl (lv_at hl 7 rfl) ?_
              refine lv_iload hx hb dX9_sayNow_105 (lv_at hl 1 rfl) ?_
              refine lv_iload_n hx hb dX9_sayNow_107 rfl (lv_at hl 9 rfl) ?_
              refine gcallVi C h trivial gNo_ok (kX9_forBy l D ct ad σ τ n c kd hok i q (by omega) (by omega)) (cwV 2 C.2.2.2.2 (gInV q972 q974 q40 q66 q975) rfl rfl rfl hvX9_forBy ⟨Nat.le_of_ble_eq_true rfl, Nat.le_of_ble_eq_true rfl⟩) 0 (wM_o ad ct σ τ) rfl rfl rfl hl.1 rfl (Nat.le_of_ble_eq_true rfl) dX9_sayNow_108 ⟨Nat.zero_le _, Nat.zero_le _⟩ (fun r9 u9 H ll hw h => ?_)
              have hw : r9 = frM σ n c kd q i := hw
              subst hw
              have h : gW D ct zA zs _ _ (wM ad ct σ τ) := h
              refine lv_goto (tgt := 115) hx hb dX9_sayNow_111 (by decide) ?_
              refine lv_istore (lv' := [(11, .int (frM σ n c kd q i)), (10, .int 1), (9, .int (nI i)), (8, .int (nI (nsm (sayT σ n c kd m q) i))), (7, .int (frM σ n c kd q (1 * 2 ^ m))), (6, .int (nI (pcn (fbits c n) 8))), (5, .int (frM σ n c kd q (fbits c n))), (4, .int (nI (fbits c n))), (0, .ref (ad 0)), (1, .int (nI m)), (2, .int (nI q)), (3, .int (nI t))]) hx hb dX9_sayNow_115 hl (by decide) rfl (fun ls hl => ?_)
              refine lv_iload hx hb dX9_sayNow_117 (lv_at hl 1 rfl) ?_
              refine lv_if_eq (tgt := 147) hx hb dX9_sayNow_119 (by decide) (fun q => absurd q (by decide)) (fun _ => ?_)
              refine lv_iconst (v := 2) hx hb dX9_sayNow_122 (by decide) ?_
              refine lv_iload hx hb dX9_sayNow_123 (lv_at hl 0 rfl) ?_
              refine lv_imul hx hb dX9_sayNow_125 ?_
              refine lv_iload hx hb dX9_sayNow_126 (lv_at hl 6 rfl) ?_
              refine lv_icmp_gt (tgt := 147) hx hb dX9_sayNow_128 (by decide) (fun c_128 => ?_) (fun c_128 => ?_)
              · refine lv_iconst (v := 0) hx hb dX9_sayNow_147 (by decide) ?_
                refine lv_istore (lv' := [(12, .int 0), (11, .int (frM σ n c kd q i)), (10, .int 1), (9, .int (nI i)), (8, .int (nI (nsm (sayT σ n c kd m q) i))), (7, .int (frM σ n c kd q (1 * 2 ^ m))), (6, .int (nI (pcn (fbits c n) 8))), (5, .int (frM σ n c kd q (fbits c n))), (4, .int (nI (fbits c n))), (0, .ref (ad 0)), (1, .int (nI m)), (2, .int (nI q)), (3, .int (nI t))]) hx hb dX9_sayNow_148 hl (by decide) rfl (fun ls hl => ?_)
                refine lv_iload hx hb dX9_sayNow_150 (lv_at hl 4 rfl) ?_
                refine lv_iload hx hb dX9_sayNow_152 (lv_at hl 0 rfl) ?_
                refine lv_if_eq (tgt := 182) hx hb dX9_sayNow_154 (by decide) (fun _ => ?_) (fun q => absurd (by decide) q)
                refine lv_iconst (v := 0) hx hb dX9_sayNow_182 (by decide) ?_
                refine nadd hx hb (nsm (sayT σ n c kd m q) i) 0 dX9_sayNow_183 ?_
                refine lv_istore (lv' := [(8, .int (nI ((nsm (sayT σ n c kd m q) i) + 0))), (12, .int 0), (11, .int (frM σ n c kd q i)), (10, .int 1), (9, .int (nI i)), (7, .int (frM σ n c kd q (1 * 2 ^ m))), (6, .int (nI (pcn (fbits c n) 8))), (5, .int (frM σ n c kd q (fbits c n))), (4, .int (nI (fbits c n))), (0, .ref (ad 0)), (1, .int (nI m)), (2, .int (nI q)), (3, .int (nI t))]) hx hb dX9_sayNow_184 hl (by decide) rfl (fun ls hl => ?_)
                refine ninc (lv' := [(9, .int (nI (i + 1))), (8, .int (nI ((nsm (sayT σ n c kd m q) i) + 0))), (12, .int 0), (11, .int (frM σ n c kd q i)), (10, .int 1), (7, .int (frM σ n c kd q (1 * 2 ^ m))), (6, .int (nI (pcn (fbits c n) 8))), (5, .int (frM σ n c kd q (fbits c n))), (4, .int (nI (fbits c n))), (0, .ref (ad 0)), (1, .int (nI m)), (2, .int (nI q)), (3, .int (nI t))]) hx hb i 1 dX9_sayNow_186 hl (k := 4) rfl (by decide) rfl (fun ls hl => ?_)
                refine lv_goto (tgt := 62) hx hb dX9_sayNow_189 (by decide) ?_
                have e9 : nsm (sayT σ n c kd m q) (i + 1) = (nsm (sayT σ n c kd m q) i) + 0 := by show _ + sayT σ n c kd m q i = _; unfold sayT; rw [if_neg (fun q => Int32.not_le.mpr c_128 q.2.1)]
                rw [← e9] at hl
                exact ih62 _ (by omega) (i + 1) _ _ _ rfl (by omega) h (lv_sub hl [0, 1, 5, 6, 7, 8, 9, 10, 11, 12] rfl)
              · refine lv_iconst (v := 2) hx hb dX9_sayNow_131 (by decide) ?_
                refine lv_iload hx hb dX9_sayNow_132 (lv_at hl 0 rfl) ?_
                refine lv_iload hx hb dX9_sayNow_134 (lv_at hl 4 rfl) ?_
                refine lv_iadd hx hb dX9_sayNow_136 ?_
                refine lv_imul hx hb dX9_sayNow_137 ?_
                refine lv_iload hx hb dX9_sayNow_138 (lv_at hl 6 rfl) ?_
                refine lv_icmp_le (tgt := 147) hx hb dX9_sayNow_140 (by decide) (fun c_140 => ?_) (fun c_140 => ?_)
                · refine lv_iconst (v := 0) hx hb dX9_sayNow_147 (by decide) ?_
                  refine lv_istore (lv' := [(12, .int 0), (11, .int (frM σ n c kd q i)), (10, .int 1), (9, .int (nI i)), (8, .int (nI (nsm (sayT σ n c kd m q) i))), (7, .int (frM σ n c kd q (1 * 2 ^ m))), (6, .int (nI (pcn (fbits c n) 8))), (5, .int (frM σ n c kd q (fbits c n))), (4, .int (nI (fbits c n))), (0, .ref (ad 0)), (1, .int (nI m)), (2, .int (nI q)), (3, .int (nI t))]) hx hb dX9_sayNow_148 hl (by decide) rfl (fun ls hl => ?_)
                  refine lv_iload hx hb dX9_sayNow_150 (lv_at hl 4 rfl) ?_
                  refine lv_iload hx hb dX9_sayNow_152 (lv_at hl 0 rfl) ?_
                  refine lv_if_eq (tgt := 182) hx hb dX9_sayNow_154 (by decide) (fun _ => ?_) (fun q => absurd (by decide) q)
                  refine lv_iconst (v := 0) hx hb dX9_sayNow_182 (by decide) ?_
                  refine nadd hx hb (nsm (sayT σ n c kd m q) i) 0 dX9_sayNow_183 ?_
                  refine lv_istore (lv' := [(8, .int (nI ((nsm (sayT σ n c kd m q) i) + 0))), (12, .int 0), (11, .int (frM σ n c kd q i)), (10, .int 1), (9, .int (nI i)), (7, .int (frM σ n c kd q (1 * 2 ^ m))), (6, .int (nI (pcn (fbits c n) 8))), (5, .int (frM σ n c kd q (fbits c n))), (4, .int (nI (fbits c n))), (0, .ref (ad 0)), (1, .int (nI m)), (2, .int (nI q)), (3, .int (nI t))]) hx hb dX9_sayNow_184 hl (by decide) rfl (fun ls hl => ?_)
                  refine ninc (lv' := [(9, .int (nI (i + 1))), (8, .int (nI ((nsm (sayT σ n c kd m q) i) + 0))), (12, .int 0), (11, .int (frM σ n c kd q i)), (10, .int 1), (7, .int (frM σ n c kd q (1 * 2 ^ m))), (6, .int (nI (pcn (fbits c n) 8))), (5, .int (frM σ n c kd q (fbits c n))), (4, .int (nI (fbits c n))), (0, .ref (ad 0)), (1, .int (nI m)), (2, .int (nI q)), (3, .int (nI t))]) hx hb i 1 dX9_sayNow_186 hl (k := 4) rfl (by decide) rfl (fun ls hl => ?_)
                  refine lv_goto (tgt := 62) hx hb dX9_sayNow_189 (by decide) ?_
                  have e9 : nsm (sayT σ n c kd m q) (i + 1) = (nsm (sayT σ n c kd m q) i) + 0 := by show _ + sayT σ n c kd m q i = _; unfold sayT; rw [if_neg (fun q => q.2.2 c_140)]
                  rw [← e9] at hl
                  exact ih62 _ (by omega) (i + 1) _ _ _ rfl (by omega) h (lv_sub hl [0, 1, 5, 6, 7, 8, 9, 10, 11, 12] rfl)
                · refine lv_iconst (v := 1) hx hb dX9_sayNow_143 (by decide) ?_
                  refine lv_goto (tgt := 148) hx hb dX9_sayNow_144 (by decide) ?_
                  refine lv_istore (lv' := [(12, .int 1), (11, .int (frM σ n c kd q i)), (10, .int 1), (9, .int (nI i)), (8, .int (nI (nsm (sayT σ n c kd m q) i))), (7, .int (frM σ n c kd q (1 * 2 ^ m))), (6, .int (nI (pcn (fbits c n) 8))), (5, .int (frM σ n c kd q (fbits c n))), (4, .int (nI (fbits c n))), (0, .ref (ad 0)), (1, .int (nI m)), (2, .int (nI q)), (3, .int (nI t))]) hx hb dX9_sayNow_148 hl (by decide) rfl (fun ls hl => ?_)
                  refine lv_iload hx hb dX9_sayNow_150 (lv_at hl 4 rfl) ?_
                  refine lv_iload hx hb dX9_sayNow_152 (lv_at hl 0 rfl) ?_
                  refine lv_if_eq (tgt := 182) hx hb dX9_sayNow_154 (by decide) (fun q => absurd q (by decide)) (fun _ => ?_)
                  have h16 := pcn_le i 8
                  refine lv_iload hx hb dX9_sayNow_157 (lv_at hl 3 rfl) ?_
                  refine gcallSi C h (kX9_size l D ct i (by omega)) (va_cwS 1 C.2.2.2.2 (gInS q905 q906 q66 q907) rfl rfl rfl hdX9_size ⟨Nat.le_of_ble_eq_true rfl, Nat.le_of_ble_eq_true rfl⟩) rfl hl.1 rfl (Nat.le_of_ble_eq_true rfl) dX9_sayNow_159 ⟨Nat.zero_le _, Nat.zero_le _⟩ (fun H ll h => ?_)
                  refine gcallSi C h (kX9_orders l D ct (pcn i 8) (by omega)) (va_cwS 1 C.2.2.2.2 (gInS q976 q977 q66 q978) rfl rfl rfl hdX9_orders ⟨Nat.le_of_ble_eq_true rfl, Nat.le_of_ble_eq_true rfl⟩) rfl hl.1 rfl (Nat.le_of_ble_eq_true rfl) dX9_sayNow_162 ⟨Nat.zero_le _, Nat.zero_le _⟩ (fun H ll h => ?_)
                  have h17 := pcn_lt hFm c_89 8 (by omega) (fun i hi => sub_bit c_80 hi)
                  have h18 := pcn_le (fbits c n) 8
                  refine lv_iload hx hb dX9_sayNow_165 (lv_at hl 6 rfl) ?_
                  refine lv_iconst (v := 1) hx hb dX9_sayNow_167 (by decide) ?_
                  refine nsub hx hb (pcn (fbits c n) 8) 1 (by omega) dX9_sayNow_168 ?_
                  refine lv_iload hx hb dX9_sayNow_169 (lv_at hl 3 rfl) ?_
                  refine gcallSi C h (kX9_size l D ct i (by omega)) (va_cwS 1 C.2.2.2.2 (gInS q905 q906 q66 q907) rfl rfl rfl hdX9_size ⟨Nat.le_of_ble_eq_true rfl, Nat.le_of_ble_eq_true rfl⟩) rfl hl.1 rfl (Nat.le_of_ble_eq_true rfl) dX9_sayNow_171 ⟨Nat.zero_le _, Nat.zero_le _⟩ (fun H ll h => ?_)
                  refine nsub hx hb ((pcn (fbits c n) 8) - 1) (pcn i 8) (by omega) dX9_sayNow_174 ?_
                  refine gcallSi C h (kX9_orders l D ct (((pcn (fbits c n) 8) - 1) - (pcn i 8)) (by omega)) (va_cwS 1 C.2.2.2.2 (gInS q976 q977 q66 q978) rfl rfl rfl hdX9_orders ⟨Nat.le_of_ble_eq_true rfl, Nat.le_of_ble_eq_true rfl⟩) rfl hl.1 rfl (Nat.le_of_ble_eq_true rfl) dX9_sayNow_175 ⟨Nat.zero_le _, Nat.zero_le _⟩ (fun H ll h => ?_)
                  refine nmul hx hb (fac (pcn i 8)) (fac (((pcn (fbits c n) 8) - 1) - (pcn i 8))) dX9_sayNow_178 ?_
                  refine lv_goto (tgt := 183) hx hb dX9_sayNow_179 (by decide) ?_
                  refine nadd hx hb (nsm (sayT σ n c kd m q) i) ((fac (pcn i 8)) * (fac (((pcn (fbits c n) 8) - 1) - (pcn i 8)))) dX9_sayNow_183 ?_
                  refine lv_istore (lv' := [(8, .int (nI ((nsm (sayT σ n c kd m q) i) + ((fac (pcn i 8)) * (fac (((pcn (fbits c n) 8) - 1) - (pcn i 8))))))), (12, .int 1), (11, .int (frM σ n c kd q i)), (10, .int 1), (9, .int (nI i)), (7, .int (frM σ n c kd q (1 * 2 ^ m))), (6, .int (nI (pcn (fbits c n) 8))), (5, .int (frM σ n c kd q (fbits c n))), (4, .int (nI (fbits c n))), (0, .ref (ad 0)), (1, .int (nI m)), (2, .int (nI q)), (3, .int (nI t))]) hx hb dX9_sayNow_184 hl (by decide) rfl (fun ls hl => ?_)
                  refine ninc (lv' := [(9, .int (nI (i + 1))), (8, .int (nI ((nsm (sayT σ n c kd m q) i) + ((fac (pcn i 8)) * (fac (((pcn (fbits c n) 8) - 1) - (pcn i 8))))))), (12, .int 1), (11, .int (frM σ n c kd q i)), (10, .int 1), (7, .int (frM σ n c kd q (1 * 2 ^ m))), (6, .int (nI (pcn (fbits c n) 8))), (5, .int (frM σ n c kd q (fbits c n))), (4, .int (nI (fbits c n))), (0, .ref (ad 0)), (1, .int (nI m)), (2, .int (nI q)), (3, .int (nI t))]) hx hb i 1 dX9_sayNow_186 hl (k := 4) rfl (by decide) rfl (fun ls hl => ?_)
                  refine lv_goto (tgt := 62) hx hb dX9_sayNow_189 (by decide) ?_
                  have e9 : nsm (sayT σ n c kd m q) (i + 1) = (nsm (sayT σ n c kd m q) i) + ((fac (pcn i 8)) * (fac (((pcn (fbits c n) 8) - 1) - (pcn i 8)))) := by show _ + sayT σ n c kd m q i = _; unfold sayT; rw [if_pos ⟨⟨c_80, c_89⟩, Int32.not_lt.mp c_128, c_140⟩]
                  rw [← e9] at hl
                  exact ih62 _ (by omega) (i + 1) _ _ _ rfl (by omega) h (lv_sub hl [0, 1, 5, 6, 7, 8, 9, 10, 11, 12] rfl)
      exact L62_0 _ 0 _ _ _ rfl (by omega) h (lv_sub hl [0, 1, 2, 3, 4, 5, 6, 7, 8, 9] rfl)
    · refine lv_iload_n hx hb dX9_sayNow_29 rfl (lv_at hl 5 rfl) ?_
      refine nz_ne hx hb t (by omega) (tgt := 37) dX9_sayNow_30 (by decide) (fun c_30 => ?_) (fun c_30 => ?_)
      · refine lv_iconst (v := 1) hx hb dX9_sayNow_37 (by decide) ?_
        exact hret _ () _ _ _ _ h (by unfold sayM; rw [if_pos (by first | exact Or.inl c_17 | exact Or.inr c_26)]; first | (rw [c_30]; rfl) | (rw [show t = 1 by omega]; rfl)) dX9_sayNow_38
      · refine lv_iconst (v := 0) hx hb dX9_sayNow_33 (by decide) ?_
        refine lv_goto (tgt := 38) hx hb dX9_sayNow_34 (by decide) ?_
        exact hret _ () _ _ _ _ h (by unfold sayM; rw [if_pos (by first | exact Or.inl c_17 | exact Or.inr c_26)]; first | (rw [c_30]; rfl) | (rw [show t = 1 by omega]; rfl)) dX9_sayNow_38
