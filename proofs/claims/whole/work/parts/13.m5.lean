def csM (σ : Nat → Nat → Int32) (n c : Nat) (kd : Nat → Nat) (q x i : Nat) : Int32 := bx_sum (fun m => if x.testBit m = true then plM σ n c kd q m else 0) i
def lkM (F x t : Nat) : Nat → Nat
  | 0 => 1
  | m + 1 => lkM F x t m * (if F.testBit m = true then (if x.testBit m = true then 10 - t else t) else 1)
def chT (σ : Nat → Nat → Int32) (n c : Nat) (kd : Nat → Nat) (q t x : Nat) : Nat := if x &&& (fbits c n ^^^ 255) = 0 then (if csM σ n c kd q x n ≤ 0 then 0 else lkM (fbits c n) x t n) else 0
def chA (σ : Nat → Nat → Int32) (n c : Nat) (kd : Nat → Nat) (q t : Nat) : Nat := nsm (chT σ n c kd q t) (1 * 2 ^ n)
def chM (σ : Nat → Nat → Int32) (n c : Nat) (kd : Nat → Nat) (q t w : Nat) : Nat := (if w = 0 then chA σ n c kd q t else 10 ^ pcn (fbits c n) 8) / Nat.gcd (10 ^ pcn (fbits c n) 8) (chA σ n c kd q t)
theorem nsm_app (f : Nat → Nat) (a : Nat) : ∀ b, nsm f (a + b) = nsm f a + nsm (fun k => f (a + k)) b
  | 0 => rfl
  | b + 1 => by show nsm f (a + b) + f (a + b) = _; rw [nsm_app f a b]; simp only [nsm]; omega
theorem nsm_mul (f : Nat → Nat) (d : Nat) : ∀ b, nsm (fun k => f k * d) b = nsm f b * d
  | 0 => by simp [nsm]
  | b + 1 => by simp only [nsm]; rw [nsm_mul f d b, Nat.add_mul]
theorem nsm_z : ∀ b, nsm (fun _ => 0) b = 0
  | 0 => rfl
  | b + 1 => by simp only [nsm]; rw [nsm_z b]
theorem nsm_lem {f g : Nat → Nat} : ∀ {n : Nat}, (∀ k, k < n → f k ≤ g k) → nsm f n ≤ nsm g n
  | 0, _ => Nat.le_refl _
  | n + 1, h => Nat.add_le_add (nsm_lem (fun k hk => h k (by omega))) (h n (by omega))
/-- all bits of x (below 8) are bits of F -/
theorem sub_iff {x F : Nat} (hx : x < 256) : x &&& (F ^^^ 255) = 0 ↔ ∀ i, i < 8 → x.testBit i = true → F.testBit i = true := by
  constructor
  · intro h i hi; exact sub_bit h hi
  · intro h
    apply Nat.eq_of_testBit_eq
    intro i
    rw [Nat.zero_testBit, Nat.testBit_and, Nat.testBit_xor]
    by_cases hi : i < 8
    · have h255 : (255 : Nat).testBit i = true := by
        have h : ∀ i, i < 8 → (255 : Nat).testBit i = true := by decide
        exact h i hi
      cases hxi : x.testBit i with
      | false => simp
      | true => rw [h i hi hxi, h255]; rfl
    · have : x.testBit i = false := Nat.testBit_lt_two_pow (Nat.lt_of_lt_of_le hx (show 256 ≤ 2 ^ i from Nat.pow_le_pow_right (by decide : 0 < 2) (show 8 ≤ i by omega)))
      rw [this]; simp
theorem tb_hi {i y : Nat} (hy : y < 2 ^ i) : (2 ^ i + y).testBit i = true := by rw [Nat.testBit_two_pow_add_eq, Nat.testBit_lt_two_pow hy]; rfl
theorem tb_lo {i j y : Nat} (hj : j < i) : (2 ^ i + y).testBit j = y.testBit j := Nat.testBit_two_pow_add_gt hj y
theorem tb_up {i j y : Nat} (hj : i < j) (hy : y < 2 ^ i) : (2 ^ i + y).testBit j = false := Nat.testBit_lt_two_pow (Nat.lt_of_lt_of_le (show 2 ^ i + y < 2 ^ (i + 1) by rw [Nat.pow_succ]; omega) (Nat.pow_le_pow_right (by decide : 0 < 2) hj))
theorem lk_lo {F t i y : Nat} : ∀ k, k ≤ i → lkM F (2 ^ i + y) t k = lkM F y t k
  | 0, _ => rfl
  | k + 1, h => by simp only [lkM]; rw [lk_lo k (by omega), tb_lo (by omega)]
/-- all that can happen is ten to the number of those felt -/
theorem lk_all {F t : Nat} (ht : t ≤ 10) : ∀ i, i ≤ 8 → nsm (fun x => if x &&& (F ^^^ 255) = 0 then lkM F x t i else 0) (2 ^ i) = 10 ^ pcn F i
  | 0, _ => by simp [nsm, lkM, pcn]
  | i + 1, hi => by
    have ih := lk_all (F := F) ht i (by omega)
    have hp : 2 ^ i ≤ 128 := Nat.pow_le_pow_right (n := 2) (by decide) (show i ≤ 7 by omega)
    rw [Nat.pow_succ, Nat.mul_two, nsm_app]
    by_cases hF : F.testBit i = true
    · have e1 : nsm (fun x => if x &&& (F ^^^ 255) = 0 then lkM F x t (i + 1) else 0) (2 ^ i) = 10 ^ pcn F i * t := by
        rw [← ih, ← nsm_mul]
        apply nsm_cong
        intro x hx
        simp only [lkM]
        rw [if_pos hF, if_neg (show ¬ x.testBit i = true by rw [Nat.testBit_lt_two_pow hx]; decide)]
        split <;> simp
      have e2 : nsm (fun k => if (2 ^ i + k) &&& (F ^^^ 255) = 0 then lkM F (2 ^ i + k) t (i + 1) else 0) (2 ^ i) = 10 ^ pcn F i * (10 - t) := by
        rw [← ih, ← nsm_mul]
        apply nsm_cong
        intro x hx
        simp only [lkM]
        rw [if_pos hF, if_pos (tb_hi hx), lk_lo i (Nat.le_refl i)]
        have hs : (2 ^ i + x) &&& (F ^^^ 255) = 0 ↔ x &&& (F ^^^ 255) = 0 := by
          rw [sub_iff (by omega), sub_iff (by omega)]
          constructor
          · intro h j hj hx1
            by_cases hji : j < i
            · exact h j hj (by rw [tb_lo hji]; exact hx1)
            · rw [Nat.testBit_lt_two_pow (Nat.lt_of_lt_of_le hx (Nat.pow_le_pow_right (by decide : 0 < 2) (by omega)))] at hx1; simp at hx1
          · intro h j hj hx1
            rcases Nat.lt_trichotomy j i with q | q | q
            · rw [tb_lo q] at hx1; exact h j hj hx1
            · rw [q]; exact hF
            · rw [tb_up q hx] at hx1; simp at hx1
        by_cases hq : x &&& (F ^^^ 255) = 0
        · rw [if_pos (hs.mpr hq), if_pos hq]
        · rw [if_neg (fun h => hq (hs.mp h)), if_neg hq]; simp
      rw [e1, e2]
      simp only [pcn]
      rw [(tb_div F i).mp hF, Nat.pow_succ, ← Nat.mul_add, show t + (10 - t) = 10 by omega]
    · have e1 : nsm (fun x => if x &&& (F ^^^ 255) = 0 then lkM F x t (i + 1) else 0) (2 ^ i) = 10 ^ pcn F i := by
        rw [← ih]
        apply nsm_cong
        intro x hx
        simp only [lkM]
        rw [if_neg hF, Nat.mul_one]
      have e2 : nsm (fun k => if (2 ^ i + k) &&& (F ^^^ 255) = 0 then lkM F (2 ^ i + k) t (i + 1) else 0) (2 ^ i) = 0 := by
        refine (nsm_cong (g := fun _ => 0) (fun x hx => ?_)).trans (nsm_z _)
        exact if_neg (fun h => hF ((sub_iff (show 2 ^ i + x < 256 by omega)).mp h i (by omega) (tb_hi hx)))
      rw [e1, e2]
      simp only [pcn]
      rw [tb_div] at hF
      rw [show F / 2 ^ i % 2 = 0 by omega]; rfl
theorem p10 : ∀ k, k ≤ 8 → 10 ^ k ≤ 100000000 := by decide
theorem chA_lt (σ : Nat → Nat → Int32) {n c : Nat} (kd : Nat → Nat) (q : Nat) {t : Nat} (hn : n ≤ 8) (ht : t ≤ 10) : chA σ n c kd q t < 2 ^ 31 := by
  unfold chA
  rw [Nat.one_mul]
  have h1 : nsm (chT σ n c kd q t) (2 ^ n) ≤ nsm (fun x => if x &&& (fbits c n ^^^ 255) = 0 then lkM (fbits c n) x t n else 0) (2 ^ n) := nsm_lem (fun x _ => by
    unfold chT
    split
    · split
      · exact Nat.zero_le _
      · exact Nat.le_refl _
    · exact Nat.le_refl _)
  rw [lk_all ht n hn] at h1
  have h2 := p10 (pcn (fbits c n) n) (Nat.le_trans (pcn_le _ _) hn)
  omega
/-- the best so far: none, or a set -/
def bI : Option Nat → Int32
  | none => -1
  | some j => nI j
def cutB (σ : Nat → Nat → Int32) (n c : Nat) (kd : Nat → Nat) (q : Nat) (out : Int32) : Nat → Option Nat
  | 0 => none
  | i + 1 => if i &&& c = 0 ∧ (∀ j, cutB σ n c kd q out i = some j → pcn i 8 < pcn j 8) ∧ sgn (smM σ n (c ||| i) kd q) = out then some i else cutB σ n c kd q out i
def toldB (b : Option Nat) (t : Nat) : Int32 := match b with
  | none => -1
  | some j => if t = 1 then nI j else nI (pcn j 8)
set_option maxHeartbeats 4000000 in
set_option maxRecDepth 100000 in
theorem kX9_chanceNow (l : Launch) (D : va_G) (ct : Nat → ClassId) (ad : Nat → Nat) (σ : Nat → Nat → Int32) (τ : Nat → Nat → Int64) (n c : Nat) (kd : Nat → Nat) (hok : MOK σ n c kd) (q t v : Nat) (hq : q < 3) (ht : t ≤ 10) (hv : v < 2) : MI l yX9_chanceNow (gWs yX9_chanceNow cX9_chanceNow 11 (some .int)) rmX9_chanceNow D ct gNo [.ref (ad 0), .int (nI q), .int (nI t), .int (nI v)] (wM ad ct σ τ) (fun _ : Unit => (wM ad ct σ τ)) (fun r _ => r = nI (chM σ n c kd q t v)) := by
  refine MI.ofI RX9 rfl (by decide) (Nat.le_of_ble_eq_true rfl) ?_
  intro zp ze zs zm za zb zt zc zA ls zQ C h hX hl hret
  have hx := C.1
  have hb := C.2.1
  have hl : lv_has ls 11 [(0, .ref (ad 0)), (1, .int (nI q)), (2, .int (nI t)), (3, .int (nI v))] := hl
  have hok0 := hok
  obtain ⟨hn, hn8, hc, hc8, hkd⟩ := hok0
  have hF := fb256 c hn8
  have hp2 := p2le hn8
  refine lv_aload_n hx hb dX9_chanceNow_0 rfl (lv_at hl 0 rfl) ?_
  refine gcallVi C h trivial gNo_ok (kX9_felt l D ct ad σ τ n c kd hok) (cwV 0 C.2.2.2.2 (gInV q948 q950 q38 q66 q951) rfl rfl rfl hvX9_felt ⟨Nat.le_of_ble_eq_true rfl, Nat.le_of_ble_eq_true rfl⟩) 0 (wM_o ad ct σ τ) rfl rfl rfl hl.1 rfl (Nat.le_of_ble_eq_true rfl) dX9_chanceNow_1 ⟨Nat.zero_le _, Nat.zero_le _⟩ (fun r9 u9 H ll hw h => ?_)
  have hw : r9 = nI (fbits c n) := hw
  subst hw
  have h : gW D ct zA zs _ _ (wM ad ct σ τ) := h
  refine lv_istore (lv' := [(4, .int (nI (fbits c n))), (0, .ref (ad 0)), (1, .int (nI q)), (2, .int (nI t)), (3, .int (nI v))]) hx hb dX9_chanceNow_4 hl (by decide) rfl (fun ls hl => ?_)
  refine lv_iconst (v := 0) hx hb dX9_chanceNow_6 (by decide) ?_
  refine lv_istore (lv' := [(5, .int 0), (4, .int (nI (fbits c n))), (0, .ref (ad 0)), (1, .int (nI q)), (2, .int (nI t)), (3, .int (nI v))]) hx hb dX9_chanceNow_7 hl (by decide) rfl (fun ls hl => ?_)
  refine lv_iconst (v := 1) hx hb dX9_chanceNow_9 (by decide) ?_
  refine lv_istore (lv' := [(6, .int 1), (5, .int 0), (4, .int (nI (fbits c n))), (0, .ref (ad 0)), (1, .int (nI q)), (2, .int (nI t)), (3, .int (nI v))]) hx hb dX9_chanceNow_10 hl (by decide) rfl (fun ls hl => ?_)
  refine lv_iconst (v := 0) hx hb dX9_chanceNow_12 (by decide) ?_
  refine lv_istore (lv' := [(7, .int 0), (6, .int 1), (5, .int 0), (4, .int (nI (fbits c n))), (0, .ref (ad 0)), (1, .int (nI q)), (2, .int (nI t)), (3, .int (nI v))]) hx hb dX9_chanceNow_13 hl (by decide) rfl (fun ls hl => ?_)
  have L15_0 : ∀ (kk : Nat) (k : Nat) (H : Heap) (ll : List Loc) (ls : Array Slot), pcn (fbits c n) 8 - k = kk → (k ≤ pcn (fbits c n) 8) → gW D ct zA zs H ll (wM ad ct σ τ) → lv_has ls 11 [(7, .int (nI k)), (6, .int (nI (10 ^ k))), (5, .int 0), (4, .int (nI (fbits c n))), (0, .ref (ad 0)), (1, .int (nI q)), (2, .int (nI t)), (3, .int (nI v))] → W zp l ze rmX9_chanceNow zs zm za zb zt zc H ll 0 0 zQ (F0 zm 15 ls []) := by
    intro kk15
    induction kk15 using Nat.strongRecOn with
    | _ kk15 ih15 =>
    intro k H ll ls hk15 hk1 h hl
    have h14 := pcn_le (fbits c n) 8
    refine lv_iload hx hb dX9_chanceNow_15 (lv_at hl 0 rfl) ?_
    refine lv_iload hx hb dX9_chanceNow_17 (lv_at hl 3 rfl) ?_
    refine gcallSi C h (kX9_size l D ct (fbits c n) (by omega)) (va_cwS 1 C.2.2.2.2 (gInS q905 q906 q66 q907) rfl rfl rfl hdX9_size ⟨Nat.le_of_ble_eq_true rfl, Nat.le_of_ble_eq_true rfl⟩) rfl hl.1 rfl (Nat.le_of_ble_eq_true rfl) dX9_chanceNow_19 ⟨Nat.zero_le _, Nat.zero_le _⟩ (fun H ll h => ?_)
    refine nb_ge hx hb k (pcn (fbits c n) 8) (by omega) (by omega) (tgt := 38) dX9_chanceNow_22 (by decide) (fun c_22 => ?_) (fun c_22 => ?_)
    · have e18 : k = pcn (fbits c n) 8 := by omega
      rw [e18] at hl
      refine lv_iconst (v := 0) hx hb dX9_chanceNow_38 (by decide) ?_
      refine lv_istore (lv' := [(7, .int 0), (6, .int (nI (10 ^ pcn (fbits c n) 8))), (5, .int 0), (4, .int (nI (fbits c n))), (0, .ref (ad 0)), (1, .int (nI q)), (2, .int (nI t)), (3, .int (nI v))]) hx hb dX9_chanceNow_39 hl (by decide) rfl (fun ls hl => ?_)
      have L41_1 : ∀ (kk : Nat) (i : Nat) (H : Heap) (ll : List Loc) (ls : Array Slot), 1 * 2 ^ n - i = kk → (i ≤ 1 * 2 ^ n) → gW D ct zA zs H ll (wM ad ct σ τ) → lv_has ls 11 [(7, .int (nI i)), (6, .int (nI (10 ^ pcn (fbits c n) 8))), (5, .int (nI (nsm (chT σ n c kd q t) i))), (4, .int (nI (fbits c n))), (0, .ref (ad 0)), (1, .int (nI q)), (2, .int (nI t)), (3, .int (nI v))] → W zp l ze rmX9_chanceNow zs zm za zb zt zc H ll 0 0 zQ (F0 zm 41 ls []) := by
        intro kk41
        induction kk41 using Nat.strongRecOn with
        | _ kk41 ih41 =>
        intro i H ll ls hk41 hi h hl
        refine lv_iload hx hb dX9_chanceNow_41 (lv_at hl 0 rfl) ?_
        refine lv_iconst (v := 1) hx hb dX9_chanceNow_43 (by decide) ?_
        refine lv_aload_n hx hb dX9_chanceNow_44 rfl (lv_at hl 4 rfl) ?_
        refine mg_mussels C h dX9_chanceNow_45 ?_
        refine gas hn ?_
        refine nshl hx hb 1 n (by omega) (by omega) dX9_chanceNow_48 ?_
        refine nb_ge hx hb i (1 * 2 ^ n) (by omega) (by omega) (tgt := 171) dX9_chanceNow_49 (by decide) (fun c_49 => ?_) (fun c_49 => ?_)
        · have h15 := pcn_le (fbits c n) 8
          have h19 := chA_lt (c := c) σ kd q hn8 ht
          have e19 : nsm (chT σ n c kd q t) i = chA σ n c kd q t := by rw [show i = 1 * 2 ^ n by omega]; rfl
          rw [e19] at hl
          have h21 := p10 (pcn (fbits c n) 8) h15
          have h20 : 0 < 10 ^ pcn (fbits c n) 8 := Nat.pow_pos (by decide)
          refine lv_iload hx hb dX9_chanceNow_171 (lv_at hl 2 rfl) ?_
          refine lv_iload hx hb dX9_chanceNow_173 (lv_at hl 1 rfl) ?_
          refine lv_iload_n hx hb dX9_chanceNow_175 rfl (lv_at hl 7 rfl) ?_
          refine gcallSi C h (kX9_part l D ct (chA σ n c kd q t) (10 ^ pcn (fbits c n) 8) v (by omega) (by omega) (by omega) (by omega)) (va_cwS 3 C.2.2.2.2 (gInS q979 q980 q66 q981) rfl rfl rfl hdX9_part ⟨Nat.le_of_ble_eq_true rfl, Nat.le_of_ble_eq_true rfl⟩) rfl hl.1 rfl (Nat.le_of_ble_eq_true rfl) dX9_chanceNow_176 ⟨Nat.zero_le _, Nat.zero_le _⟩ (fun H ll h => ?_)
          exact hret _ () _ _ _ _ h rfl dX9_chanceNow_179
        · refine lv_iload hx hb dX9_chanceNow_52 (lv_at hl 0 rfl) ?_
          refine lv_iload hx hb dX9_chanceNow_54 (lv_at hl 3 rfl) ?_
          refine lv_iconst (v := -1) hx hb dX9_chanceNow_56 (by decide) ?_
          refine lv_ixor hx hb dX9_chanceNow_57 ?_
          refine lv_iand hx hb dX9_chanceNow_58 ?_
          refine gas (andnot (by omega) (fb256 c hn8)) ?_
          refine nz_ne hx hb (i &&& (fbits c n ^^^ 255)) (Nat.lt_of_le_of_lt Nat.and_le_left (by omega)) (tgt := 165) dX9_chanceNow_59 (by decide) (fun c_59 => ?_) (fun c_59 => ?_)
          · refine ninc (lv' := [(7, .int (nI (i + 1))), (6, .int (nI (10 ^ pcn (fbits c n) 8))), (5, .int (nI (nsm (chT σ n c kd q t) i))), (4, .int (nI (fbits c n))), (0, .ref (ad 0)), (1, .int (nI q)), (2, .int (nI t)), (3, .int (nI v))]) hx hb i 1 dX9_chanceNow_165 hl (k := 0) rfl (by decide) rfl (fun ls hl => ?_)
            refine lv_goto (tgt := 41) hx hb dX9_chanceNow_168 (by decide) ?_
            have e9 : nsm (chT σ n c kd q t) (i + 1) = nsm (chT σ n c kd q t) i := by show _ + chT σ n c kd q t i = _; unfold chT; rw [if_neg c_59]; try rfl
            rw [← e9] at hl
            exact ih41 _ (by omega) (i + 1) _ _ _ rfl (by omega) h (lv_sub hl [0, 1, 2, 3, 4, 5, 6, 7] rfl)
          · refine lv_iconst (v := 0) hx hb dX9_chanceNow_62 (by decide) ?_
            refine lv_istore (lv' := [(8, .int 0), (7, .int (nI i)), (6, .int (nI (10 ^ pcn (fbits c n) 8))), (5, .int (nI (nsm (chT σ n c kd q t) i))), (4, .int (nI (fbits c n))), (0, .ref (ad 0)), (1, .int (nI q)), (2, .int (nI t)), (3, .int (nI v))]) hx hb dX9_chanceNow_63 hl (by decide) rfl (fun ls hl => ?_)
            refine lv_iconst (v := 1) hx hb dX9_chanceNow_65 (by decide) ?_
            refine lv_istore (lv' := [(9, .int 1), (8, .int 0), (7, .int (nI i)), (6, .int (nI (10 ^ pcn (fbits c n) 8))), (5, .int (nI (nsm (chT σ n c kd q t) i))), (4, .int (nI (fbits c n))), (0, .ref (ad 0)), (1, .int (nI q)), (2, .int (nI t)), (3, .int (nI v))]) hx hb dX9_chanceNow_66 hl (by decide) rfl (fun ls hl => ?_)
            refine lv_iconst (v := 0) hx hb dX9_chanceNow_68 (by decide) ?_
            refine lv_istore (lv' := [(10, .int 0), (9, .int 1), (8, .int 0), (7, .int (nI i)), (6, .int (nI (10 ^ pcn (fbits c n) 8))), (5, .int (nI (nsm (chT σ n c kd q t) i))), (4, .int (nI (fbits c n))), (0, .ref (ad 0)), (1, .int (nI q)), (2, .int (nI t)), (3, .int (nI v))]) hx hb dX9_chanceNow_69 hl (by decide) rfl (fun ls hl => ?_)
            have L71_2 : ∀ (kk : Nat) (u : Nat) (H : Heap) (ll : List Loc) (ls : Array Slot), n - u = kk → (u ≤ n) → gW D ct zA zs H ll (wM ad ct σ τ) → lv_has ls 11 [(10, .int (nI u)), (9, .int (nI (lkM (fbits c n) i t u))), (8, .int (csM σ n c kd q i u)), (7, .int (nI i)), (6, .int (nI (10 ^ pcn (fbits c n) 8))), (5, .int (nI (nsm (chT σ n c kd q t) i))), (4, .int (nI (fbits c n))), (0, .ref (ad 0)), (1, .int (nI q)), (2, .int (nI t)), (3, .int (nI v))] → W zp l ze rmX9_chanceNow zs zm za zb zt zc H ll 0 0 zQ (F0 zm 71 ls []) := by
              intro kk71
              induction kk71 using Nat.strongRecOn with
              | _ kk71 ih71 =>
              intro u H ll ls hk71 hu h hl
              refine lv_iload hx hb dX9_chanceNow_71 (lv_at hl 0 rfl) ?_
              refine lv_aload_n hx hb dX9_chanceNow_73 rfl (lv_at hl 7 rfl) ?_
              refine mg_mussels C h dX9_chanceNow_74 ?_
              refine gas hn ?_
              refine nb_ge hx hb u n (by omega) (by omega) (tgt := 149) dX9_chanceNow_77 (by decide) (fun c_77 => ?_) (fun c_77 => ?_)
              · have e8 : u = n := by omega
                rw [e8] at hl
                refine lv_iload hx hb dX9_chanceNow_149 (lv_at hl 5 rfl) ?_
                refine lv_iload hx hb dX9_chanceNow_151 (lv_at hl 2 rfl) ?_
                refine lv_if_le (tgt := 161) hx hb dX9_chanceNow_153 (by decide) (fun c_153 => ?_) (fun c_153 => ?_)
                · refine lv_iconst (v := 0) hx hb dX9_chanceNow_161 (by decide) ?_
                  refine nadd hx hb (nsm (chT σ n c kd q t) i) 0 dX9_chanceNow_162 ?_
                  refine lv_istore (lv' := [(5, .int (nI ((nsm (chT σ n c kd q t) i) + 0))), (10, .int (nI n)), (9, .int (nI (lkM (fbits c n) i t n))), (8, .int (csM σ n c kd q i n)), (7, .int (nI i)), (6, .int (nI (10 ^ pcn (fbits c n) 8))), (4, .int (nI (fbits c n))), (0, .ref (ad 0)), (1, .int (nI q)), (2, .int (nI t)), (3, .int (nI v))]) hx hb dX9_chanceNow_163 hl (by decide) rfl (fun ls hl => ?_)
                  refine ninc (lv' := [(7, .int (nI (i + 1))), (5, .int (nI ((nsm (chT σ n c kd q t) i) + 0))), (10, .int (nI n)), (9, .int (nI (lkM (fbits c n) i t n))), (8, .int (csM σ n c kd q i n)), (6, .int (nI (10 ^ pcn (fbits c n) 8))), (4, .int (nI (fbits c n))), (0, .ref (ad 0)), (1, .int (nI q)), (2, .int (nI t)), (3, .int (nI v))]) hx hb i 1 dX9_chanceNow_165 hl (k := 4) rfl (by decide) rfl (fun ls hl => ?_)
                  refine lv_goto (tgt := 41) hx hb dX9_chanceNow_168 (by decide) ?_
                  have e9 : nsm (chT σ n c kd q t) (i + 1) = (nsm (chT σ n c kd q t) i) + 0 := by show _ + chT σ n c kd q t i = _; unfold chT; rw [if_pos c_59, if_pos c_153]; try rfl
                  rw [← e9] at hl
                  exact ih41 _ (by omega) (i + 1) _ _ _ rfl (by omega) h (lv_sub hl [0, 5, 1, 6, 7, 8, 9, 10] rfl)
                · refine lv_iload hx hb dX9_chanceNow_156 (lv_at hl 1 rfl) ?_
                  refine lv_goto (tgt := 162) hx hb dX9_chanceNow_158 (by decide) ?_
                  refine nadd hx hb (nsm (chT σ n c kd q t) i) (lkM (fbits c n) i t n) dX9_chanceNow_162 ?_
                  refine lv_istore (lv' := [(5, .int (nI ((nsm (chT σ n c kd q t) i) + (lkM (fbits c n) i t n)))), (10, .int (nI n)), (9, .int (nI (lkM (fbits c n) i t n))), (8, .int (csM σ n c kd q i n)), (7, .int (nI i)), (6, .int (nI (10 ^ pcn (fbits c n) 8))), (4, .int (nI (fbits c n))), (0, .ref (ad 0)), (1, .int (nI q)), (2, .int (nI t)), (3, .int (nI v))]) hx hb dX9_chanceNow_163 hl (by decide) rfl (fun ls hl => ?_)
                  refine ninc (lv' := [(7, .int (nI (i + 1))), (5, .int (nI ((nsm (chT σ n c kd q t) i) + (lkM (fbits c n) i t n)))), (10, .int (nI n)), (9, .int (nI (lkM (fbits c n) i t n))), (8, .int (csM σ n c kd q i n)), (6, .int (nI (10 ^ pcn (fbits c n) 8))), (4, .int (nI (fbits c n))), (0, .ref (ad 0)), (1, .int (nI q)), (2, .int (nI t)), (3, .int (nI v))]) hx hb i 1 dX9_chanceNow_165 hl (k := 4) rfl (by decide) rfl (fun ls hl => ?_)
                  refine lv_goto (tgt := 41) hx hb dX9_chanceNow_168 (by decide) ?_
                  have e9 : nsm (chT σ n c kd q t) (i + 1) = (nsm (chT σ n c kd q t) i) + (lkM (fbits c n) i t n) := by show _ + chT σ n c kd q t i = _; unfold chT; rw [if_pos c_59, if_neg c_153]; try rfl
                  rw [← e9] at hl
                  exact ih41 _ (by omega) (i + 1) _ _ _ rfl (by omega) h (lv_sub hl [0, 5, 1, 6, 7, 8, 9, 10] rfl)
              · refine lv_iload hx hb dX9_chanceNow_80 (lv_at hl 2 rfl) ?_
                refine lv_iload hx hb dX9_chanceNow_82 (lv_at hl 3 rfl) ?_
                refine lv_iload hx hb dX9_chanceNow_84 (lv_at hl 0 rfl) ?_
                refine gcallSi C h (kX9_isIn l D ct i u (by omega) (by omega)) (va_cwS 2 C.2.2.2.2 (gInS q889 q890 q66 q891) rfl rfl rfl hdX9_isIn ⟨Nat.le_of_ble_eq_true rfl, Nat.le_of_ble_eq_true rfl⟩) rfl hl.1 rfl (Nat.le_of_ble_eq_true rfl) dX9_chanceNow_86 ⟨Nat.zero_le _, Nat.zero_le _⟩ (fun H ll h => ?_)
                refine bz_eq hx hb (i.testBit u = true) (tgt := 102) dX9_chanceNow_89 (by decide) (fun c_89 => ?_) (fun c_89 => ?_)
                · refine lv_iconst (v := 0) hx hb dX9_chanceNow_102 (by decide) ?_
                  refine lv_iadd hx hb dX9_chanceNow_103 ?_
                  refine lv_istore (lv' := [(8, .int ((csM σ n c kd q i u) + 0)), (10, .int (nI u)), (9, .int (nI (lkM (fbits c n) i t u))), (7, .int (nI i)), (6, .int (nI (10 ^ pcn (fbits c n) 8))), (5, .int (nI (nsm (chT σ n c kd q t) i))), (4, .int (nI (fbits c n))), (0, .ref (ad 0)), (1, .int (nI q)), (2, .int (nI t)), (3, .int (nI v))]) hx hb dX9_chanceNow_104 hl (by decide) rfl (fun ls hl => ?_)
                  refine lv_iload hx hb dX9_chanceNow_106 (lv_at hl 2 rfl) ?_
                  refine lv_iload hx hb dX9_chanceNow_108 (lv_at hl 6 rfl) ?_
                  refine lv_iload hx hb dX9_chanceNow_110 (lv_at hl 1 rfl) ?_
                  refine gcallSi C h (kX9_isIn l D ct (fbits c n) u (by omega) (by omega)) (va_cwS 2 C.2.2.2.2 (gInS q889 q890 q66 q891) rfl rfl rfl hdX9_isIn ⟨Nat.le_of_ble_eq_true rfl, Nat.le_of_ble_eq_true rfl⟩) rfl hl.1 rfl (Nat.le_of_ble_eq_true rfl) dX9_chanceNow_112 ⟨Nat.zero_le _, Nat.zero_le _⟩ (fun H ll h => ?_)
                  refine bz_ne hx hb ((fbits c n).testBit u = true) (tgt := 122) dX9_chanceNow_115 (by decide) (fun c_115 => ?_) (fun c_115 => ?_)
                  · refine lv_iload hx hb dX9_chanceNow_122 (lv_at hl 3 rfl) ?_
                    refine lv_iload hx hb dX9_chanceNow_124 (lv_at hl 1 rfl) ?_
                    refine gcallSi C h (kX9_isIn l D ct i u (by omega) (by omega)) (va_cwS 2 C.2.2.2.2 (gInS q889 q890 q66 q891) rfl rfl rfl hdX9_isIn ⟨Nat.le_of_ble_eq_true rfl, Nat.le_of_ble_eq_true rfl⟩) rfl hl.1 rfl (Nat.le_of_ble_eq_true rfl) dX9_chanceNow_126 ⟨Nat.zero_le _, Nat.zero_le _⟩ (fun H ll h => ?_)
                    refine bz_eq hx hb (i.testBit u = true) (tgt := 139) dX9_chanceNow_129 (by decide) (fun c_129 => ?_) (fun c_129 => ?_)
                    · refine lv_iload_n hx hb dX9_chanceNow_139 rfl (lv_at hl 9 rfl) ?_
                      refine nmul hx hb (lkM (fbits c n) i t u) t dX9_chanceNow_140 ?_
                      refine lv_istore (lv' := [(9, .int (nI ((lkM (fbits c n) i t u) * t))), (8, .int ((csM σ n c kd q i u) + 0)), (10, .int (nI u)), (7, .int (nI i)), (6, .int (nI (10 ^ pcn (fbits c n) 8))), (5, .int (nI (nsm (chT σ n c kd q t) i))), (4, .int (nI (fbits c n))), (0, .ref (ad 0)), (1, .int (nI q)), (2, .int (nI t)), (3, .int (nI v))]) hx hb dX9_chanceNow_141 hl (by decide) rfl (fun ls hl => ?_)
                      refine ninc (lv' := [(10, .int (nI (u + 1))), (9, .int (nI ((lkM (fbits c n) i t u) * t))), (8, .int ((csM σ n c kd q i u) + 0)), (7, .int (nI i)), (6, .int (nI (10 ^ pcn (fbits c n) 8))), (5, .int (nI (nsm (chT σ n c kd q t) i))), (4, .int (nI (fbits c n))), (0, .ref (ad 0)), (1, .int (nI q)), (2, .int (nI t)), (3, .int (nI v))]) hx hb u 1 dX9_chanceNow_143 hl (k := 2) rfl (by decide) rfl (fun ls hl => ?_)
                      refine lv_goto (tgt := 71) hx hb dX9_chanceNow_146 (by decide) ?_
                      have e7 : csM σ n c kd q i (u + 1) = (csM σ n c kd q i u) + 0 := by show _ + (if i.testBit u = true then plM σ n c kd q u else 0) = _; rw [if_neg c_89]; rfl
                      have e8 : lkM (fbits c n) i t (u + 1) = (lkM (fbits c n) i t u) * t := by simp [lkM, c_115, c_129]
                      rw [← e7, ← e8] at hl
                      exact ih71 _ (by omega) (u + 1) _ _ _ rfl (by omega) h (lv_sub hl [0, 1, 2, 3, 4, 5, 6, 7, 8, 9, 10] rfl)
                    · refine lv_bipush (v := 10) hx hb dX9_chanceNow_132 (by decide) ?_
                      refine lv_iload_n hx hb dX9_chanceNow_134 rfl (lv_at hl 9 rfl) ?_
                      refine nsub hx hb 10 t (by omega) dX9_chanceNow_135 ?_
                      refine lv_goto (tgt := 140) hx hb dX9_chanceNow_136 (by decide) ?_
                      refine nmul hx hb (lkM (fbits c n) i t u) (10 - t) dX9_chanceNow_140 ?_
                      refine lv_istore (lv' := [(9, .int (nI ((lkM (fbits c n) i t u) * (10 - t)))), (8, .int ((csM σ n c kd q i u) + 0)), (10, .int (nI u)), (7, .int (nI i)), (6, .int (nI (10 ^ pcn (fbits c n) 8))), (5, .int (nI (nsm (chT σ n c kd q t) i))), (4, .int (nI (fbits c n))), (0, .ref (ad 0)), (1, .int (nI q)), (2, .int (nI t)), (3, .int (nI v))]) hx hb dX9_chanceNow_141 hl (by decide) rfl (fun ls hl => ?_)
                      refine ninc (lv' := [(10, .int (nI (u + 1))), (9, .int (nI ((lkM (fbits c n) i t u) * (10 - t)))), (8, .int ((csM σ n c kd q i u) + 0)), (7, .int (nI i)), (6, .int (nI (10 ^ pcn (fbits c n) 8))), (5, .int (nI (nsm (chT σ n c kd q t) i))), (4, .int (nI (fbits c n))), (0, .ref (ad 0)), (1, .int (nI q)), (2, .int (nI t)), (3, .int (nI v))]) hx hb u 1 dX9_chanceNow_143 hl (k := 2) rfl (by decide) rfl (fun ls hl => ?_)
                      refine lv_goto (tgt := 71) hx hb dX9_chanceNow_146 (by decide) ?_
                      have e7 : csM σ n c kd q i (u + 1) = (csM σ n c kd q i u) + 0 := by show _ + (if i.testBit u = true then plM σ n c kd q u else 0) = _; rw [if_neg c_89]; rfl
                      have e8 : lkM (fbits c n) i t (u + 1) = (lkM (fbits c n) i t u) * (10 - t) := by simp [lkM, c_115, c_129]
                      rw [← e7, ← e8] at hl
                      exact ih71 _ (by omega) (u + 1) _ _ _ rfl (by omega) h (lv_sub hl [0, 1, 2, 3, 4, 5, 6, 7, 8, 9, 10] rfl)
                  · refine lv_iconst (v := 1) hx hb dX9_chanceNow_118 (by decide) ?_
                    refine lv_goto (tgt := 140) hx hb dX9_chanceNow_119 (by decide) ?_
                    refine nmul hx hb (lkM (fbits c n) i t u) 1 dX9_chanceNow_140 ?_
                    refine lv_istore (lv' := [(9, .int (nI ((lkM (fbits c n) i t u) * 1))), (8, .int ((csM σ n c kd q i u) + 0)), (10, .int (nI u)), (7, .int (nI i)), (6, .int (nI (10 ^ pcn (fbits c n) 8))), (5, .int (nI (nsm (chT σ n c kd q t) i))), (4, .int (nI (fbits c n))), (0, .ref (ad 0)), (1, .int (nI q)), (2, .int (nI t)), (3, .int (nI v))]) hx hb dX9_chanceNow_141 hl (by decide) rfl (fun ls hl => ?_)
                    refine ninc (lv' := [(10, .int (nI (u + 1))), (9, .int (nI ((lkM (fbits c n) i t u) * 1))), (8, .int ((csM σ n c kd q i u) + 0)), (7, .int (nI i)), (6, .int (nI (10 ^ pcn (fbits c n) 8))), (5, .int (nI (nsm (chT σ n c kd q t) i))), (4, .int (nI (fbits c n))), (0, .ref (ad 0)), (1, .int (nI q)), (2, .int (nI t)), (3, .int (nI v))]) hx hb u 1 dX9_chanceNow_143 hl (k := 2) rfl (by decide) rfl (fun ls hl => ?_)
                    refine lv_goto (tgt := 71) hx hb dX9_chanceNow_146 (by decide) ?_
                    have e7 : csM σ n c kd q i (u + 1) = (csM σ n c kd q i u) + 0 := by show _ + (if i.testBit u = true then plM σ n c kd q u else 0) = _; rw [if_neg c_89]; rfl
                    have e8 : lkM (fbits c n) i t (u + 1) = (lkM (fbits c n) i t u) * 1 := by simp [lkM, c_115]
                    rw [← e7, ← e8] at hl
                    exact ih71 _ (by omega) (u + 1) _ _ _ rfl (by omega) h (lv_sub hl [0, 1, 2, 3, 4, 5, 6, 7, 8, 9, 10] rfl)
                · refine lv_aload_n hx hb dX9_chanceNow_92 rfl (lv_at hl 7 rfl) ?_
                  refine lv_iload hx hb dX9_chanceNow_93 (lv_at hl 0 rfl) ?_
                  refine lv_iload_n hx hb dX9_chanceNow_95 rfl (lv_at hl 8 rfl) ?_
                  refine gcallVi C h trivial gNo_ok (kX9_pulls l D ct ad σ τ n c kd hok u q (by omega) (by omega)) (cwV 2 C.2.2.2.2 (gInV q881 q883 q28 q66 q884) rfl rfl rfl hvX9_pulls ⟨Nat.le_of_ble_eq_true rfl, Nat.le_of_ble_eq_true rfl⟩) 0 (wM_o ad ct σ τ) rfl rfl rfl hl.1 rfl (Nat.le_of_ble_eq_true rfl) dX9_chanceNow_96 ⟨Nat.zero_le _, Nat.zero_le _⟩ (fun r9 u9 H ll hw h => ?_)
                  have hw : r9 = plM σ n c kd q u := hw
                  subst hw
                  have h : gW D ct zA zs _ _ (wM ad ct σ τ) := h
                  refine lv_goto (tgt := 103) hx hb dX9_chanceNow_99 (by decide) ?_
                  refine lv_iadd hx hb dX9_chanceNow_103 ?_
                  refine lv_istore (lv' := [(8, .int ((csM σ n c kd q i u) + (plM σ n c kd q u))), (10, .int (nI u)), (9, .int (nI (lkM (fbits c n) i t u))), (7, .int (nI i)), (6, .int (nI (10 ^ pcn (fbits c n) 8))), (5, .int (nI (nsm (chT σ n c kd q t) i))), (4, .int (nI (fbits c n))), (0, .ref (ad 0)), (1, .int (nI q)), (2, .int (nI t)), (3, .int (nI v))]) hx hb dX9_chanceNow_104 hl (by decide) rfl (fun ls hl => ?_)
                  refine lv_iload hx hb dX9_chanceNow_106 (lv_at hl 2 rfl) ?_
                  refine lv_iload hx hb dX9_chanceNow_108 (lv_at hl 6 rfl) ?_
                  refine lv_iload hx hb dX9_chanceNow_110 (lv_at hl 1 rfl) ?_
                  refine gcallSi C h (kX9_isIn l D ct (fbits c n) u (by omega) (by omega)) (va_cwS 2 C.2.2.2.2 (gInS q889 q890 q66 q891) rfl rfl rfl hdX9_isIn ⟨Nat.le_of_ble_eq_true rfl, Nat.le_of_ble_eq_true rfl⟩) rfl hl.1 rfl (Nat.le_of_ble_eq_true rfl) dX9_chanceNow_112 ⟨Nat.zero_le _, Nat.zero_le _⟩ (fun H ll h => ?_)
                  refine bz_ne hx hb ((fbits c n).testBit u = true) (tgt := 122) dX9_chanceNow_115 (by decide) (fun c_115 => ?_) (fun c_115 => ?_)
                  · refine lv_iload hx hb dX9_chanceNow_122 (lv_at hl 3 rfl) ?_
                    refine lv_iload hx hb dX9_chanceNow_124 (lv_at hl 1 rfl) ?_
                    refine gcallSi C h (kX9_isIn l D ct i u (by omega) (by omega)) (va_cwS 2 C.2.2.2.2 (gInS q889 q890 q66 q891) rfl rfl rfl hdX9_isIn ⟨Nat.le_of_ble_eq_true rfl, Nat.le_of_ble_eq_true rfl⟩) rfl hl.1 rfl (Nat.le_of_ble_eq_true rfl) dX9_chanceNow_126 ⟨Nat.zero_le _, Nat.zero_le _⟩ (fun H ll h => ?_)
                    refine bz_eq hx hb (i.testBit u = true) (tgt := 139) dX9_chanceNow_129 (by decide) (fun c_129 => ?_) (fun c_129 => ?_)
                    · refine lv_iload_n hx hb dX9_chanceNow_139 rfl (lv_at hl 9 rfl) ?_
                      refine nmul hx hb (lkM (fbits c n) i t u) t dX9_chanceNow_140 ?_
                      refine lv_istore (lv' := [(9, .int (nI ((lkM (fbits c n) i t u) * t))), (8, .int ((csM σ n c kd q i u) + (plM σ n c kd q u))), (10, .int (nI u)), (7, .int (nI i)), (6, .int (nI (10 ^ pcn (fbits c n) 8))), (5, .int (nI (nsm (chT σ n c kd q t) i))), (4, .int (nI (fbits c n))), (0, .ref (ad 0)), (1, .int (nI q)), (2, .int (nI t)), (3, .int (nI v))]) hx hb dX9_chanceNow_141 hl (by decide) rfl (fun ls hl => ?_)
                      refine ninc (lv' := [(10, .int (nI (u + 1))), (9, .int (nI ((lkM (fbits c n) i t u) * t))), (8, .int ((csM σ n c kd q i u) + (plM σ n c kd q u))), (7, .int (nI i)), (6, .int (nI (10 ^ pcn (fbits c n) 8))), (5, .int (nI (nsm (chT σ n c kd q t) i))), (4, .int (nI (fbits c n))), (0, .ref (ad 0)), (1, .int (nI q)), (2, .int (nI t)), (3, .int (nI v))]) hx hb u 1 dX9_chanceNow_143 hl (k := 2) rfl (by decide) rfl (fun ls hl => ?_)
                      refine lv_goto (tgt := 71) hx hb dX9_chanceNow_146 (by decide) ?_
                      have e7 : csM σ n c kd q i (u + 1) = (csM σ n c kd q i u) + (plM σ n c kd q u) := by show _ + (if i.testBit u = true then plM σ n c kd q u else 0) = _; rw [if_pos c_89]; rfl
                      have e8 : lkM (fbits c n) i t (u + 1) = (lkM (fbits c n) i t u) * t := by simp [lkM, c_115, c_129]
                      rw [← e7, ← e8] at hl
                      exact ih71 _ (by omega) (u + 1) _ _ _ rfl (by omega) h (lv_sub hl [0, 1, 2, 3, 4, 5, 6, 7, 8, 9, 10] rfl)
                    · refine lv_bipush (v := 10) hx hb dX9_chanceNow_132 (by decide) ?_
                      refine lv_iload_n hx hb dX9_chanceNow_134 rfl (lv_at hl 9 rfl) ?_
                      refine nsub hx hb 10 t (by omega) dX9_chanceNow_135 ?_
                      refine lv_goto (tgt := 140) hx hb dX9_chanceNow_136 (by decide) ?_
                      refine nmul hx hb (lkM (fbits c n) i t u) (10 - t) dX9_chanceNow_140 ?_
                      refine lv_istore (lv' := [(9, .int (nI ((lkM (fbits c n) i t u) * (10 - t)))), (8, .int ((csM σ n c kd q i u) + (plM σ n c kd q u))), (10, .int (nI u)), (7, .int (nI i)), (6, .int (nI (10 ^ pcn (fbits c n) 8))), (5, .int (nI (nsm (chT σ n c kd q t) i))), (4, .int (nI (fbits c n))), (0, .ref (ad 0)), (1, .int (nI q)), (2, .int (nI t)), (3, .int (nI v))]) hx hb dX9_chanceNow_141 hl (by decide) rfl (fun ls hl => ?_)
                      refine ninc (lv' := [(10, .int (nI (u + 1))), (9, .int (nI ((lkM (fbits c n) i t u) * (10 - t)))), (8, .int ((csM σ n c kd q i u) + (plM σ n c kd q u))), (7, .int (nI i)), (6, .int (nI (10 ^ pcn (fbits c n) 8))), (5, .int (nI (nsm (chT σ n c kd q t) i))), (4, .int (nI (fbits c n))), (0, .ref (ad 0)), (1, .int (nI q)), (2, .int (nI t)), (3, .int (nI v))]) hx hb u 1 dX9_chanceNow_143 hl (k := 2) rfl (by decide) rfl (fun ls hl => ?_)
                      refine lv_goto (tgt := 71) hx hb dX9_chanceNow_146 (by decide) ?_
                      have e7 : csM σ n c kd q i (u + 1) = (csM σ n c kd q i u) + (plM σ n c kd q u) := by show _ + (if i.testBit u = true then plM σ n c kd q u else 0) = _; rw [if_pos c_89]; rfl
                      have e8 : lkM (fbits c n) i t (u + 1) = (lkM (fbits c n) i t u) * (10 - t) := by simp [lkM, c_115, c_129]
                      rw [← e7, ← e8] at hl
                      exact ih71 _ (by omega) (u + 1) _ _ _ rfl (by omega) h (lv_sub hl [0, 1, 2, 3, 4, 5, 6, 7, 8, 9, 10] rfl)
                  · refine lv_iconst (v := 1) hx hb dX9_chanceNow_118 (by decide) ?_
                    refine lv_goto (tgt := 140) hx hb dX9_chanceNow_119 (by decide) ?_
                    refine nmul hx hb (lkM (fbits c n) i t u) 1 dX9_chanceNow_140 ?_
                    refine lv_istore (lv' := [(9, .int (nI ((lkM (fbits c n) i t u) * 1))), (8, .int ((csM σ n c kd q i u) + (plM σ n c kd q u))), (10, .int (nI u)), (7, .int (nI i)), (6, .int (nI (10 ^ pcn (fbits c n) 8))), (5, .int (nI (nsm (chT σ n c kd q t) i))), (4, .int (nI (fbits c n))), (0, .ref (ad 0)), (1, .int (nI q)), (2, .int (nI t)), (3, .int (nI v))]) hx hb dX9_chanceNow_141 hl (by decide) rfl (fun ls hl => ?_)
                    refine ninc (lv' := [(10, .int (nI (u + 1))), (9, .int (nI ((lkM (fbits c n) i t u) * 1))), (8, .int ((csM σ n c kd q i u) + (plM σ n c kd q u))), (7, .int (nI i)), (6, .int (nI (10 ^ pcn (fbits c n) 8))), (5, .int (nI (nsm (chT σ n c kd q t) i))), (4, .int (nI (fbits c n))), (0, .ref (ad 0)), (1, .int (nI q)), (2, .int (nI t)), (3, .int (nI v))]) hx hb u 1 dX9_chanceNow_143 hl (k := 2) rfl (by decide) rfl (fun ls hl => ?_)
                    refine lv_goto (tgt := 71) hx hb dX9_chanceNow_146 (by decide) ?_
                    have e7 : csM σ n c kd q i (u + 1) = (csM σ n c kd q i u) + (plM σ n c kd q u) := by show _ + (if i.testBit u = true then plM σ n c kd q u else 0) = _; rw [if_pos c_89]; rfl
                    have e8 : lkM (fbits c n) i t (u + 1) = (lkM (fbits c n) i t u) * 1 := by simp [lkM, c_115]
                    rw [← e7, ← e8] at hl
                    exact ih71 _ (by omega) (u + 1) _ _ _ rfl (by omega) h (lv_sub hl [0, 1, 2, 3, 4, 5, 6, 7, 8, 9, 10] rfl)
            exact L71_2 _ 0 _ _ _ rfl (by omega) h (lv_sub hl [0, 1, 2, 3, 4, 5, 6, 7, 8, 9, 10] rfl)
      exact L41_1 _ 0 _ _ _ rfl (by omega) h (lv_sub hl [0, 1, 2, 3, 4, 5, 6, 7] rfl)
    · refine lv_iload hx hb dX9_chanceNow_25 (lv_at hl 1 rfl) ?_
      refine lv_bipush (v := 10) hx hb dX9_chanceNow_27 (by decide) ?_
      refine nmul hx hb (10 ^ k) 10 dX9_chanceNow_29 ?_
      refine lv_istore (lv' := [(6, .int (nI ((10 ^ k) * 10))), (7, .int (nI k)), (5, .int 0), (4, .int (nI (fbits c n))), (0, .ref (ad 0)), (1, .int (nI q)), (2, .int (nI t)), (3, .int (nI v))]) hx hb dX9_chanceNow_30 hl (by decide) rfl (fun ls hl => ?_)
      refine ninc (lv' := [(7, .int (nI (k + 1))), (6, .int (nI ((10 ^ k) * 10))), (5, .int 0), (4, .int (nI (fbits c n))), (0, .ref (ad 0)), (1, .int (nI q)), (2, .int (nI t)), (3, .int (nI v))]) hx hb k 1 dX9_chanceNow_32 hl (k := 1) rfl (by decide) rfl (fun ls hl => ?_)
      refine lv_goto (tgt := 15) hx hb dX9_chanceNow_35 (by decide) ?_
      exact ih15 _ (by omega) (k + 1) _ _ _ rfl (by omega) h (lv_sub hl [0, 1, 2, 3, 4, 5, 6, 7] rfl)
  exact L15_0 _ 0 _ _ _ rfl (Nat.zero_le _) h (lv_sub hl [0, 1, 2, 3, 4, 5, 6, 7] rfl)
