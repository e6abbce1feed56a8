theorem nIm1 {j : Nat} (h : j < 2 ^ 31) : ¬ nI j = -1 := fun q => by
  have h1 := nI_toInt h
  rw [q] at h1
  have h2 : (-1 : Int32).toInt = -1 := rfl
  omega
theorem or256 {a b : Nat} (ha : a < 256) (hb : b < 256) : a ||| b < 256 := Nat.or_lt_two_pow (n := 8) ha hb
theorem p3le : ∀ n, n ≤ 8 → 3 ^ n ≤ 6561 := by decide
theorem div3_lt {i m : Nat} (h : i < 2 ^ 31) : i / 3 ^ m < 2 ^ 31 := Nat.lt_of_le_of_lt (Nat.div_le_self _ _) h
/-- all leans on question q by the digits of a code -/
def tcode (σ : Nat → Nat → Int32) (n q i : Nat) : Nat → Int32 := fun j => if j % 3 = q ∧ j / 3 < n then nI (i / 3 ^ (j / 3) % 3) - 1 else σ 4 j
theorem obits_lt (f g : Nat → Int32) (q : Nat) : ∀ n, obits f g q n < 2 ^ n
  | 0 => by show 0 < 1; decide
  | n + 1 => by
    simp only [obits]
    have h := obits_lt f g q n
    have e : 2 ^ (n + 1) = 2 ^ n * 2 := Nat.pow_succ 2 n
    apply Nat.or_lt_two_pow (by omega)
    split <;> omega
def turnB (σ : Nat → Nat → Int32) (n c : Nat) (kd : Nat → Nat) (q : Nat) (out : Int32) : Nat → Option Nat
  | 0 => none
  | i + 1 => if (∀ j, turnB σ n c kd q out i = some j → pcn (obits (tcode σ n q i) (σ 4) q n) 8 < pcn j 8 ∨ (pcn (obits (tcode σ n q i) (σ 4) q n) 8 = pcn j 8 ∧ obits (tcode σ n q i) (σ 4) q n < j)) ∧ sgn (smM (va_up σ 4 (tcode σ n q i)) n c kd q) = out then some (obits (tcode σ n q i) (σ 4) q n) else turnB σ n c kd q out i
theorem updq {g f : Nat → Int32} {m q i : Nat} (hq : q < 3) (hg : ∀ j, g j = if j % 3 = q ∧ j / 3 < m then nI (i / 3 ^ (j / 3) % 3) - 1 else f j) : ∀ j, upd g (3 * m + q) (nI (i / 3 ^ m % 3) - 1) j = if j % 3 = q ∧ j / 3 < m + 1 then nI (i / 3 ^ (j / 3) % 3) - 1 else f j := by
  intro j
  by_cases e : j = 3 * m + q
  · rw [e, pk_us, if_pos ⟨by omega, by omega⟩, show (3 * m + q) / 3 = m by omega]
  · rw [pk_un e, hg j]
    by_cases h : j % 3 = q ∧ j / 3 < m
    · rw [if_pos h, if_pos ⟨h.1, by omega⟩]
    · rw [if_neg h, if_neg (fun h2 => h ⟨h2.1, by omega⟩)]
theorem told1 {j t : Nat} (h : t = 1) : nI j = toldB (some j) t := (if_pos h).symm
theorem told0 {j t : Nat} (h : ¬ t = 1) : nI (pcn j 8) = toldB (some j) t := (if_neg h).symm
theorem cutB_pos {σ : Nat → Nat → Int32} {n c : Nat} {kd : Nat → Nat} {q : Nat} {out : Int32} {i : Nat} (h1 : i &&& c = 0) (h2 : ∀ j, cutB σ n c kd q out i = some j → pcn i 8 < pcn j 8) (h3 : sgn (smM σ n (c ||| i) kd q) = out) : some i = cutB σ n c kd q out (i + 1) := (if_pos ⟨h1, h2, h3⟩).symm
theorem cutB_neg {σ : Nat → Nat → Int32} {n c : Nat} {kd : Nat → Nat} {q : Nat} {out : Int32} {i : Nat} {b : Option Nat} (hb : b = cutB σ n c kd q out i) (h : ¬ (i &&& c = 0 ∧ (∀ j, cutB σ n c kd q out i = some j → pcn i 8 < pcn j 8) ∧ sgn (smM σ n (c ||| i) kd q) = out)) : b = cutB σ n c kd q out (i + 1) := hb.trans (if_neg h).symm
theorem turnB_pos {σ : Nat → Nat → Int32} {n c : Nat} {kd : Nat → Nat} {q : Nat} {out : Int32} {i : Nat} (h2 : ∀ j, turnB σ n c kd q out i = some j → pcn (obits (tcode σ n q i) (σ 4) q n) 8 < pcn j 8 ∨ (pcn (obits (tcode σ n q i) (σ 4) q n) 8 = pcn j 8 ∧ obits (tcode σ n q i) (σ 4) q n < j)) (h3 : sgn (smM (va_up σ 4 (tcode σ n q i)) n c kd q) = out) : some (obits (tcode σ n q i) (σ 4) q n) = turnB σ n c kd q out (i + 1) := (if_pos ⟨h2, h3⟩).symm
theorem turnB_neg {σ : Nat → Nat → Int32} {n c : Nat} {kd : Nat → Nat} {q : Nat} {out : Int32} {i : Nat} {b : Option Nat} (hb : b = turnB σ n c kd q out i) (h : ¬ ((∀ j, turnB σ n c kd q out i = some j → pcn (obits (tcode σ n q i) (σ 4) q n) 8 < pcn j 8 ∨ (pcn (obits (tcode σ n q i) (σ 4) q n) 8 = pcn j 8 ∧ obits (tcode σ n q i) (σ 4) q n < j)) ∧ sgn (smM (va_up σ 4 (tcode σ n q i)) n c kd q) = out)) : b = turnB σ n c kd q out (i + 1) := hb.trans (if_neg h).symm
set_option maxHeartbeats 4000000 in
set_option maxRecDepth 100000 in
theorem kX9_cutsNow (l : Launch) (D : va_G) (ct : Nat → ClassId) (ad : Nat → Nat) (σ : Nat → Nat → Int32) (τ : Nat → Nat → Int64) (n c : Nat) (kd : Nat → Nat) (hok : MOK σ n c kd) (q : Nat) (out : Int32) (t : Nat) (hq : q < 3) (ht : t < 2) : MI l yX9_cutsNow (gWs yX9_cutsNow cX9_cutsNow 7 (some .int)) rmX9_cutsNow D ct gNo [.ref (ad 0), .int (nI q), .int out, .int (nI t)] (wM ad ct σ τ) (fun u : (Nat → Nat → Int32) × (Nat → Nat → Int64) => wM ad ct u.1 u.2) (fun r u => r = toldB (cutB σ n c kd q out (1 * 2 ^ n)) t ∧ u = (va_up σ 5 (fun _ => nI c), τ)) := by
  refine MI.ofI RX9 rfl (by decide) (Nat.le_of_ble_eq_true rfl) ?_
  intro zp ze zs zm za zb zt zc zA ls zQ C h hX hl hret
  have hx := C.1
  have hb := C.2.1
  have hl : lv_has ls 7 [(0, .ref (ad 0)), (1, .int (nI q)), (2, .int out), (3, .int (nI t))] := hl
  have hok0 := hok
  obtain ⟨hn, hn8, hc, hc8, hkd⟩ := hok0
  have hp2 := p2le hn8
  refine lv_aload_n hx hb dX9_cutsNow_0 rfl (lv_at hl 0 rfl) ?_
  refine mg_cutThreads C h dX9_cutsNow_1 ?_
  refine gas hc ?_
  refine lv_istore (lv' := [(4, .int (nI c)), (0, .ref (ad 0)), (1, .int (nI q)), (2, .int out), (3, .int (nI t))]) hx hb dX9_cutsNow_4 hl (by decide) rfl (fun ls hl => ?_)
  refine lv_iconst (v := -1) hx hb dX9_cutsNow_6 (by decide) ?_
  refine lv_istore (lv' := [(5, .int (-1)), (4, .int (nI c)), (0, .ref (ad 0)), (1, .int (nI q)), (2, .int out), (3, .int (nI t))]) hx hb dX9_cutsNow_7 hl (by decide) rfl (fun ls hl => ?_)
  refine lv_iconst (v := 0) hx hb dX9_cutsNow_9 (by decide) ?_
  refine lv_istore (lv' := [(6, .int 0), (5, .int (-1)), (4, .int (nI c)), (0, .ref (ad 0)), (1, .int (nI q)), (2, .int out), (3, .int (nI t))]) hx hb dX9_cutsNow_10 hl (by decide) rfl (fun ls hl => ?_)
  have L12_0 : ∀ (kk : Nat) (i : Nat) (b : Option Nat) (x : Int32) (H : Heap) (ll : List Loc) (ls : Array Slot), 1 * 2 ^ n - i = kk → (i ≤ 1 * 2 ^ n) → (b = cutB σ n c kd q out i) → (∀ j, b = some j → j < 256) → gW D ct zA zs H ll (wM ad ct (va_up σ 5 (fun _ => x)) τ) → lv_has ls 7 [(6, .int (nI i)), (5, .int (bI b)), (4, .int (nI c)), (0, .ref (ad 0)), (1, .int (nI q)), (2, .int out), (3, .int (nI t))] → W zp l ze rmX9_cutsNow zs zm za zb zt zc H ll 0 0 zQ (F0 zm 12 ls []) := by
    intro kk12
    induction kk12 using Nat.strongRecOn with
    | _ kk12 ih12 =>
    intro i b x H ll ls hk12 hi hbv hbs h hl
    refine lv_iload hx hb dX9_cutsNow_12 (lv_at hl 0 rfl) ?_
    refine lv_iconst (v := 1) hx hb dX9_cutsNow_14 (by decide) ?_
    refine lv_aload_n hx hb dX9_cutsNow_15 rfl (lv_at hl 3 rfl) ?_
    refine mg_mussels C h dX9_cutsNow_16 ?_
    refine gas hn ?_
    refine nshl hx hb 1 n (by omega) (by omega) dX9_cutsNow_19 ?_
    refine nb_ge hx hb i (1 * 2 ^ n) (by omega) (by omega) (tgt := 83) dX9_cutsNow_20 (by decide) (fun c_20 => ?_) (fun c_20 => ?_)
    · refine lv_aload_n hx hb dX9_cutsNow_83 rfl (lv_at hl 3 rfl) ?_
      refine lv_iload hx hb dX9_cutsNow_84 (lv_at hl 2 rfl) ?_
      refine mp_cutThreads C h dX9_cutsNow_86 (fun H ll h => ?_)
      have h : gW D ct zA zs _ _ (wM ad ct (va_up σ 5 (fun _ => nI c)) τ) := h
      rcases b with _ | j9
      · refine lv_iload hx hb dX9_cutsNow_89 (lv_at hl 1 rfl) ?_
        refine lv_iconst (v := -1) hx hb dX9_cutsNow_91 (by decide) ?_
        refine lv_icmp_eq (tgt := 100) hx hb dX9_cutsNow_92 (by decide) (fun _ => ?_) (fun q => absurd (by decide) q)
        refine lv_iload hx hb dX9_cutsNow_100 (lv_at hl 1 rfl) ?_
        refine lv_goto (tgt := 110) hx hb dX9_cutsNow_102 (by decide) ?_
        have h : gW D ct zA zs _ _ (wM ad ct (va_up σ 5 (fun _ => nI c)) τ) := h
        exact hret _ (va_up σ 5 (fun _ => nI c), τ) _ _ _ _ h ⟨(by rw [show cutB σ n c kd q out (1 * 2 ^ n) = cutB σ n c kd q out i by rw [show i = 1 * 2 ^ n by omega], ← hbv]; first | rfl | exact told1 c_97 | exact told0 c_97), rfl⟩ dX9_cutsNow_110
      · have hj9 := hbs j9 rfl
        refine lv_iload hx hb dX9_cutsNow_89 (lv_at hl 1 rfl) ?_
        refine lv_iconst (v := -1) hx hb dX9_cutsNow_91 (by decide) ?_
        refine lv_icmp_eq (tgt := 100) hx hb dX9_cutsNow_92 (by decide) (fun q => absurd q (nIm1 (by omega))) (fun _ => ?_)
        refine lv_iload_n hx hb dX9_cutsNow_95 rfl (lv_at hl 6 rfl) ?_
        refine lv_iconst (v := 1) hx hb dX9_cutsNow_96 (by decide) ?_
        refine nb_ne hx hb t 1 (by omega) (by omega) (tgt := 105) dX9_cutsNow_97 (by decide) (fun c_97 => ?_) (fun c_97 => ?_)
        · refine lv_iload hx hb dX9_cutsNow_105 (lv_at hl 1 rfl) ?_
          have h15 := pcn_le j9 8
          refine gcallSi C h (kX9_size l D ct j9 (by omega)) (va_cwS 1 C.2.2.2.2 (gInS q905 q906 q66 q907) rfl rfl rfl hdX9_size ⟨Nat.le_of_ble_eq_true rfl, Nat.le_of_ble_eq_true rfl⟩) rfl hl.1 rfl (Nat.le_of_ble_eq_true rfl) dX9_cutsNow_107 ⟨Nat.zero_le _, Nat.zero_le _⟩ (fun H ll h => ?_)
          have h : gW D ct zA zs _ _ (wM ad ct (va_up σ 5 (fun _ => nI c)) τ) := h
          exact hret _ (va_up σ 5 (fun _ => nI c), τ) _ _ _ _ h ⟨(by rw [show cutB σ n c kd q out (1 * 2 ^ n) = cutB σ n c kd q out i by rw [show i = 1 * 2 ^ n by omega], ← hbv]; first | rfl | exact told1 c_97 | exact told0 c_97), rfl⟩ dX9_cutsNow_110
        · refine lv_iload hx hb dX9_cutsNow_100 (lv_at hl 1 rfl) ?_
          refine lv_goto (tgt := 110) hx hb dX9_cutsNow_102 (by decide) ?_
          have h : gW D ct zA zs _ _ (wM ad ct (va_up σ 5 (fun _ => nI c)) τ) := h
          exact hret _ (va_up σ 5 (fun _ => nI c), τ) _ _ _ _ h ⟨(by rw [show cutB σ n c kd q out (1 * 2 ^ n) = cutB σ n c kd q out i by rw [show i = 1 * 2 ^ n by omega], ← hbv]; first | rfl | exact told1 c_97 | exact told0 c_97), rfl⟩ dX9_cutsNow_110
    · refine lv_iload hx hb dX9_cutsNow_23 (lv_at hl 0 rfl) ?_
      refine lv_iload hx hb dX9_cutsNow_25 (lv_at hl 2 rfl) ?_
      refine nand hx hb i c dX9_cutsNow_27 ?_
      refine nz_ne hx hb (i &&& c) (Nat.lt_of_le_of_lt Nat.and_le_left (by omega)) (tgt := 77) dX9_cutsNow_28 (by decide) (fun c_28 => ?_) (fun c_28 => ?_)
      · refine ninc (lv' := [(6, .int (nI (i + 1))), (5, .int (bI b)), (4, .int (nI c)), (0, .ref (ad 0)), (1, .int (nI q)), (2, .int out), (3, .int (nI t))]) hx hb i 1 dX9_cutsNow_77 hl (k := 0) rfl (by decide) rfl (fun ls hl => ?_)
        refine lv_goto (tgt := 12) hx hb dX9_cutsNow_80 (by decide) ?_
        exact ih12 _ (by omega) (i + 1) b x _ _ _ rfl (by omega) (cutB_neg hbv (fun h9 => c_28 h9.1)) hbs h (lv_sub hl [0, 1, 2, 3, 4, 5, 6] rfl)
      · rcases b with _ | j9
        · refine lv_iload hx hb dX9_cutsNow_31 (lv_at hl 1 rfl) ?_
          refine lv_iconst (v := -1) hx hb dX9_cutsNow_33 (by decide) ?_
          refine lv_icmp_eq (tgt := 50) hx hb dX9_cutsNow_34 (by decide) (fun _ => ?_) (fun q => absurd (by decide) q)
          refine lv_aload_n hx hb dX9_cutsNow_50 rfl (lv_at hl 3 rfl) ?_
          refine lv_iload hx hb dX9_cutsNow_51 (lv_at hl 2 rfl) ?_
          refine lv_iload hx hb dX9_cutsNow_53 (lv_at hl 0 rfl) ?_
          refine nor hx hb c i dX9_cutsNow_55 ?_
          refine mp_cutThreads C h dX9_cutsNow_56 (fun H ll h => ?_)
          have h : gW D ct zA zs _ _ (wM ad ct (va_up σ 5 (fun _ => nI (c ||| i))) τ) := h
          have hci := or256 hc8 (show i < 256 by omega)
          have hok1 : MOK (va_up σ 5 (fun _ => nI (c ||| i))) n (c ||| i) kd := ⟨hn, hn8, rfl, hci, hkd⟩
          refine lv_aload_n hx hb dX9_cutsNow_59 rfl (lv_at hl 3 rfl) ?_
          refine lv_iload_n hx hb dX9_cutsNow_60 rfl (lv_at hl 4 rfl) ?_
          refine gcallVi C h trivial gNo_ok (kX9_outOf l D ct ad (va_up σ 5 (fun _ => nI (c ||| i))) τ n (c ||| i) kd hok1 q (by omega)) (cwV 1 C.2.2.2.2 (gInV q924 q926 q35 q66 q927) rfl rfl rfl hvX9_outOf ⟨Nat.le_of_ble_eq_true rfl, Nat.le_of_ble_eq_true rfl⟩) 0 (wM_o ad ct (va_up σ 5 (fun _ => nI (c ||| i))) τ) rfl rfl rfl hl.1 rfl (Nat.le_of_ble_eq_true rfl) dX9_cutsNow_61 ⟨Nat.zero_le _, Nat.zero_le _⟩ (fun r9 u9 H ll hw h => ?_)
          have hw : r9 = sgn (smM σ n (c ||| i) kd q) := hw
          subst hw
          have h : gW D ct zA zs _ _ (wM ad ct (va_up σ 5 (fun _ => nI (c ||| i))) τ) := h
          refine lv_iload_n hx hb dX9_cutsNow_64 rfl (lv_at hl 5 rfl) ?_
          refine lv_icmp_ne (tgt := 73) hx hb dX9_cutsNow_65 (by decide) (fun c_65 => ?_) (fun c_65 => ?_)
          · refine lv_iload hx hb dX9_cutsNow_73 (lv_at hl 1 rfl) ?_
            refine lv_istore (lv' := [(5, .int (-1)), (6, .int (nI i)), (4, .int (nI c)), (0, .ref (ad 0)), (1, .int (nI q)), (2, .int out), (3, .int (nI t))]) hx hb dX9_cutsNow_75 hl (by decide) rfl (fun ls hl => ?_)
            refine ninc (lv' := [(6, .int (nI (i + 1))), (5, .int (-1)), (4, .int (nI c)), (0, .ref (ad 0)), (1, .int (nI q)), (2, .int out), (3, .int (nI t))]) hx hb i 1 dX9_cutsNow_77 hl (k := 1) rfl (by decide) rfl (fun ls hl => ?_)
            refine lv_goto (tgt := 12) hx hb dX9_cutsNow_80 (by decide) ?_
            exact ih12 _ (by omega) (i + 1) none (nI (c ||| i)) _ _ _ rfl (by omega) (cutB_neg hbv (fun h9 => c_65 h9.2.2)) (fun j hj => by cases hj <;> omega) h (lv_sub hl [0, 1, 2, 3, 4, 5, 6] rfl)
          · refine lv_iload hx hb dX9_cutsNow_68 (lv_at hl 0 rfl) ?_
            refine lv_goto (tgt := 75) hx hb dX9_cutsNow_70 (by decide) ?_
            refine lv_istore (lv' := [(5, .int (nI i)), (6, .int (nI i)), (4, .int (nI c)), (0, .ref (ad 0)), (1, .int (nI q)), (2, .int out), (3, .int (nI t))]) hx hb dX9_cutsNow_75 hl (by decide) rfl (fun ls hl => ?_)
            refine ninc (lv' := [(6, .int (nI (i + 1))), (5, .int (nI i)), (4, .int (nI c)), (0, .ref (ad 0)), (1, .int (nI q)), (2, .int out), (3, .int (nI t))]) hx hb i 1 dX9_cutsNow_77 hl (k := 1) rfl (by decide) rfl (fun ls hl => ?_)
            refine lv_goto (tgt := 12) hx hb dX9_cutsNow_80 (by decide) ?_
            exact ih12 _ (by omega) (i + 1) (some i) (nI (c ||| i)) _ _ _ rfl (by omega) (cutB_pos c_28 (fun j hj => by rw [← hbv] at hj; cases hj) c_65) (fun j hj => by cases hj <;> omega) h (lv_sub hl [0, 1, 2, 3, 4, 5, 6] rfl)
        · have hj9 := hbs j9 rfl
          refine lv_iload hx hb dX9_cutsNow_31 (lv_at hl 1 rfl) ?_
          refine lv_iconst (v := -1) hx hb dX9_cutsNow_33 (by decide) ?_
          refine lv_icmp_eq (tgt := 50) hx hb dX9_cutsNow_34 (by decide) (fun q => absurd q (nIm1 (by omega))) (fun _ => ?_)
          refine lv_iload hx hb dX9_cutsNow_37 (lv_at hl 0 rfl) ?_
          have h14 := pcn_le i 8
          have h15 := pcn_le j9 8
          refine gcallSi C h (kX9_size l D ct i (by omega)) (va_cwS 1 C.2.2.2.2 (gInS q905 q906 q66 q907) rfl rfl rfl hdX9_size ⟨Nat.le_of_ble_eq_true rfl, Nat.le_of_ble_eq_true rfl⟩) rfl hl.1 rfl (Nat.le_of_ble_eq_true rfl) dX9_cutsNow_39 ⟨Nat.zero_le _, Nat.zero_le _⟩ (fun H ll h => ?_)
          refine lv_iload hx hb dX9_cutsNow_42 (lv_at hl 1 rfl) ?_
          refine gcallSi C h (kX9_size l D ct j9 (by omega)) (va_cwS 1 C.2.2.2.2 (gInS q905 q906 q66 q907) rfl rfl rfl hdX9_size ⟨Nat.le_of_ble_eq_true rfl, Nat.le_of_ble_eq_true rfl⟩) rfl hl.1 rfl (Nat.le_of_ble_eq_true rfl) dX9_cutsNow_44 ⟨Nat.zero_le _, Nat.zero_le _⟩ (fun H ll h => ?_)
          refine nb_ge hx hb (pcn i 8) (pcn j9 8) (by omega) (by omega) (tgt := 77) dX9_cutsNow_47 (by decide) (fun c_47 => ?_) (fun c_47 => ?_)
          · refine ninc (lv' := [(6, .int (nI (i + 1))), (5, .int (nI j9)), (4, .int (nI c)), (0, .ref (ad 0)), (1, .int (nI q)), (2, .int out), (3, .int (nI t))]) hx hb i 1 dX9_cutsNow_77 hl (k := 0) rfl (by decide) rfl (fun ls hl => ?_)
            refine lv_goto (tgt := 12) hx hb dX9_cutsNow_80 (by decide) ?_
            exact ih12 _ (by omega) (i + 1) (some j9) x _ _ _ rfl (by omega) (cutB_neg hbv (fun h9 => absurd (h9.2.1 j9 hbv.symm) (by omega))) (fun j hj => by cases hj <;> omega) h (lv_sub hl [0, 1, 2, 3, 4, 5, 6] rfl)
          · refine lv_aload_n hx hb dX9_cutsNow_50 rfl (lv_at hl 3 rfl) ?_
            refine lv_iload hx hb dX9_cutsNow_51 (lv_at hl 2 rfl) ?_
            refine lv_iload hx hb dX9_cutsNow_53 (lv_at hl 0 rfl) ?_
            refine nor hx hb c i dX9_cutsNow_55 ?_
            refine mp_cutThreads C h dX9_cutsNow_56 (fun H ll h => ?_)
            have h : gW D ct zA zs _ _ (wM ad ct (va_up σ 5 (fun _ => nI (c ||| i))) τ) := h
            have hci := or256 hc8 (show i < 256 by omega)
            have hok1 : MOK (va_up σ 5 (fun _ => nI (c ||| i))) n (c ||| i) kd := ⟨hn, hn8, rfl, hci, hkd⟩
            refine lv_aload_n hx hb dX9_cutsNow_59 rfl (lv_at hl 3 rfl) ?_
            refine lv_iload_n hx hb dX9_cutsNow_60 rfl (lv_at hl 4 rfl) ?_
            refine gcallVi C h trivial gNo_ok (kX9_outOf l D ct ad (va_up σ 5 (fun _ => nI (c ||| i))) τ n (c ||| i) kd hok1 q (by omega)) (cwV 1 C.2.2.2.2 (gInV q924 q926 q35 q66 q927) rfl rfl rfl hvX9_outOf ⟨Nat.le_of_ble_eq_true rfl, Nat.le_of_ble_eq_true rfl⟩) 0 (wM_o ad ct (va_up σ 5 (fun _ => nI (c ||| i))) τ) rfl rfl rfl hl.1 rfl (Nat.le_of_ble_eq_true rfl) dX9_cutsNow_61 ⟨Nat.zero_le _, Nat.zero_le _⟩ (fun r9 u9 H ll hw h => ?_)
            have hw : r9 = sgn (smM σ n (c ||| i) kd q) := hw
            subst hw
            have h : gW D ct zA zs _ _ (wM ad ct (va_up σ 5 (fun _ => nI (c ||| i))) τ) := h
            refine lv_iload_n hx hb dX9_cutsNow_64 rfl (lv_at hl 5 rfl) ?_
            refine lv_icmp_ne (tgt := 73) hx hb dX9_cutsNow_65 (by decide) (fun c_65 => ?_) (fun c_65 => ?_)
            · refine lv_iload hx hb dX9_cutsNow_73 (lv_at hl 1 rfl) ?_
              refine lv_istore (lv' := [(5, .int (nI j9)), (6, .int (nI i)), (4, .int (nI c)), (0, .ref (ad 0)), (1, .int (nI q)), (2, .int out), (3, .int (nI t))]) hx hb dX9_cutsNow_75 hl (by decide) rfl (fun ls hl => ?_)
              refine ninc (lv' := [(6, .int (nI (i + 1))), (5, .int (nI j9)), (4, .int (nI c)), (0, .ref (ad 0)), (1, .int (nI q)), (2, .int out), (3, .int (nI t))]) hx hb i 1 dX9_cutsNow_77 hl (k := 1) rfl (by decide) rfl (fun ls hl => ?_)
              refine lv_goto (tgt := 12) hx hb dX9_cutsNow_80 (by decide) ?_
              exact ih12 _ (by omega) (i + 1) (some j9) (nI (c ||| i)) _ _ _ rfl (by omega) (cutB_neg hbv (fun h9 => c_65 h9.2.2)) (fun j hj => by cases hj <;> omega) h (lv_sub hl [0, 1, 2, 3, 4, 5, 6] rfl)
            · refine lv_iload hx hb dX9_cutsNow_68 (lv_at hl 0 rfl) ?_
              refine lv_goto (tgt := 75) hx hb dX9_cutsNow_70 (by decide) ?_
              refine lv_istore (lv' := [(5, .int (nI i)), (6, .int (nI i)), (4, .int (nI c)), (0, .ref (ad 0)), (1, .int (nI q)), (2, .int out), (3, .int (nI t))]) hx hb dX9_cutsNow_75 hl (by decide) rfl (fun ls hl => ?_)
              refine ninc (lv' := [(6, .int (nI (i + 1))), (5, .int (nI i)), (4, .int (nI c)), (0, .ref (ad 0)), (1, .int (nI q)), (2, .int out), (3, .int (nI t))]) hx hb i 1 dX9_cutsNow_77 hl (k := 1) rfl (by decide) rfl (fun ls hl => ?_)
              refine lv_goto (tgt := 12) hx hb dX9_cutsNow_80 (by decide) ?_
              exact ih12 _ (by omega) (i + 1) (some i) (nI (c ||| i)) _ _ _ rfl (by omega) (cutB_pos c_28 (fun j hj => by rw [← hbv] at hj; cases hj; exact c_47) c_65) (fun j hj => by cases hj <;> omega) h (lv_sub hl [0, 1, 2, 3, 4, 5, 6] rfl)
  exact L12_0 _ 0 none (σ 5 0) _ _ _ rfl (by omega) rfl (fun j hj => by cases hj) h (lv_sub hl [0, 1, 2, 3, 4, 5, 6] rfl)
set_option maxHeartbeats 4000000 in
set_option maxRecDepth 100000 in
theorem kX9_turnsNow (l : Launch) (D : va_G) (ct : Nat → ClassId) (ad : Nat → Nat) (σ : Nat → Nat → Int32) (τ : Nat → Nat → Int64) (n c : Nat) (kd : Nat → Nat) (hok : MOK σ n c kd) (q : Nat) (out : Int32) (t : Nat) (hq : q < 3) (ht : t < 2) : MI l yX9_turnsNow (gWs yX9_turnsNow cX9_turnsNow 10 (some .int)) rmX9_turnsNow D ct gNo [.ref (ad 0), .int (nI q), .int out, .int (nI t)] (wM ad ct σ τ) (fun u : (Nat → Nat → Int32) × (Nat → Nat → Int64) => wM ad ct u.1 u.2) (fun r u => r = toldB (turnB σ n c kd q out (3 ^ n)) t ∧ u = (va_up (va_up σ 19 (σ 4)) 4 (σ 4), τ)) := by
  refine MI.ofI RX9 rfl (by decide) (Nat.le_of_ble_eq_true rfl) ?_
  intro zp ze zs zm za zb zt zc zA ls zQ C h hX hl hret
  have hx := C.1
  have hb := C.2.1
  have hl : lv_has ls 10 [(0, .ref (ad 0)), (1, .int (nI q)), (2, .int out), (3, .int (nI t))] := hl
  have hok0 := hok
  obtain ⟨hn, hn8, hc, hc8, hkd⟩ := hok0
  have hp2 := p2le hn8
  have hp3 := p3le n hn8
  refine lv_aload_n hx hb dX9_turnsNow_0 rfl (lv_at hl 0 rfl) ?_
  refine gcallVv C h trivial gNo_ok (kX9_saveLeans l D ct ad σ τ ) (cwV 0 C.2.2.2.2 (gInV q1009 q1011 q44 q66 q1012) rfl rfl rfl hvX9_saveLeans ⟨Nat.le_of_ble_eq_true rfl, Nat.le_of_ble_eq_true rfl⟩) 0 (wM_o ad ct σ τ) rfl rfl rfl hl.1 rfl (Nat.le_of_ble_eq_true rfl) dX9_turnsNow_1 ⟨Nat.zero_le _, Nat.zero_le _⟩ (fun u9 H ll hw h => ?_)
  subst hw
  have h : gW D ct zA zs _ _ (wM ad ct (va_up σ 19 (σ 4)) τ) := h
  refine lv_iconst (v := 1) hx hb dX9_turnsNow_4 (by decide) ?_
  refine lv_istore (lv' := [(4, .int 1), (0, .ref (ad 0)), (1, .int (nI q)), (2, .int out), (3, .int (nI t))]) hx hb dX9_turnsNow_5 hl (by decide) rfl (fun ls hl => ?_)
  refine lv_iconst (v := 0) hx hb dX9_turnsNow_7 (by decide) ?_
  refine lv_istore (lv' := [(5, .int 0), (4, .int 1), (0, .ref (ad 0)), (1, .int (nI q)), (2, .int out), (3, .int (nI t))]) hx hb dX9_turnsNow_8 hl (by decide) rfl (fun ls hl => ?_)
  have L10_1 : ∀ (kk : Nat) (u : Nat) (H : Heap) (ll : List Loc) (ls : Array Slot), n - u = kk → (u ≤ n) → gW D ct zA zs H ll (wM ad ct (va_up σ 19 (σ 4)) τ) → lv_has ls 10 [(5, .int (nI u)), (4, .int (nI (3 ^ u))), (0, .ref (ad 0)), (1, .int (nI q)), (2, .int out), (3, .int (nI t))] → W zp l ze rmX9_turnsNow zs zm za zb zt zc H ll 0 0 zQ (F0 zm 10 ls []) := by
    intro kk10
    induction kk10 using Nat.strongRecOn with
    | _ kk10 ih10 =>
    intro u H ll ls hk10 hu h hl
    refine lv_iload hx hb dX9_turnsNow_10 (lv_at hl 0 rfl) ?_
    refine lv_aload_n hx hb dX9_turnsNow_12 rfl (lv_at hl 2 rfl) ?_
    refine mg_mussels C h dX9_turnsNow_13 ?_
    refine gas hn ?_
    refine nb_ge hx hb u n (by omega) (by omega) (tgt := 31) dX9_turnsNow_16 (by decide) (fun c_16 => ?_) (fun c_16 => ?_)
    · have e17 : u = n := by omega
      rw [e17] at hl
      refine lv_iconst (v := -1) hx hb dX9_turnsNow_31 (by decide) ?_
      refine lv_istore (lv' := [(5, .int (-1)), (4, .int (nI (3 ^ n))), (0, .ref (ad 0)), (1, .int (nI q)), (2, .int out), (3, .int (nI t))]) hx hb dX9_turnsNow_32 hl (by decide) rfl (fun ls hl => ?_)
      refine lv_iconst (v := 0) hx hb dX9_turnsNow_34 (by decide) ?_
      refine lv_istore (lv' := [(6, .int 0), (5, .int (-1)), (4, .int (nI (3 ^ n))), (0, .ref (ad 0)), (1, .int (nI q)), (2, .int out), (3, .int (nI t))]) hx hb dX9_turnsNow_35 hl (by decide) rfl (fun ls hl => ?_)
      have L37_2 : ∀ (kk : Nat) (i : Nat) (b : Option Nat) (f : Nat → Int32) (H : Heap) (ll : List Loc) (ls : Array Slot), 3 ^ n - i = kk → (i ≤ 3 ^ n) → (b = turnB σ n c kd q out i) → (∀ j, b = some j → j < 256) → (∀ j, ¬ (j % 3 = q ∧ j / 3 < n) → f j = σ 4 j) → gW D ct zA zs H ll (wM ad ct (va_up (va_up σ 19 (σ 4)) 4 f) τ) → lv_has ls 10 [(6, .int (nI i)), (5, .int (bI b)), (4, .int (nI (3 ^ n))), (0, .ref (ad 0)), (1, .int (nI q)), (2, .int out), (3, .int (nI t))] → W zp l ze rmX9_turnsNow zs zm za zb zt zc H ll 0 0 zQ (F0 zm 37 ls []) := by
        intro kk37
        induction kk37 using Nat.strongRecOn with
        | _ kk37 ih37 =>
        intro i b f H ll ls hk37 hi hbv hbs hf h hl
        refine lv_iload hx hb dX9_turnsNow_37 (lv_at hl 0 rfl) ?_
        refine lv_iload hx hb dX9_turnsNow_39 (lv_at hl 2 rfl) ?_
        refine nb_ge hx hb i (3 ^ n) (by omega) (by omega) (tgt := 171) dX9_turnsNow_41 (by decide) (fun c_41 => ?_) (fun c_41 => ?_)
        · refine lv_aload_n hx hb dX9_turnsNow_171 rfl (lv_at hl 3 rfl) ?_
          refine gcallVv C h trivial gNo_ok (kX9_loadLeans l D ct ad (va_up (va_up σ 19 (σ 4)) 4 f) τ ) (cwV 0 C.2.2.2.2 (gInV q1017 q1019 q46 q66 q1020) rfl rfl rfl hvX9_loadLeans ⟨Nat.le_of_ble_eq_true rfl, Nat.le_of_ble_eq_true rfl⟩) 0 (wM_o ad ct (va_up (va_up σ 19 (σ 4)) 4 f) τ) rfl rfl rfl hl.1 rfl (Nat.le_of_ble_eq_true rfl) dX9_turnsNow_172 ⟨Nat.zero_le _, Nat.zero_le _⟩ (fun u9 H ll hw h => ?_)
          subst hw
          have h : gW D ct zA zs _ _ (wM ad ct (va_up (va_up σ 19 (σ 4)) 4 (σ 4)) τ) := h
          rcases b with _ | j9
          · refine lv_iload hx hb dX9_turnsNow_175 (lv_at hl 1 rfl) ?_
            refine lv_iconst (v := -1) hx hb dX9_turnsNow_177 (by decide) ?_
            refine lv_icmp_eq (tgt := 186) hx hb dX9_turnsNow_178 (by decide) (fun _ => ?_) (fun q => absurd (by decide) q)
            refine lv_iload hx hb dX9_turnsNow_186 (lv_at hl 1 rfl) ?_
            refine lv_goto (tgt := 196) hx hb dX9_turnsNow_188 (by decide) ?_
            have h : gW D ct zA zs _ _ (wM ad ct (va_up (va_up σ 19 (σ 4)) 4 (σ 4)) τ) := h
            exact hret _ (va_up (va_up σ 19 (σ 4)) 4 (σ 4), τ) _ _ _ _ h ⟨(by rw [show turnB σ n c kd q out (3 ^ n) = turnB σ n c kd q out i by rw [show i = 3 ^ n by omega], ← hbv]; first | rfl | exact told1 c_183 | exact told0 c_183), rfl⟩ dX9_turnsNow_196
          · have hj9 := hbs j9 rfl
            refine lv_iload hx hb dX9_turnsNow_175 (lv_at hl 1 rfl) ?_
            refine lv_iconst (v := -1) hx hb dX9_turnsNow_177 (by decide) ?_
            refine lv_icmp_eq (tgt := 186) hx hb dX9_turnsNow_178 (by decide) (fun q => absurd q (nIm1 (by omega))) (fun _ => ?_)
            refine lv_iload_n hx hb dX9_turnsNow_181 rfl (lv_at hl 6 rfl) ?_
            refine lv_iconst (v := 1) hx hb dX9_turnsNow_182 (by decide) ?_
            refine nb_ne hx hb t 1 (by omega) (by omega) (tgt := 191) dX9_turnsNow_183 (by decide) (fun c_183 => ?_) (fun c_183 => ?_)
            · refine lv_iload hx hb dX9_turnsNow_191 (lv_at hl 1 rfl) ?_
              have h15 := pcn_le j9 8
              refine gcallSi C h (kX9_size l D ct j9 (by omega)) (va_cwS 1 C.2.2.2.2 (gInS q905 q906 q66 q907) rfl rfl rfl hdX9_size ⟨Nat.le_of_ble_eq_true rfl, Nat.le_of_ble_eq_true rfl⟩) rfl hl.1 rfl (Nat.le_of_ble_eq_true rfl) dX9_turnsNow_193 ⟨Nat.zero_le _, Nat.zero_le _⟩ (fun H ll h => ?_)
              have h : gW D ct zA zs _ _ (wM ad ct (va_up (va_up σ 19 (σ 4)) 4 (σ 4)) τ) := h
              exact hret _ (va_up (va_up σ 19 (σ 4)) 4 (σ 4), τ) _ _ _ _ h ⟨(by rw [show turnB σ n c kd q out (3 ^ n) = turnB σ n c kd q out i by rw [show i = 3 ^ n by omega], ← hbv]; first | rfl | exact told1 c_183 | exact told0 c_183), rfl⟩ dX9_turnsNow_196
            · refine lv_iload hx hb dX9_turnsNow_186 (lv_at hl 1 rfl) ?_
              refine lv_goto (tgt := 196) hx hb dX9_turnsNow_188 (by decide) ?_
              have h : gW D ct zA zs _ _ (wM ad ct (va_up (va_up σ 19 (σ 4)) 4 (σ 4)) τ) := h
              exact hret _ (va_up (va_up σ 19 (σ 4)) 4 (σ 4), τ) _ _ _ _ h ⟨(by rw [show turnB σ n c kd q out (3 ^ n) = turnB σ n c kd q out i by rw [show i = 3 ^ n by omega], ← hbv]; first | rfl | exact told1 c_183 | exact told0 c_183), rfl⟩ dX9_turnsNow_196
        · refine lv_iload hx hb dX9_turnsNow_44 (lv_at hl 0 rfl) ?_
          refine lv_istore (lv' := [(7, .int (nI i)), (6, .int (nI i)), (5, .int (bI b)), (4, .int (nI (3 ^ n))), (0, .ref (ad 0)), (1, .int (nI q)), (2, .int out), (3, .int (nI t))]) hx hb dX9_turnsNow_46 hl (by decide) rfl (fun ls hl => ?_)
          refine lv_iconst (v := 0) hx hb dX9_turnsNow_48 (by decide) ?_
          refine lv_istore (lv' := [(8, .int 0), (7, .int (nI i)), (6, .int (nI i)), (5, .int (bI b)), (4, .int (nI (3 ^ n))), (0, .ref (ad 0)), (1, .int (nI q)), (2, .int out), (3, .int (nI t))]) hx hb dX9_turnsNow_49 hl (by decide) rfl (fun ls hl => ?_)
          have L51_4 : ∀ (kk : Nat) (m : Nat) (lf : Nat) (g : Nat → Int32) (H : Heap) (ll : List Loc) (ls : Array Slot), n - m = kk → (m ≤ n) → (lf = i / 3 ^ m) → (∀ j, g j = if j % 3 = q ∧ j / 3 < m then nI (i / 3 ^ (j / 3) % 3) - 1 else f j) → gW D ct zA zs H ll (wM ad ct (va_up (va_up σ 19 (σ 4)) 4 g) τ) → lv_has ls 10 [(8, .int (nI m)), (7, .int (nI lf)), (6, .int (nI i)), (5, .int (bI b)), (4, .int (nI (3 ^ n))), (0, .ref (ad 0)), (1, .int (nI q)), (2, .int out), (3, .int (nI t))] → W zp l ze rmX9_turnsNow zs zm za zb zt zc H ll 0 0 zQ (F0 zm 51 ls []) := by
            intro kk51
            induction kk51 using Nat.strongRecOn with
            | _ kk51 ih51 =>
            intro m lf g H ll ls hk51 hm hlf hg h hl
            refine lv_iload hx hb dX9_turnsNow_51 (lv_at hl 0 rfl) ?_
            refine lv_aload_n hx hb dX9_turnsNow_53 rfl (lv_at hl 5 rfl) ?_
            refine mg_mussels C h dX9_turnsNow_54 ?_
            refine gas hn ?_
            refine nb_ge hx hb m n (by omega) (by omega) (tgt := 89) dX9_turnsNow_57 (by decide) (fun c_57 => ?_) (fun c_57 => ?_)
            · have e16 : m = n := by omega
              rw [e16] at hl hg
              have h := mc_leanOf h (tcode σ n q i) (fun j hj => by show g j = tcode σ n q i j; rw [hg j]; unfold tcode; by_cases h9 : j % 3 = q ∧ j / 3 < n; (rw [if_pos h9, if_pos h9]); (rw [if_neg h9, if_neg h9]; exact hf j h9))
              have h : gW D ct zA zs _ _ (wM ad ct (va_up (va_up σ 19 (σ 4)) 4 (tcode σ n q i)) τ) := h
              have hob := obits_lt (tcode σ n q i) (σ 4) q n
              refine lv_aload_n hx hb dX9_turnsNow_89 rfl (lv_at hl 5 rfl) ?_
              refine lv_iload_n hx hb dX9_turnsNow_90 rfl (lv_at hl 6 rfl) ?_
              refine gcallVi C h trivial gNo_ok (kX9_otherwise l D ct ad (va_up (va_up σ 19 (σ 4)) 4 (tcode σ n q i)) τ n c kd hok q (by omega)) (cwV 1 C.2.2.2.2 (gInV q1013 q1015 q45 q66 q1016) rfl rfl rfl hvX9_otherwise ⟨Nat.le_of_ble_eq_true rfl, Nat.le_of_ble_eq_true rfl⟩) 0 (wM_o ad ct (va_up (va_up σ 19 (σ 4)) 4 (tcode σ n q i)) τ) rfl rfl rfl hl.1 rfl (Nat.le_of_ble_eq_true rfl) dX9_turnsNow_91 ⟨Nat.zero_le _, Nat.zero_le _⟩ (fun r9 u9 H ll hw h => ?_)
              have hw : r9 = nI (obits ((tcode σ n q i)) (σ 4) q n) := hw
              subst hw
              have h : gW D ct zA zs _ _ (wM ad ct (va_up (va_up σ 19 (σ 4)) 4 (tcode σ n q i)) τ) := h
              refine lv_istore (lv' := [(8, .int (nI (obits ((tcode σ n q i)) (σ 4) q n))), (7, .int (nI lf)), (6, .int (nI i)), (5, .int (bI b)), (4, .int (nI (3 ^ n))), (0, .ref (ad 0)), (1, .int (nI q)), (2, .int out), (3, .int (nI t))]) hx hb dX9_turnsNow_94 hl (by decide) rfl (fun ls hl => ?_)
              rcases b with _ | j9
              · refine lv_iload hx hb dX9_turnsNow_96 (lv_at hl 3 rfl) ?_
                refine lv_iconst (v := -1) hx hb dX9_turnsNow_98 (by decide) ?_
                refine lv_icmp_eq (tgt := 135) hx hb dX9_turnsNow_99 (by decide) (fun _ => ?_) (fun q => absurd (by decide) q)
                refine lv_iconst (v := 1) hx hb dX9_turnsNow_135 (by decide) ?_
                refine lv_goto (tgt := 140) hx hb dX9_turnsNow_136 (by decide) ?_
                refine lv_istore (lv' := [(9, .int 1), (8, .int (nI (obits ((tcode σ n q i)) (σ 4) q n))), (7, .int (nI lf)), (6, .int (nI i)), (5, .int (-1)), (4, .int (nI (3 ^ n))), (0, .ref (ad 0)), (1, .int (nI q)), (2, .int out), (3, .int (nI t))]) hx hb dX9_turnsNow_140 hl (by decide) rfl (fun ls hl => ?_)
                refine lv_iload hx hb dX9_turnsNow_142 (lv_at hl 0 rfl) ?_
                refine lv_if_eq (tgt := 161) hx hb dX9_turnsNow_144 (by decide) (fun q => absurd q (by decide)) (fun _ => ?_)
                refine lv_aload_n hx hb dX9_turnsNow_147 rfl (lv_at hl 6 rfl) ?_
                refine lv_iload_n hx hb dX9_turnsNow_148 rfl (lv_at hl 7 rfl) ?_
                refine gcallVi C h trivial gNo_ok (kX9_outOf l D ct ad (va_up (va_up σ 19 (σ 4)) 4 (tcode σ n q i)) τ n c kd hok q (by omega)) (cwV 1 C.2.2.2.2 (gInV q924 q926 q35 q66 q927) rfl rfl rfl hvX9_outOf ⟨Nat.le_of_ble_eq_true rfl, Nat.le_of_ble_eq_true rfl⟩) 0 (wM_o ad ct (va_up (va_up σ 19 (σ 4)) 4 (tcode σ n q i)) τ) rfl rfl rfl hl.1 rfl (Nat.le_of_ble_eq_true rfl) dX9_turnsNow_149 ⟨Nat.zero_le _, Nat.zero_le _⟩ (fun r9 u9 H ll hw h => ?_)
                have hw : r9 = sgn (smM (va_up σ 4 (tcode σ n q i)) n c kd q) := hw
                subst hw
                have h : gW D ct zA zs _ _ (wM ad ct (va_up (va_up σ 19 (σ 4)) 4 (tcode σ n q i)) τ) := h
                refine lv_iload_n hx hb dX9_turnsNow_152 rfl (lv_at hl 8 rfl) ?_
                refine lv_icmp_ne (tgt := 161) hx hb dX9_turnsNow_153 (by decide) (fun c_153 => ?_) (fun c_153 => ?_)
                · refine lv_iload hx hb dX9_turnsNow_161 (lv_at hl 4 rfl) ?_
                  refine lv_istore (lv' := [(5, .int (-1)), (9, .int 1), (8, .int (nI (obits ((tcode σ n q i)) (σ 4) q n))), (7, .int (nI lf)), (6, .int (nI i)), (4, .int (nI (3 ^ n))), (0, .ref (ad 0)), (1, .int (nI q)), (2, .int out), (3, .int (nI t))]) hx hb dX9_turnsNow_163 hl (by decide) rfl (fun ls hl => ?_)
                  refine ninc (lv' := [(6, .int (nI (i + 1))), (5, .int (-1)), (9, .int 1), (8, .int (nI (obits ((tcode σ n q i)) (σ 4) q n))), (7, .int (nI lf)), (4, .int (nI (3 ^ n))), (0, .ref (ad 0)), (1, .int (nI q)), (2, .int out), (3, .int (nI t))]) hx hb i 1 dX9_turnsNow_165 hl (k := 4) rfl (by decide) rfl (fun ls hl => ?_)
                  refine lv_goto (tgt := 37) hx hb dX9_turnsNow_168 (by decide) ?_
                  exact ih37 _ (by omega) (i + 1) none (tcode σ n q i) _ _ _ rfl (by omega) (turnB_neg hbv (fun h9 => c_153 h9.2)) (fun j hj => by cases hj <;> omega) (fun j hj => by unfold tcode; rw [if_neg hj]) h (lv_sub hl [0, 1, 5, 6, 7, 8, 9] rfl)
                · refine lv_iload hx hb dX9_turnsNow_156 (lv_at hl 1 rfl) ?_
                  refine lv_goto (tgt := 163) hx hb dX9_turnsNow_158 (by decide) ?_
                  refine lv_istore (lv' := [(5, .int (nI (obits ((tcode σ n q i)) (σ 4) q n))), (9, .int 1), (8, .int (nI (obits ((tcode σ n q i)) (σ 4) q n))), (7, .int (nI lf)), (6, .int (nI i)), (4, .int (nI (3 ^ n))), (0, .ref (ad 0)), (1, .int (nI q)), (2, .int out), (3, .int (nI t))]) hx hb dX9_turnsNow_163 hl (by decide) rfl (fun ls hl => ?_)
                  refine ninc (lv' := [(6, .int (nI (i + 1))), (5, .int (nI (obits ((tcode σ n q i)) (σ 4) q n))), (9, .int 1), (8, .int (nI (obits ((tcode σ n q i)) (σ 4) q n))), (7, .int (nI lf)), (4, .int (nI (3 ^ n))), (0, .ref (ad 0)), (1, .int (nI q)), (2, .int out), (3, .int (nI t))]) hx hb i 1 dX9_turnsNow_165 hl (k := 4) rfl (by decide) rfl (fun ls hl => ?_)
                  refine lv_goto (tgt := 37) hx hb dX9_turnsNow_168 (by decide) ?_
                  exact ih37 _ (by omega) (i + 1) (some (obits ((tcode σ n q i)) (σ 4) q n)) (tcode σ n q i) _ _ _ rfl (by omega) (turnB_pos (fun j hj => by rw [← hbv] at hj; cases hj) c_153) (fun j hj => by cases hj <;> omega) (fun j hj => by unfold tcode; rw [if_neg hj]) h (lv_sub hl [0, 1, 5, 6, 7, 8, 9] rfl)
              · have hj9 := hbs j9 rfl
                refine lv_iload hx hb dX9_turnsNow_96 (lv_at hl 3 rfl) ?_
                refine lv_iconst (v := -1) hx hb dX9_turnsNow_98 (by decide) ?_
                refine lv_icmp_eq (tgt := 135) hx hb dX9_turnsNow_99 (by decide) (fun q => absurd q (nIm1 (by omega))) (fun _ => ?_)
                have h14 := pcn_le (obits (tcode σ n q i) (σ 4) q n) 8
                have h15 := pcn_le j9 8
                refine lv_iload hx hb dX9_turnsNow_102 (lv_at hl 0 rfl) ?_
                refine gcallSi C h (kX9_size l D ct (obits ((tcode σ n q i)) (σ 4) q n) (by omega)) (va_cwS 1 C.2.2.2.2 (gInS q905 q906 q66 q907) rfl rfl rfl hdX9_size ⟨Nat.le_of_ble_eq_true rfl, Nat.le_of_ble_eq_true rfl⟩) rfl hl.1 rfl (Nat.le_of_ble_eq_true rfl) dX9_turnsNow_104 ⟨Nat.zero_le _, Nat.zero_le _⟩ (fun H ll h => ?_)
                refine lv_iload hx hb dX9_turnsNow_107 (lv_at hl 3 rfl) ?_
                refine gcallSi C h (kX9_size l D ct j9 (by omega)) (va_cwS 1 C.2.2.2.2 (gInS q905 q906 q66 q907) rfl rfl rfl hdX9_size ⟨Nat.le_of_ble_eq_true rfl, Nat.le_of_ble_eq_true rfl⟩) rfl hl.1 rfl (Nat.le_of_ble_eq_true rfl) dX9_turnsNow_109 ⟨Nat.zero_le _, Nat.zero_le _⟩ (fun H ll h => ?_)
                refine nb_lt hx hb (pcn (obits ((tcode σ n q i)) (σ 4) q n) 8) (pcn j9 8) (by omega) (by omega) (tgt := 135) dX9_turnsNow_112 (by decide) (fun c_112 => ?_) (fun c_112 => ?_)
                · refine lv_iconst (v := 1) hx hb dX9_turnsNow_135 (by decide) ?_
                  refine lv_goto (tgt := 140) hx hb dX9_turnsNow_136 (by decide) ?_
                  refine lv_istore (lv' := [(9, .int 1), (8, .int (nI (obits ((tcode σ n q i)) (σ 4) q n))), (7, .int (nI lf)), (6, .int (nI i)), (5, .int (nI j9)), (4, .int (nI (3 ^ n))), (0, .ref (ad 0)), (1, .int (nI q)), (2, .int out), (3, .int (nI t))]) hx hb dX9_turnsNow_140 hl (by decide) rfl (fun ls hl => ?_)
                  refine lv_iload hx hb dX9_turnsNow_142 (lv_at hl 0 rfl) ?_
                  refine lv_if_eq (tgt := 161) hx hb dX9_turnsNow_144 (by decide) (fun q => absurd q (by decide)) (fun _ => ?_)
                  refine lv_aload_n hx hb dX9_turnsNow_147 rfl (lv_at hl 6 rfl) ?_
                  refine lv_iload_n hx hb dX9_turnsNow_148 rfl (lv_at hl 7 rfl) ?_
                  refine gcallVi C h trivial gNo_ok (kX9_outOf l D ct ad (va_up (va_up σ 19 (σ 4)) 4 (tcode σ n q i)) τ n c kd hok q (by omega)) (cwV 1 C.2.2.2.2 (gInV q924 q926 q35 q66 q927) rfl rfl rfl hvX9_outOf ⟨Nat.le_of_ble_eq_true rfl, Nat.le_of_ble_eq_true rfl⟩) 0 (wM_o ad ct (va_up (va_up σ 19 (σ 4)) 4 (tcode σ n q i)) τ) rfl rfl rfl hl.1 rfl (Nat.le_of_ble_eq_true rfl) dX9_turnsNow_149 ⟨Nat.zero_le _, Nat.zero_le _⟩ (fun r9 u9 H ll hw h => ?_)
                  have hw : r9 = sgn (smM (va_up σ 4 (tcode σ n q i)) n c kd q) := hw
                  subst hw
                  have h : gW D ct zA zs _ _ (wM ad ct (va_up (va_up σ 19 (σ 4)) 4 (tcode σ n q i)) τ) := h
                  refine lv_iload_n hx hb dX9_turnsNow_152 rfl (lv_at hl 8 rfl) ?_
                  refine lv_icmp_ne (tgt := 161) hx hb dX9_turnsNow_153 (by decide) (fun c_153 => ?_) (fun c_153 => ?_)
                  · refine lv_iload hx hb dX9_turnsNow_161 (lv_at hl 4 rfl) ?_
                    refine lv_istore (lv' := [(5, .int (nI j9)), (9, .int 1), (8, .int (nI (obits ((tcode σ n q i)) (σ 4) q n))), (7, .int (nI lf)), (6, .int (nI i)), (4, .int (nI (3 ^ n))), (0, .ref (ad 0)), (1, .int (nI q)), (2, .int out), (3, .int (nI t))]) hx hb dX9_turnsNow_163 hl (by decide) rfl (fun ls hl => ?_)
                    refine ninc (lv' := [(6, .int (nI (i + 1))), (5, .int (nI j9)), (9, .int 1), (8, .int (nI (obits ((tcode σ n q i)) (σ 4) q n))), (7, .int (nI lf)), (4, .int (nI (3 ^ n))), (0, .ref (ad 0)), (1, .int (nI q)), (2, .int out), (3, .int (nI t))]) hx hb i 1 dX9_turnsNow_165 hl (k := 4) rfl (by decide) rfl (fun ls hl => ?_)
                    refine lv_goto (tgt := 37) hx hb dX9_turnsNow_168 (by decide) ?_
                    exact ih37 _ (by omega) (i + 1) (some j9) (tcode σ n q i) _ _ _ rfl (by omega) (turnB_neg hbv (fun h9 => c_153 h9.2)) (fun j hj => by cases hj <;> omega) (fun j hj => by unfold tcode; rw [if_neg hj]) h (lv_sub hl [0, 1, 5, 6, 7, 8, 9] rfl)
                  · refine lv_iload hx hb dX9_turnsNow_156 (lv_at hl 1 rfl) ?_
                    refine lv_goto (tgt := 163) hx hb dX9_turnsNow_158 (by decide) ?_
                    refine lv_istore (lv' := [(5, .int (nI (obits ((tcode σ n q i)) (σ 4) q n))), (9, .int 1), (8, .int (nI (obits ((tcode σ n q i)) (σ 4) q n))), (7, .int (nI lf)), (6, .int (nI i)), (4, .int (nI (3 ^ n))), (0, .ref (ad 0)), (1, .int (nI q)), (2, .int out), (3, .int (nI t))]) hx hb dX9_turnsNow_163 hl (by decide) rfl (fun ls hl => ?_)
                    refine ninc (lv' := [(6, .int (nI (i + 1))), (5, .int (nI (obits ((tcode σ n q i)) (σ 4) q n))), (9, .int 1), (8, .int (nI (obits ((tcode σ n q i)) (σ 4) q n))), (7, .int (nI lf)), (4, .int (nI (3 ^ n))), (0, .ref (ad 0)), (1, .int (nI q)), (2, .int out), (3, .int (nI t))]) hx hb i 1 dX9_turnsNow_165 hl (k := 4) rfl (by decide) rfl (fun ls hl => ?_)
                    refine lv_goto (tgt := 37) hx hb dX9_turnsNow_168 (by decide) ?_
                    exact ih37 _ (by omega) (i + 1) (some (obits ((tcode σ n q i)) (σ 4) q n)) (tcode σ n q i) _ _ _ rfl (by omega) (turnB_pos (fun j hj => by rw [← hbv] at hj; cases hj; exact Or.inl c_112) c_153) (fun j hj => by cases hj <;> omega) (fun j hj => by unfold tcode; rw [if_neg hj]) h (lv_sub hl [0, 1, 5, 6, 7, 8, 9] rfl)
                · refine lv_iload hx hb dX9_turnsNow_115 (lv_at hl 0 rfl) ?_
                  refine gcallSi C h (kX9_size l D ct (obits ((tcode σ n q i)) (σ 4) q n) (by omega)) (va_cwS 1 C.2.2.2.2 (gInS q905 q906 q66 q907) rfl rfl rfl hdX9_size ⟨Nat.le_of_ble_eq_true rfl, Nat.le_of_ble_eq_true rfl⟩) rfl hl.1 rfl (Nat.le_of_ble_eq_true rfl) dX9_turnsNow_117 ⟨Nat.zero_le _, Nat.zero_le _⟩ (fun H ll h => ?_)
                  refine lv_iload hx hb dX9_turnsNow_120 (lv_at hl 3 rfl) ?_
                  refine gcallSi C h (kX9_size l D ct j9 (by omega)) (va_cwS 1 C.2.2.2.2 (gInS q905 q906 q66 q907) rfl rfl rfl hdX9_size ⟨Nat.le_of_ble_eq_true rfl, Nat.le_of_ble_eq_true rfl⟩) rfl hl.1 rfl (Nat.le_of_ble_eq_true rfl) dX9_turnsNow_122 ⟨Nat.zero_le _, Nat.zero_le _⟩ (fun H ll h => ?_)
                  refine nb_ne hx hb (pcn (obits ((tcode σ n q i)) (σ 4) q n) 8) (pcn j9 8) (by omega) (by omega) (tgt := 139) dX9_turnsNow_125 (by decide) (fun c_125 => ?_) (fun c_125 => ?_)
                  · refine lv_iconst (v := 0) hx hb dX9_turnsNow_139 (by decide) ?_
                    refine lv_istore (lv' := [(9, .int 0), (8, .int (nI (obits ((tcode σ n q i)) (σ 4) q n))), (7, .int (nI lf)), (6, .int (nI i)), (5, .int (nI j9)), (4, .int (nI (3 ^ n))), (0, .ref (ad 0)), (1, .int (nI q)), (2, .int out), (3, .int (nI t))]) hx hb dX9_turnsNow_140 hl (by decide) rfl (fun ls hl => ?_)
                    refine lv_iload hx hb dX9_turnsNow_142 (lv_at hl 0 rfl) ?_
                    refine lv_if_eq (tgt := 161) hx hb dX9_turnsNow_144 (by decide) (fun _ => ?_) (fun q => absurd (by decide) q)
                    refine lv_iload hx hb dX9_turnsNow_161 (lv_at hl 4 rfl) ?_
                    refine lv_istore (lv' := [(5, .int (nI j9)), (9, .int 0), (8, .int (nI (obits ((tcode σ n q i)) (σ 4) q n))), (7, .int (nI lf)), (6, .int (nI i)), (4, .int (nI (3 ^ n))), (0, .ref (ad 0)), (1, .int (nI q)), (2, .int out), (3, .int (nI t))]) hx hb dX9_turnsNow_163 hl (by decide) rfl (fun ls hl => ?_)
                    refine ninc (lv' := [(6, .int (nI (i + 1))), (5, .int (nI j9)), (9, .int 0), (8, .int (nI (obits ((tcode σ n q i)) (σ 4) q n))), (7, .int (nI lf)), (4, .int (nI (3 ^ n))), (0, .ref (ad 0)), (1, .int (nI q)), (2, .int out), (3, .int (nI t))]) hx hb i 1 dX9_turnsNow_165 hl (k := 4) rfl (by decide) rfl (fun ls hl => ?_)
                    refine lv_goto (tgt := 37) hx hb dX9_turnsNow_168 (by decide) ?_
                    exact ih37 _ (by omega) (i + 1) (some j9) (tcode σ n q i) _ _ _ rfl (by omega) (turnB_neg hbv (fun h9 => absurd (h9.1 j9 hbv.symm) (by omega))) (fun j hj => by cases hj <;> omega) (fun j hj => by unfold tcode; rw [if_neg hj]) h (lv_sub hl [0, 1, 5, 6, 7, 8, 9] rfl)
                  · refine lv_iload hx hb dX9_turnsNow_128 (lv_at hl 0 rfl) ?_
                    refine lv_iload hx hb dX9_turnsNow_130 (lv_at hl 3 rfl) ?_
                    refine nb_ge hx hb (obits ((tcode σ n q i)) (σ 4) q n) j9 (by omega) (by omega) (tgt := 139) dX9_turnsNow_132 (by decide) (fun c_132 => ?_) (fun c_132 => ?_)
                    · refine lv_iconst (v := 0) hx hb dX9_turnsNow_139 (by decide) ?_
                      refine lv_istore (lv' := [(9, .int 0), (8, .int (nI (obits ((tcode σ n q i)) (σ 4) q n))), (7, .int (nI lf)), (6, .int (nI i)), (5, .int (nI j9)), (4, .int (nI (3 ^ n))), (0, .ref (ad 0)), (1, .int (nI q)), (2, .int out), (3, .int (nI t))]) hx hb dX9_turnsNow_140 hl (by decide) rfl (fun ls hl => ?_)
                      refine lv_iload hx hb dX9_turnsNow_142 (lv_at hl 0 rfl) ?_
                      refine lv_if_eq (tgt := 161) hx hb dX9_turnsNow_144 (by decide) (fun _ => ?_) (fun q => absurd (by decide) q)
                      refine lv_iload hx hb dX9_turnsNow_161 (lv_at hl 4 rfl) ?_
                      refine lv_istore (lv' := [(5, .int (nI j9)), (9, .int 0), (8, .int (nI (obits ((tcode σ n q i)) (σ 4) q n))), (7, .int (nI lf)), (6, .int (nI i)), (4, .int (nI (3 ^ n))), (0, .ref (ad 0)), (1, .int (nI q)), (2, .int out), (3, .int (nI t))]) hx hb dX9_turnsNow_163 hl (by decide) rfl (fun ls hl => ?_)
                      refine ninc (lv' := [(6, .int (nI (i + 1))), (5, .int (nI j9)), (9, .int 0), (8, .int (nI (obits ((tcode σ n q i)) (σ 4) q n))), (7, .int (nI lf)), (4, .int (nI (3 ^ n))), (0, .ref (ad 0)), (1, .int (nI q)), (2, .int out), (3, .int (nI t))]) hx hb i 1 dX9_turnsNow_165 hl (k := 4) rfl (by decide) rfl (fun ls hl => ?_)
                      refine lv_goto (tgt := 37) hx hb dX9_turnsNow_168 (by decide) ?_
                      exact ih37 _ (by omega) (i + 1) (some j9) (tcode σ n q i) _ _ _ rfl (by omega) (turnB_neg hbv (fun h9 => absurd (h9.1 j9 hbv.symm) (by omega))) (fun j hj => by cases hj <;> omega) (fun j hj => by unfold tcode; rw [if_neg hj]) h (lv_sub hl [0, 1, 5, 6, 7, 8, 9] rfl)
                    · refine lv_iconst (v := 1) hx hb dX9_turnsNow_135 (by decide) ?_
                      refine lv_goto (tgt := 140) hx hb dX9_turnsNow_136 (by decide) ?_
                      refine lv_istore (lv' := [(9, .int 1), (8, .int (nI (obits ((tcode σ n q i)) (σ 4) q n))), (7, .int (nI lf)), (6, .int (nI i)), (5, .int (nI j9)), (4, .int (nI (3 ^ n))), (0, .ref (ad 0)), (1, .int (nI q)), (2, .int out), (3, .int (nI t))]) hx hb dX9_turnsNow_140 hl (by decide) rfl (fun ls hl => ?_)
                      refine lv_iload hx hb dX9_turnsNow_142 (lv_at hl 0 rfl) ?_
                      refine lv_if_eq (tgt := 161) hx hb dX9_turnsNow_144 (by decide) (fun q => absurd q (by decide)) (fun _ => ?_)
                      refine lv_aload_n hx hb dX9_turnsNow_147 rfl (lv_at hl 6 rfl) ?_
                      refine lv_iload_n hx hb dX9_turnsNow_148 rfl (lv_at hl 7 rfl) ?_
                      refine gcallVi C h trivial gNo_ok (kX9_outOf l D ct ad (va_up (va_up σ 19 (σ 4)) 4 (tcode σ n q i)) τ n c kd hok q (by omega)) (cwV 1 C.2.2.2.2 (gInV q924 q926 q35 q66 q927) rfl rfl rfl hvX9_outOf ⟨Nat.le_of_ble_eq_true rfl, Nat.le_of_ble_eq_true rfl⟩) 0 (wM_o ad ct (va_up (va_up σ 19 (σ 4)) 4 (tcode σ n q i)) τ) rfl rfl rfl hl.1 rfl (Nat.le_of_ble_eq_true rfl) dX9_turnsNow_149 ⟨Nat.zero_le _, Nat.zero_le _⟩ (fun r9 u9 H ll hw h => ?_)
                      have hw : r9 = sgn (smM (va_up σ 4 (tcode σ n q i)) n c kd q) := hw
                      subst hw
                      have h : gW D ct zA zs _ _ (wM ad ct (va_up (va_up σ 19 (σ 4)) 4 (tcode σ n q i)) τ) := h
                      refine lv_iload_n hx hb dX9_turnsNow_152 rfl (lv_at hl 8 rfl) ?_
                      refine lv_icmp_ne (tgt := 161) hx hb dX9_turnsNow_153 (by decide) (fun c_153 => ?_) (fun c_153 => ?_)
                      · refine lv_iload hx hb dX9_turnsNow_161 (lv_at hl 4 rfl) ?_
                        refine lv_istore (lv' := [(5, .int (nI j9)), (9, .int 1), (8, .int (nI (obits ((tcode σ n q i)) (σ 4) q n))), (7, .int (nI lf)), (6, .int (nI i)), (4, .int (nI (3 ^ n))), (0, .ref (ad 0)), (1, .int (nI q)), (2, .int out), (3, .int (nI t))]) hx hb dX9_turnsNow_163 hl (by decide) rfl (fun ls hl => ?_)
                        refine ninc (lv' := [(6, .int (nI (i + 1))), (5, .int (nI j9)), (9, .int 1), (8, .int (nI (obits ((tcode σ n q i)) (σ 4) q n))), (7, .int (nI lf)), (4, .int (nI (3 ^ n))), (0, .ref (ad 0)), (1, .int (nI q)), (2, .int out), (3, .int (nI t))]) hx hb i 1 dX9_turnsNow_165 hl (k := 4) rfl (by decide) rfl (fun ls hl => ?_)
                        refine lv_goto (tgt := 37) hx hb dX9_turnsNow_168 (by decide) ?_
                        exact ih37 _ (by omega) (i + 1) (some j9) (tcode σ n q i) _ _ _ rfl (by omega) (turnB_neg hbv (fun h9 => c_153 h9.2)) (fun j hj => by cases hj <;> omega) (fun j hj => by unfold tcode; rw [if_neg hj]) h (lv_sub hl [0, 1, 5, 6, 7, 8, 9] rfl)
                      · refine lv_iload hx hb dX9_turnsNow_156 (lv_at hl 1 rfl) ?_
                        refine lv_goto (tgt := 163) hx hb dX9_turnsNow_158 (by decide) ?_
                        refine lv_istore (lv' := [(5, .int (nI (obits ((tcode σ n q i)) (σ 4) q n))), (9, .int 1), (8, .int (nI (obits ((tcode σ n q i)) (σ 4) q n))), (7, .int (nI lf)), (6, .int (nI i)), (4, .int (nI (3 ^ n))), (0, .ref (ad 0)), (1, .int (nI q)), (2, .int out), (3, .int (nI t))]) hx hb dX9_turnsNow_163 hl (by decide) rfl (fun ls hl => ?_)
                        refine ninc (lv' := [(6, .int (nI (i + 1))), (5, .int (nI (obits ((tcode σ n q i)) (σ 4) q n))), (9, .int 1), (8, .int (nI (obits ((tcode σ n q i)) (σ 4) q n))), (7, .int (nI lf)), (4, .int (nI (3 ^ n))), (0, .ref (ad 0)), (1, .int (nI q)), (2, .int out), (3, .int (nI t))]) hx hb i 1 dX9_turnsNow_165 hl (k := 4) rfl (by decide) rfl (fun ls hl => ?_)
                        refine lv_goto (tgt := 37) hx hb dX9_turnsNow_168 (by decide) ?_
                        exact ih37 _ (by omega) (i + 1) (some (obits ((tcode σ n q i)) (σ 4) q n)) (tcode σ n q i) _ _ _ rfl (by omega) (turnB_pos (fun j hj => by rw [← hbv] at hj; cases hj; exact Or.inr ⟨c_125, c_132⟩) c_153) (fun j hj => by cases hj <;> omega) (fun j hj => by unfold tcode; rw [if_neg hj]) h (lv_sub hl [0, 1, 5, 6, 7, 8, 9] rfl)
            · refine lv_aload_n hx hb dX9_turnsNow_60 rfl (lv_at hl 5 rfl) ?_
              refine mg_leanOf C h dX9_turnsNow_61 ?_
              refine lv_iconst (v := 3) hx hb dX9_turnsNow_64 (by decide) ?_
              refine lv_iload hx hb dX9_turnsNow_65 (lv_at hl 0 rfl) ?_
              refine nmul hx hb 3 m dX9_turnsNow_67 ?_
              refine lv_iload_n hx hb dX9_turnsNow_68 rfl (lv_at hl 6 rfl) ?_
              refine nadd hx hb (3 * m) q dX9_turnsNow_69 ?_
              refine lv_iload hx hb dX9_turnsNow_70 (lv_at hl 1 rfl) ?_
              refine lv_iconst (v := 3) hx hb dX9_turnsNow_72 (by decide) ?_
              refine nrem hx hb lf 3 (by rw [hlf]; exact div3_lt (by omega)) (by omega) (by omega) dX9_turnsNow_73 ?_
              refine lv_iconst (v := 1) hx hb dX9_turnsNow_74 (by decide) ?_
              refine lv_isub hx hb dX9_turnsNow_75 ?_
              refine ms_leanOf C h (j := (3 * m) + q) (by omega) dX9_turnsNow_76 (fun H ll h => ?_)
              have h : gW D ct zA zs _ _ (wM ad ct (va_up (va_up σ 19 (σ 4)) 4 (upd g ((3 * m) + q) ((nI (lf % 3)) - 1))) τ) := h
              refine lv_iload hx hb dX9_turnsNow_77 (lv_at hl 1 rfl) ?_
              refine lv_iconst (v := 3) hx hb dX9_turnsNow_79 (by decide) ?_
              refine ndiv hx hb lf 3 (by rw [hlf]; exact div3_lt (by omega)) (by omega) (by omega) dX9_turnsNow_80 ?_
              refine lv_istore (lv' := [(7, .int (nI (lf / 3))), (8, .int (nI m)), (6, .int (nI i)), (5, .int (bI b)), (4, .int (nI (3 ^ n))), (0, .ref (ad 0)), (1, .int (nI q)), (2, .int out), (3, .int (nI t))]) hx hb dX9_turnsNow_81 hl (by decide) rfl (fun ls hl => ?_)
              refine ninc (lv' := [(8, .int (nI (m + 1))), (7, .int (nI (lf / 3))), (6, .int (nI i)), (5, .int (bI b)), (4, .int (nI (3 ^ n))), (0, .ref (ad 0)), (1, .int (nI q)), (2, .int out), (3, .int (nI t))]) hx hb m 1 dX9_turnsNow_83 hl (k := 1) rfl (by decide) rfl (fun ls hl => ?_)
              refine lv_goto (tgt := 51) hx hb dX9_turnsNow_86 (by decide) ?_
              exact ih51 _ (by omega) (m + 1) (lf / 3) (upd g ((3 * m) + q) ((nI (lf % 3)) - 1)) _ _ _ rfl (by omega) (by rw [hlf, Nat.div_div_eq_div_mul, ← Nat.pow_succ]) (by rw [hlf]; exact updq hq hg) h (lv_sub hl [0, 1, 2, 3, 4, 5, 6, 7, 8] rfl)
          exact L51_4 _ 0 i f _ _ _ rfl (by omega) (by simp) (fun j => by rw [if_neg (fun h9 => absurd h9.2 (by omega))]) h (lv_sub hl [0, 1, 2, 3, 4, 5, 6, 7, 8] rfl)
      exact L37_2 _ 0 none (σ 4) _ _ _ rfl (Nat.zero_le _) rfl (fun j hj => by cases hj) (fun j hj => rfl) h (lv_sub hl [0, 1, 2, 3, 4, 5, 6] rfl)
    · refine lv_iload hx hb dX9_turnsNow_19 (lv_at hl 1 rfl) ?_
      refine lv_iconst (v := 3) hx hb dX9_turnsNow_21 (by decide) ?_
      refine nmul hx hb (3 ^ u) 3 dX9_turnsNow_22 ?_
      refine lv_istore (lv' := [(4, .int (nI ((3 ^ u) * 3))), (5, .int (nI u)), (0, .ref (ad 0)), (1, .int (nI q)), (2, .int out), (3, .int (nI t))]) hx hb dX9_turnsNow_23 hl (by decide) rfl (fun ls hl => ?_)
      refine ninc (lv' := [(5, .int (nI (u + 1))), (4, .int (nI ((3 ^ u) * 3))), (0, .ref (ad 0)), (1, .int (nI q)), (2, .int out), (3, .int (nI t))]) hx hb u 1 dX9_turnsNow_25 hl (k := 1) rfl (by decide) rfl (fun ls hl => ?_)
      refine lv_goto (tgt := 10) hx hb dX9_turnsNow_28 (by decide) ?_
      exact ih10 _ (by omega) (u + 1) _ _ _ rfl (by omega) h (lv_sub hl [0, 1, 2, 3, 4, 5] rfl)
  exact L10_1 _ 0 _ _ _ rfl (by omega) h (lv_sub hl [0, 1, 2, 3, 4, 5] rfl)
