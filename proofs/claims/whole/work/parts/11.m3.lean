theorem updk {g f : Nat → Int32} {i : Nat} {x : Int32} (h : ∀ j, j < i → g j = f j) (hx : x = f i) : ∀ j, j < i + 1 → upd g i x j = f j := fun j hj => by
  by_cases e : j = i
  · subst e; rw [pk_us]; exact hx
  · rw [pk_un e]; exact h j (by omega)
/-- how one leans behind a tide, by its kind, its lean, the two beside it -/
def drf (k : Nat) (x a b : Int32) : Int32 := if k = 2 ∨ x + a + b = 0 then x else if 0 < x + a + b then 1 else -1
def tdM (σ : Nat → Nat → Int32) (n c : Nat) (kd : Nat → Nat) (j : Nat) : Int32 := drf (kd (j / 3)) (leM σ (j / 3) (j % 3)) (lnA (leM σ) (cuM c) (j / 3) (j % 3)) (lnB n (leM σ) (cuM c) (j / 3) (j % 3))
def td4 (σ : Nat → Nat → Int32) (n c : Nat) (kd : Nat → Nat) : Nat → Int32 := fun j => if j < 3 * n then tdM σ n c kd j else σ 4 j
theorem tdM_at {σ : Nat → Nat → Int32} {n c : Nat} {kd : Nat → Nat} {m q : Nat} (hq : q < 3) : tdM σ n c kd (3 * m + q) = drf (kd m) (leM σ m q) (lnA (leM σ) (cuM c) m q) (lnB n (leM σ) (cuM c) m q) := by
  unfold tdM; rw [show (3 * m + q) / 3 = m by omega, show (3 * m + q) % 3 = q by omega]
theorem drf_k {k : Nat} {x a b : Int32} (h : k = 2) : x = drf k x a b := by unfold drf; rw [if_pos (Or.inl h)]
theorem drf_z {k : Nat} {x a b : Int32} (h : x + a + b = 0) : x = drf k x a b := by unfold drf; rw [if_pos (Or.inr h)]
theorem drf_p {k : Nat} {x a b : Int32} (h : ¬ k = 2) (h2 : ¬ x + a + b = 0) (h3 : ¬ x + a + b ≤ 0) : 1 = drf k x a b := by unfold drf; rw [if_neg (fun q => q.elim h h2), if_pos (Int32.not_le.mp h3)]
theorem drf_m {k : Nat} {x a b : Int32} (h : ¬ k = 2) (h2 : ¬ x + a + b = 0) (h3 : x + a + b ≤ 0) : -1 = drf k x a b := by unfold drf; rw [if_neg (fun q => q.elim h h2), if_neg (Int32.not_lt.mpr h3)]
/-- how many leans, as one number -/
def tellM (f : Nat → Int32) : Nat → Int64
  | 0 => 0
  | k + 1 => 3 * tellM f k + (f k).toInt64 + 1
def obits (f g : Nat → Int32) (q : Nat) : Nat → Nat
  | 0 => 0
  | m + 1 => obits f g q m ||| (if f (3 * m + q) = g (3 * m + q) then 0 else 1 * 2 ^ m)
/-- a letter of the page -/
def atM (σ : Nat → Nat → Int32) (pg k : Nat) : Int32 := if k < pg then σ 15 k else 0
def kindC (c : Int32) : Int32 := if c = 109 then 0 else if c = 101 then 1 else if c = 99 then 2 else if c = 107 then 3 else if c = 115 then 4 else -1
def posPart (x : Int32) : Int32 := if 0 < x then x else 0
/-- what those of a set pull for it -/
def frM (σ : Nat → Nat → Int32) (n c : Nat) (kd : Nat → Nat) (q x : Nat) : Int32 := bx_sum (fun m => posPart (if x.testBit m = true then plM σ n c kd q m else 0)) n
theorem posP {x : Int32} (h : ¬ x ≤ 0) : posPart x = x := by unfold posPart; rw [if_pos (Int32.not_le.mp h)]
theorem posN {x : Int32} (h : x ≤ 0) : posPart x = 0 := by unfold posPart; rw [if_neg (Int32.not_lt.mpr h)]
def nxs (x : Nat) : Nat := (1103515245 * x + 12345) % 2147483648
theorem nxs_lt (x : Nat) : nxs x < 2147483648 := Nat.mod_lt _ (by decide)
theorem glandN (x k : Nat) : lN x &&& lN (2 ^ k - 1) = lN (x % 2 ^ k) := by
  apply Int64.toBitVec_inj.mp; apply BitVec.eq_of_toNat_eq
  show ((BitVec.ofNat 64 x) &&& (BitVec.ofNat 64 (2 ^ k - 1))).toNat = (BitVec.ofNat 64 (x % 2 ^ k)).toNat
  rw [← BitVec.ofNat_and, Nat.and_two_pow_sub_one_eq_mod]
theorem seed_eq (x : Nat) : (1103515245 * lN x + 12345) &&& 2147483647 = lN (nxs x) := by
  rw [show (1103515245 : Int64) = lN 1103515245 from rfl, show (12345 : Int64) = lN 12345 from rfl, show (2147483647 : Int64) = lN (2 ^ 31 - 1) from rfl, lN_mul, lN_add, glandN]; rfl
theorem draw_eq {x d : Nat} (hx : x < 2147483648) (h0 : 0 < d) (hd : d < 2 ^ 31) : ((lN x / 65536) - (lN x / 65536) / (nI d).toInt64 * (nI d).toInt64).toInt32 = nI (x / 65536 % d) := by
  rw [nI_l hd, show (65536 : Int64) = lN 65536 from rfl, pk_lDiv (by omega) (by decide) (by decide), pk_lRem (by omega) h0 (by omega), lN_i]
theorem ne_long {d : Nat} (h0 : 0 < d) (hd : d < 2 ^ 31) : ¬ (nI d).toInt64 = 0 := by
  rw [nI_l hd, show (0 : Int64) = lN 0 from rfl, pk_lEQ (by omega) (by decide)]; omega
set_option maxHeartbeats 4000000 in
set_option maxRecDepth 100000 in
theorem kX9_saveLeans (l : Launch) (D : va_G) (ct : Nat → ClassId) (ad : Nat → Nat) (σ : Nat → Nat → Int32) (τ : Nat → Nat → Int64)  : MV l yX9_saveLeans (gWs yX9_saveLeans cX9_saveLeans 2 none) rmX9_saveLeans D ct gNo [.ref (ad 0)] (wM ad ct σ τ) (fun u : (Nat → Nat → Int32) × (Nat → Nat → Int64) => wM ad ct u.1 u.2) (fun u => u = (va_up σ 19 (σ 4), τ)) := by
  refine MV.of RX9 rfl (by decide) (Nat.le_of_ble_eq_true rfl) ?_
  intro zp ze zs zm za zb zt zc zA ls zQ C h hX hl hret
  have hx := C.1
  have hb := C.2.1
  have hl : lv_has ls 2 [(0, .ref (ad 0))] := hl
  refine lv_iconst (v := 0) hx hb dX9_saveLeans_0 (by decide) ?_
  refine lv_istore_n (lv' := [(1, .int 0), (0, .ref (ad 0))]) hx hb dX9_saveLeans_1 rfl hl (by decide) rfl (fun ls hl => ?_)
  have L2_0 : ∀ (kk : Nat) (i : Nat) (g : Nat → Int32) (H : Heap) (ll : List Loc) (ls : Array Slot), 24 - i = kk → (i ≤ 24) → (∀ j, j < i → g j = (σ 4) j) → gW D ct zA zs H ll (wM ad ct (va_up σ 19 g) τ) → lv_has ls 2 [(1, .int (nI i)), (0, .ref (ad 0))] → W zp l ze rmX9_saveLeans zs zm za zb zt zc H ll 0 0 zQ (F0 zm 2 ls []) := by
    intro kk2
    induction kk2 using Nat.strongRecOn with
    | _ kk2 ih2 =>
    intro i g H ll ls hk2 hi hg h hl
    refine lv_iload_n hx hb dX9_saveLeans_2 rfl (lv_at hl 0 rfl) ?_
    refine lv_bipush (v := 24) hx hb dX9_saveLeans_3 (by decide) ?_
    refine nb_ge hx hb i 24 (by omega) (by omega) (tgt := 26) dX9_saveLeans_5 (by decide) (fun c_5 => ?_) (fun c_5 => ?_)
    · have h := mc_savedLean h (σ 4) (fun j hj => hg j (by omega))
      have h : gW D ct zA zs _ _ (wM ad ct (va_up σ 19 (σ 4)) τ) := h
      exact hret (va_up σ 19 (σ 4), τ) _ _ _ _ h rfl dX9_saveLeans_26
    · refine lv_aload_n hx hb dX9_saveLeans_8 rfl (lv_at hl 1 rfl) ?_
      refine mg_savedLean C h dX9_saveLeans_9 ?_
      refine lv_iload_n hx hb dX9_saveLeans_12 rfl (lv_at hl 0 rfl) ?_
      refine lv_aload_n hx hb dX9_saveLeans_13 rfl (lv_at hl 1 rfl) ?_
      refine mg_leanOf C h dX9_saveLeans_14 ?_
      refine lv_iload_n hx hb dX9_saveLeans_17 rfl (lv_at hl 0 rfl) ?_
      refine ml_leanOf C h (j := i) (by omega) dX9_saveLeans_18 ?_
      refine gas (z := σ 4 i) rfl ?_
      refine ms_savedLean C h (j := i) (by omega) dX9_saveLeans_19 (fun H ll h => ?_)
      have h : gW D ct zA zs _ _ (wM ad ct (va_up σ 19 (upd g i (σ 4 i))) τ) := h
      refine ninc (lv' := [(1, .int (nI (i + 1))), (0, .ref (ad 0))]) hx hb i 1 dX9_saveLeans_20 hl (k := 0) rfl (by decide) rfl (fun ls hl => ?_)
      refine lv_goto (tgt := 2) hx hb dX9_saveLeans_23 (by decide) ?_
      exact ih2 _ (by omega) (i + 1) (upd g i ((σ 4) i)) _ _ _ rfl (by omega) (updk hg rfl) h (lv_sub hl [0, 1] rfl)
  exact L2_0 _ 0 (σ 19) _ _ _ rfl (by omega) (fun j hj => absurd hj (by omega)) h (lv_sub hl [0, 1] rfl)
set_option maxHeartbeats 4000000 in
set_option maxRecDepth 100000 in
theorem kX9_loadLeans (l : Launch) (D : va_G) (ct : Nat → ClassId) (ad : Nat → Nat) (σ : Nat → Nat → Int32) (τ : Nat → Nat → Int64)  : MV l yX9_loadLeans (gWs yX9_loadLeans cX9_loadLeans 2 none) rmX9_loadLeans D ct gNo [.ref (ad 0)] (wM ad ct σ τ) (fun u : (Nat → Nat → Int32) × (Nat → Nat → Int64) => wM ad ct u.1 u.2) (fun u => u = (va_up σ 4 (σ 19), τ)) := by
  refine MV.of RX9 rfl (by decide) (Nat.le_of_ble_eq_true rfl) ?_
  intro zp ze zs zm za zb zt zc zA ls zQ C h hX hl hret
  have hx := C.1
  have hb := C.2.1
  have hl : lv_has ls 2 [(0, .ref (ad 0))] := hl
  refine lv_iconst (v := 0) hx hb dX9_loadLeans_0 (by decide) ?_
  refine lv_istore_n (lv' := [(1, .int 0), (0, .ref (ad 0))]) hx hb dX9_loadLeans_1 rfl hl (by decide) rfl (fun ls hl => ?_)
  have L2_0 : ∀ (kk : Nat) (i : Nat) (g : Nat → Int32) (H : Heap) (ll : List Loc) (ls : Array Slot), 24 - i = kk → (i ≤ 24) → (∀ j, j < i → g j = (σ 19) j) → gW D ct zA zs H ll (wM ad ct (va_up σ 4 g) τ) → lv_has ls 2 [(1, .int (nI i)), (0, .ref (ad 0))] → W zp l ze rmX9_loadLeans zs zm za zb zt zc H ll 0 0 zQ (F0 zm 2 ls []) := by
    intro kk2
    induction kk2 using Nat.strongRecOn with
    | _ kk2 ih2 =>
    intro i g H ll ls hk2 hi hg h hl
    refine lv_iload_n hx hb dX9_loadLeans_2 rfl (lv_at hl 0 rfl) ?_
    refine lv_bipush (v := 24) hx hb dX9_loadLeans_3 (by decide) ?_
    refine nb_ge hx hb i 24 (by omega) (by omega) (tgt := 26) dX9_loadLeans_5 (by decide) (fun c_5 => ?_) (fun c_5 => ?_)
    · have h := mc_leanOf h (σ 19) (fun j hj => hg j (by omega))
      have h : gW D ct zA zs _ _ (wM ad ct (va_up σ 4 (σ 19)) τ) := h
      exact hret (va_up σ 4 (σ 19), τ) _ _ _ _ h rfl dX9_loadLeans_26
    · refine lv_aload_n hx hb dX9_loadLeans_8 rfl (lv_at hl 1 rfl) ?_
      refine mg_leanOf C h dX9_loadLeans_9 ?_
      refine lv_iload_n hx hb dX9_loadLeans_12 rfl (lv_at hl 0 rfl) ?_
      refine lv_aload_n hx hb dX9_loadLeans_13 rfl (lv_at hl 1 rfl) ?_
      refine mg_savedLean C h dX9_loadLeans_14 ?_
      refine lv_iload_n hx hb dX9_loadLeans_17 rfl (lv_at hl 0 rfl) ?_
      refine ml_savedLean C h (j := i) (by omega) dX9_loadLeans_18 ?_
      refine gas (z := σ 19 i) rfl ?_
      refine ms_leanOf C h (j := i) (by omega) dX9_loadLeans_19 (fun H ll h => ?_)
      have h : gW D ct zA zs _ _ (wM ad ct (va_up σ 4 (upd g i (σ 19 i))) τ) := h
      refine ninc (lv' := [(1, .int (nI (i + 1))), (0, .ref (ad 0))]) hx hb i 1 dX9_loadLeans_20 hl (k := 0) rfl (by decide) rfl (fun ls hl => ?_)
      refine lv_goto (tgt := 2) hx hb dX9_loadLeans_23 (by decide) ?_
      exact ih2 _ (by omega) (i + 1) (upd g i ((σ 19) i)) _ _ _ rfl (by omega) (updk hg rfl) h (lv_sub hl [0, 1] rfl)
  exact L2_0 _ 0 (σ 4) _ _ _ rfl (by omega) (fun j hj => absurd hj (by omega)) h (lv_sub hl [0, 1] rfl)
set_option maxHeartbeats 4000000 in
set_option maxRecDepth 100000 in
theorem kX9_turnTide (l : Launch) (D : va_G) (ct : Nat → ClassId) (ad : Nat → Nat) (σ : Nat → Nat → Int32) (τ : Nat → Nat → Int64) (n c : Nat) (kd : Nat → Nat) (hok : MOK σ n c kd)  : MV l yX9_turnTide (gWs yX9_turnTide cX9_turnTide 5 none) rmX9_turnTide D ct gNo [.ref (ad 0)] (wM ad ct σ τ) (fun u : (Nat → Nat → Int32) × (Nat → Nat → Int64) => wM ad ct u.1 u.2) (fun u => ∃ (g18 : Nat → Int32), u = (va_up (va_up σ 18 g18) 4 (td4 σ n c kd), τ)) := by
  refine MV.of RX9 rfl (by decide) (Nat.le_of_ble_eq_true rfl) ?_
  intro zp ze zs zm za zb zt zc zA ls zQ C h hX hl hret
  have hx := C.1
  have hb := C.2.1
  have hl : lv_has ls 5 [(0, .ref (ad 0))] := hl
  have hok0 := hok
  obtain ⟨hn, hn8, hc, hc8, hkd⟩ := hok0
  refine lv_iconst (v := 0) hx hb dX9_turnTide_0 (by decide) ?_
  refine lv_istore_n (lv' := [(1, .int 0), (0, .ref (ad 0))]) hx hb dX9_turnTide_1 rfl hl (by decide) rfl (fun ls hl => ?_)
  have L2_0 : ∀ (kk : Nat) (i : Nat) (g : Nat → Int32) (H : Heap) (ll : List Loc) (ls : Array Slot), n - i = kk → (i ≤ n) → (∀ j, j < 3 * i → g j = tdM σ n c kd j) → gW D ct zA zs H ll (wM ad ct (va_up σ 18 g) τ) → lv_has ls 5 [(1, .int (nI i)), (0, .ref (ad 0))] → W zp l ze rmX9_turnTide zs zm za zb zt zc H ll 0 0 zQ (F0 zm 2 ls []) := by
    intro kk2
    induction kk2 using Nat.strongRecOn with
    | _ kk2 ih2 =>
    intro i g H ll ls hk2 hi hg h hl
    refine lv_iload_n hx hb dX9_turnTide_2 rfl (lv_at hl 0 rfl) ?_
    refine lv_aload_n hx hb dX9_turnTide_3 rfl (lv_at hl 1 rfl) ?_
    refine mg_mussels C h dX9_turnTide_4 ?_
    refine gas hn ?_
    refine nb_ge hx hb i n (by omega) (by omega) (tgt := 96) dX9_turnTide_7 (by decide) (fun c_7 => ?_) (fun c_7 => ?_)
    · refine lv_iconst (v := 0) hx hb dX9_turnTide_96 (by decide) ?_
      refine lv_istore_n (lv' := [(1, .int 0), (0, .ref (ad 0))]) hx hb dX9_turnTide_97 rfl hl (by decide) rfl (fun ls hl => ?_)
      have L98_1 : ∀ (kk : Nat) (k : Nat) (f : Nat → Int32) (H : Heap) (ll : List Loc) (ls : Array Slot), 3 * n - k = kk → (k ≤ 3 * n) → (∀ j, j < k → f j = g j) → (∀ j, k ≤ j → f j = σ 4 j) → gW D ct zA zs H ll (wM ad ct (va_up (va_up σ 18 g) 4 f) τ) → lv_has ls 5 [(1, .int (nI k)), (0, .ref (ad 0))] → W zp l ze rmX9_turnTide zs zm za zb zt zc H ll 0 0 zQ (F0 zm 98 ls []) := by
        intro kk98
        induction kk98 using Nat.strongRecOn with
        | _ kk98 ih98 =>
        intro k f H ll ls hk98 hk hf hf2 h hl
        refine lv_iload_n hx hb dX9_turnTide_98 rfl (lv_at hl 0 rfl) ?_
        refine lv_iconst (v := 3) hx hb dX9_turnTide_99 (by decide) ?_
        refine lv_aload_n hx hb dX9_turnTide_100 rfl (lv_at hl 1 rfl) ?_
        refine mg_mussels C h dX9_turnTide_101 ?_
        refine gas hn ?_
        refine nmul hx hb 3 n dX9_turnTide_104 ?_
        refine nb_ge hx hb k (3 * n) (by omega) (by omega) (tgt := 126) dX9_turnTide_105 (by decide) (fun c_105 => ?_) (fun c_105 => ?_)
        · have h := mc_leanOf h (td4 σ n c kd) (fun j hj => by show f j = td4 σ n c kd j; unfold td4; rcases Nat.lt_or_ge j (3 * n) with q | q; (rw [if_pos q, hf j (by omega)]; exact hg j (by omega)); (rw [if_neg (by omega)]; exact hf2 j (by omega)))
          have h : gW D ct zA zs _ _ (wM ad ct (va_up (va_up σ 18 g) 4 (td4 σ n c kd)) τ) := h
          exact hret (va_up (va_up σ 18 g) 4 (td4 σ n c kd), τ) _ _ _ _ h ⟨g, rfl⟩ dX9_turnTide_126
        · refine lv_aload_n hx hb dX9_turnTide_108 rfl (lv_at hl 1 rfl) ?_
          refine mg_leanOf C h dX9_turnTide_109 ?_
          refine lv_iload_n hx hb dX9_turnTide_112 rfl (lv_at hl 0 rfl) ?_
          refine lv_aload_n hx hb dX9_turnTide_113 rfl (lv_at hl 1 rfl) ?_
          refine mg_newLean C h dX9_turnTide_114 ?_
          refine lv_iload_n hx hb dX9_turnTide_117 rfl (lv_at hl 0 rfl) ?_
          refine ml_newLean C h (j := k) (by omega) dX9_turnTide_118 ?_
          refine gas (z := g k) rfl ?_
          refine ms_leanOf C h (j := k) (by omega) dX9_turnTide_119 (fun H ll h => ?_)
          have h : gW D ct zA zs _ _ (wM ad ct (va_up (va_up σ 18 g) 4 (upd f k (g k))) τ) := h
          refine ninc (lv' := [(1, .int (nI (k + 1))), (0, .ref (ad 0))]) hx hb k 1 dX9_turnTide_120 hl (k := 0) rfl (by decide) rfl (fun ls hl => ?_)
          refine lv_goto (tgt := 98) hx hb dX9_turnTide_123 (by decide) ?_
          exact ih98 _ (by omega) (k + 1) (upd f k (g k)) _ _ _ rfl (by omega) (updk hf rfl) (fun j hj => by rw [pk_un (show j ≠ k by omega)]; exact hf2 j (by omega)) h (lv_sub hl [0, 1] rfl)
      exact L98_1 _ 0 (σ 4) _ _ _ rfl (by omega) (fun j hj => absurd hj (by omega)) (fun j hj => rfl) h (lv_sub hl [0, 1] rfl)
    · refine lv_iconst (v := 0) hx hb dX9_turnTide_10 (by decide) ?_
      refine lv_istore_n (lv' := [(2, .int 0), (1, .int (nI i)), (0, .ref (ad 0))]) hx hb dX9_turnTide_11 rfl hl (by decide) rfl (fun ls hl => ?_)
      have L12_2 : ∀ (kk : Nat) (q : Nat) (g : Nat → Int32) (H : Heap) (ll : List Loc) (ls : Array Slot), 3 - q = kk → (q ≤ 3) → (∀ j, j < 3 * i + q → g j = tdM σ n c kd j) → gW D ct zA zs H ll (wM ad ct (va_up σ 18 g) τ) → lv_has ls 5 [(2, .int (nI q)), (1, .int (nI i)), (0, .ref (ad 0))] → W zp l ze rmX9_turnTide zs zm za zb zt zc H ll 0 0 zQ (F0 zm 12 ls []) := by
        intro kk12
        induction kk12 using Nat.strongRecOn with
        | _ kk12 ih12 =>
        intro q g H ll ls hk12 hq hg h hl
        refine lv_iload_n hx hb dX9_turnTide_12 rfl (lv_at hl 0 rfl) ?_
        refine lv_iconst (v := 3) hx hb dX9_turnTide_13 (by decide) ?_
        refine nb_ge hx hb q 3 (by omega) (by omega) (tgt := 90) dX9_turnTide_14 (by decide) (fun c_14 => ?_) (fun c_14 => ?_)
        · refine ninc (lv' := [(1, .int (nI (i + 1))), (2, .int (nI q)), (0, .ref (ad 0))]) hx hb i 1 dX9_turnTide_90 hl (k := 1) rfl (by decide) rfl (fun ls hl => ?_)
          refine lv_goto (tgt := 2) hx hb dX9_turnTide_93 (by decide) ?_
          exact ih2 _ (by omega) (i + 1) g _ _ _ rfl (by omega) (fun j hj => hg j (by omega)) h (lv_sub hl [0, 2] rfl)
        · refine lv_aload_n hx hb dX9_turnTide_17 rfl (lv_at hl 2 rfl) ?_
          refine mg_leanOf C h dX9_turnTide_18 ?_
          refine lv_iconst (v := 3) hx hb dX9_turnTide_21 (by decide) ?_
          refine lv_iload_n hx hb dX9_turnTide_22 rfl (lv_at hl 1 rfl) ?_
          refine nmul hx hb 3 i dX9_turnTide_23 ?_
          refine lv_iload_n hx hb dX9_turnTide_24 rfl (lv_at hl 0 rfl) ?_
          refine nadd hx hb (3 * i) q dX9_turnTide_25 ?_
          refine ml_leanOf C h (j := (3 * i) + q) (by omega) dX9_turnTide_26 ?_
          refine gas (z := σ 4 ((3 * i) + q)) rfl ?_
          refine lv_istore_n (lv' := [(3, .int (σ 4 ((3 * i) + q))), (2, .int (nI q)), (1, .int (nI i)), (0, .ref (ad 0))]) hx hb dX9_turnTide_27 rfl hl (by decide) rfl (fun ls hl => ?_)
          refine lv_iload_n hx hb dX9_turnTide_28 rfl (lv_at hl 0 rfl) ?_
          refine lv_aload_n hx hb dX9_turnTide_29 rfl (lv_at hl 3 rfl) ?_
          refine lv_iload_n hx hb dX9_turnTide_30 rfl (lv_at hl 2 rfl) ?_
          refine lv_iload_n hx hb dX9_turnTide_31 rfl (lv_at hl 1 rfl) ?_
          refine gcallVi C h trivial gNo_ok (kX9_leanAhead l D ct ad (va_up σ 18 g) τ n c kd hok i q (by omega) (by omega)) (cwV 2 C.2.2.2.2 (gInV q885 q887 q29 q66 q888) rfl rfl rfl hvX9_leanAhead ⟨Nat.le_of_ble_eq_true rfl, Nat.le_of_ble_eq_true rfl⟩) 0 (wM_o ad ct (va_up σ 18 g) τ) rfl rfl rfl hl.1 rfl (Nat.le_of_ble_eq_true rfl) dX9_turnTide_32 ⟨Nat.zero_le _, Nat.zero_le _⟩ (fun r9 u9 H ll hw h => ?_)
          have hw : r9 = lnA (leM σ) (cuM c) i q := hw
          subst hw
          have h : gW D ct zA zs _ _ (wM ad ct (va_up σ 18 g) τ) := h
          refine lv_iadd hx hb dX9_turnTide_35 ?_
          refine lv_aload_n hx hb dX9_turnTide_36 rfl (lv_at hl 3 rfl) ?_
          refine lv_iload_n hx hb dX9_turnTide_37 rfl (lv_at hl 2 rfl) ?_
          refine lv_iload_n hx hb dX9_turnTide_38 rfl (lv_at hl 1 rfl) ?_
          refine gcallVi C h trivial gNo_ok (kX9_leanBehind l D ct ad (va_up σ 18 g) τ n c kd hok i q (by omega) (by omega)) (cwV 2 C.2.2.2.2 (gInV q892 q894 q30 q66 q895) rfl rfl rfl hvX9_leanBehind ⟨Nat.le_of_ble_eq_true rfl, Nat.le_of_ble_eq_true rfl⟩) 0 (wM_o ad ct (va_up σ 18 g) τ) rfl rfl rfl hl.1 rfl (Nat.le_of_ble_eq_true rfl) dX9_turnTide_39 ⟨Nat.zero_le _, Nat.zero_le _⟩ (fun r9 u9 H ll hw h => ?_)
          have hw : r9 = lnB n (leM σ) (cuM c) i q := hw
          subst hw
          have h : gW D ct zA zs _ _ (wM ad ct (va_up σ 18 g) τ) := h
          refine lv_iadd hx hb dX9_turnTide_42 ?_
          refine lv_istore (lv' := [(4, .int (((σ 4 ((3 * i) + q)) + (lnA (leM σ) (cuM c) i q)) + (lnB n (leM σ) (cuM c) i q))), (3, .int (σ 4 ((3 * i) + q))), (2, .int (nI q)), (1, .int (nI i)), (0, .ref (ad 0))]) hx hb dX9_turnTide_43 hl (by decide) rfl (fun ls hl => ?_)
          refine lv_aload_n hx hb dX9_turnTide_45 rfl (lv_at hl 4 rfl) ?_
          refine mg_newLean C h dX9_turnTide_46 ?_
          refine lv_iconst (v := 3) hx hb dX9_turnTide_49 (by decide) ?_
          refine lv_iload_n hx hb dX9_turnTide_50 rfl (lv_at hl 3 rfl) ?_
          refine nmul hx hb 3 i dX9_turnTide_51 ?_
          refine lv_iload_n hx hb dX9_turnTide_52 rfl (lv_at hl 2 rfl) ?_
          refine nadd hx hb (3 * i) q dX9_turnTide_53 ?_
          refine lv_aload_n hx hb dX9_turnTide_54 rfl (lv_at hl 4 rfl) ?_
          refine mg_kindOf C h dX9_turnTide_55 ?_
          refine lv_iload_n hx hb dX9_turnTide_58 rfl (lv_at hl 3 rfl) ?_
          refine ml_kindOf C h (j := i) (by omega) dX9_turnTide_59 ?_
          refine gas (z := σ 2 i) rfl ?_
          refine gas (hkd i (by omega)).1 ?_
          refine lv_iconst (v := 2) hx hb dX9_turnTide_60 (by decide) ?_
          refine nb_eq hx hb (kd i) 2 (by have := (hkd i (by omega)).2; omega) (by omega) (tgt := 69) dX9_turnTide_61 (by decide) (fun c_61 => ?_) (fun c_61 => ?_)
          · refine lv_iload_n hx hb dX9_turnTide_69 rfl (lv_at hl 1 rfl) ?_
            refine lv_goto (tgt := 83) hx hb dX9_turnTide_70 (by decide) ?_
            refine ms_newLean C h (j := (3 * i) + q) (by omega) dX9_turnTide_83 (fun H ll h => ?_)
            have h : gW D ct zA zs _ _ (wM ad ct (va_up σ 18 (upd g ((3 * i) + q) (σ 4 ((3 * i) + q)))) τ) := h
            refine ninc (lv' := [(2, .int (nI (q + 1))), (4, .int (((σ 4 ((3 * i) + q)) + (lnA (leM σ) (cuM c) i q)) + (lnB n (leM σ) (cuM c) i q))), (3, .int (σ 4 ((3 * i) + q))), (1, .int (nI i)), (0, .ref (ad 0))]) hx hb q 1 dX9_turnTide_84 hl (k := 2) rfl (by decide) rfl (fun ls hl => ?_)
            refine lv_goto (tgt := 12) hx hb dX9_turnTide_87 (by decide) ?_
            exact ih12 _ (by omega) (q + 1) (upd g ((3 * i) + q) (σ 4 ((3 * i) + q))) _ _ _ rfl (by omega) (updk (i := 3 * i + q) hg (by rw [tdM_at (by omega)]; exact (drf_k (k := kd i) c_61))) h (lv_sub hl [0, 3, 4] rfl)
          · refine lv_iload hx hb dX9_turnTide_64 (lv_at hl 0 rfl) ?_
            refine lv_if_ne (tgt := 73) hx hb dX9_turnTide_66 (by decide) (fun c_66 => ?_) (fun c_66 => ?_)
            · refine lv_iload hx hb dX9_turnTide_73 (lv_at hl 0 rfl) ?_
              refine lv_if_le (tgt := 82) hx hb dX9_turnTide_75 (by decide) (fun c_75 => ?_) (fun c_75 => ?_)
              · refine lv_iconst (v := -1) hx hb dX9_turnTide_82 (by decide) ?_
                refine ms_newLean C h (j := (3 * i) + q) (by omega) dX9_turnTide_83 (fun H ll h => ?_)
                have h : gW D ct zA zs _ _ (wM ad ct (va_up σ 18 (upd g ((3 * i) + q) (-1))) τ) := h
                refine ninc (lv' := [(2, .int (nI (q + 1))), (4, .int (((σ 4 ((3 * i) + q)) + (lnA (leM σ) (cuM c) i q)) + (lnB n (leM σ) (cuM c) i q))), (3, .int (σ 4 ((3 * i) + q))), (1, .int (nI i)), (0, .ref (ad 0))]) hx hb q 1 dX9_turnTide_84 hl (k := 2) rfl (by decide) rfl (fun ls hl => ?_)
                refine lv_goto (tgt := 12) hx hb dX9_turnTide_87 (by decide) ?_
                exact ih12 _ (by omega) (q + 1) (upd g ((3 * i) + q) (-1)) _ _ _ rfl (by omega) (updk (i := 3 * i + q) hg (by rw [tdM_at (by omega)]; exact (drf_m (k := kd i) c_61 c_66 c_75))) h (lv_sub hl [0, 3, 4] rfl)
              · refine lv_iconst (v := 1) hx hb dX9_turnTide_78 (by decide) ?_
                refine lv_goto (tgt := 83) hx hb dX9_turnTide_79 (by decide) ?_
                refine ms_newLean C h (j := (3 * i) + q) (by omega) dX9_turnTide_83 (fun H ll h => ?_)
                have h : gW D ct zA zs _ _ (wM ad ct (va_up σ 18 (upd g ((3 * i) + q) 1)) τ) := h
                refine ninc (lv' := [(2, .int (nI (q + 1))), (4, .int (((σ 4 ((3 * i) + q)) + (lnA (leM σ) (cuM c) i q)) + (lnB n (leM σ) (cuM c) i q))), (3, .int (σ 4 ((3 * i) + q))), (1, .int (nI i)), (0, .ref (ad 0))]) hx hb q 1 dX9_turnTide_84 hl (k := 2) rfl (by decide) rfl (fun ls hl => ?_)
                refine lv_goto (tgt := 12) hx hb dX9_turnTide_87 (by decide) ?_
                exact ih12 _ (by omega) (q + 1) (upd g ((3 * i) + q) 1) _ _ _ rfl (by omega) (updk (i := 3 * i + q) hg (by rw [tdM_at (by omega)]; exact (drf_p (k := kd i) c_61 c_66 c_75))) h (lv_sub hl [0, 3, 4] rfl)
            · refine lv_iload_n hx hb dX9_turnTide_69 rfl (lv_at hl 1 rfl) ?_
              refine lv_goto (tgt := 83) hx hb dX9_turnTide_70 (by decide) ?_
              refine ms_newLean C h (j := (3 * i) + q) (by omega) dX9_turnTide_83 (fun H ll h => ?_)
              have h : gW D ct zA zs _ _ (wM ad ct (va_up σ 18 (upd g ((3 * i) + q) (σ 4 ((3 * i) + q)))) τ) := h
              refine ninc (lv' := [(2, .int (nI (q + 1))), (4, .int (((σ 4 ((3 * i) + q)) + (lnA (leM σ) (cuM c) i q)) + (lnB n (leM σ) (cuM c) i q))), (3, .int (σ 4 ((3 * i) + q))), (1, .int (nI i)), (0, .ref (ad 0))]) hx hb q 1 dX9_turnTide_84 hl (k := 2) rfl (by decide) rfl (fun ls hl => ?_)
              refine lv_goto (tgt := 12) hx hb dX9_turnTide_87 (by decide) ?_
              exact ih12 _ (by omega) (q + 1) (upd g ((3 * i) + q) (σ 4 ((3 * i) + q))) _ _ _ rfl (by omega) (updk (i := 3 * i + q) hg (by rw [tdM_at (by omega)]; exact (drf_z c_66))) h (lv_sub hl [0, 3, 4] rfl)
      exact L12_2 _ 0 g _ _ _ rfl (by omega) (fun j hj => hg j (by omega)) h (lv_sub hl [0, 1, 2] rfl)
  exact L2_0 _ 0 (σ 18) _ _ _ rfl (by omega) (fun j hj => absurd hj (by omega)) h (lv_sub hl [0, 1] rfl)
set_option maxHeartbeats 4000000 in
set_option maxRecDepth 100000 in
theorem kX9_forBy (l : Launch) (D : va_G) (ct : Nat → ClassId) (ad : Nat → Nat) (σ : Nat → Nat → Int32) (τ : Nat → Nat → Int64) (n c : Nat) (kd : Nat → Nat) (hok : MOK σ n c kd) (x q : Nat) (hx1 : x < 2 ^ 31) (hq : q < 3) : MI l yX9_forBy (gWs yX9_forBy cX9_forBy 6 (some .int)) rmX9_forBy D ct gNo [.ref (ad 0), .int (nI x), .int (nI q)] (wM ad ct σ τ) (fun _ : Unit => (wM ad ct σ τ)) (fun r _ => r = frM σ n c kd q x) := by
  refine MI.ofI RX9 rfl (by decide) (Nat.le_of_ble_eq_true rfl) ?_
  intro zp ze zs zm za zb zt zc zA ls zQ C h hX hl hret
  have hx := C.1
  have hb := C.2.1
  have hl : lv_has ls 6 [(0, .ref (ad 0)), (1, .int (nI x)), (2, .int (nI q))] := hl
  have hok0 := hok
  obtain ⟨hn, hn8, hc, hc8, hkd⟩ := hok0
  refine lv_iconst (v := 0) hx hb dX9_forBy_0 (by decide) ?_
  refine lv_istore_n (lv' := [(3, .int 0), (0, .ref (ad 0)), (1, .int (nI x)), (2, .int (nI q))]) hx hb dX9_forBy_1 rfl hl (by decide) rfl (fun ls hl => ?_)
  refine lv_iconst (v := 0) hx hb dX9_forBy_2 (by decide) ?_
  refine lv_istore (lv' := [(4, .int 0), (3, .int 0), (0, .ref (ad 0)), (1, .int (nI x)), (2, .int (nI q))]) hx hb dX9_forBy_3 hl (by decide) rfl (fun ls hl => ?_)
  have L5_0 : ∀ (kk : Nat) (i : Nat) (H : Heap) (ll : List Loc) (ls : Array Slot), n - i = kk → (i ≤ n) → gW D ct zA zs H ll (wM ad ct σ τ) → lv_has ls 6 [(4, .int (nI i)), (3, .int (bx_sum (fun m => posPart (if x.testBit m = true then plM σ n c kd q m else 0)) i)), (0, .ref (ad 0)), (1, .int (nI x)), (2, .int (nI q))] → W zp l ze rmX9_forBy zs zm za zb zt zc H ll 0 0 zQ (F0 zm 5 ls []) := by
    intro kk5
    induction kk5 using Nat.strongRecOn with
    | _ kk5 ih5 =>
    intro i H ll ls hk5 hi h hl
    refine lv_iload hx hb dX9_forBy_5 (lv_at hl 0 rfl) ?_
    refine lv_aload_n hx hb dX9_forBy_7 rfl (lv_at hl 2 rfl) ?_
    refine mg_mussels C h dX9_forBy_8 ?_
    refine gas hn ?_
    refine nb_ge hx hb i n (by omega) (by omega) (tgt := 56) dX9_forBy_11 (by decide) (fun c_11 => ?_) (fun c_11 => ?_)
    · refine lv_iload_n hx hb dX9_forBy_56 rfl (lv_at hl 1 rfl) ?_
      exact hret _ () _ _ _ _ h (by rw [show i = n by omega]; rfl) dX9_forBy_57
    · refine lv_iload_n hx hb dX9_forBy_14 rfl (lv_at hl 3 rfl) ?_
      refine lv_iload hx hb dX9_forBy_15 (lv_at hl 0 rfl) ?_
      refine gcallSi C h (kX9_isIn l D ct x i (by omega) (by omega)) (va_cwS 2 C.2.2.2.2 (gInS q889 q890 q66 q891) rfl rfl rfl hdX9_isIn ⟨Nat.le_of_ble_eq_true rfl, Nat.le_of_ble_eq_true rfl⟩) rfl hl.1 rfl (Nat.le_of_ble_eq_true rfl) dX9_forBy_17 ⟨Nat.zero_le _, Nat.zero_le _⟩ (fun H ll h => ?_)
      refine bz_eq hx hb (x.testBit i = true) (tgt := 33) dX9_forBy_20 (by decide) (fun c_20 => ?_) (fun c_20 => ?_)
      · refine lv_iconst (v := 0) hx hb dX9_forBy_33 (by decide) ?_
        refine lv_istore (lv' := [(5, .int 0), (4, .int (nI i)), (3, .int (bx_sum (fun m => posPart (if x.testBit m = true then plM σ n c kd q m else 0)) i)), (0, .ref (ad 0)), (1, .int (nI x)), (2, .int (nI q))]) hx hb dX9_forBy_34 hl (by decide) rfl (fun ls hl => ?_)
        refine lv_iload_n hx hb dX9_forBy_36 rfl (lv_at hl 2 rfl) ?_
        refine lv_iload hx hb dX9_forBy_37 (lv_at hl 0 rfl) ?_
        refine lv_if_le (tgt := 47) hx hb dX9_forBy_39 (by decide) (fun _ => ?_) (fun q => absurd (by decide) q)
        refine lv_iconst (v := 0) hx hb dX9_forBy_47 (by decide) ?_
        refine lv_iadd hx hb dX9_forBy_48 ?_
        refine lv_istore_n (lv' := [(3, .int ((bx_sum (fun m => posPart (if x.testBit m = true then plM σ n c kd q m else 0)) i) + 0)), (5, .int 0), (4, .int (nI i)), (0, .ref (ad 0)), (1, .int (nI x)), (2, .int (nI q))]) hx hb dX9_forBy_49 rfl hl (by decide) rfl (fun ls hl => ?_)
        refine ninc (lv' := [(4, .int (nI (i + 1))), (3, .int ((bx_sum (fun m => posPart (if x.testBit m = true then plM σ n c kd q m else 0)) i) + 0)), (5, .int 0), (0, .ref (ad 0)), (1, .int (nI x)), (2, .int (nI q))]) hx hb i 1 dX9_forBy_50 hl (k := 2) rfl (by decide) rfl (fun ls hl => ?_)
        refine lv_goto (tgt := 5) hx hb dX9_forBy_53 (by decide) ?_
        have e9 : bx_sum (fun m => posPart (if x.testBit m = true then plM σ n c kd q m else 0)) (i + 1) = (bx_sum (fun m => posPart (if x.testBit m = true then plM σ n c kd q m else 0)) i) + 0 := by show _ + posPart _ = _; rw [if_neg c_20]; rfl
        rw [← e9] at hl
        exact ih5 _ (by omega) (i + 1) _ _ _ rfl (by omega) h (lv_sub hl [0, 1, 3, 4, 5] rfl)
      · refine lv_aload_n hx hb dX9_forBy_23 rfl (lv_at hl 2 rfl) ?_
        refine lv_iload hx hb dX9_forBy_24 (lv_at hl 0 rfl) ?_
        refine lv_iload_n hx hb dX9_forBy_26 rfl (lv_at hl 4 rfl) ?_
        refine gcallVi C h trivial gNo_ok (kX9_pulls l D ct ad σ τ n c kd hok i q (by omega) (by omega)) (cwV 2 C.2.2.2.2 (gInV q881 q883 q28 q66 q884) rfl rfl rfl hvX9_pulls ⟨Nat.le_of_ble_eq_true rfl, Nat.le_of_ble_eq_true rfl⟩) 0 (wM_o ad ct σ τ) rfl rfl rfl hl.1 rfl (Nat.le_of_ble_eq_true rfl) dX9_forBy_27 ⟨Nat.zero_le _, Nat.zero_le _⟩ (fun r9 u9 H ll hw h => ?_)
        have hw : r9 = plM σ n c kd q i := hw
        subst hw
        have h : gW D ct zA zs _ _ (wM ad ct σ τ) := h
        refine lv_goto (tgt := 34) hx hb dX9_forBy_30 (by decide) ?_
        refine lv_istore (lv' := [(5, .int (plM σ n c kd q i)), (4, .int (nI i)), (3, .int (bx_sum (fun m => posPart (if x.testBit m = true then plM σ n c kd q m else 0)) i)), (0, .ref (ad 0)), (1, .int (nI x)), (2, .int (nI q))]) hx hb dX9_forBy_34 hl (by decide) rfl (fun ls hl => ?_)
        refine lv_iload_n hx hb dX9_forBy_36 rfl (lv_at hl 2 rfl) ?_
        refine lv_iload hx hb dX9_forBy_37 (lv_at hl 0 rfl) ?_
        refine lv_if_le (tgt := 47) hx hb dX9_forBy_39 (by decide) (fun c_39 => ?_) (fun c_39 => ?_)
        · refine lv_iconst (v := 0) hx hb dX9_forBy_47 (by decide) ?_
          refine lv_iadd hx hb dX9_forBy_48 ?_
          refine lv_istore_n (lv' := [(3, .int ((bx_sum (fun m => posPart (if x.testBit m = true then plM σ n c kd q m else 0)) i) + 0)), (5, .int (plM σ n c kd q i)), (4, .int (nI i)), (0, .ref (ad 0)), (1, .int (nI x)), (2, .int (nI q))]) hx hb dX9_forBy_49 rfl hl (by decide) rfl (fun ls hl => ?_)
          refine ninc (lv' := [(4, .int (nI (i + 1))), (3, .int ((bx_sum (fun m => posPart (if x.testBit m = true then plM σ n c kd q m else 0)) i) + 0)), (5, .int (plM σ n c kd q i)), (0, .ref (ad 0)), (1, .int (nI x)), (2, .int (nI q))]) hx hb i 1 dX9_forBy_50 hl (k := 2) rfl (by decide) rfl (fun ls hl => ?_)
          refine lv_goto (tgt := 5) hx hb dX9_forBy_53 (by decide) ?_
          have e9 : bx_sum (fun m => posPart (if x.testBit m = true then plM σ n c kd q m else 0)) (i + 1) = (bx_sum (fun m => posPart (if x.testBit m = true then plM σ n c kd q m else 0)) i) + 0 := by show _ + posPart _ = _; rw [if_pos c_20, posN c_39]
          rw [← e9] at hl
          exact ih5 _ (by omega) (i + 1) _ _ _ rfl (by omega) h (lv_sub hl [0, 1, 3, 4, 5] rfl)
        · refine lv_iload hx hb dX9_forBy_42 (lv_at hl 0 rfl) ?_
          refine lv_goto (tgt := 48) hx hb dX9_forBy_44 (by decide) ?_
          refine lv_iadd hx hb dX9_forBy_48 ?_
          refine lv_istore_n (lv' := [(3, .int ((bx_sum (fun m => posPart (if x.testBit m = true then plM σ n c kd q m else 0)) i) + (plM σ n c kd q i))), (5, .int (plM σ n c kd q i)), (4, .int (nI i)), (0, .ref (ad 0)), (1, .int (nI x)), (2, .int (nI q))]) hx hb dX9_forBy_49 rfl hl (by decide) rfl (fun ls hl => ?_)
          refine ninc (lv' := [(4, .int (nI (i + 1))), (3, .int ((bx_sum (fun m => posPart (if x.testBit m = true then plM σ n c kd q m else 0)) i) + (plM σ n c kd q i))), (5, .int (plM σ n c kd q i)), (0, .ref (ad 0)), (1, .int (nI x)), (2, .int (nI q))]) hx hb i 1 dX9_forBy_50 hl (k := 2) rfl (by decide) rfl (fun ls hl => ?_)
          refine lv_goto (tgt := 5) hx hb dX9_forBy_53 (by decide) ?_
          have e9 : bx_sum (fun m => posPart (if x.testBit m = true then plM σ n c kd q m else 0)) (i + 1) = (bx_sum (fun m => posPart (if x.testBit m = true then plM σ n c kd q m else 0)) i) + (plM σ n c kd q i) := by show _ + posPart _ = _; rw [if_pos c_20, posP c_39]
          rw [← e9] at hl
          exact ih5 _ (by omega) (i + 1) _ _ _ rfl (by omega) h (lv_sub hl [0, 1, 3, 4, 5] rfl)
  exact L5_0 _ 0 _ _ _ rfl (by omega) h (lv_sub hl [0, 1, 2, 3, 4] rfl)
set_option maxHeartbeats 4000000 in
set_option maxRecDepth 100000 in
theorem kX9_divisor (l : Launch) (D : va_G) (ct : Nat → ClassId) (a b : Nat) (ha1 : a < 2 ^ 31) (hb1 : b < 2 ^ 31) : MI l yX9_divisor (gWs yX9_divisor cX9_divisor 5 (some .int)) rmX9_divisor D ct gNo [.int (nI a), .int (nI b)] [] (fun _ : Unit => []) (fun r _ => r = nI (Nat.gcd b a)) := by
  refine MI.ofI RX9 rfl (by decide) (Nat.le_of_ble_eq_true rfl) ?_
  intro zp ze zs zm za zb zt zc zA ls zQ C h hX hl hret
  have hx := C.1
  have hb := C.2.1
  have hl : lv_has ls 5 [(0, .int (nI a)), (1, .int (nI b))] := hl
  refine lv_iload_n hx hb dX9_divisor_0 rfl (lv_at hl 0 rfl) ?_
  refine lv_istore_n (lv' := [(2, .int (nI a)), (0, .int (nI a)), (1, .int (nI b))]) hx hb dX9_divisor_1 rfl hl (by decide) rfl (fun ls hl => ?_)
  refine lv_iload_n hx hb dX9_divisor_2 rfl (lv_at hl 2 rfl) ?_
  refine lv_istore_n (lv' := [(3, .int (nI b)), (2, .int (nI a)), (0, .int (nI a)), (1, .int (nI b))]) hx hb dX9_divisor_3 rfl hl (by decide) rfl (fun ls hl => ?_)
  have L4_0 : ∀ (kk : Nat) (x : Nat) (y : Nat) (H : Heap) (ll : List Loc) (ls : Array Slot), y = kk → (x < 2 ^ 31) → (y < 2 ^ 31) → (Nat.gcd y x = Nat.gcd b a) → gW D ct zA zs H ll ([]) → lv_has ls 5 [(3, .int (nI y)), (2, .int (nI x)), (0, .int (nI a)), (1, .int (nI b))] → W zp l ze rmX9_divisor zs zm za zb zt zc H ll 0 0 zQ (F0 zm 4 ls []) := by
    intro kk4
    induction kk4 using Nat.strongRecOn with
    | _ kk4 ih4 =>
    intro x y H ll ls hk4 hx1 hy1 hg h hl
    refine lv_iload_n hx hb dX9_divisor_4 rfl (lv_at hl 0 rfl) ?_
    refine nz_eq hx hb y (by omega) (tgt := 21) dX9_divisor_5 (by decide) (fun c_5 => ?_) (fun c_5 => ?_)
    · refine lv_iload_n hx hb dX9_divisor_21 rfl (lv_at hl 1 rfl) ?_
      exact hret _ () _ _ _ _ h (by rw [← hg, c_5, Nat.gcd_zero_left]) dX9_divisor_22
    · refine lv_iload_n hx hb dX9_divisor_8 rfl (lv_at hl 1 rfl) ?_
      refine lv_iload_n hx hb dX9_divisor_9 rfl (lv_at hl 0 rfl) ?_
      refine nrem hx hb x y (by omega) (by omega) (by omega) dX9_divisor_10 ?_
      refine lv_istore (lv' := [(4, .int (nI (x % y))), (3, .int (nI y)), (2, .int (nI x)), (0, .int (nI a)), (1, .int (nI b))]) hx hb dX9_divisor_11 hl (by decide) rfl (fun ls hl => ?_)
      refine lv_iload_n hx hb dX9_divisor_13 rfl (lv_at hl 1 rfl) ?_
      refine lv_istore_n (lv' := [(2, .int (nI y)), (4, .int (nI (x % y))), (3, .int (nI y)), (0, .int (nI a)), (1, .int (nI b))]) hx hb dX9_divisor_14 rfl hl (by decide) rfl (fun ls hl => ?_)
      refine lv_iload hx hb dX9_divisor_15 (lv_at hl 1 rfl) ?_
      refine lv_istore_n (lv' := [(3, .int (nI (x % y))), (2, .int (nI y)), (4, .int (nI (x % y))), (0, .int (nI a)), (1, .int (nI b))]) hx hb dX9_divisor_17 rfl hl (by decide) rfl (fun ls hl => ?_)
      refine lv_goto (tgt := 4) hx hb dX9_divisor_18 (by decide) ?_
      exact ih4 _ (by rw [← hk4]; exact Nat.mod_lt x (by omega)) y (x % y) _ _ _ rfl hy1 (Nat.lt_of_le_of_lt (Nat.mod_le x y) hx1) (by rw [← hg, Nat.gcd_rec y x]) h (lv_sub hl [0, 1, 3, 4] rfl)
  exact L4_0 _ a b _ _ _ rfl ha1 hb1 rfl h (lv_sub hl [0, 1, 2, 3] rfl)
set_option maxHeartbeats 4000000 in
set_option maxRecDepth 100000 in
theorem kX9_part (l : Launch) (D : va_G) (ct : Nat → ClassId) (a b t : Nat) (ha1 : a < 2 ^ 31) (hb1 : b < 2 ^ 31) (hb0 : 0 < b) (ht : t < 2) : MI l yX9_part (gWs yX9_part cX9_part 4 (some .int)) rmX9_part D ct gNo [.int (nI a), .int (nI b), .int (nI t)] [] (fun _ : Unit => []) (fun r _ => r = nI ((if t = 0 then a else b) / Nat.gcd b a)) := by
  refine MI.ofI RX9 rfl (by decide) (Nat.le_of_ble_eq_true rfl) ?_
  intro zp ze zs zm za zb zt zc zA ls zQ C h hX hl hret
  have hx := C.1
  have hb := C.2.1
  have hl : lv_has ls 4 [(0, .int (nI a)), (1, .int (nI b)), (2, .int (nI t))] := hl
  refine lv_iload_n hx hb dX9_part_0 rfl (lv_at hl 0 rfl) ?_
  refine lv_iload_n hx hb dX9_part_1 rfl (lv_at hl 1 rfl) ?_
  refine gcallSi C h (kX9_divisor l D ct a b (by omega) (by omega)) (va_cwS 2 C.2.2.2.2 (gInS q982 q983 q66 q984) rfl rfl rfl hdX9_divisor ⟨Nat.le_of_ble_eq_true rfl, Nat.le_of_ble_eq_true rfl⟩) rfl hl.1 rfl (Nat.le_of_ble_eq_true rfl) dX9_part_2 ⟨Nat.zero_le _, Nat.zero_le _⟩ (fun H ll h => ?_)
  refine lv_istore_n (lv' := [(3, .int (nI (Nat.gcd b a))), (0, .int (nI a)), (1, .int (nI b)), (2, .int (nI t))]) hx hb dX9_part_5 rfl hl (by decide) rfl (fun ls hl => ?_)
  refine lv_iload_n hx hb dX9_part_6 rfl (lv_at hl 3 rfl) ?_
  refine nz_ne hx hb t (by omega) (tgt := 16) dX9_part_7 (by decide) (fun c_7 => ?_) (fun c_7 => ?_)
  · refine lv_iload_n hx hb dX9_part_16 rfl (lv_at hl 2 rfl) ?_
    refine lv_iload_n hx hb dX9_part_17 rfl (lv_at hl 0 rfl) ?_
    refine ndiv hx hb b (Nat.gcd b a) (by omega) (Nat.gcd_pos_of_pos_left a hb0) (Nat.lt_of_le_of_lt (Nat.gcd_le_left a hb0) hb1) dX9_part_18 ?_
    exact hret _ () _ _ _ _ h (by first | rw [if_neg c_7] | rw [if_pos c_7]) dX9_part_19
  · refine lv_iload_n hx hb dX9_part_10 rfl (lv_at hl 1 rfl) ?_
    refine lv_iload_n hx hb dX9_part_11 rfl (lv_at hl 0 rfl) ?_
    refine ndiv hx hb a (Nat.gcd b a) (by omega) (Nat.gcd_pos_of_pos_left a hb0) (Nat.lt_of_le_of_lt (Nat.gcd_le_left a hb0) hb1) dX9_part_12 ?_
    refine lv_goto (tgt := 19) hx hb dX9_part_13 (by decide) ?_
    exact hret _ () _ _ _ _ h (by first | rw [if_neg c_7] | rw [if_pos c_7]) dX9_part_19
set_option maxHeartbeats 4000000 in
set_option maxRecDepth 100000 in
theorem kX9_weights (l : Launch) (D : va_G) (ct : Nat → ClassId) (ad : Nat → Nat) (σ : Nat → Nat → Int32) (τ : Nat → Nat → Int64) (n c : Nat) (kd : Nat → Nat) (hok : MOK σ n c kd)  : MI l yX9_weights (gWs yX9_weights cX9_weights 3 (some .int)) rmX9_weights D ct gNo [.ref (ad 0)] (wM ad ct σ τ) (fun _ : Unit => (wM ad ct σ τ)) (fun r _ => r = bx_sum (σ 3) n) := by
  refine MI.ofI RX9 rfl (by decide) (Nat.le_of_ble_eq_true rfl) ?_
  intro zp ze zs zm za zb zt zc zA ls zQ C h hX hl hret
  have hx := C.1
  have hb := C.2.1
  have hl : lv_has ls 3 [(0, .ref (ad 0))] := hl
  have hok0 := hok
  obtain ⟨hn, hn8, hc, hc8, hkd⟩ := hok0
  refine lv_iconst (v := 0) hx hb dX9_weights_0 (by decide) ?_
  refine lv_istore_n (lv' := [(1, .int 0), (0, .ref (ad 0))]) hx hb dX9_weights_1 rfl hl (by decide) rfl (fun ls hl => ?_)
  refine lv_iconst (v := 0) hx hb dX9_weights_2 (by decide) ?_
  refine lv_istore_n (lv' := [(2, .int 0), (1, .int 0), (0, .ref (ad 0))]) hx hb dX9_weights_3 rfl hl (by decide) rfl (fun ls hl => ?_)
  have L4_0 : ∀ (kk : Nat) (i : Nat) (H : Heap) (ll : List Loc) (ls : Array Slot), n - i = kk → (i ≤ n) → gW D ct zA zs H ll (wM ad ct σ τ) → lv_has ls 3 [(2, .int (nI i)), (1, .int (bx_sum (σ 3) i)), (0, .ref (ad 0))] → W zp l ze rmX9_weights zs zm za zb zt zc H ll 0 0 zQ (F0 zm 4 ls []) := by
    intro kk4
    induction kk4 using Nat.strongRecOn with
    | _ kk4 ih4 =>
    intro i H ll ls hk4 hi h hl
    refine lv_iload_n hx hb dX9_weights_4 rfl (lv_at hl 0 rfl) ?_
    refine lv_aload_n hx hb dX9_weights_5 rfl (lv_at hl 2 rfl) ?_
    refine mg_mussels C h dX9_weights_6 ?_
    refine gas hn ?_
    refine nb_ge hx hb i n (by omega) (by omega) (tgt := 27) dX9_weights_9 (by decide) (fun c_9 => ?_) (fun c_9 => ?_)
    · refine lv_iload_n hx hb dX9_weights_27 rfl (lv_at hl 1 rfl) ?_
      exact hret _ () _ _ _ _ h (by rw [show i = n by omega]) dX9_weights_28
    · refine lv_iload_n hx hb dX9_weights_12 rfl (lv_at hl 1 rfl) ?_
      refine lv_aload_n hx hb dX9_weights_13 rfl (lv_at hl 2 rfl) ?_
      refine mg_weightOf C h dX9_weights_14 ?_
      refine lv_iload_n hx hb dX9_weights_17 rfl (lv_at hl 0 rfl) ?_
      refine ml_weightOf C h (j := i) (by omega) dX9_weights_18 ?_
      refine lv_iadd hx hb dX9_weights_19 ?_
      refine lv_istore_n (lv' := [(1, .int ((bx_sum (σ 3) i) + (σ 3 i))), (2, .int (nI i)), (0, .ref (ad 0))]) hx hb dX9_weights_20 rfl hl (by decide) rfl (fun ls hl => ?_)
      refine ninc (lv' := [(2, .int (nI (i + 1))), (1, .int ((bx_sum (σ 3) i) + (σ 3 i))), (0, .ref (ad 0))]) hx hb i 1 dX9_weights_21 hl (k := 1) rfl (by decide) rfl (fun ls hl => ?_)
      refine lv_goto (tgt := 4) hx hb dX9_weights_24 (by decide) ?_
      exact ih4 _ (by omega) (i + 1) _ _ _ rfl (by omega) h (lv_sub hl [0, 1, 2] rfl)
  exact L4_0 _ 0 _ _ _ rfl (by omega) h (lv_sub hl [0, 1, 2] rfl)
set_option maxHeartbeats 4000000 in
set_option maxRecDepth 100000 in
theorem kX9_carriedNow (l : Launch) (D : va_G) (ct : Nat → ClassId) (ad : Nat → Nat) (σ : Nat → Nat → Int32) (τ : Nat → Nat → Int64) (n c : Nat) (kd : Nat → Nat) (hok : MOK σ n c kd)  : MI l yX9_carriedNow (gWs yX9_carriedNow cX9_carriedNow 3 (some .int)) rmX9_carriedNow D ct gNo [.ref (ad 0)] (wM ad ct σ τ) (fun _ : Unit => (wM ad ct σ τ)) (fun r _ => r = nI (cntTo (fun q => sgn (smM σ n c kd q) = 1) 3)) := by
  refine MI.ofI RX9 rfl (by decide) (Nat.le_of_ble_eq_true rfl) ?_
  intro zp ze zs zm za zb zt zc zA ls zQ C h hX hl hret
  have hx := C.1
  have hb := C.2.1
  have hl : lv_has ls 3 [(0, .ref (ad 0))] := hl
  have hok0 := hok
  obtain ⟨hn, hn8, hc, hc8, hkd⟩ := hok0
  refine lv_iconst (v := 0) hx hb dX9_carriedNow_0 (by decide) ?_
  refine lv_istore_n (lv' := [(1, .int 0), (0, .ref (ad 0))]) hx hb dX9_carriedNow_1 rfl hl (by decide) rfl (fun ls hl => ?_)
  refine lv_iconst (v := 0) hx hb dX9_carriedNow_2 (by decide) ?_
  refine lv_istore_n (lv' := [(2, .int 0), (1, .int 0), (0, .ref (ad 0))]) hx hb dX9_carriedNow_3 rfl hl (by decide) rfl (fun ls hl => ?_)
  have L4_0 : ∀ (kk : Nat) (i : Nat) (H : Heap) (ll : List Loc) (ls : Array Slot), 3 - i = kk → (i ≤ 3) → gW D ct zA zs H ll (wM ad ct σ τ) → lv_has ls 3 [(2, .int (nI i)), (1, .int (nI (cntTo (fun q => sgn (smM σ n c kd q) = 1) i))), (0, .ref (ad 0))] → W zp l ze rmX9_carriedNow zs zm za zb zt zc H ll 0 0 zQ (F0 zm 4 ls []) := by
    intro kk4
    induction kk4 using Nat.strongRecOn with
    | _ kk4 ih4 =>
    intro i H ll ls hk4 hi h hl
    refine lv_iload_n hx hb dX9_carriedNow_4 rfl (lv_at hl 0 rfl) ?_
    refine lv_iconst (v := 3) hx hb dX9_carriedNow_5 (by decide) ?_
    refine nb_ge hx hb i 3 (by omega) (by omega) (tgt := 32) dX9_carriedNow_6 (by decide) (fun c_6 => ?_) (fun c_6 => ?_)
    · refine lv_iload_n hx hb dX9_carriedNow_32 rfl (lv_at hl 1 rfl) ?_
      exact hret _ () _ _ _ _ h (by rw [show i = 3 by omega]) dX9_carriedNow_33
    · refine lv_iload_n hx hb dX9_carriedNow_9 rfl (lv_at hl 1 rfl) ?_
      refine lv_aload_n hx hb dX9_carriedNow_10 rfl (lv_at hl 2 rfl) ?_
      refine lv_iload_n hx hb dX9_carriedNow_11 rfl (lv_at hl 0 rfl) ?_
      refine gcallVi C h trivial gNo_ok (kX9_outOf l D ct ad σ τ n c kd hok i (by omega)) (cwV 1 C.2.2.2.2 (gInV q924 q926 q35 q66 q927) rfl rfl rfl hvX9_outOf ⟨Nat.le_of_ble_eq_true rfl, Nat.le_of_ble_eq_true rfl⟩) 0 (wM_o ad ct σ τ) rfl rfl rfl hl.1 rfl (Nat.le_of_ble_eq_true rfl) dX9_carriedNow_12 ⟨Nat.zero_le _, Nat.zero_le _⟩ (fun r9 u9 H ll hw h => ?_)
      have hw : r9 = sgn (smM σ n c kd i) := hw
      subst hw
      have h : gW D ct zA zs _ _ (wM ad ct σ τ) := h
      refine lv_iconst (v := 1) hx hb dX9_carriedNow_15 (by decide) ?_
      refine lv_icmp_ne (tgt := 23) hx hb dX9_carriedNow_16 (by decide) (fun c_16 => ?_) (fun c_16 => ?_)
      · refine lv_iconst (v := 0) hx hb dX9_carriedNow_23 (by decide) ?_
        refine nadd hx hb (cntTo (fun q => sgn (smM σ n c kd q) = 1) i) 0 dX9_carriedNow_24 ?_
        refine lv_istore_n (lv' := [(1, .int (nI ((cntTo (fun q => sgn (smM σ n c kd q) = 1) i) + 0))), (2, .int (nI i)), (0, .ref (ad 0))]) hx hb dX9_carriedNow_25 rfl hl (by decide) rfl (fun ls hl => ?_)
        refine ninc (lv' := [(2, .int (nI (i + 1))), (1, .int (nI ((cntTo (fun q => sgn (smM σ n c kd q) = 1) i) + 0))), (0, .ref (ad 0))]) hx hb i 1 dX9_carriedNow_26 hl (k := 1) rfl (by decide) rfl (fun ls hl => ?_)
        refine lv_goto (tgt := 4) hx hb dX9_carriedNow_29 (by decide) ?_
        have e9 : cntTo (fun q => sgn (smM σ n c kd q) = 1) (i + 1) = (cntTo (fun q => sgn (smM σ n c kd q) = 1) i) + 0 := by simp [cntTo, c_16]
        rw [← e9] at hl
        exact ih4 _ (by omega) (i + 1) _ _ _ rfl (by omega) h (lv_sub hl [0, 1, 2] rfl)
      · refine lv_iconst (v := 1) hx hb dX9_carriedNow_19 (by decide) ?_
        refine lv_goto (tgt := 24) hx hb dX9_carriedNow_20 (by decide) ?_
        refine nadd hx hb (cntTo (fun q => sgn (smM σ n c kd q) = 1) i) 1 dX9_carriedNow_24 ?_
        refine lv_istore_n (lv' := [(1, .int (nI ((cntTo (fun q => sgn (smM σ n c kd q) = 1) i) + 1))), (2, .int (nI i)), (0, .ref (ad 0))]) hx hb dX9_carriedNow_25 rfl hl (by decide) rfl (fun ls hl => ?_)
        refine ninc (lv' := [(2, .int (nI (i + 1))), (1, .int (nI ((cntTo (fun q => sgn (smM σ n c kd q) = 1) i) + 1))), (0, .ref (ad 0))]) hx hb i 1 dX9_carriedNow_26 hl (k := 1) rfl (by decide) rfl (fun ls hl => ?_)
        refine lv_goto (tgt := 4) hx hb dX9_carriedNow_29 (by decide) ?_
        have e9 : cntTo (fun q => sgn (smM σ n c kd q) = 1) (i + 1) = (cntTo (fun q => sgn (smM σ n c kd q) = 1) i) + 1 := by simp [cntTo, c_16]
        rw [← e9] at hl
        exact ih4 _ (by omega) (i + 1) _ _ _ rfl (by omega) h (lv_sub hl [0, 1, 2] rfl)
  exact L4_0 _ 0 _ _ _ rfl (by omega) h (lv_sub hl [0, 1, 2] rfl)
set_option maxHeartbeats 4000000 in
set_option maxRecDepth 100000 in
theorem kX9_leansTold (l : Launch) (D : va_G) (ct : Nat → ClassId) (ad : Nat → Nat) (σ : Nat → Nat → Int32) (τ : Nat → Nat → Int64) (n c : Nat) (kd : Nat → Nat) (hok : MOK σ n c kd)  : ML l yX9_leansTold (gWs yX9_leansTold cX9_leansTold 4 (some .long)) rmX9_leansTold D ct gNo [.ref (ad 0)] (wM ad ct σ τ) (fun _ : Unit => (wM ad ct σ τ)) (fun r _ => r = tellM (σ 4) (3 * n)) := by
  refine ML.of RX9 rfl (by decide) (Nat.le_of_ble_eq_true rfl) ?_
  intro zp ze zs zm za zb zt zc zA ls zQ C h hX hl hret
  have hx := C.1
  have hb := C.2.1
  have hl : lv_has ls 4 [(0, .ref (ad 0))] := hl
  have hok0 := hok
  obtain ⟨hn, hn8, hc, hc8, hkd⟩ := hok0
  refine lv_lconst (v := 0) hx hb dX9_leansTold_0 (by decide) ?_
  refine lv_lstore_n (lv' := [(1, .long 0), (0, .ref (ad 0))]) hx hb dX9_leansTold_1 rfl hl (by decide) rfl (fun ls hl => ?_)
  refine lv_iconst (v := 0) hx hb dX9_leansTold_2 (by decide) ?_
  refine lv_istore_n (lv' := [(3, .int 0), (1, .long 0), (0, .ref (ad 0))]) hx hb dX9_leansTold_3 rfl hl (by decide) rfl (fun ls hl => ?_)
  have L4_0 : ∀ (kk : Nat) (i : Nat) (H : Heap) (ll : List Loc) (ls : Array Slot), 3 * n - i = kk → (i ≤ 3 * n) → gW D ct zA zs H ll (wM ad ct σ τ) → lv_has ls 4 [(3, .int (nI i)), (1, .long (tellM (σ 4) i)), (0, .ref (ad 0))] → W zp l ze rmX9_leansTold zs zm za zb zt zc H ll 0 0 zQ (F0 zm 4 ls []) := by
    intro kk4
    induction kk4 using Nat.strongRecOn with
    | _ kk4 ih4 =>
    intro i H ll ls hk4 hi h hl
    refine lv_iload_n hx hb dX9_leansTold_4 rfl (lv_at hl 0 rfl) ?_
    refine lv_iconst (v := 3) hx hb dX9_leansTold_5 (by decide) ?_
    refine lv_aload_n hx hb dX9_leansTold_6 rfl (lv_at hl 2 rfl) ?_
    refine mg_mussels C h dX9_leansTold_7 ?_
    refine gas hn ?_
    refine nmul hx hb 3 n dX9_leansTold_10 ?_
    refine nb_ge hx hb i (3 * n) (by omega) (by omega) (tgt := 36) dX9_leansTold_11 (by decide) (fun c_11 => ?_) (fun c_11 => ?_)
    · refine lv_lload_n hx hb dX9_leansTold_36 rfl (lv_at hl 1 rfl) ?_
      exact hret _ () _ _ _ _ h (by rw [show i = 3 * n by omega]) dX9_leansTold_37
    · refine lv_ldc2 (v := 3) hx hb C.2.2.2.1 (C.2.2.2.2 _ (gWs_in q1033)) dX9_leansTold_14 ?_
      refine lv_lload_n hx hb dX9_leansTold_17 rfl (lv_at hl 1 rfl) ?_
      refine lv_lmul hx hb dX9_leansTold_18 ?_
      refine lv_aload_n hx hb dX9_leansTold_19 rfl (lv_at hl 2 rfl) ?_
      refine mg_leanOf C h dX9_leansTold_20 ?_
      refine lv_iload_n hx hb dX9_leansTold_23 rfl (lv_at hl 0 rfl) ?_
      refine ml_leanOf C h (j := i) (by omega) dX9_leansTold_24 ?_
      refine lv_i2l (v := (σ 4 i).toInt64) hx hb dX9_leansTold_25 rfl ?_
      refine lv_ladd hx hb dX9_leansTold_26 ?_
      refine lv_lconst (v := 1) hx hb dX9_leansTold_27 (by decide) ?_
      refine lv_ladd hx hb dX9_leansTold_28 ?_
      refine lv_lstore_n (lv' := [(1, .long (((3 * (tellM (σ 4) i)) + ((σ 4 i).toInt64)) + 1)), (3, .int (nI i)), (0, .ref (ad 0))]) hx hb dX9_leansTold_29 rfl hl (by decide) rfl (fun ls hl => ?_)
      refine ninc (lv' := [(3, .int (nI (i + 1))), (1, .long (((3 * (tellM (σ 4) i)) + ((σ 4 i).toInt64)) + 1)), (0, .ref (ad 0))]) hx hb i 1 dX9_leansTold_30 hl (k := 1) rfl (by decide) rfl (fun ls hl => ?_)
      refine lv_goto (tgt := 4) hx hb dX9_leansTold_33 (by decide) ?_
      exact ih4 _ (by omega) (i + 1) _ _ _ rfl (by omega) h (lv_sub hl [0, 1, 2] rfl)
  exact L4_0 _ 0 _ _ _ rfl (by omega) h (lv_sub hl [0, 1, 2] rfl)
set_option maxHeartbeats 4000000 in
set_option maxRecDepth 100000 in
theorem kX9_otherwise (l : Launch) (D : va_G) (ct : Nat → ClassId) (ad : Nat → Nat) (σ : Nat → Nat → Int32) (τ : Nat → Nat → Int64) (n c : Nat) (kd : Nat → Nat) (hok : MOK σ n c kd) (q : Nat) (hq : q < 3) : MI l yX9_otherwise (gWs yX9_otherwise cX9_otherwise 4 (some .int)) rmX9_otherwise D ct gNo [.ref (ad 0), .int (nI q)] (wM ad ct σ τ) (fun _ : Unit => (wM ad ct σ τ)) (fun r _ => r = nI (obits (σ 4) (σ 19) q n)) := by
  refine MI.ofI RX9 rfl (by decide) (Nat.le_of_ble_eq_true rfl) ?_
  intro zp ze zs zm za zb zt zc zA ls zQ C h hX hl hret
  have hx := C.1
  have hb := C.2.1
  have hl : lv_has ls 4 [(0, .ref (ad 0)), (1, .int (nI q))] := hl
  have hok0 := hok
  obtain ⟨hn, hn8, hc, hc8, hkd⟩ := hok0
  refine lv_iconst (v := 0) hx hb dX9_otherwise_0 (by decide) ?_
  refine lv_istore_n (lv' := [(2, .int 0), (0, .ref (ad 0)), (1, .int (nI q))]) hx hb dX9_otherwise_1 rfl hl (by decide) rfl (fun ls hl => ?_)
  refine lv_iconst (v := 0) hx hb dX9_otherwise_2 (by decide) ?_
  refine lv_istore_n (lv' := [(3, .int 0), (2, .int 0), (0, .ref (ad 0)), (1, .int (nI q))]) hx hb dX9_otherwise_3 rfl hl (by decide) rfl (fun ls hl => ?_)
  have L4_0 : ∀ (kk : Nat) (i : Nat) (H : Heap) (ll : List Loc) (ls : Array Slot), n - i = kk → (i ≤ n) → gW D ct zA zs H ll (wM ad ct σ τ) → lv_has ls 4 [(3, .int (nI i)), (2, .int (nI (obits (σ 4) (σ 19) q i))), (0, .ref (ad 0)), (1, .int (nI q))] → W zp l ze rmX9_otherwise zs zm za zb zt zc H ll 0 0 zQ (F0 zm 4 ls []) := by
    intro kk4
    induction kk4 using Nat.strongRecOn with
    | _ kk4 ih4 =>
    intro i H ll ls hk4 hi h hl
    refine lv_iload_n hx hb dX9_otherwise_4 rfl (lv_at hl 0 rfl) ?_
    refine lv_aload_n hx hb dX9_otherwise_5 rfl (lv_at hl 2 rfl) ?_
    refine mg_mussels C h dX9_otherwise_6 ?_
    refine gas hn ?_
    refine nb_ge hx hb i n (by omega) (by omega) (tgt := 51) dX9_otherwise_9 (by decide) (fun c_9 => ?_) (fun c_9 => ?_)
    · refine lv_iload_n hx hb dX9_otherwise_51 rfl (lv_at hl 1 rfl) ?_
      exact hret _ () _ _ _ _ h (by rw [show i = n by omega]) dX9_otherwise_52
    · refine lv_iload_n hx hb dX9_otherwise_12 rfl (lv_at hl 1 rfl) ?_
      refine lv_aload_n hx hb dX9_otherwise_13 rfl (lv_at hl 2 rfl) ?_
      refine mg_leanOf C h dX9_otherwise_14 ?_
      refine lv_iconst (v := 3) hx hb dX9_otherwise_17 (by decide) ?_
      refine lv_iload_n hx hb dX9_otherwise_18 rfl (lv_at hl 0 rfl) ?_
      refine nmul hx hb 3 i dX9_otherwise_19 ?_
      refine lv_iload_n hx hb dX9_otherwise_20 rfl (lv_at hl 3 rfl) ?_
      refine nadd hx hb (3 * i) q dX9_otherwise_21 ?_
      refine ml_leanOf C h (j := (3 * i) + q) (by omega) dX9_otherwise_22 ?_
      refine lv_aload_n hx hb dX9_otherwise_23 rfl (lv_at hl 2 rfl) ?_
      refine mg_savedLean C h dX9_otherwise_24 ?_
      refine lv_iconst (v := 3) hx hb dX9_otherwise_27 (by decide) ?_
      refine lv_iload_n hx hb dX9_otherwise_28 rfl (lv_at hl 0 rfl) ?_
      refine nmul hx hb 3 i dX9_otherwise_29 ?_
      refine lv_iload_n hx hb dX9_otherwise_30 rfl (lv_at hl 3 rfl) ?_
      refine nadd hx hb (3 * i) q dX9_otherwise_31 ?_
      refine ml_savedLean C h (j := (3 * i) + q) (by omega) dX9_otherwise_32 ?_
      refine lv_icmp_ne (tgt := 40) hx hb dX9_otherwise_33 (by decide) (fun c_33 => ?_) (fun c_33 => ?_)
      · refine lv_iconst (v := 1) hx hb dX9_otherwise_40 (by decide) ?_
        refine lv_iload_n hx hb dX9_otherwise_41 rfl (lv_at hl 0 rfl) ?_
        refine nshl hx hb 1 i (by omega) (by have := pow_lt8 i (by omega); omega) dX9_otherwise_42 ?_
        refine nor hx hb (obits (σ 4) (σ 19) q i) (1 * 2 ^ i) dX9_otherwise_43 ?_
        refine lv_istore_n (lv' := [(2, .int (nI ((obits (σ 4) (σ 19) q i) ||| (1 * 2 ^ i)))), (3, .int (nI i)), (0, .ref (ad 0)), (1, .int (nI q))]) hx hb dX9_otherwise_44 rfl hl (by decide) rfl (fun ls hl => ?_)
        refine ninc (lv' := [(3, .int (nI (i + 1))), (2, .int (nI ((obits (σ 4) (σ 19) q i) ||| (1 * 2 ^ i)))), (0, .ref (ad 0)), (1, .int (nI q))]) hx hb i 1 dX9_otherwise_45 hl (k := 1) rfl (by decide) rfl (fun ls hl => ?_)
        refine lv_goto (tgt := 4) hx hb dX9_otherwise_48 (by decide) ?_
        have e9 : obits (σ 4) (σ 19) q (i + 1) = (obits (σ 4) (σ 19) q i) ||| (1 * 2 ^ i) := by simp [obits, c_33]
        rw [← e9] at hl
        exact ih4 _ (by omega) (i + 1) _ _ _ rfl (by omega) h (lv_sub hl [0, 1, 2, 3] rfl)
      · refine lv_iconst (v := 0) hx hb dX9_otherwise_36 (by decide) ?_
        refine lv_goto (tgt := 43) hx hb dX9_otherwise_37 (by decide) ?_
        refine nor hx hb (obits (σ 4) (σ 19) q i) 0 dX9_otherwise_43 ?_
        refine lv_istore_n (lv' := [(2, .int (nI ((obits (σ 4) (σ 19) q i) ||| 0))), (3, .int (nI i)), (0, .ref (ad 0)), (1, .int (nI q))]) hx hb dX9_otherwise_44 rfl hl (by decide) rfl (fun ls hl => ?_)
        refine ninc (lv' := [(3, .int (nI (i + 1))), (2, .int (nI ((obits (σ 4) (σ 19) q i) ||| 0))), (0, .ref (ad 0)), (1, .int (nI q))]) hx hb i 1 dX9_otherwise_45 hl (k := 1) rfl (by decide) rfl (fun ls hl => ?_)
        refine lv_goto (tgt := 4) hx hb dX9_otherwise_48 (by decide) ?_
        have e9 : obits (σ 4) (σ 19) q (i + 1) = (obits (σ 4) (σ 19) q i) ||| 0 := by simp [obits, c_33]
        rw [← e9] at hl
        exact ih4 _ (by omega) (i + 1) _ _ _ rfl (by omega) h (lv_sub hl [0, 1, 2, 3] rfl)
  exact L4_0 _ 0 _ _ _ rfl (by omega) h (lv_sub hl [0, 1, 2, 3] rfl)
set_option maxHeartbeats 4000000 in
set_option maxRecDepth 100000 in
theorem kX9_draw (l : Launch) (D : va_G) (ct : Nat → ClassId) (ad : Nat → Nat) (σ : Nat → Nat → Int32) (τ : Nat → Nat → Int64) (sd : Nat) (hsd : τ 22 0 = lN sd) (d : Nat) (hd0 : 0 < d) (hd1 : d < 9) : MI l yX9_draw (gWs yX9_draw cX9_draw 2 (some .int)) rmX9_draw D ct gNo [.ref (ad 0), .int (nI d)] (wM ad ct σ τ) (fun u : (Nat → Nat → Int32) × (Nat → Nat → Int64) => wM ad ct u.1 u.2) (fun r u => r = nI (nxs sd / 65536 % d) ∧ u = (σ, va_up τ 22 (fun _ => lN (nxs sd)))) := by
  refine MI.ofI RX9 rfl (by decide) (Nat.le_of_ble_eq_true rfl) ?_
  intro zp ze zs zm za zb zt zc zA ls zQ C h hX hl hret
  have hx := C.1
  have hb := C.2.1
  have hl : lv_has ls 2 [(0, .ref (ad 0)), (1, .int (nI d))] := hl
  refine lv_aload_n hx hb dX9_draw_0 rfl (lv_at hl 0 rfl) ?_
  refine lv_ldc2 (v := 1103515245) hx hb C.2.2.2.1 (C.2.2.2.2 _ (gWs_in q1054)) dX9_draw_1 ?_
  refine lv_aload_n hx hb dX9_draw_4 rfl (lv_at hl 0 rfl) ?_
  refine mg_seedNow C h dX9_draw_5 ?_
  refine lv_lmul hx hb dX9_draw_8 ?_
  refine lv_ldc2 (v := 12345) hx hb C.2.2.2.1 (C.2.2.2.2 _ (gWs_in q1055)) dX9_draw_9 ?_
  refine lv_ladd hx hb dX9_draw_12 ?_
  refine lv_ldc2 (v := 2147483647) hx hb C.2.2.2.1 (C.2.2.2.2 _ (gWs_in q1056)) dX9_draw_13 ?_
  refine lv_land hx hb dX9_draw_16 ?_
  refine gasl (z := lN (nxs sd)) (by rw [hsd]; exact seed_eq sd) ?_
  refine mp_seedNow C h dX9_draw_17 (fun H ll h => ?_)
  refine lv_aload_n hx hb dX9_draw_20 rfl (lv_at hl 0 rfl) ?_
  refine mg_seedNow C h dX9_draw_21 ?_
  refine lv_ldc2 (v := 65536) hx hb C.2.2.2.1 (C.2.2.2.2 _ (gWs_in q1057)) dX9_draw_24 ?_
  refine lv_ldiv hx hb dX9_draw_27 (by decide) ?_
  refine lv_iload_n hx hb dX9_draw_28 rfl (lv_at hl 1 rfl) ?_
  refine lv_i2l (v := (nI d).toInt64) hx hb dX9_draw_29 rfl ?_
  refine lv_lrem hx hb dX9_draw_30 (ne_long hd0 (by omega)) ?_
  refine lv_l2i (v := (((lN (nxs sd)) / 65536) - ((lN (nxs sd)) / 65536) / ((nI d).toInt64) * ((nI d).toInt64)).toInt32) hx hb dX9_draw_31 rfl ?_
  refine gas (draw_eq (nxs_lt sd) hd0 (by omega)) ?_
  have h : gW D ct zA zs _ _ (wM ad ct σ (va_up τ 22 (fun _ => lN (nxs sd)))) := h
  exact hret _ (σ, va_up τ 22 (fun _ => lN (nxs sd))) _ _ _ _ h ⟨rfl, rfl⟩ dX9_draw_32
set_option maxHeartbeats 4000000 in
set_option maxRecDepth 100000 in
theorem kX9_isLean (l : Launch) (D : va_G) (ct : Nat → ClassId) (x : Int32) : MI l yX9_isLean (gWs yX9_isLean cX9_isLean 1 (some .boolean)) rmX9_isLean D ct gNo [.int x] [] (fun _ : Unit => []) (fun r _ => r = (if x = 43 ∨ x = 45 ∨ x = 48 then 1 else 0)) := by
  refine MI.ofZ RX9 rfl (by decide) (Nat.le_of_ble_eq_true rfl) ?_
  intro zp ze zs zm za zb zt zc zA ls zQ C h hX hl hret
  have hx := C.1
  have hb := C.2.1
  have hl : lv_has ls 1 [(0, .int x)] := hl
  refine lv_iload_n hx hb dX9_isLean_0 rfl (lv_at hl 0 rfl) ?_
  refine lv_bipush (v := 43) hx hb dX9_isLean_1 (by decide) ?_
  refine lv_icmp_eq (tgt := 18) hx hb dX9_isLean_3 (by decide) (fun c_3 => ?_) (fun c_3 => ?_)
  · refine lv_iconst (v := 1) hx hb dX9_isLean_18 (by decide) ?_
    refine lv_goto (tgt := 23) hx hb dX9_isLean_19 (by decide) ?_
    exact hret _ () _ _ _ _ h (by simp [c_3]) dX9_isLean_23 (by decide)
  · refine lv_iload_n hx hb dX9_isLean_6 rfl (lv_at hl 0 rfl) ?_
    refine lv_bipush (v := 45) hx hb dX9_isLean_7 (by decide) ?_
    refine lv_icmp_eq (tgt := 18) hx hb dX9_isLean_9 (by decide) (fun c_9 => ?_) (fun c_9 => ?_)
    · refine lv_iconst (v := 1) hx hb dX9_isLean_18 (by decide) ?_
      refine lv_goto (tgt := 23) hx hb dX9_isLean_19 (by decide) ?_
      exact hret _ () _ _ _ _ h (by simp [c_3, c_9]) dX9_isLean_23 (by decide)
    · refine lv_iload_n hx hb dX9_isLean_12 rfl (lv_at hl 0 rfl) ?_
      refine lv_bipush (v := 48) hx hb dX9_isLean_13 (by decide) ?_
      refine lv_icmp_ne (tgt := 22) hx hb dX9_isLean_15 (by decide) (fun c_15 => ?_) (fun c_15 => ?_)
      · refine lv_iconst (v := 0) hx hb dX9_isLean_22 (by decide) ?_
        exact hret _ () _ _ _ _ h (by simp [c_3, c_9, c_15]) dX9_isLean_23 (by decide)
      · refine lv_iconst (v := 1) hx hb dX9_isLean_18 (by decide) ?_
        refine lv_goto (tgt := 23) hx hb dX9_isLean_19 (by decide) ?_
        exact hret _ () _ _ _ _ h (by simp [c_3, c_9, c_15]) dX9_isLean_23 (by decide)
