theorem lgc0 {x y : Int64} : lg_cmp x y = 0 ↔ x = y := by
  unfold lg_cmp
  constructor
  · intro h
    by_cases h1 : x > y
    · rw [if_pos h1] at h; exact absurd h (by decide)
    · rw [if_neg h1] at h
      by_cases h2 : x = y
      · exact h2
      · rw [if_neg h2] at h; exact absurd h (by decide)
  · intro h
    subst h
    rw [if_neg (by exact Int64.lt_irrefl), if_pos rfl]
theorem dec1 (x : Int32) : x + Int32.ofInt (-1) = x - 1 := by rw [Int32.sub_eq_add_neg]; rfl
/-- leans behind i tides -/
def itM (σ : Nat → Nat → Int32) (n c : Nat) (kd : Nat → Nat) : Nat → Nat → Int32
  | 0 => σ 4
  | i + 1 => td4 (va_up σ 4 (itM σ n c kd i)) n c kd
def hsM (σ : Nat → Nat → Int32) (n c : Nat) (kd : Nat → Nat) (i : Nat) : Int64 := tellM (itM σ n c kd i) (3 * n)
/-- the least k of those looked at (i - 1 first, d of them) that has what i has -/
def dnx (h : Nat → Int64) (i : Nat) : Nat → Option Nat
  | 0 => none
  | d + 1 => if h (i - 1 - d) = h i then some (i - 1 - d) else dnx h i d
def stlF (h : Nat → Int64) : Nat → Nat → Nat
  | 0, i => i
  | f + 1, i => if dnx h i i = none then stlF h f (i + 1) else i
def stlR (h : Nat → Int64) (t : Nat) : Int32 := if t = 0 then nI (stlF h 99 0) else bI (dnx h (stlF h 99 0) (stlF h 99 0))
theorem updLk {g f : Nat → Int64} {i : Nat} {x : Int64} (h : ∀ j, j < i → g j = f j) (hx : x = f i) : ∀ j, j < i + 1 → vp_updL g i x j = f j := fun j hj => by
  by_cases e : j = i
  · subst e; rw [pk_uLs]; exact hx
  · rw [pk_uLn e]; exact h j (by omega)
def trnL (x : Int32) : Int32 := if x = 1 then -1 else x + 1
/-- tides by a seed: leans, the seed, how often carried, all sums -/
def tsM (σ : Nat → Nat → Int32) (n c : Nat) (kd : Nat → Nat) (sd : Nat) : Nat → (Nat → Int32) × Nat × Nat × Int32
  | 0 => (σ 4, sd, 0, 0)
  | k + 1 => (td4 (va_up σ 4 (upd (tsM σ n c kd sd k).1 (3 * (nxs (nxs (tsM σ n c kd sd k).2.1) / 65536 % n) + nxs (tsM σ n c kd sd k).2.1 / 65536 % 3) (trnL ((tsM σ n c kd sd k).1 (3 * (nxs (nxs (tsM σ n c kd sd k).2.1) / 65536 % n) + nxs (tsM σ n c kd sd k).2.1 / 65536 % 3))))) n c kd,
      nxs (nxs (tsM σ n c kd sd k).2.1),
      (tsM σ n c kd sd k).2.2.1 + (if sgn (smM (va_up σ 4 (tsM σ n c kd sd k).1) n c kd (nxs (tsM σ n c kd sd k).2.1 / 65536 % 3)) = 1 then 1 else 0),
      (tsM σ n c kd sd k).2.2.2 + smM (va_up σ 4 (tsM σ n c kd sd k).1) n c kd (nxs (tsM σ n c kd sd k).2.1 / 65536 % 3))
def tsR (σ : Nat → Nat → Int32) (n c : Nat) (kd : Nat → Nat) (tm sd t : Nat) : Int32 := if t = 0 then nI (tsM σ n c kd sd tm).2.2.1 else if t = 1 then (tsM σ n c kd sd tm).2.2.2 + 10000 else nI (tsM σ n c kd sd tm).2.1
def lsM (σ : Nat → Nat → Int32) (n c : Nat) (kd : Nat → Nat) (m q : Nat) : Nat → Int32 := fun k => smM (va_up σ 4 (upd (σ 4) (3 * m + q) (1 - nI k))) n c kd q + 200
/-- whether all that is seen allows a sum -/
def seeM (σ : Nat → Nat → Int32) (m q : Nat) (x : Int32) : Nat → Bool
  | 0 => true
  | e + 1 => seeM σ m q x e && decide (¬ σ 11 e = nI m ∨ ¬ σ 12 e = nI q ∨ σ 13 e = x)
def lvB (σ : Nat → Nat → Int32) (n c : Nat) (kd : Nat → Nat) (sn m q : Nat) : Nat → Nat
  | 0 => 0
  | k + 1 => lvB σ n c kd sn m q k ||| (if seeM σ m q (lsM σ n c kd m q k) sn = true then 1 * 2 ^ k else 0)
theorem lvB_lt (σ : Nat → Nat → Int32) (n c : Nat) (kd : Nat → Nat) (sn m q : Nat) : ∀ k, lvB σ n c kd sn m q k < 2 ^ k
  | 0 => by show 0 < 1; decide
  | k + 1 => by
    simp only [lvB]
    have h := lvB_lt σ n c kd sn m q k
    have e : 2 ^ (k + 1) = 2 ^ k * 2 := Nat.pow_succ 2 k
    apply Nat.or_lt_two_pow (by omega)
    split <;> omega
def cntW (S : Nat → Int32) (b a : Nat) : Nat → Nat
  | 0 => 0
  | k + 1 => cntW S b a k + (if b.testBit a = true ∧ b.testBit k = true ∧ S a = S k then 1 else 0)
theorem cntW_le (S : Nat → Int32) (b a : Nat) : ∀ k, cntW S b a k ≤ k
  | 0 => Nat.le_refl 0
  | k + 1 => by have h := cntW_le S b a k; simp only [cntW]; split <;> omega
def mxW (S : Nat → Int32) (b : Nat) : Nat → Nat
  | 0 => 0
  | a + 1 => if mxW S b a < cntW S b a 3 then cntW S b a 3 else mxW S b a
theorem mxW_le (S : Nat → Int32) (b : Nat) : ∀ k, mxW S b k ≤ 3
  | 0 => by show 0 ≤ 3; decide
  | k + 1 => by have h := mxW_le S b k; have h2 := cntW_le S b k 3; simp only [mxW]; split <;> omega
def akM (σ : Nat → Nat → Int32) (n c : Nat) (kd : Nat → Nat) (sn m : Nat) : Nat → Option Nat × Nat
  | 0 => (none, 268435456)
  | q + 1 => if mxW (lsM σ n c kd m q) (lvB σ n c kd sn m q 3) 3 < pcn (lvB σ n c kd sn m q 3) 8 ∧ mxW (lsM σ n c kd m q) (lvB σ n c kd sn m q 3) 3 < (akM σ n c kd sn m q).2 then (some q, mxW (lsM σ n c kd m q) (lvB σ n c kd sn m q 3) 3) else akM σ n c kd sn m q
theorem akM_le (σ : Nat → Nat → Int32) (n c : Nat) (kd : Nat → Nat) (sn m : Nat) : ∀ q, (akM σ n c kd sn m q).2 ≤ 268435456
  | 0 => Nat.le_refl _
  | q + 1 => by
    have h := akM_le σ n c kd sn m q
    have h2 := mxW_le (lsM σ n c kd m q) (lvB σ n c kd sn m q 3) 3
    simp only [akM]
    split
    · show mxW _ _ 3 ≤ _; omega
    · exact h
theorem leM_congr {σ ρ : Nat → Nat → Int32} (h4 : ρ 4 = σ 4) : leM ρ = leM σ := by funext m q; unfold leM; rw [h4]
theorem plM_congr {σ ρ : Nat → Nat → Int32} (h3 : ρ 3 = σ 3) (h4 : ρ 4 = σ 4) (n c : Nat) (kd : Nat → Nat) (q m : Nat) : plM ρ n c kd q m = plM σ n c kd q m := by unfold plM; rw [h3, leM_congr h4]
theorem smM_congr {σ ρ : Nat → Nat → Int32} (h3 : ρ 3 = σ 3) (h4 : ρ 4 = σ 4) (n c : Nat) (kd : Nat → Nat) (q : Nat) : smM ρ n c kd q = smM σ n c kd q := by
  unfold smM; rw [show plM ρ n c kd q = plM σ n c kd q from funext (fun m => plM_congr h3 h4 n c kd q m)]
theorem lsM_congr {σ ρ : Nat → Nat → Int32} (h3 : ρ 3 = σ 3) (h4 : ρ 4 = σ 4) (n c : Nat) (kd : Nat → Nat) (m q : Nat) : lsM ρ n c kd m q = lsM σ n c kd m q := by
  funext k; unfold lsM; rw [h4, smM_congr (σ := va_up σ 4 (upd (σ 4) (3 * m + q) (1 - nI k))) (ρ := va_up ρ 4 (upd (σ 4) (3 * m + q) (1 - nI k))) h3 rfl]
theorem seeM_congr {σ ρ : Nat → Nat → Int32} (ha : ρ 11 = σ 11) (hb : ρ 12 = σ 12) (hc : ρ 13 = σ 13) (m q : Nat) (x : Int32) : ∀ e, seeM ρ m q x e = seeM σ m q x e
  | 0 => rfl
  | e + 1 => by simp only [seeM]; rw [seeM_congr ha hb hc m q x e, ha, hb, hc]
theorem lvB_congr {σ ρ : Nat → Nat → Int32} (h3 : ρ 3 = σ 3) (h4 : ρ 4 = σ 4) (ha : ρ 11 = σ 11) (hb : ρ 12 = σ 12) (hc : ρ 13 = σ 13) {n c : Nat} {kd : Nat → Nat} {sn m q : Nat} : ∀ {k}, lvB ρ n c kd sn m q k = lvB σ n c kd sn m q k
  | 0 => rfl
  | k + 1 => by simp only [lvB]; rw [lvB_congr h3 h4 ha hb hc (k := k), lsM_congr h3 h4, seeM_congr ha hb hc]
theorem dnx_some {h : Nat → Int64} {i : Nat} : ∀ {d j : Nat}, dnx h i d = some j → j ≤ i
  | 0, j, e => by cases e
  | d + 1, j, e => by
    simp only [dnx] at e
    split at e
    · cases e; omega
    · exact dnx_some e
theorem dnx_lt {h : Nat → Int64} {i d j : Nat} (e : dnx h i d = some j) : j ≤ i := dnx_some e
theorem stl_end {h : Nat → Int64} {i : Nat} {b : Option Nat} (hi : i ≤ 99) (hb : b = dnx h i i) (hx : i = 99 ∨ ∃ j, b = some j) : stlF h (99 - i) i = i := by
  rcases hx with hx | ⟨j, hx⟩
  · subst hx; rfl
  · rcases (show i = 99 ∨ i < 99 by omega) with q | q
    · subst q; rfl
    · rw [show 99 - i = (99 - (i + 1)) + 1 by omega]
      exact if_neg (by rw [← hb, hx]; exact fun q => by cases q)
set_option maxHeartbeats 4000000 in
set_option maxRecDepth 100000 in
theorem kX9_settleNow (l : Launch) (D : va_G) (ct : Nat → ClassId) (ad : Nat → Nat) (σ : Nat → Nat → Int32) (τ : Nat → Nat → Int64) (n c : Nat) (kd : Nat → Nat) (hok : MOK σ n c kd) (t : Nat) (ht : t < 2) : MI l yX9_settleNow (gWs yX9_settleNow cX9_settleNow 5 (some .int)) rmX9_settleNow D ct gNo [.ref (ad 0), .int (nI t)] (wM ad ct σ τ) (fun u : (Nat → Nat → Int32) × (Nat → Nat → Int64) => wM ad ct u.1 u.2) (fun r u => r = stlR (hsM σ n c kd) t ∧ ∃ (g18 : Nat → Int32) (g20 : Nat → Int64), u = (va_up (va_up (va_up σ 18 g18) 19 (σ 4)) 4 (σ 4), va_up τ 20 g20)) := by
  refine MI.ofI RX9 rfl (by decide) (Nat.le_of_ble_eq_true rfl) ?_
  intro zp ze zs zm za zb zt zc zA ls zQ C h hX hl hret
  have hx := C.1
  have hb := C.2.1
  have hl : lv_has ls 5 [(0, .ref (ad 0)), (1, .int (nI t))] := hl
  have hok0 := hok
  obtain ⟨hn, hn8, hc, hc8, hkd⟩ := hok0
  refine lv_aload_n hx hb dX9_settleNow_0 rfl (lv_at hl 0 rfl) ?_
  refine gcallVv C h trivial gNo_ok (kX9_saveLeans l D ct ad σ τ ) (cwV 0 C.2.2.2.2 (gInV q1009 q1011 q44 q66 q1012) rfl rfl rfl hvX9_saveLeans ⟨Nat.le_of_ble_eq_true rfl, Nat.le_of_ble_eq_true rfl⟩) 0 (wM_o ad ct σ τ) rfl rfl rfl hl.1 rfl (Nat.le_of_ble_eq_true rfl) dX9_settleNow_1 ⟨Nat.zero_le _, Nat.zero_le _⟩ (fun u9 H ll hw h => ?_)
  subst hw
  have h : gW D ct zA zs _ _ (wM ad ct (va_up σ 19 (σ 4)) τ) := h
  refine lv_iconst (v := 0) hx hb dX9_settleNow_4 (by decide) ?_
  refine lv_istore_n (lv' := [(2, .int 0), (0, .ref (ad 0)), (1, .int (nI t))]) hx hb dX9_settleNow_5 rfl hl (by decide) rfl (fun ls hl => ?_)
  refine lv_iconst (v := -1) hx hb dX9_settleNow_6 (by decide) ?_
  refine lv_istore_n (lv' := [(3, .int (-1)), (2, .int 0), (0, .ref (ad 0)), (1, .int (nI t))]) hx hb dX9_settleNow_7 rfl hl (by decide) rfl (fun ls hl => ?_)
  refine lv_aload_n hx hb dX9_settleNow_8 rfl (lv_at hl 2 rfl) ?_
  refine mg_history C h dX9_settleNow_9 ?_
  refine lv_iconst (v := 0) hx hb dX9_settleNow_12 (by decide) ?_
  refine lv_aload_n hx hb dX9_settleNow_13 rfl (lv_at hl 2 rfl) ?_
  refine gcallVl C h trivial gNo_ok (kX9_leansTold l D ct ad (va_up σ 19 (σ 4)) τ n c kd hok) (cwV 0 C.2.2.2.2 (gInV q1029 q1031 q48 q66 q1032) rfl rfl rfl hvX9_leansTold ⟨Nat.le_of_ble_eq_true rfl, Nat.le_of_ble_eq_true rfl⟩) 0 (wM_o ad ct (va_up σ 19 (σ 4)) τ) rfl rfl rfl hl.1 rfl (Nat.le_of_ble_eq_true rfl) dX9_settleNow_14 ⟨Nat.zero_le _, Nat.zero_le _⟩ (fun r9 u9 H ll hw h => ?_)
  have hw : r9 = tellM (σ 4) (3 * n) := hw
  subst hw
  have h : gW D ct zA zs _ _ (wM ad ct (va_up σ 19 (σ 4)) τ) := h
  refine ms_history C h (j := 0) (by omega) dX9_settleNow_17 (fun H ll h => ?_)
  have L18_1 : ∀ (kk : Nat) (i : Nat) (b : Option Nat) (g : Nat → Int32) (hy : Nat → Int64) (H : Heap) (ll : List Loc) (ls : Array Slot), 99 - i = kk → (i ≤ 99) → (b = dnx (hsM σ n c kd) i i) → (stlF (hsM σ n c kd) 99 0 = stlF (hsM σ n c kd) (99 - i) i) → (∀ j, j < i + 1 → hy j = hsM σ n c kd j) → gW D ct zA zs H ll (wM ad ct (va_up (va_up (va_up σ 19 (σ 4)) 4 (itM σ n c kd i)) 18 g) (va_up τ 20 hy)) → lv_has ls 5 [(3, .int (bI b)), (2, .int (nI i)), (0, .ref (ad 0)), (1, .int (nI t))] → W zp l ze rmX9_settleNow zs zm za zb zt zc H ll 0 0 zQ (F0 zm 18 ls []) := by
    intro kk18
    induction kk18 using Nat.strongRecOn with
    | _ kk18 ih18 =>
    intro i b g hy H ll ls hk18 hi hbv hst hhy h hl
    rcases b with _ | j9
    · refine lv_iload_n hx hb dX9_settleNow_18 rfl (lv_at hl 0 rfl) ?_
      refine lv_iconst (v := -1) hx hb dX9_settleNow_19 (by decide) ?_
      refine lv_icmp_ne (tgt := 91) hx hb dX9_settleNow_20 (by decide) (fun q => absurd q (by decide)) (fun _ => ?_)
      refine lv_iload_n hx hb dX9_settleNow_23 rfl (lv_at hl 1 rfl) ?_
      refine lv_iconst (v := 1) hx hb dX9_settleNow_24 (by decide) ?_
      refine nadd hx hb i 1 dX9_settleNow_25 ?_
      refine lv_bipush (v := 100) hx hb dX9_settleNow_26 (by decide) ?_
      refine nb_ge hx hb (i + 1) 100 (by omega) (by omega) (tgt := 91) dX9_settleNow_28 (by decide) (fun c_28 => ?_) (fun c_28 => ?_)
      · refine lv_aload_n hx hb dX9_settleNow_91 rfl (lv_at hl 2 rfl) ?_
        refine gcallVv C h trivial gNo_ok (kX9_loadLeans l D ct ad (va_up (va_up (va_up σ 19 (σ 4)) 4 (itM σ n c kd i)) 18 g) (va_up τ 20 hy) ) (cwV 0 C.2.2.2.2 (gInV q1017 q1019 q46 q66 q1020) rfl rfl rfl hvX9_loadLeans ⟨Nat.le_of_ble_eq_true rfl, Nat.le_of_ble_eq_true rfl⟩) 0 (wM_o ad ct (va_up (va_up (va_up σ 19 (σ 4)) 4 (itM σ n c kd i)) 18 g) (va_up τ 20 hy)) rfl rfl rfl hl.1 rfl (Nat.le_of_ble_eq_true rfl) dX9_settleNow_92 ⟨Nat.zero_le _, Nat.zero_le _⟩ (fun u9 H ll hw h => ?_)
        subst hw
        have h : gW D ct zA zs _ _ (wM ad ct (va_up (va_up (va_up σ 19 (σ 4)) 4 (σ 4)) 18 g) (va_up τ 20 hy)) := h
        refine lv_iload_n hx hb dX9_settleNow_95 rfl (lv_at hl 3 rfl) ?_
        refine nz_ne hx hb t (by omega) (tgt := 103) dX9_settleNow_96 (by decide) (fun c_96 => ?_) (fun c_96 => ?_)
        · refine lv_iload_n hx hb dX9_settleNow_103 rfl (lv_at hl 0 rfl) ?_
          have h : gW D ct zA zs _ _ (wM ad ct (va_up (va_up (va_up σ 18 g) 19 (σ 4)) 4 (σ 4)) (va_up τ 20 hy)) := h
          exact hret _ (va_up (va_up (va_up σ 18 g) 19 (σ 4)) 4 (σ 4), va_up τ 20 hy) _ _ _ _ h ⟨(by unfold stlR; rw [if_neg c_96, hst, stl_end hi hbv (by first | omega | exact Or.inr ⟨_, rfl⟩)]; exact congrArg bI hbv), g, hy, rfl⟩ dX9_settleNow_104
        · refine lv_iload_n hx hb dX9_settleNow_99 rfl (lv_at hl 1 rfl) ?_
          refine lv_goto (tgt := 104) hx hb dX9_settleNow_100 (by decide) ?_
          have h : gW D ct zA zs _ _ (wM ad ct (va_up (va_up (va_up σ 18 g) 19 (σ 4)) 4 (σ 4)) (va_up τ 20 hy)) := h
          exact hret _ (va_up (va_up (va_up σ 18 g) 19 (σ 4)) 4 (σ 4), va_up τ 20 hy) _ _ _ _ h ⟨(by unfold stlR; rw [if_pos c_96, hst, stl_end hi hbv (by first | omega | exact Or.inr ⟨_, rfl⟩)]), g, hy, rfl⟩ dX9_settleNow_104
      · refine lv_aload_n hx hb dX9_settleNow_31 rfl (lv_at hl 2 rfl) ?_
        refine gcallVv C h trivial gNo_ok (kX9_turnTide l D ct ad (va_up (va_up (va_up σ 19 (σ 4)) 4 (itM σ n c kd i)) 18 g) (va_up τ 20 hy) n c kd hok) (cwV 0 C.2.2.2.2 (gInV q940 q942 q37 q66 q943) rfl rfl rfl hvX9_turnTide ⟨Nat.le_of_ble_eq_true rfl, Nat.le_of_ble_eq_true rfl⟩) 0 (wM_o ad ct (va_up (va_up (va_up σ 19 (σ 4)) 4 (itM σ n c kd i)) 18 g) (va_up τ 20 hy)) rfl rfl rfl hl.1 rfl (Nat.le_of_ble_eq_true rfl) dX9_settleNow_32 ⟨Nat.zero_le _, Nat.zero_le _⟩ (fun u9 H ll hw h => ?_)
        obtain ⟨g18_4, rfl⟩ := hw
        have h : gW D ct zA zs _ _ (wM ad ct (va_up (va_up (va_up σ 19 (σ 4)) 4 (td4 (va_up σ 4 (itM σ n c kd i)) n c kd)) 18 g18_4) (va_up τ 20 hy)) := h
        refine ninc (lv' := [(2, .int (nI (i + 1))), (3, .int (-1)), (0, .ref (ad 0)), (1, .int (nI t))]) hx hb i 1 dX9_settleNow_35 hl (k := 1) rfl (by decide) rfl (fun ls hl => ?_)
        refine lv_aload_n hx hb dX9_settleNow_38 rfl (lv_at hl 2 rfl) ?_
        refine mg_history C h dX9_settleNow_39 ?_
        refine lv_iload_n hx hb dX9_settleNow_42 rfl (lv_at hl 0 rfl) ?_
        refine lv_aload_n hx hb dX9_settleNow_43 rfl (lv_at hl 2 rfl) ?_
        refine gcallVl C h trivial gNo_ok (kX9_leansTold l D ct ad (va_up (va_up (va_up σ 19 (σ 4)) 4 (td4 (va_up σ 4 (itM σ n c kd i)) n c kd)) 18 g18_4) (va_up τ 20 hy) n c kd hok) (cwV 0 C.2.2.2.2 (gInV q1029 q1031 q48 q66 q1032) rfl rfl rfl hvX9_leansTold ⟨Nat.le_of_ble_eq_true rfl, Nat.le_of_ble_eq_true rfl⟩) 0 (wM_o ad ct (va_up (va_up (va_up σ 19 (σ 4)) 4 (td4 (va_up σ 4 (itM σ n c kd i)) n c kd)) 18 g18_4) (va_up τ 20 hy)) rfl rfl rfl hl.1 rfl (Nat.le_of_ble_eq_true rfl) dX9_settleNow_44 ⟨Nat.zero_le _, Nat.zero_le _⟩ (fun r9 u9 H ll hw h => ?_)
        have hw : r9 = tellM ((td4 (va_up σ 4 (itM σ n c kd i)) n c kd)) (3 * n) := hw
        subst hw
        have h : gW D ct zA zs _ _ (wM ad ct (va_up (va_up (va_up σ 19 (σ 4)) 4 (td4 (va_up σ 4 (itM σ n c kd i)) n c kd)) 18 g18_4) (va_up τ 20 hy)) := h
        refine ms_history C h (j := i + 1) (by omega) dX9_settleNow_47 (fun H ll h => ?_)
        have h : gW D ct zA zs _ _ (wM ad ct (va_up (va_up (va_up σ 19 (σ 4)) 4 (td4 (va_up σ 4 (itM σ n c kd i)) n c kd)) 18 g18_4) (va_up τ 20 (vp_updL hy (i + 1) (tellM ((td4 (va_up σ 4 (itM σ n c kd i)) n c kd)) (3 * n))))) := h
        have hhy9 : ∀ j, j < i + 1 + 1 → (vp_updL hy (i + 1) (tellM ((td4 (va_up σ 4 (itM σ n c kd i)) n c kd)) (3 * n))) j = hsM σ n c kd j := updLk hhy rfl
        refine lv_iload_n hx hb dX9_settleNow_48 rfl (lv_at hl 0 rfl) ?_
        refine lv_iconst (v := 1) hx hb dX9_settleNow_49 (by decide) ?_
        refine lv_isub hx hb dX9_settleNow_50 ?_
        refine lv_istore (lv' := [(4, .int ((nI (i + 1)) - 1)), (2, .int (nI (i + 1))), (3, .int (-1)), (0, .ref (ad 0)), (1, .int (nI t))]) hx hb dX9_settleNow_51 hl (by decide) rfl (fun ls hl => ?_)
        have L53_4 : ∀ (kk : Nat) (e : Nat) (b9 : Option Nat) (H : Heap) (ll : List Loc) (ls : Array Slot), e = kk → (e ≤ i + 1) → (b9 = dnx (hsM σ n c kd) (i + 1) (i + 1 - e)) → gW D ct zA zs H ll (wM ad ct (va_up (va_up (va_up σ 19 (σ 4)) 4 (td4 (va_up σ 4 (itM σ n c kd i)) n c kd)) 18 g18_4) (va_up τ 20 (vp_updL hy (i + 1) (tellM ((td4 (va_up σ 4 (itM σ n c kd i)) n c kd)) (3 * n))))) → lv_has ls 5 [(4, .int (nI e - 1)), (2, .int (nI (i + 1))), (3, .int (bI b9)), (0, .ref (ad 0)), (1, .int (nI t))] → W zp l ze rmX9_settleNow zs zm za zb zt zc H ll 0 0 zQ (F0 zm 53 ls []) := by
          intro kk53
          induction kk53 using Nat.strongRecOn with
          | _ kk53 ih53 =>
          intro e b9 H ll ls hk53 he hb9 h hl
          rcases e with _ | e
          · have hl : lv_has ls 5 [(4, .int (-1)), (2, .int (nI (i + 1))), (3, .int (bI b9)), (0, .ref (ad 0)), (1, .int (nI t))] := hl
            refine lv_iload hx hb dX9_settleNow_53 (lv_at hl 0 rfl) ?_
            refine lv_if_lt (tgt := 88) hx hb dX9_settleNow_55 (by decide) (fun _ => ?_) (fun q => absurd (by decide) q)
            refine lv_goto (tgt := 18) hx hb dX9_settleNow_88 (by decide) ?_
            exact ih18 _ (by omega) (i + 1) b9 g18_4 (vp_updL hy (i + 1) (tellM ((td4 (va_up σ 4 (itM σ n c kd i)) n c kd)) (3 * n))) _ _ _ rfl (by omega) (by rw [hb9]; rfl) (by rw [hst, show 99 - i = (99 - (i + 1)) + 1 by omega]; exact if_pos hbv.symm) hhy9 h (lv_sub hl [2, 1, 3, 4] rfl)
          · rw [nI_pred] at hl
            refine lv_iload hx hb dX9_settleNow_53 (lv_at hl 0 rfl) ?_
            refine lv_if_lt (tgt := 88) hx hb dX9_settleNow_55 (by decide) (fun q => absurd q (nI_pos (by omega))) (fun _ => ?_)
            refine lv_aload_n hx hb dX9_settleNow_58 rfl (lv_at hl 3 rfl) ?_
            refine mg_history C h dX9_settleNow_59 ?_
            refine lv_iload hx hb dX9_settleNow_62 (lv_at hl 0 rfl) ?_
            refine ml_history C h (j := e) (by omega) dX9_settleNow_64 ?_
            refine gasl (z := (vp_updL hy (i + 1) (tellM ((td4 (va_up σ 4 (itM σ n c kd i)) n c kd)) (3 * n))) e) rfl ?_
            refine lv_aload_n hx hb dX9_settleNow_65 rfl (lv_at hl 3 rfl) ?_
            refine mg_history C h dX9_settleNow_66 ?_
            refine lv_iload_n hx hb dX9_settleNow_69 rfl (lv_at hl 1 rfl) ?_
            refine ml_history C h (j := i + 1) (by omega) dX9_settleNow_70 ?_
            refine gasl (z := (vp_updL hy (i + 1) (tellM ((td4 (va_up σ 4 (itM σ n c kd i)) n c kd)) (3 * n))) (i + 1)) rfl ?_
            refine W.lcmp hx hb dX9_settleNow_71 ?_
            refine lv_if_ne (tgt := 80) hx hb dX9_settleNow_72 (by decide) (fun c_72 => ?_) (fun c_72 => ?_)
            · refine lv_iload_n hx hb dX9_settleNow_80 rfl (lv_at hl 2 rfl) ?_
              refine lv_istore_n (lv' := [(3, .int (bI b9)), (4, .int (nI e)), (2, .int (nI (i + 1))), (0, .ref (ad 0)), (1, .int (nI t))]) hx hb dX9_settleNow_81 rfl hl (by decide) rfl (fun ls hl => ?_)
              refine lv_iinc (v := nI e - 1) (lv' := [(4, .int (nI e - 1)), (3, .int (bI b9)), (2, .int (nI (i + 1))), (0, .ref (ad 0)), (1, .int (nI t))]) hx hb dX9_settleNow_82 hl (k := 1) rfl (dec1 _) (by decide) rfl (fun ls hl => ?_)
              refine lv_goto (tgt := 53) hx hb dX9_settleNow_85 (by decide) ?_
              have hq9 : ¬ hsM σ n c kd e = hsM σ n c kd (i + 1) := by rw [← hhy9 e (by omega), ← hhy9 (i + 1) (by omega)]; exact fun q => c_72 (lgc0.mpr q)
              exact ih53 _ (by omega) e b9 _ _ _ rfl (by omega) (by rw [show i + 1 - e = (i + 1 - (e + 1)) + 1 by omega]; show _ = if _ then _ else _; rw [show i + 1 - 1 - (i + 1 - (e + 1)) = e by omega]; exact hb9.trans (if_neg hq9).symm) h (lv_sub hl [0, 2, 1, 3, 4] rfl)
            · refine lv_iload hx hb dX9_settleNow_75 (lv_at hl 0 rfl) ?_
              refine lv_goto (tgt := 81) hx hb dX9_settleNow_77 (by decide) ?_
              refine lv_istore_n (lv' := [(3, .int (nI e)), (4, .int (nI e)), (2, .int (nI (i + 1))), (0, .ref (ad 0)), (1, .int (nI t))]) hx hb dX9_settleNow_81 rfl hl (by decide) rfl (fun ls hl => ?_)
              refine lv_iinc (v := nI e - 1) (lv' := [(4, .int (nI e - 1)), (3, .int (nI e)), (2, .int (nI (i + 1))), (0, .ref (ad 0)), (1, .int (nI t))]) hx hb dX9_settleNow_82 hl (k := 1) rfl (dec1 _) (by decide) rfl (fun ls hl => ?_)
              refine lv_goto (tgt := 53) hx hb dX9_settleNow_85 (by decide) ?_
              have hq9 : hsM σ n c kd e = hsM σ n c kd (i + 1) := by rw [← hhy9 e (by omega), ← hhy9 (i + 1) (by omega)]; exact lgc0.mp c_72
              exact ih53 _ (by omega) e (some e) _ _ _ rfl (by omega) (by rw [show i + 1 - e = (i + 1 - (e + 1)) + 1 by omega]; show _ = if _ then _ else _; rw [show i + 1 - 1 - (i + 1 - (e + 1)) = e by omega]; exact (if_pos hq9).symm) h (lv_sub hl [0, 2, 1, 3, 4] rfl)
        exact L53_4 _ (i + 1) none _ _ _ rfl (Nat.le_refl _) (by rw [Nat.sub_self]; rfl) h (lv_sub hl [0, 1, 2, 3, 4] rfl)
    · have hj9 : True := trivial
      refine lv_iload_n hx hb dX9_settleNow_18 rfl (lv_at hl 0 rfl) ?_
      refine lv_iconst (v := -1) hx hb dX9_settleNow_19 (by decide) ?_
      refine lv_icmp_ne (tgt := 91) hx hb dX9_settleNow_20 (by decide) (fun _ => ?_) (fun q => absurd q (nIm1 (by have := dnx_lt hbv.symm; omega)))
      refine lv_aload_n hx hb dX9_settleNow_91 rfl (lv_at hl 2 rfl) ?_
      refine gcallVv C h trivial gNo_ok (kX9_loadLeans l D ct ad (va_up (va_up (va_up σ 19 (σ 4)) 4 (itM σ n c kd i)) 18 g) (va_up τ 20 hy) ) (cwV 0 C.2.2.2.2 (gInV q1017 q1019 q46 q66 q1020) rfl rfl rfl hvX9_loadLeans ⟨Nat.le_of_ble_eq_true rfl, Nat.le_of_ble_eq_true rfl⟩) 0 (wM_o ad ct (va_up (va_up (va_up σ 19 (σ 4)) 4 (itM σ n c kd i)) 18 g) (va_up τ 20 hy)) rfl rfl rfl hl.1 rfl (Nat.le_of_ble_eq_true rfl) dX9_settleNow_92 ⟨Nat.zero_le _, Nat.zero_le _⟩ (fun u9 H ll hw h => ?_)
      subst hw
      have h : gW D ct zA zs _ _ (wM ad ct (va_up (va_up (va_up σ 19 (σ 4)) 4 (σ 4)) 18 g) (va_up τ 20 hy)) := h
      refine lv_iload_n hx hb dX9_settleNow_95 rfl (lv_at hl 3 rfl) ?_
      refine nz_ne hx hb t (by omega) (tgt := 103) dX9_settleNow_96 (by decide) (fun c_96 => ?_) (fun c_96 => ?_)
      · refine lv_iload_n hx hb dX9_settleNow_103 rfl (lv_at hl 0 rfl) ?_
        have h : gW D ct zA zs _ _ (wM ad ct (va_up (va_up (va_up σ 18 g) 19 (σ 4)) 4 (σ 4)) (va_up τ 20 hy)) := h
        exact hret _ (va_up (va_up (va_up σ 18 g) 19 (σ 4)) 4 (σ 4), va_up τ 20 hy) _ _ _ _ h ⟨(by unfold stlR; rw [if_neg c_96, hst, stl_end hi hbv (by first | omega | exact Or.inr ⟨_, rfl⟩)]; exact congrArg bI hbv), g, hy, rfl⟩ dX9_settleNow_104
      · refine lv_iload_n hx hb dX9_settleNow_99 rfl (lv_at hl 1 rfl) ?_
        refine lv_goto (tgt := 104) hx hb dX9_settleNow_100 (by decide) ?_
        have h : gW D ct zA zs _ _ (wM ad ct (va_up (va_up (va_up σ 18 g) 19 (σ 4)) 4 (σ 4)) (va_up τ 20 hy)) := h
        exact hret _ (va_up (va_up (va_up σ 18 g) 19 (σ 4)) 4 (σ 4), va_up τ 20 hy) _ _ _ _ h ⟨(by unfold stlR; rw [if_pos c_96, hst, stl_end hi hbv (by first | omega | exact Or.inr ⟨_, rfl⟩)]), g, hy, rfl⟩ dX9_settleNow_104
  exact L18_1 _ 0 none (σ 18) (vp_updL (τ 20) 0 (tellM (σ 4) (3 * n))) _ _ _ rfl (by omega) rfl rfl (updLk (i := 0) (fun j hj => absurd hj (by omega)) rfl) h (lv_sub hl [0, 1, 2, 3] rfl)
set_option maxHeartbeats 4000000 in
set_option maxRecDepth 100000 in
theorem kX9_laySums (l : Launch) (D : va_G) (ct : Nat → ClassId) (ad : Nat → Nat) (σ : Nat → Nat → Int32) (τ : Nat → Nat → Int64) (n c : Nat) (kd : Nat → Nat) (hok : MOK σ n c kd) (m q : Nat) (hm : m < n) (hq : q < 3) : MV l yX9_laySums (gWs yX9_laySums cX9_laySums 5 none) rmX9_laySums D ct gNo [.ref (ad 0), .int (nI m), .int (nI q)] (wM ad ct σ τ) (fun u : (Nat → Nat → Int32) × (Nat → Nat → Int64) => wM ad ct u.1 u.2) (fun u => u = (va_up (va_up σ 21 (lsM σ n c kd m q)) 4 (σ 4), τ)) := by
  refine MV.of RX9 rfl (by decide) (Nat.le_of_ble_eq_true rfl) ?_
  intro zp ze zs zm za zb zt zc zA ls zQ C h hX hl hret
  have hx := C.1
  have hb := C.2.1
  have hl : lv_has ls 5 [(0, .ref (ad 0)), (1, .int (nI m)), (2, .int (nI q))] := hl
  have hok0 := hok
  obtain ⟨hn, hn8, hc, hc8, hkd⟩ := hok0
  refine lv_aload_n hx hb dX9_laySums_0 rfl (lv_at hl 0 rfl) ?_
  refine mg_leanOf C h dX9_laySums_1 ?_
  refine lv_iconst (v := 3) hx hb dX9_laySums_4 (by decide) ?_
  refine lv_iload_n hx hb dX9_laySums_5 rfl (lv_at hl 1 rfl) ?_
  refine nmul hx hb 3 m dX9_laySums_6 ?_
  refine lv_iload_n hx hb dX9_laySums_7 rfl (lv_at hl 2 rfl) ?_
  refine nadd hx hb (3 * m) q dX9_laySums_8 ?_
  refine ml_leanOf C h (j := (3 * m) + q) (by omega) dX9_laySums_9 ?_
  refine lv_istore_n (lv' := [(3, .int (σ 4 ((3 * m) + q))), (0, .ref (ad 0)), (1, .int (nI m)), (2, .int (nI q))]) hx hb dX9_laySums_10 rfl hl (by decide) rfl (fun ls hl => ?_)
  refine lv_iconst (v := 0) hx hb dX9_laySums_11 (by decide) ?_
  refine lv_istore (lv' := [(4, .int 0), (3, .int (σ 4 ((3 * m) + q))), (0, .ref (ad 0)), (1, .int (nI m)), (2, .int (nI q))]) hx hb dX9_laySums_12 hl (by decide) rfl (fun ls hl => ?_)
  have L14_0 : ∀ (kk : Nat) (i : Nat) (f : Nat → Int32) (g : Nat → Int32) (H : Heap) (ll : List Loc) (ls : Array Slot), 3 - i = kk → (i ≤ 3) → (∀ j, ¬ j = 3 * m + q → f j = σ 4 j) → (∀ j, j < i → g j = lsM σ n c kd m q j) → gW D ct zA zs H ll (wM ad ct (va_up (va_up σ 4 f) 21 g) τ) → lv_has ls 5 [(4, .int (nI i)), (3, .int (σ 4 ((3 * m) + q))), (0, .ref (ad 0)), (1, .int (nI m)), (2, .int (nI q))] → W zp l ze rmX9_laySums zs zm za zb zt zc H ll 0 0 zQ (F0 zm 14 ls []) := by
    intro kk14
    induction kk14 using Nat.strongRecOn with
    | _ kk14 ih14 =>
    intro i f g H ll ls hk14 hi hf hg h hl
    refine lv_iload hx hb dX9_laySums_14 (lv_at hl 0 rfl) ?_
    refine lv_iconst (v := 3) hx hb dX9_laySums_16 (by decide) ?_
    refine nb_ge hx hb i 3 (by omega) (by omega) (tgt := 56) dX9_laySums_17 (by decide) (fun c_17 => ?_) (fun c_17 => ?_)
    · refine lv_aload_n hx hb dX9_laySums_56 rfl (lv_at hl 2 rfl) ?_
      refine mg_leanOf C h dX9_laySums_57 ?_
      refine lv_iconst (v := 3) hx hb dX9_laySums_60 (by decide) ?_
      refine lv_iload_n hx hb dX9_laySums_61 rfl (lv_at hl 3 rfl) ?_
      refine nmul hx hb 3 m dX9_laySums_62 ?_
      refine lv_iload_n hx hb dX9_laySums_63 rfl (lv_at hl 4 rfl) ?_
      refine nadd hx hb (3 * m) q dX9_laySums_64 ?_
      refine lv_iload_n hx hb dX9_laySums_65 rfl (lv_at hl 1 rfl) ?_
      refine ms_leanOf C h (j := (3 * m) + q) (by omega) dX9_laySums_66 (fun H ll h => ?_)
      have h : gW D ct zA zs _ _ (wM ad ct (va_up (va_up σ 4 (upd f ((3 * m) + q) (σ 4 ((3 * m) + q)))) 21 g) τ) := h
      have h := mc_leanOf h (σ 4) (fun j hj => by show upd f (3 * m + q) (σ 4 (3 * m + q)) j = _; by_cases h9 : j = 3 * m + q; (rw [h9, pk_us]); (rw [pk_un h9]; exact hf j h9))
      have h := mc_sumBy h (lsM σ n c kd m q) (fun j hj => hg j (by omega))
      have h : gW D ct zA zs _ _ (wM ad ct (va_up (va_up σ 21 (lsM σ n c kd m q)) 4 (σ 4)) τ) := h
      exact hret (va_up (va_up σ 21 (lsM σ n c kd m q)) 4 (σ 4), τ) _ _ _ _ h rfl dX9_laySums_67
    · refine lv_aload_n hx hb dX9_laySums_20 rfl (lv_at hl 2 rfl) ?_
      refine mg_leanOf C h dX9_laySums_21 ?_
      refine lv_iconst (v := 3) hx hb dX9_laySums_24 (by decide) ?_
      refine lv_iload_n hx hb dX9_laySums_25 rfl (lv_at hl 3 rfl) ?_
      refine nmul hx hb 3 m dX9_laySums_26 ?_
      refine lv_iload_n hx hb dX9_laySums_27 rfl (lv_at hl 4 rfl) ?_
      refine nadd hx hb (3 * m) q dX9_laySums_28 ?_
      refine lv_iconst (v := 1) hx hb dX9_laySums_29 (by decide) ?_
      refine lv_iload hx hb dX9_laySums_30 (lv_at hl 0 rfl) ?_
      refine lv_isub hx hb dX9_laySums_32 ?_
      refine ms_leanOf C h (j := (3 * m) + q) (by omega) dX9_laySums_33 (fun H ll h => ?_)
      have h : gW D ct zA zs _ _ (wM ad ct (va_up (va_up σ 4 (upd f ((3 * m) + q) (1 - (nI i)))) 21 g) τ) := h
      have h := mc_leanOf h (upd (σ 4) (3 * m + q) (1 - nI i)) (fun j hj => by show upd f (3 * m + q) (1 - nI i) j = _; by_cases h9 : j = 3 * m + q; (rw [h9, pk_us, pk_us]); (rw [pk_un h9, pk_un h9]; exact hf j h9))
      have h : gW D ct zA zs _ _ (wM ad ct (va_up (va_up σ 4 (upd (σ 4) (3 * m + q) (1 - nI i))) 21 g) τ) := h
      refine lv_aload_n hx hb dX9_laySums_34 rfl (lv_at hl 2 rfl) ?_
      refine mg_sumBy C h dX9_laySums_35 ?_
      refine lv_iload hx hb dX9_laySums_38 (lv_at hl 0 rfl) ?_
      refine lv_aload_n hx hb dX9_laySums_40 rfl (lv_at hl 2 rfl) ?_
      refine lv_iload_n hx hb dX9_laySums_41 rfl (lv_at hl 4 rfl) ?_
      refine gcallVi C h trivial gNo_ok (kX9_sumOf l D ct ad (va_up (va_up σ 4 (upd (σ 4) (3 * m + q) (1 - nI i))) 21 g) τ n c kd hok q (by omega)) (cwV 1 C.2.2.2.2 (gInV q873 q875 q26 q66 q876) rfl rfl rfl hvX9_sumOf ⟨Nat.le_of_ble_eq_true rfl, Nat.le_of_ble_eq_true rfl⟩) 0 (wM_o ad ct (va_up (va_up σ 4 (upd (σ 4) (3 * m + q) (1 - nI i))) 21 g) τ) rfl rfl rfl hl.1 rfl (Nat.le_of_ble_eq_true rfl) dX9_laySums_42 ⟨Nat.zero_le _, Nat.zero_le _⟩ (fun r9 u9 H ll hw h => ?_)
      have hw : r9 = smM (va_up σ 4 (upd (σ 4) (3 * m + q) (1 - nI i))) n c kd q := hw
      subst hw
      have h : gW D ct zA zs _ _ (wM ad ct (va_up (va_up σ 4 (upd (σ 4) (3 * m + q) (1 - nI i))) 21 g) τ) := h
      refine lv_sipush (v := 200) hx hb dX9_laySums_45 (by decide) ?_
      refine lv_iadd hx hb dX9_laySums_48 ?_
      refine ms_sumBy C h (j := i) (by omega) dX9_laySums_49 (fun H ll h => ?_)
      have h : gW D ct zA zs _ _ (wM ad ct (va_up (va_up σ 4 (upd (σ 4) (3 * m + q) (1 - nI i))) 21 (upd g i ((smM (va_up σ 4 (upd (σ 4) (3 * m + q) (1 - nI i))) n c kd q) + 200))) τ) := h
      refine ninc (lv' := [(4, .int (nI (i + 1))), (3, .int (σ 4 ((3 * m) + q))), (0, .ref (ad 0)), (1, .int (nI m)), (2, .int (nI q))]) hx hb i 1 dX9_laySums_50 hl (k := 0) rfl (by decide) rfl (fun ls hl => ?_)
      refine lv_goto (tgt := 14) hx hb dX9_laySums_53 (by decide) ?_
      exact ih14 _ (by omega) (i + 1) (upd (σ 4) (3 * m + q) (1 - nI i)) (upd g i ((smM (va_up σ 4 (upd (σ 4) (3 * m + q) (1 - nI i))) n c kd q) + 200)) _ _ _ rfl (by omega) (fun j hj => pk_un hj) (updk hg rfl) h (lv_sub hl [0, 1, 2, 3, 4] rfl)
  exact L14_0 _ 0 (σ 4) (σ 21) _ _ _ rfl (by omega) (fun j hj => rfl) (fun j hj => absurd hj (by omega)) h (lv_sub hl [0, 1, 2, 3, 4] rfl)
set_option maxHeartbeats 4000000 in
set_option maxRecDepth 100000 in
theorem kX9_leansOf (l : Launch) (D : va_G) (ct : Nat → ClassId) (ad : Nat → Nat) (σ : Nat → Nat → Int32) (τ : Nat → Nat → Int64) (n c : Nat) (kd : Nat → Nat) (hok : MOK σ n c kd) (sn : Nat) (hsn : σ 10 0 = nI sn) (hsn6 : sn ≤ 6) (m q : Nat) (hm : m < n) (hq : q < 3) : MI l yX9_leansOf (gWs yX9_leansOf cX9_leansOf 7 (some .int)) rmX9_leansOf D ct gNo [.ref (ad 0), .int (nI m), .int (nI q)] (wM ad ct σ τ) (fun u : (Nat → Nat → Int32) × (Nat → Nat → Int64) => wM ad ct u.1 u.2) (fun r u => r = nI (lvB σ n c kd sn m q 3) ∧ u = (va_up (va_up σ 21 (lsM σ n c kd m q)) 4 (σ 4), τ)) := by
  refine MI.ofI RX9 rfl (by decide) (Nat.le_of_ble_eq_true rfl) ?_
  intro zp ze zs zm za zb zt zc zA ls zQ C h hX hl hret
  have hx := C.1
  have hb := C.2.1
  have hl : lv_has ls 7 [(0, .ref (ad 0)), (1, .int (nI m)), (2, .int (nI q))] := hl
  have hok0 := hok
  obtain ⟨hn, hn8, hc, hc8, hkd⟩ := hok0
  refine lv_aload_n hx hb dX9_leansOf_0 rfl (lv_at hl 0 rfl) ?_
  refine lv_iload_n hx hb dX9_leansOf_1 rfl (lv_at hl 1 rfl) ?_
  refine lv_iload_n hx hb dX9_leansOf_2 rfl (lv_at hl 2 rfl) ?_
  refine gcallVv C h trivial gNo_ok (kX9_laySums l D ct ad σ τ n c kd hok m q (by omega) (by omega)) (cwV 2 C.2.2.2.2 (gInV q869 q871 q25 q66 q872) rfl rfl rfl hvX9_laySums ⟨Nat.le_of_ble_eq_true rfl, Nat.le_of_ble_eq_true rfl⟩) 0 (wM_o ad ct σ τ) rfl rfl rfl hl.1 rfl (Nat.le_of_ble_eq_true rfl) dX9_leansOf_3 ⟨Nat.zero_le _, Nat.zero_le _⟩ (fun u9 H ll hw h => ?_)
  subst hw
  have h : gW D ct zA zs _ _ (wM ad ct (va_up (va_up σ 21 (lsM σ n c kd m q)) 4 (σ 4)) τ) := h
  refine lv_iconst (v := 0) hx hb dX9_leansOf_6 (by decide) ?_
  refine lv_istore_n (lv' := [(3, .int 0), (0, .ref (ad 0)), (1, .int (nI m)), (2, .int (nI q))]) hx hb dX9_leansOf_7 rfl hl (by decide) rfl (fun ls hl => ?_)
  refine lv_iconst (v := 0) hx hb dX9_leansOf_8 (by decide) ?_
  refine lv_istore (lv' := [(4, .int 0), (3, .int 0), (0, .ref (ad 0)), (1, .int (nI m)), (2, .int (nI q))]) hx hb dX9_leansOf_9 hl (by decide) rfl (fun ls hl => ?_)
  have L11_1 : ∀ (kk : Nat) (k : Nat) (H : Heap) (ll : List Loc) (ls : Array Slot), 3 - k = kk → (k ≤ 3) → gW D ct zA zs H ll (wM ad ct (va_up (va_up σ 21 (lsM σ n c kd m q)) 4 (σ 4)) τ) → lv_has ls 7 [(4, .int (nI k)), (3, .int (nI (lvB σ n c kd sn m q k))), (0, .ref (ad 0)), (1, .int (nI m)), (2, .int (nI q))] → W zp l ze rmX9_leansOf zs zm za zb zt zc H ll 0 0 zQ (F0 zm 11 ls []) := by
    intro kk11
    induction kk11 using Nat.strongRecOn with
    | _ kk11 ih11 =>
    intro k H ll ls hk11 hk h hl
    refine lv_iload hx hb dX9_leansOf_11 (lv_at hl 0 rfl) ?_
    refine lv_iconst (v := 3) hx hb dX9_leansOf_13 (by decide) ?_
    refine nb_ge hx hb k 3 (by omega) (by omega) (tgt := 111) dX9_leansOf_14 (by decide) (fun c_14 => ?_) (fun c_14 => ?_)
    · refine lv_iload_n hx hb dX9_leansOf_111 rfl (lv_at hl 1 rfl) ?_
      have h : gW D ct zA zs _ _ (wM ad ct (va_up (va_up σ 21 (lsM σ n c kd m q)) 4 (σ 4)) τ) := h
      exact hret _ (va_up (va_up σ 21 (lsM σ n c kd m q)) 4 (σ 4), τ) _ _ _ _ h ⟨(by rw [show k = 3 by omega]), rfl⟩ dX9_leansOf_112
    · refine lv_iconst (v := 1) hx hb dX9_leansOf_17 (by decide) ?_
      refine lv_istore (lv' := [(5, .int 1), (4, .int (nI k)), (3, .int (nI (lvB σ n c kd sn m q k))), (0, .ref (ad 0)), (1, .int (nI m)), (2, .int (nI q))]) hx hb dX9_leansOf_18 hl (by decide) rfl (fun ls hl => ?_)
      refine lv_iconst (v := 0) hx hb dX9_leansOf_20 (by decide) ?_
      refine lv_istore (lv' := [(6, .int 0), (5, .int 1), (4, .int (nI k)), (3, .int (nI (lvB σ n c kd sn m q k))), (0, .ref (ad 0)), (1, .int (nI m)), (2, .int (nI q))]) hx hb dX9_leansOf_21 hl (by decide) rfl (fun ls hl => ?_)
      have L23_2 : ∀ (kk : Nat) (e : Nat) (H : Heap) (ll : List Loc) (ls : Array Slot), sn - e = kk → (e ≤ sn) → gW D ct zA zs H ll (wM ad ct (va_up (va_up σ 21 (lsM σ n c kd m q)) 4 (σ 4)) τ) → lv_has ls 7 [(6, .int (nI e)), (5, .int (if seeM σ m q (lsM σ n c kd m q k) e = true then 1 else 0)), (4, .int (nI k)), (3, .int (nI (lvB σ n c kd sn m q k))), (0, .ref (ad 0)), (1, .int (nI m)), (2, .int (nI q))] → W zp l ze rmX9_leansOf zs zm za zb zt zc H ll 0 0 zQ (F0 zm 23 ls []) := by
        intro kk23
        induction kk23 using Nat.strongRecOn with
        | _ kk23 ih23 =>
        intro e H ll ls hk23 he h hl
        refine lv_iload hx hb dX9_leansOf_23 (lv_at hl 0 rfl) ?_
        refine lv_aload_n hx hb dX9_leansOf_25 rfl (lv_at hl 4 rfl) ?_
        refine mg_seen C h dX9_leansOf_26 ?_
        refine gas hsn ?_
        refine nb_ge hx hb e sn (by omega) (by omega) (tgt := 89) dX9_leansOf_29 (by decide) (fun c_29 => ?_) (fun c_29 => ?_)
        · have he9 : e = sn := by omega
          refine lv_iload_n hx hb dX9_leansOf_89 rfl (lv_at hl 3 rfl) ?_
          refine lv_iload hx hb dX9_leansOf_90 (lv_at hl 1 rfl) ?_
          refine bz_eq hx hb (seeM σ m q (lsM σ n c kd m q k) e = true) (tgt := 102) dX9_leansOf_92 (by decide) (fun c_92 => ?_) (fun c_92 => ?_)
          · refine lv_iconst (v := 0) hx hb dX9_leansOf_102 (by decide) ?_
            refine nor hx hb (lvB σ n c kd sn m q k) 0 dX9_leansOf_103 ?_
            refine lv_istore_n (lv' := [(3, .int (nI ((lvB σ n c kd sn m q k) ||| 0))), (6, .int (nI e)), (5, .int (if seeM σ m q (lsM σ n c kd m q k) e = true then 1 else 0)), (4, .int (nI k)), (0, .ref (ad 0)), (1, .int (nI m)), (2, .int (nI q))]) hx hb dX9_leansOf_104 rfl hl (by decide) rfl (fun ls hl => ?_)
            refine ninc (lv' := [(4, .int (nI (k + 1))), (3, .int (nI ((lvB σ n c kd sn m q k) ||| 0))), (6, .int (nI e)), (5, .int (if seeM σ m q (lsM σ n c kd m q k) e = true then 1 else 0)), (0, .ref (ad 0)), (1, .int (nI m)), (2, .int (nI q))]) hx hb k 1 dX9_leansOf_105 hl (k := 3) rfl (by decide) rfl (fun ls hl => ?_)
            refine lv_goto (tgt := 11) hx hb dX9_leansOf_108 (by decide) ?_
            have e9 : lvB σ n c kd sn m q (k + 1) = (lvB σ n c kd sn m q k) ||| 0 := by show _ ||| (if _ then _ else _) = _; rw [if_neg (by rw [← he9]; exact c_92)]
            rw [← e9] at hl
            exact ih11 _ (by omega) (k + 1) _ _ _ rfl (by omega) h (lv_sub hl [0, 1, 4, 5, 6] rfl)
          · refine lv_iconst (v := 1) hx hb dX9_leansOf_95 (by decide) ?_
            refine lv_iload hx hb dX9_leansOf_96 (lv_at hl 2 rfl) ?_
            refine nshl hx hb 1 k (by omega) (by have := pow_lt8 k (by omega); omega) dX9_leansOf_98 ?_
            refine lv_goto (tgt := 103) hx hb dX9_leansOf_99 (by decide) ?_
            refine nor hx hb (lvB σ n c kd sn m q k) (1 * 2 ^ k) dX9_leansOf_103 ?_
            refine lv_istore_n (lv' := [(3, .int (nI ((lvB σ n c kd sn m q k) ||| (1 * 2 ^ k)))), (6, .int (nI e)), (5, .int (if seeM σ m q (lsM σ n c kd m q k) e = true then 1 else 0)), (4, .int (nI k)), (0, .ref (ad 0)), (1, .int (nI m)), (2, .int (nI q))]) hx hb dX9_leansOf_104 rfl hl (by decide) rfl (fun ls hl => ?_)
            refine ninc (lv' := [(4, .int (nI (k + 1))), (3, .int (nI ((lvB σ n c kd sn m q k) ||| (1 * 2 ^ k)))), (6, .int (nI e)), (5, .int (if seeM σ m q (lsM σ n c kd m q k) e = true then 1 else 0)), (0, .ref (ad 0)), (1, .int (nI m)), (2, .int (nI q))]) hx hb k 1 dX9_leansOf_105 hl (k := 3) rfl (by decide) rfl (fun ls hl => ?_)
            refine lv_goto (tgt := 11) hx hb dX9_leansOf_108 (by decide) ?_
            have e9 : lvB σ n c kd sn m q (k + 1) = (lvB σ n c kd sn m q k) ||| (1 * 2 ^ k) := by show _ ||| (if _ then _ else _) = _; rw [if_pos (by rw [← he9]; exact c_92)]
            rw [← e9] at hl
            exact ih11 _ (by omega) (k + 1) _ _ _ rfl (by omega) h (lv_sub hl [0, 1, 4, 5, 6] rfl)
        · refine lv_iload hx hb dX9_leansOf_32 (lv_at hl 1 rfl) ?_
          refine bz_eq hx hb (seeM σ m q (lsM σ n c kd m q k) e = true) (tgt := 80) dX9_leansOf_34 (by decide) (fun c_34 => ?_) (fun c_34 => ?_)
          · refine lv_iconst (v := 0) hx hb dX9_leansOf_80 (by decide) ?_
            refine gas (z := if seeM σ m q (lsM σ n c kd m q k) (e + 1) = true then 1 else 0) (by simp [seeM, c_34]) ?_
            refine lv_istore (lv' := [(5, .int (if seeM σ m q (lsM σ n c kd m q k) (e + 1) = true then 1 else 0)), (6, .int (nI e)), (4, .int (nI k)), (3, .int (nI (lvB σ n c kd sn m q k))), (0, .ref (ad 0)), (1, .int (nI m)), (2, .int (nI q))]) hx hb dX9_leansOf_81 hl (by decide) rfl (fun ls hl => ?_)
            refine ninc (lv' := [(6, .int (nI (e + 1))), (5, .int (if seeM σ m q (lsM σ n c kd m q k) (e + 1) = true then 1 else 0)), (4, .int (nI k)), (3, .int (nI (lvB σ n c kd sn m q k))), (0, .ref (ad 0)), (1, .int (nI m)), (2, .int (nI q))]) hx hb e 1 dX9_leansOf_83 hl (k := 1) rfl (by decide) rfl (fun ls hl => ?_)
            refine lv_goto (tgt := 23) hx hb dX9_leansOf_86 (by decide) ?_
            exact ih23 _ (by omega) (e + 1) _ _ _ rfl (by omega) h (lv_sub hl [0, 1, 2, 3, 4, 5, 6] rfl)
          · refine lv_aload_n hx hb dX9_leansOf_37 rfl (lv_at hl 4 rfl) ?_
            refine mg_seenMussel C h dX9_leansOf_38 ?_
            refine lv_iload hx hb dX9_leansOf_41 (lv_at hl 0 rfl) ?_
            refine ml_seenMussel C h (j := e) (by omega) dX9_leansOf_43 ?_
            refine gas (z := σ 11 e) rfl ?_
            refine lv_iload_n hx hb dX9_leansOf_44 rfl (lv_at hl 5 rfl) ?_
            refine lv_icmp_ne (tgt := 76) hx hb dX9_leansOf_45 (by decide) (fun c_45 => ?_) (fun c_45 => ?_)
            · refine lv_iconst (v := 1) hx hb dX9_leansOf_76 (by decide) ?_
              refine lv_goto (tgt := 81) hx hb dX9_leansOf_77 (by decide) ?_
              refine gas (z := if seeM σ m q (lsM σ n c kd m q k) (e + 1) = true then 1 else 0) (by simp [seeM, c_34, c_45]) ?_
              refine lv_istore (lv' := [(5, .int (if seeM σ m q (lsM σ n c kd m q k) (e + 1) = true then 1 else 0)), (6, .int (nI e)), (4, .int (nI k)), (3, .int (nI (lvB σ n c kd sn m q k))), (0, .ref (ad 0)), (1, .int (nI m)), (2, .int (nI q))]) hx hb dX9_leansOf_81 hl (by decide) rfl (fun ls hl => ?_)
              refine ninc (lv' := [(6, .int (nI (e + 1))), (5, .int (if seeM σ m q (lsM σ n c kd m q k) (e + 1) = true then 1 else 0)), (4, .int (nI k)), (3, .int (nI (lvB σ n c kd sn m q k))), (0, .ref (ad 0)), (1, .int (nI m)), (2, .int (nI q))]) hx hb e 1 dX9_leansOf_83 hl (k := 1) rfl (by decide) rfl (fun ls hl => ?_)
              refine lv_goto (tgt := 23) hx hb dX9_leansOf_86 (by decide) ?_
              exact ih23 _ (by omega) (e + 1) _ _ _ rfl (by omega) h (lv_sub hl [0, 1, 2, 3, 4, 5, 6] rfl)
            · refine lv_aload_n hx hb dX9_leansOf_48 rfl (lv_at hl 4 rfl) ?_
              refine mg_seenQuestion C h dX9_leansOf_49 ?_
              refine lv_iload hx hb dX9_leansOf_52 (lv_at hl 0 rfl) ?_
              refine ml_seenQuestion C h (j := e) (by omega) dX9_leansOf_54 ?_
              refine gas (z := σ 12 e) rfl ?_
              refine lv_iload_n hx hb dX9_leansOf_55 rfl (lv_at hl 6 rfl) ?_
              refine lv_icmp_ne (tgt := 76) hx hb dX9_leansOf_56 (by decide) (fun c_56 => ?_) (fun c_56 => ?_)
              · refine lv_iconst (v := 1) hx hb dX9_leansOf_76 (by decide) ?_
                refine lv_goto (tgt := 81) hx hb dX9_leansOf_77 (by decide) ?_
                refine gas (z := if seeM σ m q (lsM σ n c kd m q k) (e + 1) = true then 1 else 0) (by simp [seeM, c_34, c_45, c_56]) ?_
                refine lv_istore (lv' := [(5, .int (if seeM σ m q (lsM σ n c kd m q k) (e + 1) = true then 1 else 0)), (6, .int (nI e)), (4, .int (nI k)), (3, .int (nI (lvB σ n c kd sn m q k))), (0, .ref (ad 0)), (1, .int (nI m)), (2, .int (nI q))]) hx hb dX9_leansOf_81 hl (by decide) rfl (fun ls hl => ?_)
                refine ninc (lv' := [(6, .int (nI (e + 1))), (5, .int (if seeM σ m q (lsM σ n c kd m q k) (e + 1) = true then 1 else 0)), (4, .int (nI k)), (3, .int (nI (lvB σ n c kd sn m q k))), (0, .ref (ad 0)), (1, .int (nI m)), (2, .int (nI q))]) hx hb e 1 dX9_leansOf_83 hl (k := 1) rfl (by decide) rfl (fun ls hl => ?_)
                refine lv_goto (tgt := 23) hx hb dX9_leansOf_86 (by decide) ?_
                exact ih23 _ (by omega) (e + 1) _ _ _ rfl (by omega) h (lv_sub hl [0, 1, 2, 3, 4, 5, 6] rfl)
              · refine lv_aload_n hx hb dX9_leansOf_59 rfl (lv_at hl 4 rfl) ?_
                refine mg_seenSum C h dX9_leansOf_60 ?_
                refine lv_iload hx hb dX9_leansOf_63 (lv_at hl 0 rfl) ?_
                refine ml_seenSum C h (j := e) (by omega) dX9_leansOf_65 ?_
                refine gas (z := σ 13 e) rfl ?_
                refine lv_aload_n hx hb dX9_leansOf_66 rfl (lv_at hl 4 rfl) ?_
                refine mg_sumBy C h dX9_leansOf_67 ?_
                refine lv_iload hx hb dX9_leansOf_70 (lv_at hl 2 rfl) ?_
                refine ml_sumBy C h (j := k) (by omega) dX9_leansOf_72 ?_
                refine gas (z := (lsM σ n c kd m q) k) rfl ?_
                refine lv_icmp_ne (tgt := 80) hx hb dX9_leansOf_73 (by decide) (fun c_73 => ?_) (fun c_73 => ?_)
                · refine lv_iconst (v := 0) hx hb dX9_leansOf_80 (by decide) ?_
                  refine gas (z := if seeM σ m q (lsM σ n c kd m q k) (e + 1) = true then 1 else 0) (by simp [seeM, c_34, c_45, c_56, c_73]) ?_
                  refine lv_istore (lv' := [(5, .int (if seeM σ m q (lsM σ n c kd m q k) (e + 1) = true then 1 else 0)), (6, .int (nI e)), (4, .int (nI k)), (3, .int (nI (lvB σ n c kd sn m q k))), (0, .ref (ad 0)), (1, .int (nI m)), (2, .int (nI q))]) hx hb dX9_leansOf_81 hl (by decide) rfl (fun ls hl => ?_)
                  refine ninc (lv' := [(6, .int (nI (e + 1))), (5, .int (if seeM σ m q (lsM σ n c kd m q k) (e + 1) = true then 1 else 0)), (4, .int (nI k)), (3, .int (nI (lvB σ n c kd sn m q k))), (0, .ref (ad 0)), (1, .int (nI m)), (2, .int (nI q))]) hx hb e 1 dX9_leansOf_83 hl (k := 1) rfl (by decide) rfl (fun ls hl => ?_)
                  refine lv_goto (tgt := 23) hx hb dX9_leansOf_86 (by decide) ?_
                  exact ih23 _ (by omega) (e + 1) _ _ _ rfl (by omega) h (lv_sub hl [0, 1, 2, 3, 4, 5, 6] rfl)
                · refine lv_iconst (v := 1) hx hb dX9_leansOf_76 (by decide) ?_
                  refine lv_goto (tgt := 81) hx hb dX9_leansOf_77 (by decide) ?_
                  refine gas (z := if seeM σ m q (lsM σ n c kd m q k) (e + 1) = true then 1 else 0) (by simp [seeM, c_34, c_45, c_56, c_73]) ?_
                  refine lv_istore (lv' := [(5, .int (if seeM σ m q (lsM σ n c kd m q k) (e + 1) = true then 1 else 0)), (6, .int (nI e)), (4, .int (nI k)), (3, .int (nI (lvB σ n c kd sn m q k))), (0, .ref (ad 0)), (1, .int (nI m)), (2, .int (nI q))]) hx hb dX9_leansOf_81 hl (by decide) rfl (fun ls hl => ?_)
                  refine ninc (lv' := [(6, .int (nI (e + 1))), (5, .int (if seeM σ m q (lsM σ n c kd m q k) (e + 1) = true then 1 else 0)), (4, .int (nI k)), (3, .int (nI (lvB σ n c kd sn m q k))), (0, .ref (ad 0)), (1, .int (nI m)), (2, .int (nI q))]) hx hb e 1 dX9_leansOf_83 hl (k := 1) rfl (by decide) rfl (fun ls hl => ?_)
                  refine lv_goto (tgt := 23) hx hb dX9_leansOf_86 (by decide) ?_
                  exact ih23 _ (by omega) (e + 1) _ _ _ rfl (by omega) h (lv_sub hl [0, 1, 2, 3, 4, 5, 6] rfl)
      exact L23_2 _ 0 _ _ _ rfl (by omega) h (lv_sub hl [0, 1, 2, 3, 4, 5, 6] rfl)
  exact L11_1 _ 0 _ _ _ rfl (by omega) h (lv_sub hl [0, 1, 2, 3, 4] rfl)
set_option maxHeartbeats 4000000 in
set_option maxRecDepth 100000 in
theorem kX9_worstOn (l : Launch) (D : va_G) (ct : Nat → ClassId) (ad : Nat → Nat) (σ : Nat → Nat → Int32) (τ : Nat → Nat → Int64) (b : Nat) (hb1 : b < 2 ^ 31) : MI l yX9_worstOn (gWs yX9_worstOn cX9_worstOn 6 (some .int)) rmX9_worstOn D ct gNo [.ref (ad 0), .int (nI b)] (wM ad ct σ τ) (fun _ : Unit => (wM ad ct σ τ)) (fun r _ => r = nI (mxW (σ 21) b 3)) := by
  refine MI.ofI RX9 rfl (by decide) (Nat.le_of_ble_eq_true rfl) ?_
  intro zp ze zs zm za zb zt zc zA ls zQ C h hX hl hret
  have hx := C.1
  have hb := C.2.1
  have hl : lv_has ls 6 [(0, .ref (ad 0)), (1, .int (nI b))] := hl
  refine lv_iconst (v := 0) hx hb dX9_worstOn_0 (by decide) ?_
  refine lv_istore_n (lv' := [(2, .int 0), (0, .ref (ad 0)), (1, .int (nI b))]) hx hb dX9_worstOn_1 rfl hl (by decide) rfl (fun ls hl => ?_)
  refine lv_iconst (v := 0) hx hb dX9_worstOn_2 (by decide) ?_
  refine lv_istore_n (lv' := [(3, .int 0), (2, .int 0), (0, .ref (ad 0)), (1, .int (nI b))]) hx hb dX9_worstOn_3 rfl hl (by decide) rfl (fun ls hl => ?_)
  have L4_0 : ∀ (kk : Nat) (a : Nat) (H : Heap) (ll : List Loc) (ls : Array Slot), 3 - a = kk → (a ≤ 3) → gW D ct zA zs H ll (wM ad ct σ τ) → lv_has ls 6 [(3, .int (nI a)), (2, .int (nI (mxW (σ 21) b a))), (0, .ref (ad 0)), (1, .int (nI b))] → W zp l ze rmX9_worstOn zs zm za zb zt zc H ll 0 0 zQ (F0 zm 4 ls []) := by
    intro kk4
    induction kk4 using Nat.strongRecOn with
    | _ kk4 ih4 =>
    intro a H ll ls hk4 ha h hl
    refine lv_iload_n hx hb dX9_worstOn_4 rfl (lv_at hl 0 rfl) ?_
    refine lv_iconst (v := 3) hx hb dX9_worstOn_5 (by decide) ?_
    refine nb_ge hx hb a 3 (by omega) (by omega) (tgt := 89) dX9_worstOn_6 (by decide) (fun c_6 => ?_) (fun c_6 => ?_)
    · refine lv_iload_n hx hb dX9_worstOn_89 rfl (lv_at hl 1 rfl) ?_
      exact hret _ () _ _ _ _ h (by rw [show a = 3 by omega]) dX9_worstOn_90
    · refine lv_iconst (v := 0) hx hb dX9_worstOn_9 (by decide) ?_
      refine lv_istore (lv' := [(4, .int 0), (3, .int (nI a)), (2, .int (nI (mxW (σ 21) b a))), (0, .ref (ad 0)), (1, .int (nI b))]) hx hb dX9_worstOn_10 hl (by decide) rfl (fun ls hl => ?_)
      refine lv_iconst (v := 0) hx hb dX9_worstOn_12 (by decide) ?_
      refine lv_istore (lv' := [(5, .int 0), (4, .int 0), (3, .int (nI a)), (2, .int (nI (mxW (σ 21) b a))), (0, .ref (ad 0)), (1, .int (nI b))]) hx hb dX9_worstOn_13 hl (by decide) rfl (fun ls hl => ?_)
      have L15_1 : ∀ (kk : Nat) (k : Nat) (H : Heap) (ll : List Loc) (ls : Array Slot), 3 - k = kk → (k ≤ 3) → gW D ct zA zs H ll (wM ad ct σ τ) → lv_has ls 6 [(5, .int (nI k)), (4, .int (nI (cntW (σ 21) b a k))), (3, .int (nI a)), (2, .int (nI (mxW (σ 21) b a))), (0, .ref (ad 0)), (1, .int (nI b))] → W zp l ze rmX9_worstOn zs zm za zb zt zc H ll 0 0 zQ (F0 zm 15 ls []) := by
        intro kk15
        induction kk15 using Nat.strongRecOn with
        | _ kk15 ih15 =>
        intro k H ll ls hk15 hk h hl
        refine lv_iload hx hb dX9_worstOn_15 (lv_at hl 0 rfl) ?_
        refine lv_iconst (v := 3) hx hb dX9_worstOn_17 (by decide) ?_
        refine nb_ge hx hb k 3 (by omega) (by omega) (tgt := 70) dX9_worstOn_18 (by decide) (fun c_18 => ?_) (fun c_18 => ?_)
        · have e6 : k = 3 := by omega
          rw [e6] at hl
          have h7 := cntW_le (σ 21) b a 3
          have h8 := mxW_le (σ 21) b a
          refine lv_iload hx hb dX9_worstOn_70 (lv_at hl 1 rfl) ?_
          refine lv_iload_n hx hb dX9_worstOn_72 rfl (lv_at hl 3 rfl) ?_
          refine nb_le hx hb (cntW (σ 21) b a 3) (mxW (σ 21) b a) (by omega) (by omega) (tgt := 81) dX9_worstOn_73 (by decide) (fun c_73 => ?_) (fun c_73 => ?_)
          · refine lv_iload_n hx hb dX9_worstOn_81 rfl (lv_at hl 3 rfl) ?_
            refine lv_istore_n (lv' := [(2, .int (nI (mxW (σ 21) b a))), (5, .int (nI 3)), (4, .int (nI (cntW (σ 21) b a 3))), (3, .int (nI a)), (0, .ref (ad 0)), (1, .int (nI b))]) hx hb dX9_worstOn_82 rfl hl (by decide) rfl (fun ls hl => ?_)
            refine ninc (lv' := [(3, .int (nI (a + 1))), (2, .int (nI (mxW (σ 21) b a))), (5, .int (nI 3)), (4, .int (nI (cntW (σ 21) b a 3))), (0, .ref (ad 0)), (1, .int (nI b))]) hx hb a 1 dX9_worstOn_83 hl (k := 3) rfl (by decide) rfl (fun ls hl => ?_)
            refine lv_goto (tgt := 4) hx hb dX9_worstOn_86 (by decide) ?_
            have e9 : mxW (σ 21) b (a + 1) = mxW (σ 21) b a := by show (if _ then _ else _) = _; rw [if_neg (by omega)]
            rw [← e9] at hl
            exact ih4 _ (by omega) (a + 1) _ _ _ rfl (by omega) h (lv_sub hl [0, 1, 4, 5] rfl)
          · refine lv_iload hx hb dX9_worstOn_76 (lv_at hl 1 rfl) ?_
            refine lv_goto (tgt := 82) hx hb dX9_worstOn_78 (by decide) ?_
            refine lv_istore_n (lv' := [(2, .int (nI (cntW (σ 21) b a 3))), (5, .int (nI 3)), (4, .int (nI (cntW (σ 21) b a 3))), (3, .int (nI a)), (0, .ref (ad 0)), (1, .int (nI b))]) hx hb dX9_worstOn_82 rfl hl (by decide) rfl (fun ls hl => ?_)
            refine ninc (lv' := [(3, .int (nI (a + 1))), (2, .int (nI (cntW (σ 21) b a 3))), (5, .int (nI 3)), (4, .int (nI (cntW (σ 21) b a 3))), (0, .ref (ad 0)), (1, .int (nI b))]) hx hb a 1 dX9_worstOn_83 hl (k := 3) rfl (by decide) rfl (fun ls hl => ?_)
            refine lv_goto (tgt := 4) hx hb dX9_worstOn_86 (by decide) ?_
            have e9 : mxW (σ 21) b (a + 1) = cntW (σ 21) b a 3 := by show (if _ then _ else _) = _; rw [if_pos c_73]
            rw [← e9] at hl
            exact ih4 _ (by omega) (a + 1) _ _ _ rfl (by omega) h (lv_sub hl [0, 1, 4, 5] rfl)
        · refine lv_iload hx hb dX9_worstOn_21 (lv_at hl 1 rfl) ?_
          refine lv_iload_n hx hb dX9_worstOn_23 rfl (lv_at hl 5 rfl) ?_
          refine lv_iload_n hx hb dX9_worstOn_24 rfl (lv_at hl 2 rfl) ?_
          refine gcallSi C h (kX9_isIn l D ct b a (by omega) (by omega)) (va_cwS 2 C.2.2.2.2 (gInS q889 q890 q66 q891) rfl rfl rfl hdX9_isIn ⟨Nat.le_of_ble_eq_true rfl, Nat.le_of_ble_eq_true rfl⟩) rfl hl.1 rfl (Nat.le_of_ble_eq_true rfl) dX9_worstOn_25 ⟨Nat.zero_le _, Nat.zero_le _⟩ (fun H ll h => ?_)
          refine bz_eq hx hb (b.testBit a = true) (tgt := 60) dX9_worstOn_28 (by decide) (fun c_28 => ?_) (fun c_28 => ?_)
          · refine lv_iconst (v := 0) hx hb dX9_worstOn_60 (by decide) ?_
            refine nadd hx hb (cntW (σ 21) b a k) 0 dX9_worstOn_61 ?_
            refine lv_istore (lv' := [(4, .int (nI ((cntW (σ 21) b a k) + 0))), (5, .int (nI k)), (3, .int (nI a)), (2, .int (nI (mxW (σ 21) b a))), (0, .ref (ad 0)), (1, .int (nI b))]) hx hb dX9_worstOn_62 hl (by decide) rfl (fun ls hl => ?_)
            refine ninc (lv' := [(5, .int (nI (k + 1))), (4, .int (nI ((cntW (σ 21) b a k) + 0))), (3, .int (nI a)), (2, .int (nI (mxW (σ 21) b a))), (0, .ref (ad 0)), (1, .int (nI b))]) hx hb k 1 dX9_worstOn_64 hl (k := 1) rfl (by decide) rfl (fun ls hl => ?_)
            refine lv_goto (tgt := 15) hx hb dX9_worstOn_67 (by decide) ?_
            have e9 : cntW (σ 21) b a (k + 1) = (cntW (σ 21) b a k) + 0 := by simp [cntW, c_28]
            rw [← e9] at hl
            exact ih15 _ (by omega) (k + 1) _ _ _ rfl (by omega) h (lv_sub hl [0, 1, 2, 3, 4, 5] rfl)
          · refine lv_iload_n hx hb dX9_worstOn_31 rfl (lv_at hl 5 rfl) ?_
            refine lv_iload hx hb dX9_worstOn_32 (lv_at hl 0 rfl) ?_
            refine gcallSi C h (kX9_isIn l D ct b k (by omega) (by omega)) (va_cwS 2 C.2.2.2.2 (gInS q889 q890 q66 q891) rfl rfl rfl hdX9_isIn ⟨Nat.le_of_ble_eq_true rfl, Nat.le_of_ble_eq_true rfl⟩) rfl hl.1 rfl (Nat.le_of_ble_eq_true rfl) dX9_worstOn_34 ⟨Nat.zero_le _, Nat.zero_le _⟩ (fun H ll h => ?_)
            refine bz_eq hx hb (b.testBit k = true) (tgt := 60) dX9_worstOn_37 (by decide) (fun c_37 => ?_) (fun c_37 => ?_)
            · refine lv_iconst (v := 0) hx hb dX9_worstOn_60 (by decide) ?_
              refine nadd hx hb (cntW (σ 21) b a k) 0 dX9_worstOn_61 ?_
              refine lv_istore (lv' := [(4, .int (nI ((cntW (σ 21) b a k) + 0))), (5, .int (nI k)), (3, .int (nI a)), (2, .int (nI (mxW (σ 21) b a))), (0, .ref (ad 0)), (1, .int (nI b))]) hx hb dX9_worstOn_62 hl (by decide) rfl (fun ls hl => ?_)
              refine ninc (lv' := [(5, .int (nI (k + 1))), (4, .int (nI ((cntW (σ 21) b a k) + 0))), (3, .int (nI a)), (2, .int (nI (mxW (σ 21) b a))), (0, .ref (ad 0)), (1, .int (nI b))]) hx hb k 1 dX9_worstOn_64 hl (k := 1) rfl (by decide) rfl (fun ls hl => ?_)
              refine lv_goto (tgt := 15) hx hb dX9_worstOn_67 (by decide) ?_
              have e9 : cntW (σ 21) b a (k + 1) = (cntW (σ 21) b a k) + 0 := by simp [cntW, c_28, c_37]
              rw [← e9] at hl
              exact ih15 _ (by omega) (k + 1) _ _ _ rfl (by omega) h (lv_sub hl [0, 1, 2, 3, 4, 5] rfl)
            · refine lv_aload_n hx hb dX9_worstOn_40 rfl (lv_at hl 4 rfl) ?_
              refine mg_sumBy C h dX9_worstOn_41 ?_
              refine lv_iload_n hx hb dX9_worstOn_44 rfl (lv_at hl 2 rfl) ?_
              refine ml_sumBy C h (j := a) (by omega) dX9_worstOn_45 ?_
              refine lv_aload_n hx hb dX9_worstOn_46 rfl (lv_at hl 4 rfl) ?_
              refine mg_sumBy C h dX9_worstOn_47 ?_
              refine lv_iload hx hb dX9_worstOn_50 (lv_at hl 0 rfl) ?_
              refine ml_sumBy C h (j := k) (by omega) dX9_worstOn_52 ?_
              refine lv_icmp_ne (tgt := 60) hx hb dX9_worstOn_53 (by decide) (fun c_53 => ?_) (fun c_53 => ?_)
              · refine lv_iconst (v := 0) hx hb dX9_worstOn_60 (by decide) ?_
                refine nadd hx hb (cntW (σ 21) b a k) 0 dX9_worstOn_61 ?_
                refine lv_istore (lv' := [(4, .int (nI ((cntW (σ 21) b a k) + 0))), (5, .int (nI k)), (3, .int (nI a)), (2, .int (nI (mxW (σ 21) b a))), (0, .ref (ad 0)), (1, .int (nI b))]) hx hb dX9_worstOn_62 hl (by decide) rfl (fun ls hl => ?_)
                refine ninc (lv' := [(5, .int (nI (k + 1))), (4, .int (nI ((cntW (σ 21) b a k) + 0))), (3, .int (nI a)), (2, .int (nI (mxW (σ 21) b a))), (0, .ref (ad 0)), (1, .int (nI b))]) hx hb k 1 dX9_worstOn_64 hl (k := 1) rfl (by decide) rfl (fun ls hl => ?_)
                refine lv_goto (tgt := 15) hx hb dX9_worstOn_67 (by decide) ?_
                have e9 : cntW (σ 21) b a (k + 1) = (cntW (σ 21) b a k) + 0 := by simp [cntW, c_28, c_37, c_53]
                rw [← e9] at hl
                exact ih15 _ (by omega) (k + 1) _ _ _ rfl (by omega) h (lv_sub hl [0, 1, 2, 3, 4, 5] rfl)
              · refine lv_iconst (v := 1) hx hb dX9_worstOn_56 (by decide) ?_
                refine lv_goto (tgt := 61) hx hb dX9_worstOn_57 (by decide) ?_
                refine nadd hx hb (cntW (σ 21) b a k) 1 dX9_worstOn_61 ?_
                refine lv_istore (lv' := [(4, .int (nI ((cntW (σ 21) b a k) + 1))), (5, .int (nI k)), (3, .int (nI a)), (2, .int (nI (mxW (σ 21) b a))), (0, .ref (ad 0)), (1, .int (nI b))]) hx hb dX9_worstOn_62 hl (by decide) rfl (fun ls hl => ?_)
                refine ninc (lv' := [(5, .int (nI (k + 1))), (4, .int (nI ((cntW (σ 21) b a k) + 1))), (3, .int (nI a)), (2, .int (nI (mxW (σ 21) b a))), (0, .ref (ad 0)), (1, .int (nI b))]) hx hb k 1 dX9_worstOn_64 hl (k := 1) rfl (by decide) rfl (fun ls hl => ?_)
                refine lv_goto (tgt := 15) hx hb dX9_worstOn_67 (by decide) ?_
                have e9 : cntW (σ 21) b a (k + 1) = (cntW (σ 21) b a k) + 1 := by simp [cntW, c_28, c_37, c_53]
                rw [← e9] at hl
                exact ih15 _ (by omega) (k + 1) _ _ _ rfl (by omega) h (lv_sub hl [0, 1, 2, 3, 4, 5] rfl)
      exact L15_1 _ 0 _ _ _ rfl (by omega) h (lv_sub hl [0, 1, 2, 3, 4, 5] rfl)
  exact L4_0 _ 0 _ _ _ rfl (by omega) h (lv_sub hl [0, 1, 2, 3] rfl)
set_option maxHeartbeats 4000000 in
set_option maxRecDepth 100000 in
theorem kX9_askOf (l : Launch) (D : va_G) (ct : Nat → ClassId) (ad : Nat → Nat) (σ : Nat → Nat → Int32) (τ : Nat → Nat → Int64) (n c : Nat) (kd : Nat → Nat) (hok : MOK σ n c kd) (sn : Nat) (hsn : σ 10 0 = nI sn) (hsn6 : sn ≤ 6) (m : Nat) (hm : m < n) : MI l yX9_askOf (gWs yX9_askOf cX9_askOf 8 (some .int)) rmX9_askOf D ct gNo [.ref (ad 0), .int (nI m)] (wM ad ct σ τ) (fun u : (Nat → Nat → Int32) × (Nat → Nat → Int64) => wM ad ct u.1 u.2) (fun r u => r = bI (akM σ n c kd sn m 3).1 ∧ ∃ (g21 : Nat → Int32), u = (va_up (va_up σ 21 g21) 4 (σ 4), τ)) := by
  refine MI.ofI RX9 rfl (by decide) (Nat.le_of_ble_eq_true rfl) ?_
  intro zp ze zs zm za zb zt zc zA ls zQ C h hX hl hret
  have hx := C.1
  have hb := C.2.1
  have hl : lv_has ls 8 [(0, .ref (ad 0)), (1, .int (nI m))] := hl
  have hok0 := hok
  obtain ⟨hn, hn8, hc, hc8, hkd⟩ := hok0
  refine lv_iconst (v := -1) hx hb dX9_askOf_0 (by decide) ?_
  refine lv_istore_n (lv' := [(2, .int (-1)), (0, .ref (ad 0)), (1, .int (nI m))]) hx hb dX9_askOf_1 rfl hl (by decide) rfl (fun ls hl => ?_)
  refine lv_ldc (v := 268435456) hx hb C.2.2.2.1 (C.2.2.2.2 _ (gWs_in q900)) dX9_askOf_2 ?_
  refine lv_istore_n (lv' := [(3, .int 268435456), (2, .int (-1)), (0, .ref (ad 0)), (1, .int (nI m))]) hx hb dX9_askOf_4 rfl hl (by decide) rfl (fun ls hl => ?_)
  refine lv_iconst (v := 0) hx hb dX9_askOf_5 (by decide) ?_
  refine lv_istore (lv' := [(4, .int 0), (3, .int 268435456), (2, .int (-1)), (0, .ref (ad 0)), (1, .int (nI m))]) hx hb dX9_askOf_6 hl (by decide) rfl (fun ls hl => ?_)
  have L8_0 : ∀ (kk : Nat) (q : Nat) (g : Nat → Int32) (H : Heap) (ll : List Loc) (ls : Array Slot), 3 - q = kk → (q ≤ 3) → gW D ct zA zs H ll (wM ad ct (va_up (va_up σ 21 g) 4 (σ 4)) τ) → lv_has ls 8 [(4, .int (nI q)), (3, .int (nI ((akM σ n c kd sn m q).2))), (2, .int (bI (akM σ n c kd sn m q).1)), (0, .ref (ad 0)), (1, .int (nI m))] → W zp l ze rmX9_askOf zs zm za zb zt zc H ll 0 0 zQ (F0 zm 8 ls []) := by
    intro kk8
    induction kk8 using Nat.strongRecOn with
    | _ kk8 ih8 =>
    intro q g H ll ls hk8 hq h hl
    refine lv_iload hx hb dX9_askOf_8 (lv_at hl 0 rfl) ?_
    refine lv_iconst (v := 3) hx hb dX9_askOf_10 (by decide) ?_
    refine nb_ge hx hb q 3 (by omega) (by omega) (tgt := 84) dX9_askOf_11 (by decide) (fun c_11 => ?_) (fun c_11 => ?_)
    · refine lv_iload_n hx hb dX9_askOf_84 rfl (lv_at hl 2 rfl) ?_
      have h : gW D ct zA zs _ _ (wM ad ct (va_up (va_up σ 21 g) 4 (σ 4)) τ) := h
      exact hret _ (va_up (va_up σ 21 g) 4 (σ 4), τ) _ _ _ _ h ⟨(by rw [show q = 3 by omega]), g, rfl⟩ dX9_askOf_85
    · refine lv_aload_n hx hb dX9_askOf_14 rfl (lv_at hl 3 rfl) ?_
      refine lv_iload_n hx hb dX9_askOf_15 rfl (lv_at hl 4 rfl) ?_
      refine lv_iload hx hb dX9_askOf_16 (lv_at hl 0 rfl) ?_
      refine gcallVi C h trivial gNo_ok (kX9_leansOf l D ct ad (va_up (va_up σ 21 g) 4 (σ 4)) τ n c kd hok sn hsn hsn6 m q (by omega) (by omega)) (cwV 2 C.2.2.2.2 (gInV q865 q867 q24 q66 q868) rfl rfl rfl hvX9_leansOf ⟨Nat.le_of_ble_eq_true rfl, Nat.le_of_ble_eq_true rfl⟩) 0 (wM_o ad ct (va_up (va_up σ 21 g) 4 (σ 4)) τ) rfl rfl rfl hl.1 rfl (Nat.le_of_ble_eq_true rfl) dX9_askOf_18 ⟨Nat.zero_le _, Nat.zero_le _⟩ (fun r9 u9 H ll hw h => ?_)
      obtain ⟨hw, rfl⟩ := hw
      have hw : r9 = nI (lvB σ n c kd sn m q 3) := hw.trans (congrArg nI (lvB_congr (σ := σ) (ρ := va_up (va_up σ 21 g) 4 (σ 4)) rfl rfl rfl rfl rfl))
      subst hw
      have h : gW D ct zA zs _ _ (wM ad ct (va_up (va_up σ 21 (lsM σ n c kd m q)) 4 (σ 4)) τ) := h
      refine lv_istore (lv' := [(5, .int (nI (lvB σ n c kd sn m q 3))), (4, .int (nI q)), (3, .int (nI ((akM σ n c kd sn m q).2))), (2, .int (bI (akM σ n c kd sn m q).1)), (0, .ref (ad 0)), (1, .int (nI m))]) hx hb dX9_askOf_21 hl (by decide) rfl (fun ls hl => ?_)
      have h7 := lvB_lt σ n c kd sn m q 3
      have h7 : lvB σ n c kd sn m q 3 < 8 := h7
      refine lv_aload_n hx hb dX9_askOf_23 rfl (lv_at hl 4 rfl) ?_
      refine lv_iload hx hb dX9_askOf_24 (lv_at hl 0 rfl) ?_
      refine gcallVi C h trivial gNo_ok (kX9_worstOn l D ct ad (va_up (va_up σ 21 (lsM σ n c kd m q)) 4 (σ 4)) τ (lvB σ n c kd sn m q 3) (by omega)) (cwV 1 C.2.2.2.2 (gInV q901 q903 q32 q66 q904) rfl rfl rfl hvX9_worstOn ⟨Nat.le_of_ble_eq_true rfl, Nat.le_of_ble_eq_true rfl⟩) 0 (wM_o ad ct (va_up (va_up σ 21 (lsM σ n c kd m q)) 4 (σ 4)) τ) rfl rfl rfl hl.1 rfl (Nat.le_of_ble_eq_true rfl) dX9_askOf_26 ⟨Nat.zero_le _, Nat.zero_le _⟩ (fun r9 u9 H ll hw h => ?_)
      have hw : r9 = nI (mxW ((lsM σ n c kd m q)) (lvB σ n c kd sn m q 3) 3) := hw
      subst hw
      have h : gW D ct zA zs _ _ (wM ad ct (va_up (va_up σ 21 (lsM σ n c kd m q)) 4 (σ 4)) τ) := h
      refine lv_istore (lv' := [(6, .int (nI (mxW ((lsM σ n c kd m q)) (lvB σ n c kd sn m q 3) 3))), (5, .int (nI (lvB σ n c kd sn m q 3))), (4, .int (nI q)), (3, .int (nI ((akM σ n c kd sn m q).2))), (2, .int (bI (akM σ n c kd sn m q).1)), (0, .ref (ad 0)), (1, .int (nI m))]) hx hb dX9_askOf_29 hl (by decide) rfl (fun ls hl => ?_)
      have h8 := mxW_le (lsM σ n c kd m q) (lvB σ n c kd sn m q 3) 3
      have h6 := pcn_le (lvB σ n c kd sn m q 3) 8
      have h5 := akM_le σ n c kd sn m q
      refine lv_iload hx hb dX9_askOf_31 (lv_at hl 0 rfl) ?_
      refine lv_iload hx hb dX9_askOf_33 (lv_at hl 1 rfl) ?_
      refine gcallSi C h (kX9_size l D ct (lvB σ n c kd sn m q 3) (by omega)) (va_cwS 1 C.2.2.2.2 (gInS q905 q906 q66 q907) rfl rfl rfl hdX9_size ⟨Nat.le_of_ble_eq_true rfl, Nat.le_of_ble_eq_true rfl⟩) rfl hl.1 rfl (Nat.le_of_ble_eq_true rfl) dX9_askOf_35 ⟨Nat.zero_le _, Nat.zero_le _⟩ (fun H ll h => ?_)
      refine nb_ge hx hb (mxW ((lsM σ n c kd m q)) (lvB σ n c kd sn m q 3) 3) (pcn (lvB σ n c kd sn m q 3) 8) (by omega) (by omega) (tgt := 51) dX9_askOf_38 (by decide) (fun c_38 => ?_) (fun c_38 => ?_)
      · refine lv_iconst (v := 0) hx hb dX9_askOf_51 (by decide) ?_
        refine lv_istore (lv' := [(7, .int 0), (6, .int (nI (mxW ((lsM σ n c kd m q)) (lvB σ n c kd sn m q 3) 3))), (5, .int (nI (lvB σ n c kd sn m q 3))), (4, .int (nI q)), (3, .int (nI ((akM σ n c kd sn m q).2))), (2, .int (bI (akM σ n c kd sn m q).1)), (0, .ref (ad 0)), (1, .int (nI m))]) hx hb dX9_askOf_52 hl (by decide) rfl (fun ls hl => ?_)
        refine lv_iload hx hb dX9_askOf_54 (lv_at hl 0 rfl) ?_
        refine lv_if_eq (tgt := 64) hx hb dX9_askOf_56 (by decide) (fun _ => ?_) (fun q => absurd (by decide) q)
        refine lv_iload_n hx hb dX9_askOf_64 rfl (lv_at hl 5 rfl) ?_
        refine lv_istore_n (lv' := [(2, .int (bI (akM σ n c kd sn m q).1)), (7, .int 0), (6, .int (nI (mxW ((lsM σ n c kd m q)) (lvB σ n c kd sn m q 3) 3))), (5, .int (nI (lvB σ n c kd sn m q 3))), (4, .int (nI q)), (3, .int (nI ((akM σ n c kd sn m q).2))), (0, .ref (ad 0)), (1, .int (nI m))]) hx hb dX9_askOf_65 rfl hl (by decide) rfl (fun ls hl => ?_)
        refine lv_iload hx hb dX9_askOf_66 (lv_at hl 1 rfl) ?_
        refine lv_if_eq (tgt := 76) hx hb dX9_askOf_68 (by decide) (fun _ => ?_) (fun q => absurd (by decide) q)
        refine lv_iload_n hx hb dX9_askOf_76 rfl (lv_at hl 5 rfl) ?_
        refine lv_istore_n (lv' := [(3, .int (nI ((akM σ n c kd sn m q).2))), (2, .int (bI (akM σ n c kd sn m q).1)), (7, .int 0), (6, .int (nI (mxW ((lsM σ n c kd m q)) (lvB σ n c kd sn m q 3) 3))), (5, .int (nI (lvB σ n c kd sn m q 3))), (4, .int (nI q)), (0, .ref (ad 0)), (1, .int (nI m))]) hx hb dX9_askOf_77 rfl hl (by decide) rfl (fun ls hl => ?_)
        refine ninc (lv' := [(4, .int (nI (q + 1))), (3, .int (nI ((akM σ n c kd sn m q).2))), (2, .int (bI (akM σ n c kd sn m q).1)), (7, .int 0), (6, .int (nI (mxW ((lsM σ n c kd m q)) (lvB σ n c kd sn m q 3) 3))), (5, .int (nI (lvB σ n c kd sn m q 3))), (0, .ref (ad 0)), (1, .int (nI m))]) hx hb q 1 dX9_askOf_78 hl (k := 5) rfl (by decide) rfl (fun ls hl => ?_)
        refine lv_goto (tgt := 8) hx hb dX9_askOf_81 (by decide) ?_
        have e9 : akM σ n c kd sn m (q + 1) = akM σ n c kd sn m q := if_neg (fun h9 => absurd h9.1 (by omega))
        have hl : lv_has ls 8 [(4, .int (nI (q + 1))), (3, .int (nI ((akM σ n c kd sn m (q + 1)).2))), (2, .int (bI (akM σ n c kd sn m (q + 1)).1)), (7, .int 0), (6, .int (nI (mxW ((lsM σ n c kd m q)) (lvB σ n c kd sn m q 3) 3))), (5, .int (nI (lvB σ n c kd sn m q 3))), (0, .ref (ad 0)), (1, .int (nI m))] := by rw [e9]; exact hl
        exact ih8 _ (by omega) (q + 1) (lsM σ n c kd m q) _ _ _ rfl (by omega) h (lv_sub hl [0, 1, 2, 6, 7] rfl)
      · refine lv_iload hx hb dX9_askOf_41 (lv_at hl 0 rfl) ?_
        refine lv_iload_n hx hb dX9_askOf_43 rfl (lv_at hl 3 rfl) ?_
        refine nb_ge hx hb (mxW ((lsM σ n c kd m q)) (lvB σ n c kd sn m q 3) 3) ((akM σ n c kd sn m q).2) (by omega) (by omega) (tgt := 51) dX9_askOf_44 (by decide) (fun c_44 => ?_) (fun c_44 => ?_)
        · refine lv_iconst (v := 0) hx hb dX9_askOf_51 (by decide) ?_
          refine lv_istore (lv' := [(7, .int 0), (6, .int (nI (mxW ((lsM σ n c kd m q)) (lvB σ n c kd sn m q 3) 3))), (5, .int (nI (lvB σ n c kd sn m q 3))), (4, .int (nI q)), (3, .int (nI ((akM σ n c kd sn m q).2))), (2, .int (bI (akM σ n c kd sn m q).1)), (0, .ref (ad 0)), (1, .int (nI m))]) hx hb dX9_askOf_52 hl (by decide) rfl (fun ls hl => ?_)
          refine lv_iload hx hb dX9_askOf_54 (lv_at hl 0 rfl) ?_
          refine lv_if_eq (tgt := 64) hx hb dX9_askOf_56 (by decide) (fun _ => ?_) (fun q => absurd (by decide) q)
          refine lv_iload_n hx hb dX9_askOf_64 rfl (lv_at hl 5 rfl) ?_
          refine lv_istore_n (lv' := [(2, .int (bI (akM σ n c kd sn m q).1)), (7, .int 0), (6, .int (nI (mxW ((lsM σ n c kd m q)) (lvB σ n c kd sn m q 3) 3))), (5, .int (nI (lvB σ n c kd sn m q 3))), (4, .int (nI q)), (3, .int (nI ((akM σ n c kd sn m q).2))), (0, .ref (ad 0)), (1, .int (nI m))]) hx hb dX9_askOf_65 rfl hl (by decide) rfl (fun ls hl => ?_)
          refine lv_iload hx hb dX9_askOf_66 (lv_at hl 1 rfl) ?_
          refine lv_if_eq (tgt := 76) hx hb dX9_askOf_68 (by decide) (fun _ => ?_) (fun q => absurd (by decide) q)
          refine lv_iload_n hx hb dX9_askOf_76 rfl (lv_at hl 5 rfl) ?_
          refine lv_istore_n (lv' := [(3, .int (nI ((akM σ n c kd sn m q).2))), (2, .int (bI (akM σ n c kd sn m q).1)), (7, .int 0), (6, .int (nI (mxW ((lsM σ n c kd m q)) (lvB σ n c kd sn m q 3) 3))), (5, .int (nI (lvB σ n c kd sn m q 3))), (4, .int (nI q)), (0, .ref (ad 0)), (1, .int (nI m))]) hx hb dX9_askOf_77 rfl hl (by decide) rfl (fun ls hl => ?_)
          refine ninc (lv' := [(4, .int (nI (q + 1))), (3, .int (nI ((akM σ n c kd sn m q).2))), (2, .int (bI (akM σ n c kd sn m q).1)), (7, .int 0), (6, .int (nI (mxW ((lsM σ n c kd m q)) (lvB σ n c kd sn m q 3) 3))), (5, .int (nI (lvB σ n c kd sn m q 3))), (0, .ref (ad 0)), (1, .int (nI m))]) hx hb q 1 dX9_askOf_78 hl (k := 5) rfl (by decide) rfl (fun ls hl => ?_)
          refine lv_goto (tgt := 8) hx hb dX9_askOf_81 (by decide) ?_
          have e9 : akM σ n c kd sn m (q + 1) = akM σ n c kd sn m q := if_neg (fun h9 => absurd h9.2 (by omega))
          have hl : lv_has ls 8 [(4, .int (nI (q + 1))), (3, .int (nI ((akM σ n c kd sn m (q + 1)).2))), (2, .int (bI (akM σ n c kd sn m (q + 1)).1)), (7, .int 0), (6, .int (nI (mxW ((lsM σ n c kd m q)) (lvB σ n c kd sn m q 3) 3))), (5, .int (nI (lvB σ n c kd sn m q 3))), (0, .ref (ad 0)), (1, .int (nI m))] := by rw [e9]; exact hl
          exact ih8 _ (by omega) (q + 1) (lsM σ n c kd m q) _ _ _ rfl (by omega) h (lv_sub hl [0, 1, 2, 6, 7] rfl)
        · refine lv_iconst (v := 1) hx hb dX9_askOf_47 (by decide) ?_
          refine lv_goto (tgt := 52) hx hb dX9_askOf_48 (by decide) ?_
          refine lv_istore (lv' := [(7, .int 1), (6, .int (nI (mxW ((lsM σ n c kd m q)) (lvB σ n c kd sn m q 3) 3))), (5, .int (nI (lvB σ n c kd sn m q 3))), (4, .int (nI q)), (3, .int (nI ((akM σ n c kd sn m q).2))), (2, .int (bI (akM σ n c kd sn m q).1)), (0, .ref (ad 0)), (1, .int (nI m))]) hx hb dX9_askOf_52 hl (by decide) rfl (fun ls hl => ?_)
          refine lv_iload hx hb dX9_askOf_54 (lv_at hl 0 rfl) ?_
          refine lv_if_eq (tgt := 64) hx hb dX9_askOf_56 (by decide) (fun q => absurd q (by decide)) (fun _ => ?_)
          refine lv_iload hx hb dX9_askOf_59 (lv_at hl 3 rfl) ?_
          refine lv_goto (tgt := 65) hx hb dX9_askOf_61 (by decide) ?_
          refine lv_istore_n (lv' := [(2, .int (nI q)), (7, .int 1), (6, .int (nI (mxW ((lsM σ n c kd m q)) (lvB σ n c kd sn m q 3) 3))), (5, .int (nI (lvB σ n c kd sn m q 3))), (4, .int (nI q)), (3, .int (nI ((akM σ n c kd sn m q).2))), (0, .ref (ad 0)), (1, .int (nI m))]) hx hb dX9_askOf_65 rfl hl (by decide) rfl (fun ls hl => ?_)
          refine lv_iload hx hb dX9_askOf_66 (lv_at hl 1 rfl) ?_
          refine lv_if_eq (tgt := 76) hx hb dX9_askOf_68 (by decide) (fun q => absurd q (by decide)) (fun _ => ?_)
          refine lv_iload hx hb dX9_askOf_71 (lv_at hl 2 rfl) ?_
          refine lv_goto (tgt := 77) hx hb dX9_askOf_73 (by decide) ?_
          refine lv_istore_n (lv' := [(3, .int (nI (mxW ((lsM σ n c kd m q)) (lvB σ n c kd sn m q 3) 3))), (2, .int (nI q)), (7, .int 1), (6, .int (nI (mxW ((lsM σ n c kd m q)) (lvB σ n c kd sn m q 3) 3))), (5, .int (nI (lvB σ n c kd sn m q 3))), (4, .int (nI q)), (0, .ref (ad 0)), (1, .int (nI m))]) hx hb dX9_askOf_77 rfl hl (by decide) rfl (fun ls hl => ?_)
          refine ninc (lv' := [(4, .int (nI (q + 1))), (3, .int (nI (mxW ((lsM σ n c kd m q)) (lvB σ n c kd sn m q 3) 3))), (2, .int (nI q)), (7, .int 1), (6, .int (nI (mxW ((lsM σ n c kd m q)) (lvB σ n c kd sn m q 3) 3))), (5, .int (nI (lvB σ n c kd sn m q 3))), (0, .ref (ad 0)), (1, .int (nI m))]) hx hb q 1 dX9_askOf_78 hl (k := 5) rfl (by decide) rfl (fun ls hl => ?_)
          refine lv_goto (tgt := 8) hx hb dX9_askOf_81 (by decide) ?_
          have e9 : akM σ n c kd sn m (q + 1) = (some q, mxW (lsM σ n c kd m q) (lvB σ n c kd sn m q 3) 3) := if_pos ⟨c_38, c_44⟩
          have hl : lv_has ls 8 [(4, .int (nI (q + 1))), (3, .int (nI ((akM σ n c kd sn m (q + 1)).2))), (2, .int (bI (akM σ n c kd sn m (q + 1)).1)), (7, .int 1), (6, .int (nI (mxW ((lsM σ n c kd m q)) (lvB σ n c kd sn m q 3) 3))), (5, .int (nI (lvB σ n c kd sn m q 3))), (0, .ref (ad 0)), (1, .int (nI m))] := by rw [e9]; exact hl
          exact ih8 _ (by omega) (q + 1) (lsM σ n c kd m q) _ _ _ rfl (by omega) h (lv_sub hl [0, 1, 2, 6, 7] rfl)
  exact L8_0 _ 0 (σ 21) _ _ _ rfl (by omega) h (lv_sub hl [0, 1, 2, 3, 4] rfl)
