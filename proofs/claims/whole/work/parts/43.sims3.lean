theorem nonneg_nat {z : Int32} (h : ¬ z < 0) : ∃ k, k < 2 ^ 31 ∧ z = nI k := by
  have h0 : (0 : Int) ≤ z.toInt := by
    have := Int32.le_iff_toInt_le.mp (Int32.not_lt.mp h)
    exact this
  have h1 : z.toInt < 2 ^ 31 := Int32.toInt_lt z
  refine ⟨z.toInt.toNat, by omega, Int32.toInt_inj.mp ?_⟩
  rw [nI_toInt (by omega)]; omega
theorem rest_no {ρ : Nat → Nat → Int32} {r B : Nat} (hr1 : r ≤ B) (hB : B < 2 ^ 20) (hr3 : ρ 0 0 = nI r) (h : ρ 24 0 = 0 ∨ ∃ k, k < r ∧ ρ 25 0 = nI k) (w : ¬ ρ 24 0 = 0 ∧ ρ 25 0 = ρ 0 0) : False := by
  rcases h with h | ⟨k, h1, h2⟩
  · exact w.1 h
  · have := w.2
    rw [h2, hr3, nI_eq (by omega) (by omega)] at this
    omega
set_option maxHeartbeats 1000000 in
theorem pr_cuts (l : Launch) (D : va_G) (ct : Nat → ClassId) (dt : Nat → Nat) (ad : Nat → Nat → Nat) (bd : Nat → Nat) {B : Nat} (hB : B < 2 ^ 20) {σ lm : Nat → Nat → Nat → Int32} {τ : Nat → Int64} {ρ : Nat → Nat → Int32} {θ : Nat → Nat → Int64} (h : Rel B σ lm ρ) (x z t : Int32) : ∃ PM : Int32 → UM → Prop, MI l yX9_cuts (gWs yX9_cuts cX9_cuts 4 (some .int)) rmX9_cuts D ct gNo [.ref (bd 0), .int x, .int z, .int t] (wM bd ct ρ θ) (fun u : UM => wM bd ct u.1 u.2) PM ∧ MI l yX8_cuts (gWs yX8_cuts cX8_cuts 4 (some .int)) rmX8_cuts D ct (stX dt) [.ref (ad 0 0), .int x, .int z, .int t] (wX ad ct σ lm τ) (fun u : US => wX ad ct u.1 u.2.1 u.2.2) (Sim B PM) := by
  have hR := h
  obtain ⟨n, kd, hRp, ⟨c, td, sn, hNw⟩, ⟨pn, pg, hPg⟩, ⟨d, hd20, hd1, hd2⟩, r, hr1, hr2, hr3, hIm⟩ := h
  have hn8 := hRp.1
  have hX := Rp.x hRp
  have hM := Rp.m hRp hNw
  have hS := hNw.2.2.2
  have hSm : ∀ q, q < 3 → SmR n c (σ 3) (lm 3) ρ q := fun q hq => St.sm hS hn8 hq
  have hk4 := Rp.k4 hRp
  have hsn : σ 3 0 0 = nI sn := hS.2.1.1
  have hsn6 : sn ≤ 6 := hS.1.2.2
  refine ⟨_, kX9_cuts l D ct bd ρ θ n c kd hM x z t, ?_⟩
  rcases q_cases (n := n) x with ⟨q, hq, rfl, hn0, a1, a2⟩ | ⟨a1, a2⟩
  · by_cases h3 : -1 ≤ z ∧ z ≤ 1
    · rcases half_cases t with ⟨k, hk, rfl, c1, c2⟩ | ⟨c1, c2⟩
      · refine MI.map (fun _ _ _ => trivial) id (fun _ => rfl) (fun r9 u9 hp => ?_) (kX8_cuts l D ct ad σ lm τ n kd hX q z k hq hn0 h3 hk)
        obtain ⟨rfl, g5, L5, rfl⟩ := hp
        intro r8 u8 hm
        obtain ⟨rfl, rfl⟩ := itF (not_not_intro ⟨h3, c2⟩) (itF (not_not_intro a2) hm)
        rw [nIc (by omega), nIc (by omega)]
        exact ⟨by rw [cut_eq (hSm q hq) hk4 hn8 hn0], ⟨n, kd, hRp, ⟨c, td, sn, rfl, hNw.2.1, hNw.2.2.1, hS⟩, ⟨pn, pg, hPg⟩, ⟨d, hd20, hd1, hd2⟩, r, by omega, hr2, hr3, hIm⟩⟩
      · refine MI.map (fun _ _ _ => trivial) (fun _ => (σ, lm, τ)) (fun _ => rfl) (fun r9 u9 hp => ?_) (kX8_cuts_no l D ct ad σ lm τ n kd hX (nI q) z t (fun w => c1 w.2.2))
        intro r8 u8 hm
        obtain ⟨rfl, rfl⟩ := itN (fun w => c2 w.2) (itF (not_not_intro a2) hm)
        exact ⟨hp.trans (if_neg (not_not_intro a1)), hR.up⟩
    · refine MI.map (fun _ _ _ => trivial) (fun _ => (σ, lm, τ)) (fun _ => rfl) (fun r9 u9 hp => ?_) (kX8_cuts_no l D ct ad σ lm τ n kd hX (nI q) z t (fun w => h3 w.2.1))
      intro r8 u8 hm
      obtain ⟨rfl, rfl⟩ := itN (fun w => h3 w.1) (itF (not_not_intro a2) hm)
      exact ⟨hp.trans (if_neg (not_not_intro a1)), hR.up⟩
  · refine MI.map (fun _ _ _ => trivial) (fun _ => (σ, lm, τ)) (fun _ => rfl) (fun r9 u9 hp => ?_) (kX8_cuts_no l D ct ad σ lm τ n kd hX x z t (fun w => a1 w.1))
    intro r8 u8 hm
    obtain ⟨rfl, rfl⟩ := itT a2 hm
    exact ⟨hp.trans (if_pos a1), hR.up⟩
set_option maxHeartbeats 1000000 in
theorem pr_fewTurns (l : Launch) (D : va_G) (ct : Nat → ClassId) (dt : Nat → Nat) (ad : Nat → Nat → Nat) (bd : Nat → Nat) {B : Nat} (hB : B < 2 ^ 20) {σ lm : Nat → Nat → Nat → Int32} {τ : Nat → Int64} {ρ : Nat → Nat → Int32} {θ : Nat → Nat → Int64} (h : Rel B σ lm ρ) (x z t : Int32) : ∃ PM : Int32 → UM → Prop, MI l yX9_fewTurns (gWs yX9_fewTurns cX9_fewTurns 4 (some .int)) rmX9_fewTurns D ct gNo [.ref (bd 0), .int x, .int z, .int t] (wM bd ct ρ θ) (fun u : UM => wM bd ct u.1 u.2) PM ∧ MI l yX8_fewTurns (gWs yX8_fewTurns cX8_fewTurns 4 (some .int)) rmX8_fewTurns D ct (stX dt) [.ref (ad 0 0), .int x, .int z, .int t] (wX ad ct σ lm τ) (fun u : US => wX ad ct u.1 u.2.1 u.2.2) (Sim B PM) := by
  have hR := h
  obtain ⟨n, kd, hRp, ⟨c, td, sn, hNw⟩, ⟨pn, pg, hPg⟩, ⟨d, hd20, hd1, hd2⟩, r, hr1, hr2, hr3, hIm⟩ := h
  have hn8 := hRp.1
  have hX := Rp.x hRp
  have hM := Rp.m hRp hNw
  have hS := hNw.2.2.2
  have hSm : ∀ q, q < 3 → SmR n c (σ 3) (lm 3) ρ q := fun q hq => St.sm hS hn8 hq
  have hk4 := Rp.k4 hRp
  have hsn : σ 3 0 0 = nI sn := hS.2.1.1
  have hsn6 : sn ≤ 6 := hS.1.2.2
  refine ⟨_, kX9_fewTurns l D ct bd ρ θ n c kd hM x z t, ?_⟩
  have e20 : ρ 9 0 = 20 ↔ d = 20 := by rw [hd2]; exact nI_eq (b := 20) (by omega) (by decide)
  have l20 : σ 0 2 0 < 20 ↔ d < 20 := by rw [hd1]; exact nI_ltI (b := 20) (by omega) (by decide)
  rcases q_cases (n := n) x with ⟨q, hq, rfl, hn0, a1, a2⟩ | ⟨a1, a2⟩
  · by_cases h3 : -1 ≤ z ∧ z ≤ 1
    · rcases half_cases t with ⟨k, hk, rfl, c1, c2⟩ | ⟨c1, c2⟩
      · by_cases h4 : d = 20
        · refine MI.map (fun _ _ _ => trivial) (fun _ => (σ, lm, τ)) (fun _ => rfl) (fun r9 u9 hp => ?_) (kX8_fewTurns_no l D ct ad σ lm τ n kd hX (nI q) z (nI k) (fun w => absurd (l20.mp w.2.2) (by omega)))
          intro r8 u8 hm
          obtain ⟨rfl, rfl⟩ := itT (e20.mpr h4) (itF (not_not_intro ⟨h3, c2⟩) (itF (not_not_intro a2) hm))
          exact ⟨hp.trans ((if_neg (not_not_intro a1)).trans (if_neg (not_not_intro ⟨h3, c1⟩))), hR.up⟩
        · refine MI.map (fun _ _ _ => trivial) id (fun _ => rfl) (fun r9 u9 hp => ?_) (kX8_fewTurns l D ct ad σ lm τ n kd hX q z k hq hn0 h3 hk (l20.mpr (by omega)))
          obtain ⟨rfl, g5, L5, rfl⟩ := hp
          intro r8 u8 hm
          obtain ⟨rfl, rfl⟩ := itF (fun w => h4 (e20.mp w)) (itF (not_not_intro ⟨h3, c2⟩) (itF (not_not_intro a2) hm))
          rw [nIc (by omega), nIc (by omega)]
          have e1 : ∀ a, nI a + 1 = nI (a + 1) := fun a => (Int32.ofNat_add a 1).symm
          exact ⟨by rw [turn_eq (hSm q hq) hk4 hn8 hq], n, kd, hRp, ⟨c, td, sn, hNw⟩, ⟨pn, pg, hPg⟩, ⟨d + 1, by omega, by show σ 0 2 0 + 1 = _; rw [hd1]; exact e1 d, by show ρ 9 0 + 1 = _; rw [hd2]; exact e1 d⟩, r, by omega, hr2, hr3, hIm⟩
      · refine MI.map (fun _ _ _ => trivial) (fun _ => (σ, lm, τ)) (fun _ => rfl) (fun r9 u9 hp => ?_) (kX8_fewTurns_no l D ct ad σ lm τ n kd hX (nI q) z t (fun w => c1 w.2.1.2))
        intro r8 u8 hm
        obtain ⟨rfl, rfl⟩ := itN (fun w => c2 w.2) (itF (not_not_intro a2) hm)
        exact ⟨hp.trans ((if_neg (not_not_intro a1)).trans (if_pos (fun w => c1 w.2))), hR.up⟩
    · refine MI.map (fun _ _ _ => trivial) (fun _ => (σ, lm, τ)) (fun _ => rfl) (fun r9 u9 hp => ?_) (kX8_fewTurns_no l D ct ad σ lm τ n kd hX (nI q) z t (fun w => h3 w.2.1.1))
      intro r8 u8 hm
      obtain ⟨rfl, rfl⟩ := itN (fun w => h3 w.1) (itF (not_not_intro a2) hm)
      exact ⟨hp.trans ((if_neg (not_not_intro a1)).trans (if_pos (fun w => h3 w.1))), hR.up⟩
  · refine MI.map (fun _ _ _ => trivial) (fun _ => (σ, lm, τ)) (fun _ => rfl) (fun r9 u9 hp => ?_) (kX8_fewTurns_no l D ct ad σ lm τ n kd hX x z t (fun w => a1 w.1))
    intro r8 u8 hm
    obtain ⟨rfl, rfl⟩ := itT a2 hm
    exact ⟨hp.trans (if_pos a1), hR.up⟩
set_option maxHeartbeats 1000000 in
theorem pr_settle (l : Launch) (D : va_G) (ct : Nat → ClassId) (dt : Nat → Nat) (ad : Nat → Nat → Nat) (bd : Nat → Nat) {B : Nat} (hB : B < 2 ^ 20) {σ lm : Nat → Nat → Nat → Int32} {τ : Nat → Int64} {ρ : Nat → Nat → Int32} {θ : Nat → Nat → Int64} (h : Rel B σ lm ρ) (x : Int32) : ∃ PM : Int32 → UM → Prop, MI l yX9_settle (gWs yX9_settle cX9_settle 2 (some .int)) rmX9_settle D ct gNo [.ref (bd 0), .int x] (wM bd ct ρ θ) (fun u : UM => wM bd ct u.1 u.2) PM ∧ MI l yX8_settle (gWs yX8_settle cX8_settle 3 (some .int)) rmX8_settle D ct (stX dt) [.ref (ad 0 0), .int x] (wX ad ct σ lm τ) (fun u : US => wX ad ct u.1 u.2.1 u.2.2) (Sim B PM) := by
  have hR := h
  obtain ⟨n, kd, hRp, ⟨c, td, sn, hNw⟩, ⟨pn, pg, hPg⟩, ⟨d, hd20, hd1, hd2⟩, r, hr1, hr2, hr3, hIm⟩ := h
  have hn8 := hRp.1
  have hX := Rp.x hRp
  have hM := Rp.m hRp hNw
  have hS := hNw.2.2.2
  have hSm : ∀ q, q < 3 → SmR n c (σ 3) (lm 3) ρ q := fun q hq => St.sm hS hn8 hq
  have hk4 := Rp.k4 hRp
  have hsn : σ 3 0 0 = nI sn := hS.2.1.1
  have hsn6 : sn ≤ 6 := hS.1.2.2
  refine ⟨_, kX9_settle l D ct bd ρ θ n c kd hM x, ?_⟩
  rcases half_cases x with ⟨k, hk, rfl, c1, c2⟩ | ⟨c1, c2⟩
  · by_cases h2 : n = 0
    · refine MI.map (fun _ _ _ => trivial) (fun _ => (σ, lm, τ)) (fun _ => rfl) (fun r9 u9 hp => ?_) (kX8_settle_no l D ct ad σ lm τ n kd hX (nI k) (fun w => w.2 h2))
      intro r8 u8 hm
      obtain ⟨rfl, rfl⟩ := itT h2 (itF (not_not_intro c2) hm)
      exact ⟨hp.trans (if_neg (not_not_intro c1)), hR.up⟩
    · refine MI.map (fun _ _ q => q) id (fun _ => rfl) (fun r9 u9 hp => ?_) (kX8_settle l D ct ad σ lm τ dt n kd hX k (by omega) hk)
      obtain ⟨rfl, L5, t9, rfl⟩ := hp
      intro r8 u8 hm
      obtain ⟨rfl, g18, g20, rfl⟩ := itF h2 (itF (not_not_intro c2) hm)
      rw [nIc (by omega)]
      exact ⟨settle_eq hSm hS.2.2.2.2.2.1 hn8, ⟨n, kd, hRp, ⟨c, td, sn, hNw⟩, ⟨pn, pg, hPg⟩, ⟨d, hd20, hd1, hd2⟩, r, by omega, hr2, hr3, hIm⟩⟩
  · refine MI.map (fun _ _ _ => trivial) (fun _ => (σ, lm, τ)) (fun _ => rfl) (fun r9 u9 hp => ?_) (kX8_settle_no l D ct ad σ lm τ n kd hX x (fun w => c1 w.1))
    intro r8 u8 hm
    obtain ⟨rfl, rfl⟩ := itT c2 hm
    exact ⟨hp.trans (if_pos c1), hR.up⟩
set_option maxHeartbeats 1000000 in
theorem pr_see (l : Launch) (D : va_G) (ct : Nat → ClassId) (dt : Nat → Nat) (ad : Nat → Nat → Nat) (bd : Nat → Nat) {B : Nat} (hB : B < 2 ^ 20) {σ lm : Nat → Nat → Nat → Int32} {τ : Nat → Int64} {ρ : Nat → Nat → Int32} {θ : Nat → Nat → Int64} (h : Rel B σ lm ρ) (x z t : Int32) : ∃ PM : Int32 → UM → Prop, MI l yX9_see (gWs yX9_see cX9_see 4 (some .int)) rmX9_see D ct gNo [.ref (bd 0), .int x, .int z, .int t] (wM bd ct ρ θ) (fun u : UM => wM bd ct u.1 u.2) PM ∧ MI l yX8_see (gWs yX8_see cX8_see 4 (some .int)) rmX8_see D ct (stX dt) [.ref (ad 0 0), .int x, .int z, .int t] (wX ad ct σ lm τ) (fun u : US => wX ad ct u.1 u.2.1 u.2.2) (Sim B PM) := by
  have hR := h
  obtain ⟨n, kd, hRp, ⟨c, td, sn, hNw⟩, ⟨pn, pg, hPg⟩, ⟨d, hd20, hd1, hd2⟩, r, hr1, hr2, hr3, hIm⟩ := h
  have hn8 := hRp.1
  have hX := Rp.x hRp
  have hM := Rp.m hRp hNw
  have hS := hNw.2.2.2
  have hSm : ∀ q, q < 3 → SmR n c (σ 3) (lm 3) ρ q := fun q hq => St.sm hS hn8 hq
  have hk4 := Rp.k4 hRp
  have hsn : σ 3 0 0 = nI sn := hS.2.1.1
  have hsn6 : sn ≤ 6 := hS.1.2.2
  refine ⟨_, kX9_see l D ct bd ρ θ n c kd hM sn hNw.2.2.1 hsn6 x z t, ?_⟩
  rcases has_cases hn8 x with ⟨m, hm0, rfl, a1, a2⟩ | ⟨a1, a2⟩
  · rcases q_cases (n := n) z with ⟨q, hq, rfl, hn0, b1, b2⟩ | ⟨b1, b2⟩
    · by_cases h3 : 0 ≤ t ∧ t ≤ 400
      · by_cases h4 : sn = 6
        · refine MI.map (fun _ _ _ => trivial) (fun _ => (σ, lm, τ)) (fun _ => rfl) (fun r9 u9 hp => ?_) (kX8_see_no l D ct ad σ lm τ n kd hX sn hsn hsn6 (nI m) (nI q) t (fun w => absurd w.2.2 (by omega)))
          intro r8 u8 hm
          obtain ⟨rfl, rfl⟩ := itT h4 (itF (not_not_intro h3) (itF (not_not_intro ⟨a2, b2⟩) hm))
          exact ⟨hp.trans ((if_neg (not_not_intro ⟨a1, b1⟩)).trans (if_neg (not_not_intro ⟨Int32.not_lt.mpr h3.1, h3.2⟩))), hR.up⟩
        · refine MI.map (fun _ _ _ => trivial) id (fun _ => rfl) (fun r9 u9 hp => ?_) (kX8_see l D ct ad σ lm τ n kd hX sn hsn hsn6 m q t hm0 hq hn0 ⟨Int32.not_lt.mpr h3.1, h3.2⟩ (by omega))
          obtain ⟨rfl, rfl⟩ := hp
          intro r8 u8 hm
          obtain ⟨rfl, rfl⟩ := itF h4 (itF (not_not_intro h3) (itF (not_not_intro ⟨a2, b2⟩) hm))
          refine ⟨rfl, n, kd, hRp, ⟨c, td, sn + 1, hNw.1, hNw.2.1, rfl, ⟨hS.1.1, hS.1.2.1, by omega⟩, ⟨rfl, hS.2.1.2⟩, hS.2.2.1, hS.2.2.2.1, hS.2.2.2.2.1, hS.2.2.2.2.2.1, hS.2.2.2.2.2.2.1, hS.2.2.2.2.2.2.2.1, fun e he => ?_⟩, ⟨pn, pg, hPg⟩, ⟨d, hd20, hd1, hd2⟩, r, by omega, hr2, hr3, hIm⟩
          show upd (σ 3 9) sn (nI m) e = upd (ρ 11) sn (nI m) e ∧ upd (σ 3 10) sn (nI q) e = upd (ρ 12) sn (nI q) e ∧ upd (σ 3 11) sn (t - 200) e = upd (ρ 13) sn t e - 200
          by_cases e2 : e = sn
          · subst e2; rw [pk_us, pk_us, pk_us, pk_us, pk_us, pk_us]; exact ⟨rfl, rfl, rfl⟩
          · rw [pk_un e2, pk_un e2, pk_un e2, pk_un e2, pk_un e2, pk_un e2]; exact hS.2.2.2.2.2.2.2.2 e (by omega)
      · refine MI.map (fun _ _ _ => trivial) (fun _ => (σ, lm, τ)) (fun _ => rfl) (fun r9 u9 hp => ?_) (kX8_see_no l D ct ad σ lm τ n kd hX sn hsn hsn6 (nI m) (nI q) t (fun w => h3 ⟨Int32.not_lt.mp w.2.1.1, w.2.1.2⟩))
        intro r8 u8 hm
        obtain ⟨rfl, rfl⟩ := itT h3 (itF (not_not_intro ⟨a2, b2⟩) hm)
        exact ⟨hp.trans ((if_neg (not_not_intro ⟨a1, b1⟩)).trans (if_pos (fun w => h3 ⟨Int32.not_lt.mp w.1, w.2⟩))), hR.up⟩
    · refine MI.map (fun _ _ _ => trivial) (fun _ => (σ, lm, τ)) (fun _ => rfl) (fun r9 u9 hp => ?_) (kX8_see_no l D ct ad σ lm τ n kd hX sn hsn hsn6 (nI m) z t (fun w => b1 w.1.2))
      intro r8 u8 hm
      obtain ⟨rfl, rfl⟩ := itN (fun w => b2 w.2) hm
      exact ⟨hp.trans (if_pos (fun w => b1 w.2)), hR.up⟩
  · refine MI.map (fun _ _ _ => trivial) (fun _ => (σ, lm, τ)) (fun _ => rfl) (fun r9 u9 hp => ?_) (kX8_see_no l D ct ad σ lm τ n kd hX sn hsn hsn6 x z t (fun w => a1 w.1.1))
    intro r8 u8 hm
    obtain ⟨rfl, rfl⟩ := itN (fun w => a2 w.1) hm
    exact ⟨hp.trans (if_pos (fun w => a1 w.1)), hR.up⟩
set_option maxHeartbeats 1000000 in
theorem pr_forget (l : Launch) (D : va_G) (ct : Nat → ClassId) (dt : Nat → Nat) (ad : Nat → Nat → Nat) (bd : Nat → Nat) {B : Nat} (hB : B < 2 ^ 20) {σ lm : Nat → Nat → Nat → Int32} {τ : Nat → Int64} {ρ : Nat → Nat → Int32} {θ : Nat → Nat → Int64} (h : Rel B σ lm ρ) : ∃ PM : Int32 → UM → Prop, MI l yX9_forget (gWs yX9_forget cX9_forget 2 (some .int)) rmX9_forget D ct gNo [.ref (bd 0)] (wM bd ct ρ θ) (fun u : UM => wM bd ct u.1 u.2) PM ∧ MI l yX8_forget (gWs yX8_forget cX8_forget 2 (some .int)) rmX8_forget D ct (stX dt) [.ref (ad 0 0)] (wX ad ct σ lm τ) (fun u : US => wX ad ct u.1 u.2.1 u.2.2) (Sim B PM) := by
  have hR := h
  obtain ⟨n, kd, hRp, ⟨c, td, sn, hNw⟩, ⟨pn, pg, hPg⟩, ⟨d, hd20, hd1, hd2⟩, r, hr1, hr2, hr3, hIm⟩ := h
  have hn8 := hRp.1
  have hX := Rp.x hRp
  have hM := Rp.m hRp hNw
  have hS := hNw.2.2.2
  have hSm : ∀ q, q < 3 → SmR n c (σ 3) (lm 3) ρ q := fun q hq => St.sm hS hn8 hq
  have hk4 := Rp.k4 hRp
  have hsn : σ 3 0 0 = nI sn := hS.2.1.1
  have hsn6 : sn ≤ 6 := hS.1.2.2
  refine ⟨_, kX9_forget l D ct bd ρ θ n c kd hM sn hNw.2.2.1 hsn6, ?_⟩
  refine MI.map (fun _ _ _ => trivial) id (fun _ => rfl) (fun r9 u9 hp => ?_) (kX8_forget l D ct ad σ lm τ n kd hX sn hsn hsn6)
  obtain ⟨rfl, rfl⟩ := hp
  intro r8 u8 hm
  obtain ⟨rfl, rfl⟩ := hm
  exact ⟨rfl, n, kd, hRp, ⟨c, td, 0, hNw.1, hNw.2.1, rfl, ⟨hS.1.1, hS.1.2.1, by decide⟩, ⟨rfl, hS.2.1.2⟩, hS.2.2.1, hS.2.2.2.1, hS.2.2.2.2.1, hS.2.2.2.2.2.1, hS.2.2.2.2.2.2.1, hS.2.2.2.2.2.2.2.1, fun e he => absurd he (by omega)⟩, ⟨pn, pg, hPg⟩, ⟨d, hd20, hd1, hd2⟩, r, by omega, hr2, hr3, hIm⟩
set_option maxHeartbeats 1000000 in
theorem pr_tides (l : Launch) (D : va_G) (ct : Nat → ClassId) (dt : Nat → Nat) (ad : Nat → Nat → Nat) (bd : Nat → Nat) {B : Nat} (hB : B < 2 ^ 20) {σ lm : Nat → Nat → Nat → Int32} {τ : Nat → Int64} {ρ : Nat → Nat → Int32} {θ : Nat → Nat → Int64} (h : Rel B σ lm ρ) (x z t : Int32) : ∃ PM : Int32 → UM → Prop, MI l yX9_tides (gWs yX9_tides cX9_tides 4 (some .int)) rmX9_tides D ct gNo [.ref (bd 0), .int x, .int z, .int t] (wM bd ct ρ θ) (fun u : UM => wM bd ct u.1 u.2) PM ∧ MI l yX8_tides (gWs yX8_tides cX8_tides 10 (some .int)) rmX8_tides D ct (stX dt) [.ref (ad 0 0), .int x, .int z, .int t] (wX ad ct σ lm τ) (fun u : US => wX ad ct u.1 u.2.1 u.2.2) (Sim B PM) := by
  have hR := h
  obtain ⟨n, kd, hRp, ⟨c, td, sn, hNw⟩, ⟨pn, pg, hPg⟩, ⟨d, hd20, hd1, hd2⟩, r, hr1, hr2, hr3, hIm⟩ := h
  have hn8 := hRp.1
  have hX := Rp.x hRp
  have hM := Rp.m hRp hNw
  have hS := hNw.2.2.2
  have hSm : ∀ q, q < 3 → SmR n c (σ 3) (lm 3) ρ q := fun q hq => St.sm hS hn8 hq
  have hk4 := Rp.k4 hRp
  have hsn : σ 3 0 0 = nI sn := hS.2.1.1
  have hsn6 : sn ≤ 6 := hS.1.2.2
  refine ⟨_, kX9_tides l D ct bd ρ θ n c kd hM x z t, ?_⟩
  by_cases h1 : (1 ≤ x ∧ x ≤ 60) ∧ ¬ z < 0 ∧ (0 ≤ t ∧ t ≤ 2)
  · have g1 : (¬ x < 1) ∧ (¬ 60 < x) ∧ (¬ z < 0) ∧ (¬ t < 0) ∧ (t ≤ 2) := ⟨Int32.not_lt.mpr h1.1.1, Int32.not_lt.mpr h1.1.2, h1.2.1, Int32.not_lt.mpr h1.2.2.1, h1.2.2.2⟩
    by_cases h2 : n = 0
    · refine MI.map (fun _ _ _ => trivial) (fun _ => (σ, lm, τ)) (fun _ => rfl) (fun r9 u9 hp => ?_) (kX8_tides_no l D ct ad σ lm τ n kd hX x z t (fun w => w.2 h2))
      intro r8 u8 hm
      obtain ⟨rfl, rfl⟩ := itT h2 (itF (not_not_intro h1) hm)
      exact ⟨hp.trans (if_neg (not_not_intro g1)), hR.up⟩
    · obtain ⟨v, hv, rfl⟩ := sw_nat (n := 60) (by decide) rfl ⟨Int32.le_trans (by decide) h1.1.1, h1.1.2⟩
      obtain ⟨k, hk, rfl⟩ := sw_nat (n := 2) (by decide) rfl h1.2.2
      obtain ⟨w, hw, rfl⟩ := nonneg_nat h1.2.1
      have hv1 : 1 ≤ v := (nI_leI (a := 1) (by decide) (by omega)).mp h1.1.1
      refine MI.map (fun _ _ q => q) id (fun _ => rfl) (fun r9 u9 hp => ?_) (kX8_tides l D ct ad σ lm τ dt n kd hX v w k hv1 hv hw (by omega) (by omega))
      obtain ⟨rfl, L5, rfl⟩ := hp
      intro r8 u8 hm
      obtain ⟨rfl, g18, g22, rfl⟩ := itF h2 (itF (not_not_intro h1) hm)
      rw [nIc (by omega), nIc hw, nIc (by omega)]
      exact ⟨tsR_eq hSm hk4 (by omega), ⟨n, kd, hRp, ⟨c, td, sn, hNw⟩, ⟨pn, pg, hPg⟩, ⟨d, hd20, hd1, hd2⟩, r, by omega, hr2, hr3, hIm⟩⟩
  · refine MI.map (fun _ _ _ => trivial) (fun _ => (σ, lm, τ)) (fun _ => rfl) (fun r9 u9 hp => ?_) (kX8_tides_no l D ct ad σ lm τ n kd hX x z t (fun w => h1 ⟨⟨Int32.not_lt.mp w.1.1, Int32.not_lt.mp w.1.2.1⟩, w.1.2.2.1, Int32.not_lt.mp w.1.2.2.2.1, w.1.2.2.2.2⟩))
    intro r8 u8 hm
    obtain ⟨rfl, rfl⟩ := itT h1 hm
    exact ⟨hp.trans (if_pos (fun w => h1 ⟨⟨Int32.not_lt.mp w.1, Int32.not_lt.mp w.2.1⟩, w.2.2.1, Int32.not_lt.mp w.2.2.2.1, w.2.2.2.2⟩)), hR.up⟩
set_option maxHeartbeats 1000000 in
theorem pr_image (l : Launch) (D : va_G) (ct : Nat → ClassId) (dt : Nat → Nat) (ad : Nat → Nat → Nat) (bd : Nat → Nat) {B : Nat} (hB : B < 2 ^ 20) {σ lm : Nat → Nat → Nat → Int32} {τ : Nat → Int64} {ρ : Nat → Nat → Int32} {θ : Nat → Nat → Int64} (h : Rel B σ lm ρ) : ∃ PM : Int32 → UM → Prop, MI l yX9_image (gWs yX9_image cX9_image 2 (some .int)) rmX9_image D ct gNo [.ref (bd 0)] (wM bd ct ρ θ) (fun u : UM => wM bd ct u.1 u.2) PM ∧ MI l yX8_image (gWs yX8_image cX8_image 1 (some .int)) rmX8_image D ct (stX dt) [.ref (ad 0 0)] (wX ad ct σ lm τ) (fun u : US => wX ad ct u.1 u.2.1 u.2.2) (Sim B PM) := by
  have hR := h
  obtain ⟨n, kd, hRp, ⟨c, td, sn, hNw⟩, ⟨pn, pg, hPg⟩, ⟨d, hd20, hd1, hd2⟩, r, hr1, hr2, hr3, hIm⟩ := h
  have hn8 := hRp.1
  have hX := Rp.x hRp
  have hM := Rp.m hRp hNw
  have hS := hNw.2.2.2
  have hSm : ∀ q, q < 3 → SmR n c (σ 3) (lm 3) ρ q := fun q hq => St.sm hS hn8 hq
  have hk4 := Rp.k4 hRp
  have hsn : σ 3 0 0 = nI sn := hS.2.1.1
  have hsn6 : sn ≤ 6 := hS.1.2.2
  refine ⟨_, kX9_image l D ct bd ρ θ n c kd hM, ?_⟩
  by_cases h1 : n = 0
  · refine MI.map (fun _ _ _ => trivial) (fun _ => (σ, lm, τ)) (fun _ => rfl) (fun r9 u9 hp => ?_) (kX8_image_no l D ct ad σ lm τ n kd hX (fun w => w h1))
    intro r8 u8 hm
    obtain ⟨rfl, rfl⟩ := itT h1 hm
    exact ⟨hp, hR.up⟩
  · refine MI.map (fun _ _ _ => trivial) id (fun _ => rfl) (fun r9 u9 hp => ?_) (kX8_image l D ct ad σ lm τ n kd hX (by omega))
    obtain ⟨rfl, rfl⟩ := hp
    intro r8 u8 hm
    obtain ⟨rfl, rfl⟩ := itF h1 hm
    exact ⟨by rw [hS.2.1.2, hNw.2.1], n, kd, hRp, ⟨c, td, sn, hNw⟩, ⟨pn, pg, hPg⟩, ⟨d, hd20, hd1, hd2⟩, r, by omega, hr2, hr3, Or.inl ⟨by show ¬ (1 : Int32) = 0; decide, by show ¬ (1 : Int32) = 0; decide, hr3, c, td, sn, hNw.1, hNw.2.1, hNw.2.2.1, hS⟩⟩
set_option maxHeartbeats 1000000 in
theorem pr_restore (l : Launch) (D : va_G) (ct : Nat → ClassId) (dt : Nat → Nat) (ad : Nat → Nat → Nat) (bd : Nat → Nat) {B : Nat} (hB : B < 2 ^ 20) {σ lm : Nat → Nat → Nat → Int32} {τ : Nat → Int64} {ρ : Nat → Nat → Int32} {θ : Nat → Nat → Int64} (h : Rel B σ lm ρ) : ∃ PM : Int32 → UM → Prop, MI l yX9_restore (gWs yX9_restore cX9_restore 2 (some .int)) rmX9_restore D ct gNo [.ref (bd 0)] (wM bd ct ρ θ) (fun u : UM => wM bd ct u.1 u.2) PM ∧ MI l yX8_restore (gWs yX8_restore cX8_restore 1 (some .int)) rmX8_restore D ct (stX dt) [.ref (ad 0 0)] (wX ad ct σ lm τ) (fun u : US => wX ad ct u.1 u.2.1 u.2.2) (Sim B PM) := by
  have hR := h
  obtain ⟨n, kd, hRp, ⟨c, td, sn, hNw⟩, ⟨pn, pg, hPg⟩, ⟨d, hd20, hd1, hd2⟩, r, hr1, hr2, hr3, hIm⟩ := h
  have hn8 := hRp.1
  have hX := Rp.x hRp
  have hM := Rp.m hRp hNw
  have hS := hNw.2.2.2
  have hSm : ∀ q, q < 3 → SmR n c (σ 3) (lm 3) ρ q := fun q hq => St.sm hS hn8 hq
  have hk4 := Rp.k4 hRp
  have hsn : σ 3 0 0 = nI sn := hS.2.1.1
  have hsn6 : sn ≤ 6 := hS.1.2.2
  refine ⟨_, kX9_restore l D ct bd ρ θ, ?_⟩
  rcases hIm with ⟨i1, i2, i3, ck, tk, sk, i4, i5, i6, i7⟩ | ⟨i1, i2⟩
  · refine MI.map (fun _ _ _ => trivial) id (fun _ => rfl) (fun r9 u9 hp => ?_) (kX8_restore l D ct ad σ lm τ n kd hX i1)
    obtain ⟨rfl, rfl⟩ := hp
    intro r8 u8 hm
    obtain ⟨rfl, rfl⟩ := itF (not_not_intro ⟨i2, by rw [i3, hr3]⟩) hm
    exact ⟨by rw [i7.2.1.2, i5], n, kd, hRp, ⟨ck, tk, sk, i4, i5, i6, i7⟩, ⟨pn, pg, hPg⟩, ⟨d, hd20, hd1, hd2⟩, r, by omega, hr2, hr3, Or.inl ⟨i1, i2, i3, ck, tk, sk, i4, i5, i6, i7⟩⟩
  · refine MI.map (fun _ _ _ => trivial) (fun _ => (σ, lm, τ)) (fun _ => rfl) (fun r9 u9 hp => ?_) (kX8_restore_no l D ct ad σ lm τ n kd hX (fun w => w i1))
    intro r8 u8 hm
    obtain ⟨rfl, rfl⟩ := itN (fun w => rest_no hr1 hB hr3 i2 w) hm
    exact ⟨hp, hR.up⟩
set_option maxHeartbeats 1000000 in
theorem pr_count (l : Launch) (D : va_G) (ct : Nat → ClassId) (dt : Nat → Nat) (ad : Nat → Nat → Nat) (bd : Nat → Nat) {B : Nat} (hB : B < 2 ^ 20) {σ lm : Nat → Nat → Nat → Int32} {τ : Nat → Int64} {ρ : Nat → Nat → Int32} {θ : Nat → Nat → Int64} (h : Rel B σ lm ρ) (x : Int32) : ∃ PM : Int32 → UM → Prop, MI l yX9_count (gWs yX9_count cX9_count 2 (some .int)) rmX9_count D ct gNo [.ref (bd 0), .int x] (wM bd ct ρ θ) (fun u : UM => wM bd ct u.1 u.2) PM ∧ MI l yX8_count (gWs yX8_count cX8_count 2 (some .int)) rmX8_count D ct (stX dt) [.ref (ad 0 0), .int x] (wX ad ct σ lm τ) (fun u : US => wX ad ct u.1 u.2.1 u.2.2) (Sim B PM) := by
  have hR := h
  obtain ⟨n, kd, hRp, ⟨c, td, sn, hNw⟩, ⟨pn, pg, hPg⟩, ⟨d, hd20, hd1, hd2⟩, r, hr1, hr2, hr3, hIm⟩ := h
  have hn8 := hRp.1
  have hX := Rp.x hRp
  have hM := Rp.m hRp hNw
  have hS := hNw.2.2.2
  have hSm : ∀ q, q < 3 → SmR n c (σ 3) (lm 3) ρ q := fun q hq => St.sm hS hn8 hq
  have hk4 := Rp.k4 hRp
  have hsn : σ 3 0 0 = nI sn := hS.2.1.1
  have hsn6 : sn ≤ 6 := hS.1.2.2
  refine ⟨_, kX9_count l D ct bd ρ θ n c kd hM x, ?_⟩
  rcases rng_cases 11 (by decide) x with ⟨k, hk, rfl⟩ | ⟨b1, b2⟩
  · have b2 : 0 ≤ nI k ∧ nI k ≤ 11 := ⟨nI_le (Nat.zero_le k) (by omega), nI_le (b := 11) hk (by decide)⟩
    refine MI.map (fun _ _ _ => trivial) (fun _ => (σ, lm, τ)) (fun _ => rfl) (fun r9 u9 hp => ?_) (kX8_count l D ct ad σ lm τ n kd hX pn hPg.1.1 hPg.1.2.1 sn hsn hsn6 k hk)
    intro r8 u8 hm
    obtain ⟨rfl, rfl⟩ := hm
    refine ⟨hp.trans ?_, hR.up⟩
    rw [hm_eq hRp hNw (by rw [hPg.1.1, hPg.2.1]) (by rw [hr2, hr3]) (by rw [hd1, hd2]) hk]
    unfold hmF
    rw [if_pos b2, nIc (by omega)]
  · refine MI.map (fun _ _ _ => trivial) (fun _ => (σ, lm, τ)) (fun _ => rfl) (fun r9 u9 hp => ?_) (kX8_count_no l D ct ad σ lm τ n kd hX x b1)
    intro r8 u8 hm
    obtain ⟨rfl, rfl⟩ := hm
    exact ⟨hp.trans (if_neg b1).symm, hR.up⟩
set_option maxHeartbeats 1000000 in
theorem pr_digest (l : Launch) (D : va_G) (ct : Nat → ClassId) (dt : Nat → Nat) (ad : Nat → Nat → Nat) (bd : Nat → Nat) {B : Nat} (hB : B < 2 ^ 20) {σ lm : Nat → Nat → Nat → Int32} {τ : Nat → Int64} {ρ : Nat → Nat → Int32} {θ : Nat → Nat → Int64} (h : Rel B σ lm ρ) : ∃ PM : Int64 → UM → Prop, ML l yX9_digest (gWs yX9_digest cX9_digest 3 (some .long)) rmX9_digest D ct gNo [.ref (bd 0)] (wM bd ct ρ θ) (fun u : UM => wM bd ct u.1 u.2) PM ∧ ML l yX8_digest (gWs yX8_digest cX8_digest 8 (some .long)) rmX8_digest D ct (stX dt) [.ref (ad 0 0)] (wX ad ct σ lm τ) (fun u : US => wX ad ct u.1 u.2.1 u.2.2) (SimL B PM) := by
  have hR := h
  obtain ⟨n, kd, hRp, ⟨c, td, sn, hNw⟩, ⟨pn, pg, hPg⟩, ⟨d, hd20, hd1, hd2⟩, r, hr1, hr2, hr3, hIm⟩ := h
  have hn8 := hRp.1
  have hX := Rp.x hRp
  have hM := Rp.m hRp hNw
  have hS := hNw.2.2.2
  have hSm : ∀ q, q < 3 → SmR n c (σ 3) (lm 3) ρ q := fun q hq => St.sm hS hn8 hq
  have hk4 := Rp.k4 hRp
  have hsn : σ 3 0 0 = nI sn := hS.2.1.1
  have hsn6 : sn ≤ 6 := hS.1.2.2
  refine ⟨_, kX9_digest l D ct bd ρ θ n c kd hM sn hNw.2.2.1 hsn6 pn hPg.2.1 hPg.1.2.1, ?_⟩
  refine ML.map (fun _ _ q => q) id (fun _ => rfl) (fun r9 u9 hp => ?_) (kX8_digest l D ct ad σ lm τ dt n kd hX pn pg hPg.1 sn hsn hsn6)
  obtain ⟨rfl, g03, g04, g05, g5, L5, t9, rfl⟩ := hp
  intro r8 u8 hm
  obtain ⟨rfl, g21, g18, g19, g36, g20, rfl⟩ := hm
  exact ⟨dg_eq hRp hNw (by rw [hPg.1.1, hPg.2.1]) (by rw [hr2, hr3]) (by rw [hd1, hd2]) hPg.2.2, ⟨n, kd, hRp, ⟨c, td, sn, rfl, hNw.2.1, hNw.2.2.1, hS⟩, ⟨pn, pg, hPg⟩, ⟨d, hd20, hd1, hd2⟩, r, by omega, hr2, hr3, hIm⟩⟩
