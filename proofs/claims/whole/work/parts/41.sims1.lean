theorem itN {P A B : Prop} [Decidable P] (hp : ¬ P) (h : if ¬ P then A else B) : A := by rw [if_pos hp] at h; exact h
theorem itT {Q A B : Prop} [Decidable Q] (hq : Q) (h : if Q then A else B) : A := by rw [if_pos hq] at h; exact h
theorem itF {Q A B : Prop} [Decidable Q] (hq : ¬ Q) (h : if Q then A else B) : B := by rw [if_neg hq] at h; exact h
theorem ln3_lnC (x : Int32) : ln3 (lnC x) := by
  unfold lnC ln3
  split
  · exact Or.inr (Or.inr rfl)
  · split
    · exact Or.inl rfl
    · exact Or.inr (Or.inl rfl)
theorem fit_w {a : Nat → Int32} {m : Nat} {p : Nat} (h1 : a (m * 6 + 1) = nI p) (h2 : p < 127) (hf : fitX a (m * 6 + 1) = true) : wg9 (a (m * 6 + 1) - 48) := by
  unfold fitX at hf
  rw [if_neg (by omega), if_pos (by omega), h1] at hf
  simp only [Bool.and_eq_true, decide_eq_true_eq] at hf
  rw [h1]
  have key : ∀ c : Fin 127, (¬ nI c.val < 49 ∧ ¬ 57 < nI c.val) → ((nI c.val - 48).toNatClampNeg ≤ 9 ∧ nI c.val - 48 = nI (nI c.val - 48).toNatClampNeg) := by decide +kernel
  obtain ⟨q1, q2⟩ := key ⟨p, h2⟩ hf.2
  exact ⟨_, q1, q2⟩
theorem told_k {z : Int32} (h : (0 ≤ z ∧ z ≤ 7) ∨ (10 ≤ z ∧ z ≤ 12) ∨ (20 ≤ z ∧ z ≤ 22)) : ∃ k, (k ≤ 7 ∨ (10 ≤ k ∧ k ≤ 12) ∨ (20 ≤ k ∧ k ≤ 22)) ∧ z = nI k := by
  have h0 : 0 ≤ z ∧ z ≤ 22 := by
    rcases h with h | h | h
    · exact ⟨h.1, Int32.le_trans h.2 (by decide)⟩
    · exact ⟨Int32.le_trans (by decide) h.1, Int32.le_trans h.2 (by decide)⟩
    · exact ⟨Int32.le_trans (by decide) h.1, h.2⟩
  obtain ⟨k, hk, rfl⟩ := sw_nat (n := 22) (by decide) rfl h0
  exact ⟨k, (told_iff (by omega)).mp h, rfl⟩
theorem told_of {z : Int32} (h : (¬ z < 10 ∧ ¬ 13 ≤ z) ∨ (¬ z < 20 ∧ ¬ 23 ≤ z) ∨ (0 ≤ z ∧ z ≤ 7)) : (0 ≤ z ∧ z ≤ 7) ∨ (10 ≤ z ∧ z ≤ 12) ∨ (20 ≤ z ∧ z ≤ 22) := by
  have f : ∀ a b : Nat, a < 2 ^ 31 → b < 2 ^ 30 → nI a ≤ z → ¬ nI (b + 1) ≤ z → z ≤ nI b := fun a b ha hb h1 h2 => by
    rw [Int32.le_iff_toInt_le, nI_toInt (by omega)] at h2
    rw [Int32.le_iff_toInt_le, nI_toInt (by omega)]
    omega
  rcases h with h | h | h
  · exact Or.inr (Or.inl ⟨Int32.not_lt.mp h.1, f 10 12 (by decide) (by decide) (Int32.not_lt.mp h.1) h.2⟩)
  · exact Or.inr (Or.inr ⟨Int32.not_lt.mp h.1, f 20 22 (by decide) (by decide) (Int32.not_lt.mp h.1) h.2⟩)
  · exact Or.inl h
set_option maxHeartbeats 1000000 in
theorem pr_letter (l : Launch) (D : va_G) (ct : Nat → ClassId) (dt : Nat → Nat) (ad : Nat → Nat → Nat) (bd : Nat → Nat) {B : Nat} (hB : B < 2 ^ 20) {σ lm : Nat → Nat → Nat → Int32} {τ : Nat → Int64} {ρ : Nat → Nat → Int32} {θ : Nat → Nat → Int64} (h : Rel B σ lm ρ) (x : Int32) : ∃ PM : Int32 → UM → Prop, MI l yX9_letter (gWs yX9_letter cX9_letter 2 (some .int)) rmX9_letter D ct gNo [.ref (bd 0), .int x] (wM bd ct ρ θ) (fun u : UM => wM bd ct u.1 u.2) PM ∧ MI l yX8_letter (gWs yX8_letter cX8_letter 2 (some .int)) rmX8_letter D ct (stX dt) [.ref (ad 0 0), .int x] (wX ad ct σ lm τ) (fun u : US => wX ad ct u.1 u.2.1 u.2.2) (Sim B PM) := by
  have hR := h
  obtain ⟨n, kd, hRp, ⟨c, td, sn, hNw⟩, ⟨pn, pg, hPg⟩, ⟨d, hd20, hd1, hd2⟩, r, hr1, hr2, hr3, hIm⟩ := h
  have hn8 := hRp.1
  have hX := Rp.x hRp
  have hM := Rp.m hRp hNw
  have hS := hNw.2.2.2
  have hSm : ∀ q, q < 3 → SmR n c (σ 3) (lm 3) ρ q := fun q hq => St.sm hS hn8 hq
  have hk4 := Rp.k4 hRp
  have hsn : σ 3 0 0 = nI sn := hS.2.1.1
  have hsn6 : sn ≤ 6 := hS.1.2.2
  have hpn := hPg.1.1
  have hpn50 := hPg.1.2.1
  refine ⟨_, kX9_letter l D ct bd ρ θ pn hPg.2.1 hpn50 x, ?_⟩
  by_cases h1 : 32 ≤ x ∧ x ≤ 126
  · by_cases h2 : pn = 50
    refine MI.map (fun _ _ _ => trivial) (fun _ => (σ, lm, τ)) (fun _ => rfl) (fun r9 u9 hp => ?_) (kX8_letter_no l D ct ad σ lm τ n kd hX pn hpn hpn50 x (fun q => absurd q.2 (by omega)))
    intro r8 u8 hm
    obtain ⟨rfl, rfl⟩ := itT h2 (itF (not_not_intro h1) hm)
    exact ⟨hp.trans (if_neg (not_not_intro ⟨Int32.not_lt.mpr h1.1, h1.2⟩)), hR.up⟩
    · obtain ⟨k, hk, rfl⟩ := sw_nat (n := 126) (by decide) rfl ⟨Int32.le_trans (by decide) h1.1, h1.2⟩
      have hk32 : 32 ≤ k := (nI_leI (a := 32) (by decide) (by omega)).mp h1.1
      refine MI.map (fun _ _ _ => trivial) id (fun _ => rfl) (fun r9 u9 hp => ?_) (kX8_letter l D ct ad σ lm τ n kd hX pn hpn hpn50 k hk32 hk (by omega))
      obtain ⟨rfl, rfl⟩ := hp
      intro r8 u8 hm
      obtain ⟨rfl, rfl⟩ := itF h2 (itF (not_not_intro h1) hm)
      refine ⟨rfl, n, kd, hRp, ⟨c, td, sn, hNw⟩, ⟨pn + 1, fun j => if j = pn then k else pg j, ⟨rfl, by omega, fun j hj => ?_⟩, rfl, fun j hj => ?_⟩, ⟨d, hd20, hd1, hd2⟩, r, by omega, hr2, hr3, hIm⟩
      · show upd (σ 1 1) pn (nI k) j = nI (if j = pn then k else pg j) ∧ (if j = pn then k else pg j) < 127
        by_cases e : j = pn
        · subst e; rw [pk_us, if_pos rfl]; exact ⟨rfl, by omega⟩
        · rw [pk_un e, if_neg e]; exact hPg.1.2.2 j hj
      · show upd (ρ 15) pn (vp_nar .byte (nI k).toInt8.toInt32) j = upd (σ 1 1) pn (nI k) j
        by_cases e : j = pn
        · subst e; rw [pk_us, pk_us, byte_ok (by omega)]
        · rw [pk_un e, pk_un e]; exact hPg.2.2 j (by omega)
  · refine MI.map (fun _ _ _ => trivial) (fun _ => (σ, lm, τ)) (fun _ => rfl) (fun r9 u9 hp => ?_) (kX8_letter_no l D ct ad σ lm τ n kd hX pn hpn hpn50 x (fun q => h1 ⟨Int32.not_lt.mp q.1.1, q.1.2⟩))
    intro r8 u8 hm
    obtain ⟨rfl, rfl⟩ := itT h1 hm
    exact ⟨hp.trans (if_pos (fun q => h1 ⟨Int32.not_lt.mp q.1, q.2⟩)), hR.up⟩
set_option maxHeartbeats 1000000 in
theorem pr_blank (l : Launch) (D : va_G) (ct : Nat → ClassId) (dt : Nat → Nat) (ad : Nat → Nat → Nat) (bd : Nat → Nat) {B : Nat} (hB : B < 2 ^ 20) {σ lm : Nat → Nat → Nat → Int32} {τ : Nat → Int64} {ρ : Nat → Nat → Int32} {θ : Nat → Nat → Int64} (h : Rel B σ lm ρ) : ∃ PM : Int32 → UM → Prop, MI l yX9_blank (gWs yX9_blank cX9_blank 2 (some .int)) rmX9_blank D ct gNo [.ref (bd 0)] (wM bd ct ρ θ) (fun u : UM => wM bd ct u.1 u.2) PM ∧ MI l yX8_blank (gWs yX8_blank cX8_blank 2 (some .int)) rmX8_blank D ct (stX dt) [.ref (ad 0 0)] (wX ad ct σ lm τ) (fun u : US => wX ad ct u.1 u.2.1 u.2.2) (Sim B PM) := by
  have hR := h
  obtain ⟨n, kd, hRp, ⟨c, td, sn, hNw⟩, ⟨pn, pg, hPg⟩, ⟨d, hd20, hd1, hd2⟩, r, hr1, hr2, hr3, hIm⟩ := h
  have hn8 := hRp.1
  have hX := Rp.x hRp
  have hM := Rp.m hRp hNw
  have hS := hNw.2.2.2
  have hSm : ∀ q, q < 3 → SmR n c (σ 3) (lm 3) ρ q := fun q hq => St.sm hS hn8 hq
  have hk4 := Rp.k4 hRp
  have hsn : σ 3 0 0 = nI sn := hS.2.1.1
  have hsn6 : sn ≤ 6 := hS.1.2.2
  refine ⟨_, kX9_blank l D ct bd ρ θ pn hPg.2.1 hPg.1.2.1, ?_⟩
  refine MI.map (fun _ _ _ => trivial) id (fun _ => rfl) (fun r9 u9 hp => ?_) (kX8_blank l D ct ad σ lm τ n kd hX pn hPg.1.1 hPg.1.2.1)
  obtain ⟨rfl, rfl⟩ := hp
  intro r8 u8 hm
  obtain ⟨rfl, rfl⟩ := hm
  exact ⟨rfl, n, kd, hRp, ⟨c, td, sn, hNw⟩, ⟨0, pg, ⟨rfl, by omega, hPg.1.2.2⟩, rfl, fun j hj => absurd hj (by omega)⟩, ⟨d, hd20, hd1, hd2⟩, r, by omega, hr2, hr3, hIm⟩
set_option maxHeartbeats 1000000 in
theorem pr_fault (l : Launch) (D : va_G) (ct : Nat → ClassId) (dt : Nat → Nat) (ad : Nat → Nat → Nat) (bd : Nat → Nat) {B : Nat} (hB : B < 2 ^ 20) {σ lm : Nat → Nat → Nat → Int32} {τ : Nat → Int64} {ρ : Nat → Nat → Int32} {θ : Nat → Nat → Int64} (h : Rel B σ lm ρ) : ∃ PM : Int32 → UM → Prop, MI l yX9_fault (gWs yX9_fault cX9_fault 1 (some .int)) rmX9_fault D ct gNo [.ref (bd 0)] (wM bd ct ρ θ) (fun u : UM => wM bd ct u.1 u.2) PM ∧ MI l yX8_fault (gWs yX8_fault cX8_fault 1 (some .int)) rmX8_fault D ct (stX dt) [.ref (ad 0 0)] (wX ad ct σ lm τ) (fun u : US => wX ad ct u.1 u.2.1 u.2.2) (Sim B PM) := by
  have hR := h
  obtain ⟨n, kd, hRp, ⟨c, td, sn, hNw⟩, ⟨pn, pg, hPg⟩, ⟨d, hd20, hd1, hd2⟩, r, hr1, hr2, hr3, hIm⟩ := h
  have hn8 := hRp.1
  have hX := Rp.x hRp
  have hM := Rp.m hRp hNw
  have hS := hNw.2.2.2
  have hSm : ∀ q, q < 3 → SmR n c (σ 3) (lm 3) ρ q := fun q hq => St.sm hS hn8 hq
  have hk4 := Rp.k4 hRp
  have hsn : σ 3 0 0 = nI sn := hS.2.1.1
  have hsn6 : sn ≤ 6 := hS.1.2.2
  have hpe := page_eq (a := σ 1 1) (r := ρ 15) hPg.1.2.1 hPg.1.2.2 hPg.2.2
  refine ⟨_, kX9_fault l D ct bd ρ θ pn hPg.2.1 hPg.1.2.1, ?_⟩
  refine MI.map (fun _ _ q => q) (fun _ => (σ, lm, τ)) (fun _ => rfl) (fun r9 u9 hp => ?_) (kX8_fault l D ct ad σ lm τ dt n kd hX pn pg hPg.1)
  intro r8 u8 hm
  obtain ⟨rfl, g16, g17, rfl⟩ := hm
  exact ⟨hp.trans (congrArg nI hpe.1).symm, ⟨n, kd, hRp, ⟨c, td, sn, hNw⟩, ⟨pn, pg, hPg⟩, ⟨d, hd20, hd1, hd2⟩, r, by omega, hr2, hr3, hIm⟩⟩
set_option maxHeartbeats 1000000 in
theorem pr_rope (l : Launch) (D : va_G) (ct : Nat → ClassId) (dt : Nat → Nat) (ad : Nat → Nat → Nat) (bd : Nat → Nat) {B : Nat} (hB : B < 2 ^ 20) {σ lm : Nat → Nat → Nat → Int32} {τ : Nat → Int64} {ρ : Nat → Nat → Int32} {θ : Nat → Nat → Int64} (h : Rel B σ lm ρ) : ∃ PM : Int32 → UM → Prop, MI l yX9_rope (gWs yX9_rope cX9_rope 4 (some .int)) rmX9_rope D ct gNo [.ref (bd 0)] (wM bd ct ρ θ) (fun u : UM => wM bd ct u.1 u.2) PM ∧ MI l yX8_rope (gWs yX8_rope cX8_rope 3 (some .int)) rmX8_rope D ct (stX dt) [.ref (ad 0 0)] (wX ad ct σ lm τ) (fun u : US => wX ad ct u.1 u.2.1 u.2.2) (Sim B PM) := by
  have hR := h
  obtain ⟨n, kd, hRp, ⟨c, td, sn, hNw⟩, ⟨pn, pg, hPg⟩, ⟨d, hd20, hd1, hd2⟩, r, hr1, hr2, hr3, hIm⟩ := h
  have hn8 := hRp.1
  have hX := Rp.x hRp
  have hM := Rp.m hRp hNw
  have hS := hNw.2.2.2
  have hSm : ∀ q, q < 3 → SmR n c (σ 3) (lm 3) ρ q := fun q hq => St.sm hS hn8 hq
  have hk4 := Rp.k4 hRp
  have hsn : σ 3 0 0 = nI sn := hS.2.1.1
  have hsn6 : sn ≤ 6 := hS.1.2.2
  have hpe := page_eq (a := σ 1 1) (r := ρ 15) hPg.1.2.1 hPg.1.2.2 hPg.2.2
  refine ⟨_, kX9_rope l D ct bd ρ θ pn hPg.2.1 hPg.1.2.1, ?_⟩
  by_cases h1 : (rdM ρ pn).2.2 = true
  · obtain ⟨f1, f2, f3⟩ := hpe.2.1.mp h1
    have hn1 : (rdM ρ pn).2.1 = (pn + 1) / 6 := hpe.2.2 h1
    have hall := ff_all f1
    have hp47 : pn ≤ 47 := by
      by_cases q : pn ≤ 47
      · exact q
      · exact absurd (fit47 (hall 47 (by omega))) (by omega)
    refine MI.map (fun _ _ q => q) id (fun _ => rfl) (fun r9 u9 hp => ?_) (kX8_rope l D ct ad σ lm τ dt n kd hX pn pg hPg.1 f2 f3 f1)
    obtain ⟨rfl, g31, L3, g22, p1, p2, p3, rfl⟩ := hp
    intro r8 u8 hm
    obtain ⟨rfl, g16, g17, rfl⟩ := itF (not_not_intro h1) hm
    have hr15 : ∀ j, j < pn → ρ 15 j = σ 1 1 j := hPg.2.2
    have hkn : ∀ m, m < (pn + 1) / 6 → kindC (σ 1 1 (m * 6)) = nI (kn (σ 1 1) m) ∧ kn (σ 1 1) m < 5 := fun m hm => kn_eq (fitK (hall (m * 6) (by omega)))
    have e25 : ∃ k, k < r + 1 ∧ ρ 25 0 = nI k ∨ ρ 24 0 = 0 := by
      rcases hIm with ⟨_, _, q, _⟩ | ⟨_, q | ⟨k, q1, q2⟩⟩
      · exact ⟨r, Or.inl ⟨by omega, q⟩⟩
      · exact ⟨0, Or.inr q⟩
      · exact ⟨k, Or.inl ⟨by omega, q2⟩⟩
    have enr : ∀ k, nI k + 1 = nI (k + 1) := fun k => (Int32.ofNat_add k 1).symm
    refine ⟨by rw [hn1], (pn + 1) / 6, fun j => if j < (pn + 1) / 6 then kn (σ 1 1) j else kd j, ⟨by omega, rfl, by show nI (rdM ρ pn).2.1 = _; rw [hn1], fun m hm => ?_⟩, ⟨0, 0, 0, rfl, rfl, rfl, ⟨by decide, by decide, by decide⟩, ⟨rfl, rfl⟩, fun m hm => ?_, fun m hm => ?_, fun m hm1 hm2 => ?_, fun q hq m hm => ?_, fun q hq m hm => ?_, fun q hq => ⟨rfl, rfl, 0, by decide, rfl⟩, fun e he => absurd he (by omega)⟩, ⟨0, pg, ⟨rfl, by omega, hPg.1.2.2⟩, rfl, fun j hj => absurd hj (by omega)⟩, ⟨d, hd20, hd1, hd2⟩, r + 1, by omega, ?_, ?_, Or.inr ⟨rfl, ?_⟩⟩
    · show g22 m = nI (if m < (pn + 1) / 6 then kn (σ 1 1) m else kd m) ∧ (if m < (pn + 1) / 6 then kn (σ 1 1) m else kd m) ≤ 4 ∧ rk2 ρ (rdM ρ pn).2.1 m = nI (if m < (pn + 1) / 6 then kn (σ 1 1) m else kd m)
      rw [p3 m, hn1]
      unfold rk2
      by_cases e : m < (pn + 1) / 6
      · rw [if_pos e, if_pos e, if_pos e, hr15 (6 * m) (by omega), Nat.mul_comm 6 m]
        exact ⟨(hkn m e).1, by have := (hkn m e).2; omega, (hkn m e).1⟩
      · rw [if_neg e, if_neg e, if_neg e]; exact hRp.2.2.2 m hm
    · show z0 m = _
      rw [Nat.zero_testBit, if_neg (by decide)]; rfl
    · show g31 m = rk3 ρ (rdM ρ pn).2.1 m ∧ wg9 (rk3 ρ (rdM ρ pn).2.1 m)
      rw [p1 m, hn1]
      unfold rk3
      rw [if_pos hm, if_pos hm, hr15 (6 * m + 1) (by omega), Nat.mul_comm 6 m]
      refine ⟨rfl, ?_⟩
      have hf := hall (m * 6 + 1) (by omega)
      obtain ⟨q1, q2⟩ := hPg.1.2.2 (m * 6 + 1) (by omega)
      exact fit_w q1 q2 hf
    · show g31 m = 0
      rw [p1 m, if_neg (by omega)]; rfl
    · show ln3 (L3 q m)
      rw [p2 q hq m]
      split
      · exact ln3_lnC _
      · exact ln3_0
    · show L3 q m = rk4 ρ (rdM ρ pn).2.1 (3 * m + q)
      rw [p2 q hq m, hn1]
      unfold rk4
      rw [if_pos hm, if_pos (by omega), show (3 * m + q) / 3 = m by omega, show (3 * m + q) % 3 = q by omega, hr15 (6 * m + 2 + q) (by omega), Nat.mul_comm 6 m]
    · show σ 0 1 0 + 1 = nI (r + 1); rw [hr2]; exact enr r
    · show ρ 0 0 + 1 = nI (r + 1); rw [hr3]; exact enr r
    · obtain ⟨k, q | q⟩ := e25
      · exact Or.inr ⟨k, q.1, q.2⟩
      · exact Or.inl q
  · refine MI.map (fun _ _ q => q) (fun _ => (σ, lm, τ)) (fun _ => rfl) (fun r9 u9 hp => ?_) (kX8_rope_no l D ct ad σ lm τ dt n kd hX pn pg hPg.1 (fun q => h1 (hpe.2.1.mpr ⟨q.2.2, q.1, q.2.1⟩)))
    intro r8 u8 hm
    obtain ⟨rfl, g16, g17, rfl⟩ := itT h1 hm
    exact ⟨hp, ⟨n, kd, hRp, ⟨c, td, sn, hNw⟩, ⟨pn, pg, hPg⟩, ⟨d, hd20, hd1, hd2⟩, r, by omega, hr2, hr3, hIm⟩⟩
set_option maxHeartbeats 1000000 in
theorem pr_mussel (l : Launch) (D : va_G) (ct : Nat → ClassId) (dt : Nat → Nat) (ad : Nat → Nat → Nat) (bd : Nat → Nat) {B : Nat} (hB : B < 2 ^ 20) {σ lm : Nat → Nat → Nat → Int32} {τ : Nat → Int64} {ρ : Nat → Nat → Int32} {θ : Nat → Nat → Int64} (h : Rel B σ lm ρ) (x z : Int32) : ∃ PM : Int32 → UM → Prop, MI l yX9_mussel (gWs yX9_mussel cX9_mussel 3 (some .int)) rmX9_mussel D ct gNo [.ref (bd 0), .int x, .int z] (wM bd ct ρ θ) (fun u : UM => wM bd ct u.1 u.2) PM ∧ MI l yX8_mussel (gWs yX8_mussel cX8_mussel 3 (some .int)) rmX8_mussel D ct (stX dt) [.ref (ad 0 0), .int x, .int z] (wX ad ct σ lm τ) (fun u : US => wX ad ct u.1 u.2.1 u.2.2) (Sim B PM) := by
  have hR := h
  obtain ⟨n, kd, hRp, ⟨c, td, sn, hNw⟩, ⟨pn, pg, hPg⟩, ⟨d, hd20, hd1, hd2⟩, r, hr1, hr2, hr3, hIm⟩ := h
  have hn8 := hRp.1
  have hX := Rp.x hRp
  have hM := Rp.m hRp hNw
  have hS := hNw.2.2.2
  have hSm : ∀ q, q < 3 → SmR n c (σ 3) (lm 3) ρ q := fun q hq => St.sm hS hn8 hq
  have hk4 := Rp.k4 hRp
  have hsn : σ 3 0 0 = nI sn := hS.2.1.1
  have hsn6 : sn ≤ 6 := hS.1.2.2
  refine ⟨_, kX9_mussel l D ct bd ρ θ n c kd hM sn hNw.2.2.1 hsn6 x z, ?_⟩
  rcases has_cases hn8 x with ⟨m, hm0, rfl, a1, a2⟩ | ⟨a1, a2⟩
  · by_cases h2 : (0 ≤ z ∧ z ≤ 7) ∨ (10 ≤ z ∧ z ≤ 12) ∨ (20 ≤ z ∧ z ≤ 22)
    · obtain ⟨k, hk, rfl⟩ : ∃ k, (k ≤ 7 ∨ (10 ≤ k ∧ k ≤ 12) ∨ (20 ≤ k ∧ k ≤ 22)) ∧ z = nI k := told_k h2
      refine MI.map (fun _ _ _ => trivial) id (fun _ => rfl) (fun r9 u9 hp => ?_) (kX8_mussel l D ct ad σ lm τ n kd hX sn hsn hsn6 m k hm0 hk)
      obtain ⟨rfl, g5, L5, g05, rfl⟩ := hp
      intro r8 u8 hm
      obtain ⟨rfl, g21, rfl⟩ := itF (not_not_intro h2) (itF (not_not_intro a2) hm)
      refine ⟨?_, ⟨n, kd, hRp, ⟨c, td, sn, hNw⟩, ⟨pn, pg, hPg⟩, ⟨d, hd20, hd1, hd2⟩, r, by omega, hr2, hr3, hIm⟩⟩
      rw [nIc (by omega), nIc (by omega)]
      exact mn_eq hRp hNw hm0 hk
    · refine MI.map (fun _ _ _ => trivial) (fun _ => (σ, lm, τ)) (fun _ => rfl) (fun r9 u9 hp => ?_) (kX8_mussel_no l D ct ad σ lm τ n kd hX (nI m) z (fun q => h2 (told_of q.2)))
      intro r8 u8 hm
      obtain ⟨rfl, rfl⟩ := itT h2 (itF (not_not_intro a2) hm)
      exact ⟨hp.trans (if_neg (not_not_intro a1)), hR.up⟩
  · refine MI.map (fun _ _ _ => trivial) (fun _ => (σ, lm, τ)) (fun _ => rfl) (fun r9 u9 hp => ?_) (kX8_mussel_no l D ct ad σ lm τ n kd hX x z (fun q => a1 q.1))
    intro r8 u8 hm
    obtain ⟨rfl, rfl⟩ := itT a2 hm
    exact ⟨hp.trans (if_pos a1), hR.up⟩
set_option maxHeartbeats 1000000 in
theorem pr_as (l : Launch) (D : va_G) (ct : Nat → ClassId) (dt : Nat → Nat) (ad : Nat → Nat → Nat) (bd : Nat → Nat) {B : Nat} (hB : B < 2 ^ 20) {σ lm : Nat → Nat → Nat → Int32} {τ : Nat → Int64} {ρ : Nat → Nat → Int32} {θ : Nat → Nat → Int64} (h : Rel B σ lm ρ) (x z : Int32) : ∃ PM : Int32 → UM → Prop, MI l yX9_as (gWs yX9_as cX9_as 4 (some .int)) rmX9_as D ct gNo [.ref (bd 0), .int x, .int z] (wM bd ct ρ θ) (fun u : UM => wM bd ct u.1 u.2) PM ∧ MI l yX8_as (gWs yX8_as cX8_as 3 (some .int)) rmX8_as D ct (stX dt) [.ref (ad 0 0), .int x, .int z] (wX ad ct σ lm τ) (fun u : US => wX ad ct u.1 u.2.1 u.2.2) (Sim B PM) := by
  have hR := h
  obtain ⟨n, kd, hRp, ⟨c, td, sn, hNw⟩, ⟨pn, pg, hPg⟩, ⟨d, hd20, hd1, hd2⟩, r, hr1, hr2, hr3, hIm⟩ := h
  have hn8 := hRp.1
  have hX := Rp.x hRp
  have hM := Rp.m hRp hNw
  have hS := hNw.2.2.2
  have hSm : ∀ q, q < 3 → SmR n c (σ 3) (lm 3) ρ q := fun q hq => St.sm hS hn8 hq
  have hk4 := Rp.k4 hRp
  have hsn : σ 3 0 0 = nI sn := hS.2.1.1
  have hsn6 : sn ≤ 6 := hS.1.2.2
  refine ⟨_, kX9_as l D ct bd ρ θ n c kd hM x z, ?_⟩
  rcases has_cases hn8 x with ⟨m, hm0, rfl, a1, a2⟩ | ⟨a1, a2⟩
  · rcases rng_cases 4 (by decide) z with ⟨k, hk, rfl⟩ | ⟨b1, b2⟩
    · refine MI.map (fun _ _ q => q) (fun _ => (σ, lm, τ)) (fun _ => rfl) (fun r9 u9 hp => ?_) (kX8_as l D ct ad σ lm τ dt n kd hX m k hm0 (by omega))
      intro r8 u8 hm
      have b2 : 0 ≤ nI k ∧ nI k ≤ 4 := ⟨nI_le (Nat.zero_le k) (by omega), nI_le (b := 4) hk (by decide)⟩
      obtain ⟨rfl, rfl⟩ := itF (not_not_intro b2) (itF (not_not_intro a2) hm)
      refine ⟨hp.trans ?_, hR.up⟩
      rw [nIc (by omega)]
      have hkm := hRp.2.2.2 m (by omega)
      rw [hkm.2.2]
      unfold asF
      have e1 : nI k = 0 ↔ k = 0 := nI_eq (b := 0) (by omega) (by decide)
      have e2 : nI (kd m) = nI k ↔ kd m = k := nI_eq (by have := hkm.2.1; omega) (by omega)
      have e3 : nI k = 3 ↔ k = 3 := nI_eq (b := 3) (by omega) (by decide)
      have e4 : nI (kd m) = 4 ↔ kd m = 4 := nI_eq (b := 4) (by have := hkm.2.1; omega) (by decide)
      by_cases q : k = 0 ∨ k = kd m ∨ (k = 3 ∧ kd m = 4)
      · rw [if_pos q, if_pos (by rw [e1, e2, e3, e4]; omega)]
      · rw [if_neg q, if_neg (by rw [e1, e2, e3, e4]; omega)]
    · refine MI.map (fun _ _ q => q) (fun _ => (σ, lm, τ)) (fun _ => rfl) (fun r9 u9 hp => ?_) (kX8_as_no l D ct ad σ lm τ dt n kd hX (nI m) z (fun q => b2 ⟨Int32.not_lt.mp q.2.1, q.2.2⟩))
      intro r8 u8 hm
      obtain ⟨rfl, rfl⟩ := itT b1 (itF (not_not_intro a2) hm)
      exact ⟨hp.trans (if_neg (not_not_intro a1)), hR.up⟩
  · refine MI.map (fun _ _ q => q) (fun _ => (σ, lm, τ)) (fun _ => rfl) (fun r9 u9 hp => ?_) (kX8_as_no l D ct ad σ lm τ dt n kd hX x z (fun q => a1 q.1))
    intro r8 u8 hm
    obtain ⟨rfl, rfl⟩ := itT a2 hm
    exact ⟨hp.trans (if_pos a1), hR.up⟩
set_option maxHeartbeats 1000000 in
theorem pr_question (l : Launch) (D : va_G) (ct : Nat → ClassId) (dt : Nat → Nat) (ad : Nat → Nat → Nat) (bd : Nat → Nat) {B : Nat} (hB : B < 2 ^ 20) {σ lm : Nat → Nat → Nat → Int32} {τ : Nat → Int64} {ρ : Nat → Nat → Int32} {θ : Nat → Nat → Int64} (h : Rel B σ lm ρ) (x z : Int32) : ∃ PM : Int32 → UM → Prop, MI l yX9_question (gWs yX9_question cX9_question 3 (some .int)) rmX9_question D ct gNo [.ref (bd 0), .int x, .int z] (wM bd ct ρ θ) (fun u : UM => wM bd ct u.1 u.2) PM ∧ MI l yX8_question (gWs yX8_question cX8_question 3 (some .int)) rmX8_question D ct (stX dt) [.ref (ad 0 0), .int x, .int z] (wX ad ct σ lm τ) (fun u : US => wX ad ct u.1 u.2.1 u.2.2) (Sim B PM) := by
  have hR := h
  obtain ⟨n, kd, hRp, ⟨c, td, sn, hNw⟩, ⟨pn, pg, hPg⟩, ⟨d, hd20, hd1, hd2⟩, r, hr1, hr2, hr3, hIm⟩ := h
  have hn8 := hRp.1
  have hX := Rp.x hRp
  have hM := Rp.m hRp hNw
  have hS := hNw.2.2.2
  have hSm : ∀ q, q < 3 → SmR n c (σ 3) (lm 3) ρ q := fun q hq => St.sm hS hn8 hq
  have hk4 := Rp.k4 hRp
  have hsn : σ 3 0 0 = nI sn := hS.2.1.1
  have hsn6 : sn ≤ 6 := hS.1.2.2
  refine ⟨_, kX9_question l D ct bd ρ θ n c kd hM x z, ?_⟩
  rcases q_cases (n := n) x with ⟨q, hq, rfl, hn0, a1, a2⟩ | ⟨a1, a2⟩
  · rcases rng_cases 5 (by decide) z with ⟨k, hk, rfl⟩ | ⟨b1, b2⟩
    · refine MI.map (fun _ _ _ => trivial) (fun _ => (σ, lm, τ)) (fun _ => rfl) (fun r9 u9 hp => ?_) (kX8_question l D ct ad σ lm τ n kd hX q k hq hk hn0)
      intro r8 u8 hm
      have b2 : 0 ≤ nI k ∧ nI k ≤ 5 := ⟨nI_le (Nat.zero_le k) (by omega), nI_le (b := 5) hk (by decide)⟩
      obtain ⟨rfl, rfl⟩ := itF (not_not_intro b2) (itF (not_not_intro a2) hm)
      refine ⟨hp.trans ?_, hR.up⟩
      rw [nIc (by omega), nIc (by omega)]
      exact qn_eq hRp hNw hq k
    · refine MI.map (fun _ _ _ => trivial) (fun _ => (σ, lm, τ)) (fun _ => rfl) (fun r9 u9 hp => ?_) (kX8_question_no l D ct ad σ lm τ n kd hX (nI q) z (fun w => b1 w.2))
      intro r8 u8 hm
      obtain ⟨rfl, rfl⟩ := itT b1 (itF (not_not_intro a2) hm)
      exact ⟨hp.trans (if_neg (not_not_intro a1)), hR.up⟩
  · refine MI.map (fun _ _ _ => trivial) (fun _ => (σ, lm, τ)) (fun _ => rfl) (fun r9 u9 hp => ?_) (kX8_question_no l D ct ad σ lm τ n kd hX x z (fun q => a1 q.1))
    intro r8 u8 hm
    obtain ⟨rfl, rfl⟩ := itT a2 hm
    exact ⟨hp.trans (if_pos a1), hR.up⟩
