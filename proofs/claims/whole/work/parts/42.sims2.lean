theorem sgn_pos {x : Int32} (h : 0 < sgn x) : 0 < x := by
  unfold sgn at h
  by_cases h1 : 0 < x
  · exact h1
  · rw [if_neg h1] at h
    split at h <;> exact absurd h (by decide)
theorem ask_r (x : Int32) : (if sgn x < 0 then 2 else sgn x) = askR (sgn x) := by
  unfold askR
  rcases ln3_sgn x with h | h | h <;> rw [h] <;> decide
theorem way3 {t : Int32} (h : -1 ≤ t ∧ t ≤ 1) : ln3 t := by
  have h1 := Int32.le_iff_toInt_le.mp h.1
  have h2 := Int32.le_iff_toInt_le.mp h.2
  have h1 : (-1 : Int) ≤ t.toInt := h1
  have h2 : t.toInt ≤ 1 := h2
  rcases (show t.toInt = -1 ∨ t.toInt = 0 ∨ t.toInt = 1 by omega) with e | e | e
  · exact Or.inl (Int32.toInt_inj.mp e)
  · exact Or.inr (Or.inl (Int32.toInt_inj.mp e))
  · exact Or.inr (Or.inr (Int32.toInt_inj.mp e))
theorem b255 : ∀ j, j < 8 → (255 : Nat).testBit j = true := by decide
theorem tie_self {c m : Nat} (hm : m < 8) : (c &&& (1 * 2 ^ m ^^^ 255)).testBit m = false := by
  rw [Nat.testBit_and, Nat.testBit_xor, Nat.one_mul, Nat.testBit_two_pow_self, b255 m hm]; simp
theorem tie_other {c m j : Nat} (hj : j < 8) (e : ¬ j = m) : (c &&& (1 * 2 ^ m ^^^ 255)).testBit j = c.testBit j := by
  rw [Nat.testBit_and, Nat.testBit_xor, Nat.one_mul, Nat.testBit_two_pow, b255 j hj, show decide (m = j) = false by simp; omega]; simp
set_option maxHeartbeats 1000000 in
theorem pr_ask (l : Launch) (D : va_G) (ct : Nat → ClassId) (dt : Nat → Nat) (ad : Nat → Nat → Nat) (bd : Nat → Nat) {B : Nat} (hB : B < 2 ^ 20) {σ lm : Nat → Nat → Nat → Int32} {τ : Nat → Int64} {ρ : Nat → Nat → Int32} {θ : Nat → Nat → Int64} (h : Rel B σ lm ρ) (x : Int32) : ∃ PM : Int32 → UM → Prop, MI l yX9_ask (gWs yX9_ask cX9_ask 3 (some .int)) rmX9_ask D ct gNo [.ref (bd 0), .int x] (wM bd ct ρ θ) (fun u : UM => wM bd ct u.1 u.2) PM ∧ MI l yX8_ask (gWs yX8_ask cX8_ask 3 (some .int)) rmX8_ask D ct (stX dt) [.ref (ad 0 0), .int x] (wX ad ct σ lm τ) (fun u : US => wX ad ct u.1 u.2.1 u.2.2) (Sim B PM) := by
  have hR := h
  obtain ⟨n, kd, hRp, ⟨c, td, sn, hNw⟩, ⟨pn, pg, hPg⟩, ⟨d, hd20, hd1, hd2⟩, r, hr1, hr2, hr3, hIm⟩ := h
  have hn8 := hRp.1
  have hX := Rp.x hRp
  have hM := Rp.m hRp hNw
  have hS := hNw.2.2.2
  have hSm : ∀ q, q < 3 → SmR n c (σ 3) (lm 3) ρ q := fun q hq => St.sm hS hn8 hq
  have hk4 := Rp.k4 hRp
  have hsn : σ 3 0 0 = nI sn := hS.2.1.1
  have hsn6 : sn ≤ 6 := hS.1.2.2
  refine ⟨_, kX9_ask l D ct bd ρ θ n c kd hM x, ?_⟩
  rcases q_cases (n := n) x with ⟨q, hq, rfl, hn0, a1, a2⟩ | ⟨a1, a2⟩
  · obtain ⟨s7, s8, a, ha, ha7⟩ := hS.2.2.2.2.2.2.2.1 q hq
    have e99 : nI a = 99 ↔ a = 99 := nI_eq (b := 99) (by omega) (by decide)
    have l99 : nI a < 99 ↔ a < 99 := nI_ltI (b := 99) (by omega) (by decide)
    by_cases h2 : a = 99
    · refine MI.map (fun _ _ _ => trivial) (fun _ => (σ, lm, τ)) (fun _ => rfl) (fun r9 u9 hp => ?_) (kX8_ask_st l D ct ad σ lm τ n kd hX q hq hn0 (by rw [s7, ha7, l99]; omega))
      intro r8 u8 hm
      obtain ⟨rfl, rfl⟩ := itT (by rw [nIc (by omega), ha7, e99]; exact h2) (itF (not_not_intro a2) hm)
      exact ⟨hp, hR.up⟩
    · refine MI.map (fun _ _ _ => trivial) id (fun _ => rfl) (fun r9 u9 hp => ?_) (kX8_ask l D ct ad σ lm τ n kd hX q hq hn0 (by rw [s7, ha7, l99]; omega))
      obtain ⟨rfl, g38, p8, rfl⟩ := hp
      intro r8 u8 hm
      obtain ⟨rfl, rfl⟩ := itF (by rw [nIc (by omega), ha7, e99]; exact h2) (itF (not_not_intro a2) hm)
      have esm := sm_eq (hSm q hq) hk4
      refine ⟨?_, n, kd, hRp, ⟨c, td, sn, hNw.1, hNw.2.1, hNw.2.2.1, hS.1, hS.2.1, hS.2.2.1, hS.2.2.2.1, hS.2.2.2.2.1, hS.2.2.2.2.2.1, hS.2.2.2.2.2.2.1, fun j hj => ?_, hS.2.2.2.2.2.2.2.2⟩, ⟨pn, pg, hPg⟩, ⟨d, hd20, hd1, hd2⟩, r, by omega, hr2, hr3, hIm⟩
      · rw [nIc (by omega), esm]; exact ask_r _
      · show upd (σ 3 7) q (σ 3 7 q + 1) j = upd (ρ 7) (nI q).toNatClampNeg (ρ 7 (nI q).toNatClampNeg + 1) j ∧ g38 j = upd (ρ 8) (nI q).toNatClampNeg (ρ 8 (nI q).toNatClampNeg + (if sgn (smM ρ n c kd (nI q).toNatClampNeg) = 1 then 1 else 0)) j ∧ ∃ a, a ≤ 99 ∧ upd (ρ 7) (nI q).toNatClampNeg (ρ 7 (nI q).toNatClampNeg + 1) j = nI a
        obtain ⟨t7, t8, b, hb, hb7⟩ := hS.2.2.2.2.2.2.2.1 j hj
        rw [nIc (by omega), p8 j, esm]
        by_cases e : j = q
        · subst e
          rw [pk_us, pk_us, pk_us, s7, s8, ha7]
          refine ⟨rfl, ?_, a + 1, by omega, (Int32.ofNat_add a 1).symm⟩
          by_cases e1 : sgn (smM ρ n c kd j) = 1
          · rw [if_pos ⟨rfl, by rw [e1]; decide⟩, if_pos e1]
          · rw [if_neg (fun w => e1 (sgn1.mpr (sgn_pos w.2))), if_neg e1]; exact (Int32.add_zero _).symm
        · rw [pk_un e, pk_un e, pk_un e, if_neg (fun w => e w.1)]
          exact ⟨t7, t8, b, hb, hb7⟩
  · refine MI.map (fun _ _ _ => trivial) (fun _ => (σ, lm, τ)) (fun _ => rfl) (fun r9 u9 hp => ?_) (kX8_ask_no l D ct ad σ lm τ n kd hX x a1)
    intro r8 u8 hm
    obtain ⟨rfl, rfl⟩ := itT a2 hm
    exact ⟨hp, hR.up⟩
set_option maxHeartbeats 1000000 in
theorem pr_tide (l : Launch) (D : va_G) (ct : Nat → ClassId) (dt : Nat → Nat) (ad : Nat → Nat → Nat) (bd : Nat → Nat) {B : Nat} (hB : B < 2 ^ 20) {σ lm : Nat → Nat → Nat → Int32} {τ : Nat → Int64} {ρ : Nat → Nat → Int32} {θ : Nat → Nat → Int64} (h : Rel B σ lm ρ) : ∃ PM : Int32 → UM → Prop, MI l yX9_tide (gWs yX9_tide cX9_tide 1 (some .int)) rmX9_tide D ct gNo [.ref (bd 0)] (wM bd ct ρ θ) (fun u : UM => wM bd ct u.1 u.2) PM ∧ MI l yX8_tide (gWs yX8_tide cX8_tide 1 (some .int)) rmX8_tide D ct (stX dt) [.ref (ad 0 0)] (wX ad ct σ lm τ) (fun u : US => wX ad ct u.1 u.2.1 u.2.2) (Sim B PM) := by
  have hR := h
  obtain ⟨n, kd, hRp, ⟨c, td, sn, hNw⟩, ⟨pn, pg, hPg⟩, ⟨d, hd20, hd1, hd2⟩, r, hr1, hr2, hr3, hIm⟩ := h
  have hn8 := hRp.1
  have hX := Rp.x hRp
  have hM := Rp.m hRp hNw
  have hS := hNw.2.2.2
  have hSm : ∀ q, q < 3 → SmR n c (σ 3) (lm 3) ρ q := fun q hq => St.sm hS hn8 hq
  have hk4 := Rp.k4 hRp
  have hsn : σ 3 0 0 = nI sn := hS.2.1.1
  have hsn6 : sn ≤ 6 := hS.1.2.2
  refine ⟨_, kX9_tide l D ct bd ρ θ n c kd hM, ?_⟩
  have ht := hS.1.2.1
  have e12 := hS.2.1.2
  have e6 := hNw.2.1
  by_cases h1 : n = 0
  · refine MI.map (fun _ _ _ => trivial) (fun _ => (σ, lm, τ)) (fun _ => rfl) (fun r9 u9 hp => ?_) (kX8_tide_no l D ct ad σ lm τ n kd hX (fun q => q.1 h1))
    intro r8 u8 hm
    obtain ⟨rfl, rfl⟩ := itT h1 hm
    exact ⟨hp.trans (if_pos (fun q => q h1)), hR.up⟩
  · by_cases h2 : td = 999
    · have e99 : ρ 6 0 = 999 := by rw [e6, h2]; rfl
      refine MI.map (fun _ _ _ => trivial) (fun _ => (σ, lm, τ)) (fun _ => rfl) (fun r9 u9 hp => ?_) (kX8_tide_no l D ct ad σ lm τ n kd hX (fun q => by rw [e12, h2] at q; exact absurd q.2 (by decide)))
      intro r8 u8 hm
      obtain ⟨rfl, rfl⟩ := itT e99 (itF h1 hm)
      exact ⟨hp.trans (if_neg (not_not_intro h1)), hR.up⟩
    · have e99 : ¬ ρ 6 0 = 999 := by rw [e6]; exact fun q => h2 ((nI_eq (b := 999) (by omega) (by decide)).mp q)
      refine MI.map (fun _ _ q => q) id (fun _ => rfl) (fun r9 u9 hp => ?_) (kX8_tide l D ct ad σ lm τ dt n kd hX (by omega) (by rw [e12]; exact nI_lt (b := 999) (by omega) (by decide)))
      obtain ⟨rfl, rfl⟩ := hp
      intro r8 u8 hm
      obtain ⟨rfl, g18, rfl⟩ := itF e99 (itF h1 hm)
      have e1 : ∀ a, nI a + 1 = nI (a + 1) := fun a => (Int32.ofNat_add a 1).symm
      refine ⟨by rw [e12, e6], n, kd, hRp, ⟨c, td + 1, sn, hNw.1, by show ρ 6 0 + 1 = _; rw [e6]; exact e1 td, hNw.2.2.1, ⟨hS.1.1, by omega, hS.1.2.2⟩, ⟨hS.2.1.1, by show σ 3 12 0 + 1 = _; rw [e12]; exact e1 td⟩, hS.2.2.1, hS.2.2.2.1, hS.2.2.2.2.1, fun q hq m hm => df_ln3 (c := c) (ρ := ρ) (hS.2.2.2.2.2.1 q hq m hm), fun q hq m hm => df_eq (hSm q hq) hq hm, hS.2.2.2.2.2.2.2⟩, ⟨pn, pg, hPg⟩, ⟨d, hd20, hd1, hd2⟩, r, by omega, hr2, hr3, hIm⟩
set_option maxHeartbeats 1000000 in
theorem pr_cut (l : Launch) (D : va_G) (ct : Nat → ClassId) (dt : Nat → Nat) (ad : Nat → Nat → Nat) (bd : Nat → Nat) {B : Nat} (hB : B < 2 ^ 20) {σ lm : Nat → Nat → Nat → Int32} {τ : Nat → Int64} {ρ : Nat → Nat → Int32} {θ : Nat → Nat → Int64} (h : Rel B σ lm ρ) (x : Int32) : ∃ PM : Int32 → UM → Prop, MI l yX9_cut (gWs yX9_cut cX9_cut 2 (some .int)) rmX9_cut D ct gNo [.ref (bd 0), .int x] (wM bd ct ρ θ) (fun u : UM => wM bd ct u.1 u.2) PM ∧ MI l yX8_cut (gWs yX8_cut cX8_cut 2 (some .int)) rmX8_cut D ct (stX dt) [.ref (ad 0 0), .int x] (wX ad ct σ lm τ) (fun u : US => wX ad ct u.1 u.2.1 u.2.2) (Sim B PM) := by
  have hR := h
  obtain ⟨n, kd, hRp, ⟨c, td, sn, hNw⟩, ⟨pn, pg, hPg⟩, ⟨d, hd20, hd1, hd2⟩, r, hr1, hr2, hr3, hIm⟩ := h
  have hn8 := hRp.1
  have hX := Rp.x hRp
  have hM := Rp.m hRp hNw
  have hS := hNw.2.2.2
  have hSm : ∀ q, q < 3 → SmR n c (σ 3) (lm 3) ρ q := fun q hq => St.sm hS hn8 hq
  have hk4 := Rp.k4 hRp
  have hsn : σ 3 0 0 = nI sn := hS.2.1.1
  have hsn6 : sn ≤ 6 := hS.1.2.2
  refine ⟨_, kX9_cut l D ct bd ρ θ n c kd hM x, ?_⟩
  rcases has_cases hn8 x with ⟨m, hm0, rfl, a1, a2⟩ | ⟨a1, a2⟩
  · have e6 := hS.2.2.1 m (by omega)
    by_cases h2 : c.testBit m = true
    · refine MI.map (fun _ _ _ => trivial) (fun _ => (σ, lm, τ)) (fun _ => rfl) (fun r9 u9 hp => ?_) (kX8_cut_st l D ct ad σ lm τ n kd hX m hm0 (by rw [e6, if_pos h2]))
      intro r8 u8 hm
      obtain ⟨rfl, rfl⟩ := itT (by rw [nIc (by omega)]; exact h2) (itF (not_not_intro a2) hm)
      exact ⟨hp, hR.up⟩
    · refine MI.map (fun _ _ _ => trivial) id (fun _ => rfl) (fun r9 u9 hp => ?_) (kX8_cut l D ct ad σ lm τ n kd hX m hm0 (by rw [e6, if_neg h2]; decide))
      obtain ⟨rfl, rfl⟩ := hp
      intro r8 u8 hm
      obtain ⟨rfl, rfl⟩ := itF (by rw [nIc (by omega)]; exact h2) (itF (not_not_intro a2) hm)
      rw [nIc (by omega)]
      have hlt : c ||| 1 * 2 ^ m < 256 := or256 hS.1.1 (by have := pow_lt8 m (by omega); have h9 : 2 ^ m ≤ 128 := Nat.pow_le_pow_right (n := 2) (by decide) (show m ≤ 7 by omega); omega)
      have hb : ∀ j, j < 8 → upd (σ 3 6) m 1 j = if (c ||| 1 * 2 ^ m).testBit j = true then 1 else 0 := fun j hj => by
        by_cases e : j = m
        · subst e; rw [pk_us, Nat.testBit_or, Nat.one_mul, Nat.testBit_two_pow_self, Bool.or_true, if_pos rfl]
        · rw [pk_un e, hS.2.2.1 j hj, Nat.testBit_or, Nat.one_mul, Nat.testBit_two_pow, show decide (m = j) = false by simp; omega, Bool.or_false]
      have hS' : StR n (c ||| 1 * 2 ^ m) td sn (va_up (σ 3) 6 (upd (σ 3 6) m 1)) (lm 3) (ρ 3) (ρ 4) (ρ 7) (ρ 8) (ρ 11) (ρ 12) (ρ 13) := ⟨⟨hlt, hS.1.2.1, hS.1.2.2⟩, hS.2.1, hb, hS.2.2.2⟩
      refine ⟨?_, n, kd, hRp, ⟨c ||| 1 * 2 ^ m, td, sn, rfl, hNw.2.1, hNw.2.2.1, hS'⟩, ⟨pn, pg, hPg⟩, ⟨d, hd20, hd1, hd2⟩, r, by omega, hr2, hr3, hIm⟩
      rw [pcn_fb (cu := cuX (va_up (σ 3) 6 (upd (σ 3 6) m 1))) hn8 (St.sm (q := 0) hS' hn8 (by decide)).2.1]
  · refine MI.map (fun _ _ _ => trivial) (fun _ => (σ, lm, τ)) (fun _ => rfl) (fun r9 u9 hp => ?_) (kX8_cut_no l D ct ad σ lm τ n kd hX x a1)
    intro r8 u8 hm
    obtain ⟨rfl, rfl⟩ := itT a2 hm
    exact ⟨hp, hR.up⟩
set_option maxHeartbeats 1000000 in
theorem pr_tie (l : Launch) (D : va_G) (ct : Nat → ClassId) (dt : Nat → Nat) (ad : Nat → Nat → Nat) (bd : Nat → Nat) {B : Nat} (hB : B < 2 ^ 20) {σ lm : Nat → Nat → Nat → Int32} {τ : Nat → Int64} {ρ : Nat → Nat → Int32} {θ : Nat → Nat → Int64} (h : Rel B σ lm ρ) (x : Int32) : ∃ PM : Int32 → UM → Prop, MI l yX9_tie (gWs yX9_tie cX9_tie 2 (some .int)) rmX9_tie D ct gNo [.ref (bd 0), .int x] (wM bd ct ρ θ) (fun u : UM => wM bd ct u.1 u.2) PM ∧ MI l yX8_tie (gWs yX8_tie cX8_tie 2 (some .int)) rmX8_tie D ct (stX dt) [.ref (ad 0 0), .int x] (wX ad ct σ lm τ) (fun u : US => wX ad ct u.1 u.2.1 u.2.2) (Sim B PM) := by
  have hR := h
  obtain ⟨n, kd, hRp, ⟨c, td, sn, hNw⟩, ⟨pn, pg, hPg⟩, ⟨d, hd20, hd1, hd2⟩, r, hr1, hr2, hr3, hIm⟩ := h
  have hn8 := hRp.1
  have hX := Rp.x hRp
  have hM := Rp.m hRp hNw
  have hS := hNw.2.2.2
  have hSm : ∀ q, q < 3 → SmR n c (σ 3) (lm 3) ρ q := fun q hq => St.sm hS hn8 hq
  have hk4 := Rp.k4 hRp
  have hsn : σ 3 0 0 = nI sn := hS.2.1.1
  have hsn6 : sn ≤ 6 := hS.1.2.2
  refine ⟨_, kX9_tie l D ct bd ρ θ n c kd hM x, ?_⟩
  rcases has_cases hn8 x with ⟨m, hm0, rfl, a1, a2⟩ | ⟨a1, a2⟩
  · have e6 := hS.2.2.1 m (by omega)
    by_cases h2 : c.testBit m = true
    · refine MI.map (fun _ _ _ => trivial) id (fun _ => rfl) (fun r9 u9 hp => ?_) (kX8_tie l D ct ad σ lm τ n kd hX m hm0 (by rw [e6, if_pos h2]; decide))
      obtain ⟨rfl, rfl⟩ := hp
      intro r8 u8 hm
      obtain ⟨rfl, rfl⟩ := itF (by rw [nIc (by omega)]; exact not_not_intro h2) (itF (not_not_intro a2) hm)
      rw [nIc (by omega)]
      have hlt : c &&& (1 * 2 ^ m ^^^ 255) < 256 := Nat.lt_of_le_of_lt (Nat.and_le_left) hS.1.1
      have hb : ∀ j, j < 8 → upd (σ 3 6) m 0 j = if (c &&& (1 * 2 ^ m ^^^ 255)).testBit j = true then 1 else 0 := fun j hj => by
        by_cases e : j = m
        · subst e; rw [pk_us, tie_self (by omega), if_neg (by decide)]
        · rw [pk_un e, hS.2.2.1 j hj, tie_other hj e]
      have hS' : StR n (c &&& (1 * 2 ^ m ^^^ 255)) td sn (va_up (σ 3) 6 (upd (σ 3 6) m 0)) (lm 3) (ρ 3) (ρ 4) (ρ 7) (ρ 8) (ρ 11) (ρ 12) (ρ 13) := ⟨⟨hlt, hS.1.2.1, hS.1.2.2⟩, hS.2.1, hb, hS.2.2.2⟩
      refine ⟨?_, n, kd, hRp, ⟨c &&& (1 * 2 ^ m ^^^ 255), td, sn, rfl, hNw.2.1, hNw.2.2.1, hS'⟩, ⟨pn, pg, hPg⟩, ⟨d, hd20, hd1, hd2⟩, r, by omega, hr2, hr3, hIm⟩
      rw [pcn_fb (cu := cuX (va_up (σ 3) 6 (upd (σ 3 6) m 0))) hn8 (St.sm (q := 0) hS' hn8 (by decide)).2.1]
    · refine MI.map (fun _ _ _ => trivial) (fun _ => (σ, lm, τ)) (fun _ => rfl) (fun r9 u9 hp => ?_) (kX8_tie_st l D ct ad σ lm τ n kd hX m hm0 (by rw [e6, if_neg h2]))
      intro r8 u8 hm
      obtain ⟨rfl, rfl⟩ := itT (by rw [nIc (by omega)]; exact h2) (itF (not_not_intro a2) hm)
      exact ⟨hp, hR.up⟩
  · refine MI.map (fun _ _ _ => trivial) (fun _ => (σ, lm, τ)) (fun _ => rfl) (fun r9 u9 hp => ?_) (kX8_tie_no l D ct ad σ lm τ n kd hX x a1)
    intro r8 u8 hm
    obtain ⟨rfl, rfl⟩ := itT a2 hm
    exact ⟨hp, hR.up⟩
set_option maxHeartbeats 1000000 in
theorem pr_turn (l : Launch) (D : va_G) (ct : Nat → ClassId) (dt : Nat → Nat) (ad : Nat → Nat → Nat) (bd : Nat → Nat) {B : Nat} (hB : B < 2 ^ 20) {σ lm : Nat → Nat → Nat → Int32} {τ : Nat → Int64} {ρ : Nat → Nat → Int32} {θ : Nat → Nat → Int64} (h : Rel B σ lm ρ) (x z t : Int32) : ∃ PM : Int32 → UM → Prop, MI l yX9_turn (gWs yX9_turn cX9_turn 5 (some .int)) rmX9_turn D ct gNo [.ref (bd 0), .int x, .int z, .int t] (wM bd ct ρ θ) (fun u : UM => wM bd ct u.1 u.2) PM ∧ MI l yX8_turn (gWs yX8_turn cX8_turn 5 (some .int)) rmX8_turn D ct (stX dt) [.ref (ad 0 0), .int x, .int z, .int t] (wX ad ct σ lm τ) (fun u : US => wX ad ct u.1 u.2.1 u.2.2) (Sim B PM) := by
  have hR := h
  obtain ⟨n, kd, hRp, ⟨c, td, sn, hNw⟩, ⟨pn, pg, hPg⟩, ⟨d, hd20, hd1, hd2⟩, r, hr1, hr2, hr3, hIm⟩ := h
  have hn8 := hRp.1
  have hX := Rp.x hRp
  have hM := Rp.m hRp hNw
  have hS := hNw.2.2.2
  have hSm : ∀ q, q < 3 → SmR n c (σ 3) (lm 3) ρ q := fun q hq => St.sm hS hn8 hq
  have hk4 := Rp.k4 hRp
  have hsn : σ 3 0 0 = nI sn := hS.2.1.1
  have hsn6 : sn ≤ 6 := hS.1.2.2
  refine ⟨_, kX9_turn l D ct bd ρ θ n c kd hM x z t, ?_⟩
  rcases has_cases hn8 x with ⟨m, hm0, rfl, a1, a2⟩ | ⟨a1, a2⟩
  · rcases q_cases (n := n) z with ⟨q, hq, rfl, hn0, b1, b2⟩ | ⟨b1, b2⟩
    · by_cases h3 : -1 ≤ t ∧ t ≤ 1
      · refine MI.map (fun _ _ _ => trivial) id (fun _ => rfl) (fun r9 u9 hp => ?_) (kX8_turn l D ct ad σ lm τ n kd hX m q t hm0 hq hn0 h3)
        obtain ⟨rfl, rfl⟩ := hp
        intro r8 u8 hm
        obtain ⟨rfl, rfl⟩ := itF (not_not_intro h3) (itF (not_not_intro ⟨a2, b2⟩) hm)
        rw [nIc (by omega), nIc (by omega)]
        have ht3 : ln3 t := way3 h3
        refine ⟨by rw [hS.2.2.2.2.2.2.1 q hq m hm0]; rfl, n, kd, hRp, ⟨c, td, sn, hNw.1, hNw.2.1, hNw.2.2.1, hS.1, hS.2.1, hS.2.2.1, hS.2.2.2.1, hS.2.2.2.2.1, fun k hk j hj => ?_, fun k hk j hj => ?_, hS.2.2.2.2.2.2.2⟩, ⟨pn, pg, hPg⟩, ⟨d, hd20, hd1, hd2⟩, r, by omega, hr2, hr3, hIm⟩
        · show ln3 ((va_up (lm 3) q (upd (lm 3 q) m t)) k j)
          by_cases e : k = q
          · subst e
            rw [va_up_self]
            by_cases e2 : j = m
            · subst e2; rw [pk_us]; exact ht3
            · rw [pk_un e2]; exact hS.2.2.2.2.2.1 k hk j hj
          · rw [va_up_ne _ _ e]; exact hS.2.2.2.2.2.1 k hk j hj
        · exact (upd_R (m := m) (hSm k hk) ht3 hk hq).2.2.1 j hj
      · refine MI.map (fun _ _ _ => trivial) (fun _ => (σ, lm, τ)) (fun _ => rfl) (fun r9 u9 hp => ?_) (kX8_turn_no l D ct ad σ lm τ n kd hX (nI m) (nI q) t (fun w => h3 w.2))
        intro r8 u8 hm
        obtain ⟨rfl, rfl⟩ := itT h3 (itF (not_not_intro ⟨a2, b2⟩) hm)
        exact ⟨hp.trans (if_neg (not_not_intro ⟨a1, b1⟩)), hR.up⟩
    · refine MI.map (fun _ _ _ => trivial) (fun _ => (σ, lm, τ)) (fun _ => rfl) (fun r9 u9 hp => ?_) (kX8_turn_no l D ct ad σ lm τ n kd hX (nI m) z t (fun w => b1 w.1.2))
      intro r8 u8 hm
      obtain ⟨rfl, rfl⟩ := itN (fun w => b2 w.2) hm
      exact ⟨hp.trans (if_pos (fun w => b1 w.2)), hR.up⟩
  · refine MI.map (fun _ _ _ => trivial) (fun _ => (σ, lm, τ)) (fun _ => rfl) (fun r9 u9 hp => ?_) (kX8_turn_no l D ct ad σ lm τ n kd hX x z t (fun w => a1 w.1.1))
    intro r8 u8 hm
    obtain ⟨rfl, rfl⟩ := itN (fun w => a2 w.1) hm
    exact ⟨hp.trans (if_pos (fun w => a1 w.1)), hR.up⟩
set_option maxHeartbeats 1000000 in
theorem pr_grow (l : Launch) (D : va_G) (ct : Nat → ClassId) (dt : Nat → Nat) (ad : Nat → Nat → Nat) (bd : Nat → Nat) {B : Nat} (hB : B < 2 ^ 20) {σ lm : Nat → Nat → Nat → Int32} {τ : Nat → Int64} {ρ : Nat → Nat → Int32} {θ : Nat → Nat → Int64} (h : Rel B σ lm ρ) (x z : Int32) : ∃ PM : Int32 → UM → Prop, MI l yX9_grow (gWs yX9_grow cX9_grow 4 (some .int)) rmX9_grow D ct gNo [.ref (bd 0), .int x, .int z] (wM bd ct ρ θ) (fun u : UM => wM bd ct u.1 u.2) PM ∧ MI l yX8_grow (gWs yX8_grow cX8_grow 4 (some .int)) rmX8_grow D ct (stX dt) [.ref (ad 0 0), .int x, .int z] (wX ad ct σ lm τ) (fun u : US => wX ad ct u.1 u.2.1 u.2.2) (Sim B PM) := by
  have hR := h
  obtain ⟨n, kd, hRp, ⟨c, td, sn, hNw⟩, ⟨pn, pg, hPg⟩, ⟨d, hd20, hd1, hd2⟩, r, hr1, hr2, hr3, hIm⟩ := h
  have hn8 := hRp.1
  have hX := Rp.x hRp
  have hM := Rp.m hRp hNw
  have hS := hNw.2.2.2
  have hSm : ∀ q, q < 3 → SmR n c (σ 3) (lm 3) ρ q := fun q hq => St.sm hS hn8 hq
  have hk4 := Rp.k4 hRp
  have hsn : σ 3 0 0 = nI sn := hS.2.1.1
  have hsn6 : sn ≤ 6 := hS.1.2.2
  refine ⟨_, kX9_grow l D ct bd ρ θ n c kd hM x z, ?_⟩
  rcases has_cases hn8 x with ⟨m, hm0, rfl, a1, a2⟩ | ⟨a1, a2⟩
  · by_cases h3 : 1 ≤ z ∧ z ≤ 9
    · refine MI.map (fun _ _ _ => trivial) id (fun _ => rfl) (fun r9 u9 hp => ?_) (kX8_grow l D ct ad σ lm τ n kd hX m z hm0 ⟨Int32.not_lt.mpr h3.1, h3.2⟩)
      obtain ⟨rfl, rfl⟩ := hp
      intro r8 u8 hm
      obtain ⟨rfl, rfl⟩ := itF (not_not_intro h3) (itF (not_not_intro a2) hm)
      rw [nIc (by omega)]
      obtain ⟨k, hk, hkz⟩ := sw_nat (n := 9) (by decide) rfl ⟨Int32.le_trans (by decide) h3.1, h3.2⟩
      refine ⟨(hS.2.2.2.1 m hm0).1, n, kd, hRp, ⟨c, td, sn, hNw.1, hNw.2.1, hNw.2.2.1, hS.1, hS.2.1, hS.2.2.1, fun j hj => ?_, fun j hj1 hj2 => ?_, hS.2.2.2.2.2⟩, ⟨pn, pg, hPg⟩, ⟨d, hd20, hd1, hd2⟩, r, by omega, hr2, hr3, hIm⟩
      · show upd (σ 3 1) m z j = upd (ρ 3) m z j ∧ wg9 (upd (ρ 3) m z j)
        by_cases e : j = m
        · subst e; rw [pk_us, pk_us]; exact ⟨rfl, k, hk, hkz⟩
        · rw [pk_un e, pk_un e]; exact hS.2.2.2.1 j hj
      · show upd (σ 3 1) m z j = 0
        rw [pk_un (by omega)]; exact hS.2.2.2.2.1 j hj1 hj2
    · refine MI.map (fun _ _ _ => trivial) (fun _ => (σ, lm, τ)) (fun _ => rfl) (fun r9 u9 hp => ?_) (kX8_grow_no l D ct ad σ lm τ n kd hX (nI m) z (fun w => h3 ⟨Int32.not_lt.mp w.2.1, w.2.2⟩))
      intro r8 u8 hm
      obtain ⟨rfl, rfl⟩ := itT h3 (itF (not_not_intro a2) hm)
      exact ⟨hp.trans (if_neg (not_not_intro a1)), hR.up⟩
  · refine MI.map (fun _ _ _ => trivial) (fun _ => (σ, lm, τ)) (fun _ => rfl) (fun r9 u9 hp => ?_) (kX8_grow_no l D ct ad σ lm τ n kd hX x z (fun w => a1 w.1))
    intro r8 u8 hm
    obtain ⟨rfl, rfl⟩ := itT a2 hm
    exact ⟨hp.trans (if_pos a1), hR.up⟩
set_option maxHeartbeats 1000000 in
theorem pr_say (l : Launch) (D : va_G) (ct : Nat → ClassId) (dt : Nat → Nat) (ad : Nat → Nat → Nat) (bd : Nat → Nat) {B : Nat} (hB : B < 2 ^ 20) {σ lm : Nat → Nat → Nat → Int32} {τ : Nat → Int64} {ρ : Nat → Nat → Int32} {θ : Nat → Nat → Int64} (h : Rel B σ lm ρ) (x z t : Int32) : ∃ PM : Int32 → UM → Prop, MI l yX9_say (gWs yX9_say cX9_say 4 (some .int)) rmX9_say D ct gNo [.ref (bd 0), .int x, .int z, .int t] (wM bd ct ρ θ) (fun u : UM => wM bd ct u.1 u.2) PM ∧ MI l yX8_say (gWs yX8_say cX8_say 5 (some .int)) rmX8_say D ct (stX dt) [.ref (ad 0 0), .int x, .int z, .int t] (wX ad ct σ lm τ) (fun u : US => wX ad ct u.1 u.2.1 u.2.2) (Sim B PM) := by
  have hR := h
  obtain ⟨n, kd, hRp, ⟨c, td, sn, hNw⟩, ⟨pn, pg, hPg⟩, ⟨d, hd20, hd1, hd2⟩, r, hr1, hr2, hr3, hIm⟩ := h
  have hn8 := hRp.1
  have hX := Rp.x hRp
  have hM := Rp.m hRp hNw
  have hS := hNw.2.2.2
  have hSm : ∀ q, q < 3 → SmR n c (σ 3) (lm 3) ρ q := fun q hq => St.sm hS hn8 hq
  have hk4 := Rp.k4 hRp
  have hsn : σ 3 0 0 = nI sn := hS.2.1.1
  have hsn6 : sn ≤ 6 := hS.1.2.2
  refine ⟨_, kX9_say l D ct bd ρ θ n c kd hM x z t, ?_⟩
  rcases has_cases hn8 x with ⟨m, hm0, rfl, a1, a2⟩ | ⟨a1, a2⟩
  · rcases q_cases (n := n) z with ⟨q, hq, rfl, hn0, b1, b2⟩ | ⟨b1, b2⟩
    · rcases half_cases t with ⟨k, hk, rfl, c1, c2⟩ | ⟨c1, c2⟩
      · refine MI.map (fun _ _ q => q) id (fun _ => rfl) (fun r9 u9 hp => ?_) (kX8_say l D ct ad σ lm τ dt n kd hX m q k hm0 hq hn0 hk)
        obtain ⟨rfl, g03, rfl⟩ := hp
        intro r8 u8 hm
        obtain ⟨rfl, rfl⟩ := itF (not_not_intro c2) (itF (not_not_intro ⟨a2, b2⟩) hm)
        rw [nIc (by omega), nIc (by omega), nIc (by omega)]
        exact ⟨by rw [say_eq (hSm q hq) hk4 hn8 (fun m hm => (hS.2.2.2.1 m hm).2) hk], ⟨n, kd, hRp, ⟨c, td, sn, hNw⟩, ⟨pn, pg, hPg⟩, ⟨d, hd20, hd1, hd2⟩, r, by omega, hr2, hr3, hIm⟩⟩
      · refine MI.map (fun _ _ _ => trivial) (fun _ => (σ, lm, τ)) (fun _ => rfl) (fun r9 u9 hp => ?_) (kX8_say_no l D ct ad σ lm τ n kd hX (nI m) (nI q) t (fun w => c1 w.2))
        intro r8 u8 hm
        obtain ⟨rfl, rfl⟩ := itT c2 (itF (not_not_intro ⟨a2, b2⟩) hm)
        exact ⟨hp.trans (if_neg (not_not_intro ⟨a1, b1⟩)), hR.up⟩
    · refine MI.map (fun _ _ _ => trivial) (fun _ => (σ, lm, τ)) (fun _ => rfl) (fun r9 u9 hp => ?_) (kX8_say_no l D ct ad σ lm τ n kd hX (nI m) z t (fun w => b1 w.1.2))
      intro r8 u8 hm
      obtain ⟨rfl, rfl⟩ := itN (fun w => b2 w.2) hm
      exact ⟨hp.trans (if_pos (fun w => b1 w.2)), hR.up⟩
  · refine MI.map (fun _ _ _ => trivial) (fun _ => (σ, lm, τ)) (fun _ => rfl) (fun r9 u9 hp => ?_) (kX8_say_no l D ct ad σ lm τ n kd hX x z t (fun w => a1 w.1.1))
    intro r8 u8 hm
    obtain ⟨rfl, rfl⟩ := itN (fun w => a2 w.1) hm
    exact ⟨hp.trans (if_pos (fun w => a1 w.1)), hR.up⟩
set_option maxHeartbeats 1000000 in
theorem pr_chance (l : Launch) (D : va_G) (ct : Nat → ClassId) (dt : Nat → Nat) (ad : Nat → Nat → Nat) (bd : Nat → Nat) {B : Nat} (hB : B < 2 ^ 20) {σ lm : Nat → Nat → Nat → Int32} {τ : Nat → Int64} {ρ : Nat → Nat → Int32} {θ : Nat → Nat → Int64} (h : Rel B σ lm ρ) (x z t : Int32) : ∃ PM : Int32 → UM → Prop, MI l yX9_chance (gWs yX9_chance cX9_chance 4 (some .int)) rmX9_chance D ct gNo [.ref (bd 0), .int x, .int z, .int t] (wM bd ct ρ θ) (fun u : UM => wM bd ct u.1 u.2) PM ∧ MI l yX8_chance (gWs yX8_chance cX8_chance 5 (some .int)) rmX8_chance D ct (stX dt) [.ref (ad 0 0), .int x, .int z, .int t] (wX ad ct σ lm τ) (fun u : US => wX ad ct u.1 u.2.1 u.2.2) (Sim B PM) := by
  have hR := h
  obtain ⟨n, kd, hRp, ⟨c, td, sn, hNw⟩, ⟨pn, pg, hPg⟩, ⟨d, hd20, hd1, hd2⟩, r, hr1, hr2, hr3, hIm⟩ := h
  have hn8 := hRp.1
  have hX := Rp.x hRp
  have hM := Rp.m hRp hNw
  have hS := hNw.2.2.2
  have hSm : ∀ q, q < 3 → SmR n c (σ 3) (lm 3) ρ q := fun q hq => St.sm hS hn8 hq
  have hk4 := Rp.k4 hRp
  have hsn : σ 3 0 0 = nI sn := hS.2.1.1
  have hsn6 : sn ≤ 6 := hS.1.2.2
  refine ⟨_, kX9_chance l D ct bd ρ θ n c kd hM x z t, ?_⟩
  rcases q_cases (n := n) x with ⟨q, hq, rfl, hn0, a1, a2⟩ | ⟨a1, a2⟩
  · rcases rng_cases 10 (by decide) z with ⟨v, hv, rfl⟩ | ⟨b1, b2⟩
    · have b2 : 0 ≤ nI v ∧ nI v ≤ 10 := ⟨nI_le (Nat.zero_le v) (by omega), nI_le (b := 10) hv (by decide)⟩
      rcases half_cases t with ⟨k, hk, rfl, c1, c2⟩ | ⟨c1, c2⟩
      · refine MI.map (fun _ _ _ => trivial) id (fun _ => rfl) (fun r9 u9 hp => ?_) (kX8_chance l D ct ad σ lm τ n kd hX q v k hq hn0 hv hk)
        obtain ⟨rfl, g03, g04, rfl⟩ := hp
        intro r8 u8 hm
        obtain ⟨rfl, rfl⟩ := itF (not_not_intro ⟨b2, c2⟩) (itF (not_not_intro a2) hm)
        rw [nIc (by omega), nIc (by omega), nIc (by omega)]
        exact ⟨by rw [ch_eq (hSm q hq) hk4 hn8], ⟨n, kd, hRp, ⟨c, td, sn, hNw⟩, ⟨pn, pg, hPg⟩, ⟨d, hd20, hd1, hd2⟩, r, by omega, hr2, hr3, hIm⟩⟩
      · refine MI.map (fun _ _ _ => trivial) (fun _ => (σ, lm, τ)) (fun _ => rfl) (fun r9 u9 hp => ?_) (kX8_chance_no l D ct ad σ lm τ n kd hX (nI q) (nI v) t (fun w => c1 w.2.2.2))
        intro r8 u8 hm
        obtain ⟨rfl, rfl⟩ := itN (fun w => c2 w.2) (itF (not_not_intro a2) hm)
        exact ⟨hp.trans (if_neg (not_not_intro a1)), hR.up⟩
    · refine MI.map (fun _ _ _ => trivial) (fun _ => (σ, lm, τ)) (fun _ => rfl) (fun r9 u9 hp => ?_) (kX8_chance_no l D ct ad σ lm τ n kd hX (nI q) z t (fun w => b1 ⟨Int32.not_lt.mp w.2.1, Int32.not_lt.mp w.2.2.1⟩))
      intro r8 u8 hm
      obtain ⟨rfl, rfl⟩ := itN (fun w => b1 w.1) (itF (not_not_intro a2) hm)
      exact ⟨hp.trans (if_neg (not_not_intro a1)), hR.up⟩
  · refine MI.map (fun _ _ _ => trivial) (fun _ => (σ, lm, τ)) (fun _ => rfl) (fun r9 u9 hp => ?_) (kX8_chance_no l D ct ad σ lm τ n kd hX x z t (fun w => a1 w.1))
    intro r8 u8 hm
    obtain ⟨rfl, rfl⟩ := itT a2 hm
    exact ⟨hp.trans (if_pos a1), hR.up⟩
