/-! ===== the relation of both states; contracts by another name ===== -/
theorem Met.mono {l : Launch} {y : MethodName} {ws : List Cond} {rm : Room} {P P' : Array Value → State → Prop} {Q Q' : Array Value → State → Outcome → State → Prop} {mc ms : Nat} {free : Addr → Prop} (hP : ∀ a s, P' a s → P a s) (hQ : ∀ a s o t, Q a s o t → Q' a s o t) (h : Met l y ws rm P Q mc ms free) : Met l y ws rm P' Q' mc ms free := by
  intro p e h1 h2 h3 s m args below h4 h5 h6 h7
  obtain ⟨n, o, a, b, c, d⟩ := h p e h1 h2 h3 s m args below h4 h5 (hP _ _ h6) trivial
  exact ⟨n, o, a, b, c, hQ _ _ _ _ d.1, d.2⟩
theorem MI.map {l : Launch} {y : MethodName} {cs : List Cond} {rm : Room} {D : va_G} {ct : Nat → ClassId} {X X' : gX} {av : List Value} {wi : va_W} {S S' : Type} {wo : S → va_W} {wo' : S' → va_W} {post : Int32 → S → Prop} {post' : Int32 → S' → Prop} (hX : ∀ A U, X' A U → X A U) (f : S → S') (hw : ∀ u, wo u = wo' (f u)) (hp : ∀ r u, post r u → post' r (f u)) (h : MI l y cs rm D ct X av wi wo post) : MI l y cs rm D ct X' av wi wo' post' := by
  intro sz
  refine Met.mono (fun a s q => ⟨q.1, q.2.1, q.2.2.1, q.2.2.2.1, q.2.2.2.2.1, hX _ _ q.2.2.2.2.2⟩) (fun a s o t q => ?_) (h sz)
  obtain ⟨⟨r, u, h1, h2, h3⟩, h4⟩ := q
  refine ⟨⟨r, f u, h1, hp r u h2, ?_⟩, h4⟩
  have h3 := h3
  unfold gEnd at h3 ⊢
  rw [← hw u]; exact h3
theorem ML.map {l : Launch} {y : MethodName} {cs : List Cond} {rm : Room} {D : va_G} {ct : Nat → ClassId} {X X' : gX} {av : List Value} {wi : va_W} {S S' : Type} {wo : S → va_W} {wo' : S' → va_W} {post : Int64 → S → Prop} {post' : Int64 → S' → Prop} (hX : ∀ A U, X' A U → X A U) (f : S → S') (hw : ∀ u, wo u = wo' (f u)) (hp : ∀ r u, post r u → post' r (f u)) (h : ML l y cs rm D ct X av wi wo post) : ML l y cs rm D ct X' av wi wo' post' := by
  intro sz
  refine Met.mono (fun a s q => ⟨q.1, q.2.1, q.2.2.1, q.2.2.2.1, q.2.2.2.2.1, hX _ _ q.2.2.2.2.2⟩) (fun a s o t q => ?_) (h sz)
  obtain ⟨⟨r, u, h1, h2, h3⟩, h4⟩ := q
  refine ⟨⟨r, f u, h1, hp r u h2, ?_⟩, h4⟩
  have h3 := h3
  unfold gEnd at h3 ⊢
  rw [← hw u]; exact h3
abbrev US : Type := (Nat → Nat → Nat → Int32) × (Nat → Nat → Nat → Int32) × (Nat → Int64)
abbrev UM : Type := (Nat → Nat → Int32) × (Nat → Nat → Int64)
/-- a standing of the class (S, L) and what the reference keeps of it -/
def StR (n c t sn : Nat) (S L : Nat → Nat → Int32) (w l a7 a8 e1 e2 e3 : Nat → Int32) : Prop :=
  (c < 256 ∧ t ≤ 999 ∧ sn ≤ 6) ∧ (S 0 0 = nI sn ∧ S 12 0 = nI t) ∧
  (∀ m, m < 8 → S 6 m = if c.testBit m = true then 1 else 0) ∧
  (∀ m, m < n → S 1 m = w m ∧ wg9 (w m)) ∧ (∀ m, n ≤ m → m < 8 → S 1 m = 0) ∧
  (∀ q, q < 3 → ∀ m, m < 8 → ln3 (L q m)) ∧ (∀ q, q < 3 → ∀ m, m < n → L q m = l (3 * m + q)) ∧
  (∀ q, q < 3 → S 7 q = a7 q ∧ S 8 q = a8 q ∧ ∃ a, a ≤ 99 ∧ a7 q = nI a) ∧
  (∀ e, e < sn → S 9 e = e1 e ∧ S 10 e = e2 e ∧ S 11 e = e3 e - 200)
def RpR (n : Nat) (kd : Nat → Nat) (R ρ : Nat → Nat → Int32) : Prop := n ≤ 8 ∧ R 0 0 = nI n ∧ ρ 1 0 = nI n ∧ ∀ m, m < 8 → R 2 m = nI (kd m) ∧ kd m ≤ 4 ∧ ρ 2 m = nI (kd m)
def NwR (n c t sn : Nat) (S L ρ : Nat → Nat → Int32) : Prop := ρ 5 0 = nI c ∧ ρ 6 0 = nI t ∧ ρ 10 0 = nI sn ∧ StR n c t sn S L (ρ 3) (ρ 4) (ρ 7) (ρ 8) (ρ 11) (ρ 12) (ρ 13)
def PgR (pn : Nat) (pg : Nat → Nat) (P ρ : Nat → Nat → Int32) : Prop := POK P pn pg ∧ ρ 14 0 = nI pn ∧ ∀ j, j < pn → ρ 15 j = P 1 j
def ImR (n r : Nat) (o0 : Int32) (S L ρ : Nat → Nat → Int32) : Prop :=
  (¬ o0 = 0 ∧ ¬ ρ 24 0 = 0 ∧ ρ 25 0 = nI r ∧ ∃ c t sn, ρ 26 0 = nI c ∧ ρ 27 0 = nI t ∧ ρ 28 0 = nI sn ∧ StR n c t sn S L (ρ 29) (ρ 30) (ρ 31) (ρ 32) (ρ 33) (ρ 34) (ρ 35)) ∨
  (o0 = 0 ∧ (ρ 24 0 = 0 ∨ ∃ k, k < r ∧ ρ 25 0 = nI k))
/-- the class's state (σ, lm) beside the reference's (ρ); at most B ropes were read -/
def Rel (B : Nat) (σ lm : Nat → Nat → Nat → Int32) (ρ : Nat → Nat → Int32) : Prop :=
  ∃ (n : Nat) (kd : Nat → Nat), RpR n kd (σ 2) ρ ∧ (∃ c t sn, NwR n c t sn (σ 3) (lm 3) ρ) ∧ (∃ pn pg, PgR pn pg (σ 1) ρ) ∧ (∃ d, d ≤ 20 ∧ σ 0 2 0 = nI d ∧ ρ 9 0 = nI d) ∧ ∃ r, r ≤ B ∧ σ 0 1 0 = nI r ∧ ρ 0 0 = nI r ∧ ImR n r (σ 0 0 0) (σ 4) (lm 4) ρ
def Sim (B : Nat) (PM : Int32 → UM → Prop) : Int32 → US → Prop := fun r u => ∀ r' u', PM r' u' → r = r' ∧ Rel (B + 1) u.1 u.2.1 u'.1
def SimL (B : Nat) (PM : Int64 → UM → Prop) : Int64 → US → Prop := fun r u => ∀ r' u', PM r' u' → r = r' ∧ Rel (B + 1) u.1 u.2.1 u'.1
theorem Rel.up {B : Nat} {σ lm : Nat → Nat → Nat → Int32} {ρ : Nat → Nat → Int32} (h : Rel B σ lm ρ) : Rel (B + 1) σ lm ρ := by
  obtain ⟨n, kd, h1, h2, h3, h4, r, h5, h6⟩ := h
  exact ⟨n, kd, h1, h2, h3, h4, r, by omega, h6⟩
theorem St.sm {n c t sn q : Nat} {S L ρ : Nat → Nat → Int32} {a7 a8 e1 e2 e3 : Nat → Int32} (h : StR n c t sn S L (ρ 3) (ρ 4) a7 a8 e1 e2 e3) (hn : n ≤ 8) (hq : q < 3) : SmR n c S L ρ q := by
  obtain ⟨_, _, h6, h1, _, h3, hl, _⟩ := h
  refine ⟨fun m hm => (h1 m hm).1, fun m hm => ?_, fun m hm => hl q hq m hm, fun m hm => h3 q hq m (by omega)⟩
  unfold cuX
  rw [h6 m (by omega)]
  cases hb : c.testBit m with
  | true => rw [if_pos rfl]; decide
  | false => rw [if_neg (by decide)]; decide
theorem Rp.x {n : Nat} {kd : Nat → Nat} {R ρ : Nat → Nat → Int32} (h : RpR n kd R ρ) : ROK R n kd := ⟨h.2.1, h.1, fun m hm => ⟨(h.2.2.2 m hm).1, (h.2.2.2 m hm).2.1⟩⟩
theorem Rp.k4 {n : Nat} {kd : Nat → Nat} {R ρ : Nat → Nat → Int32} (h : RpR n kd R ρ) : ∀ m, m < n → kd m ≤ 4 := fun m hm => (h.2.2.2 m (by have := h.1; omega)).2.1
theorem Rp.m {n c t sn : Nat} {kd : Nat → Nat} {R S L ρ : Nat → Nat → Int32} (h : RpR n kd R ρ) (hn : NwR n c t sn S L ρ) : MOK ρ n c kd := ⟨h.2.2.1, h.1, hn.1, hn.2.2.2.1.1, fun m hm => ⟨(h.2.2.2 m hm).2.2, (h.2.2.2 m hm).2.1⟩⟩
/-! arguments -/
theorem has_cases {n : Nat} (hn : n ≤ 8) (x : Int32) : (∃ j, j < n ∧ x = nI j ∧ (0 ≤ nI j ∧ nI j < nI n) ∧ (0 ≤ nI j ∧ nI j ≤ nI n - 1)) ∨ (¬ (0 ≤ x ∧ x < nI n) ∧ ¬ (0 ≤ x ∧ x ≤ nI n - 1)) := by
  by_cases h : 0 ≤ x ∧ x ≤ nI n - 1
  · obtain ⟨j, hj, rfl⟩ := isM_nat hn h
    exact Or.inl ⟨j, hj, rfl, hasI hj hn, h⟩
  · refine Or.inr ⟨fun q => h ?_, h⟩
    have h3 : (nI n - 1).toInt = (n : Int) - 1 := by
      rw [show (nI n - 1 : Int32) = nI n - nI 1 from rfl, pk_sub_toInt (by omega) (by decide)]; rfl
    refine ⟨q.1, Int32.le_iff_toInt_le.mpr ?_⟩
    have := Int32.lt_iff_toInt_lt.mp q.2
    rw [nI_toInt (by omega)] at this
    omega
theorem rng_cases (k : Nat) (hk : k < 2 ^ 30) (x : Int32) : (∃ j, j ≤ k ∧ x = nI j) ∨ (¬ (0 ≤ x ∧ x ≤ nI k) ∧ ¬ (0 ≤ x ∧ x < nI (k + 1))) := by
  by_cases h : 0 ≤ x ∧ x ≤ nI k
  · obtain ⟨j, hj, rfl⟩ := sw_nat (n := k) (by omega) rfl h
    exact Or.inl ⟨j, hj, rfl⟩
  · refine Or.inr ⟨h, fun q => h ⟨q.1, Int32.le_iff_toInt_le.mpr ?_⟩⟩
    have := Int32.lt_iff_toInt_lt.mp q.2
    rw [nI_toInt (by omega)] at this ⊢
    omega
theorem q_cases {n : Nat} (x : Int32) : (∃ j, j < 3 ∧ x = nI j ∧ 0 < n ∧ (0 < n ∧ 0 ≤ nI j ∧ nI j < 3) ∧ (0 < n ∧ 0 ≤ nI j ∧ nI j ≤ 2)) ∨ (¬ (0 < n ∧ 0 ≤ x ∧ x < 3) ∧ ¬ (0 < n ∧ 0 ≤ x ∧ x ≤ 2)) := by
  by_cases hn : 0 < n
  · rcases rng_cases 2 (by decide) x with ⟨j, hj, rfl⟩ | ⟨h1, h2⟩
    · exact Or.inl ⟨j, by omega, rfl, hn, isqI hn (by omega), hn, nI_le (Nat.zero_le j) (by omega), nI_le (b := 2) hj (by decide)⟩
    · exact Or.inr ⟨fun q => h2 q.2, fun q => h1 q.2⟩
  · exact Or.inr ⟨fun q => hn q.1, fun q => hn q.1⟩
theorem half_cases (x : Int32) : (∃ j, j < 2 ∧ x = nI j ∧ (nI j = 0 ∨ nI j = 1) ∧ (0 ≤ nI j ∧ nI j ≤ 1)) ∨ (¬ (x = 0 ∨ x = 1) ∧ ¬ (0 ≤ x ∧ x ≤ 1)) := by
  rcases rng_cases 1 (by decide) x with ⟨j, hj, rfl⟩ | ⟨h1, h2⟩
  · exact Or.inl ⟨j, by omega, rfl, halfI (by omega), nI_le (Nat.zero_le j) (by omega), nI_le (b := 1) hj (by decide)⟩
  · exact Or.inr ⟨fun q => h1 (by rcases q with rfl | rfl <;> decide), h1⟩
theorem nIc {j : Nat} (h : j < 2 ^ 31) : (nI j).toNatClampNeg = j := nI_clamp h
theorem byte_ok {c : Nat} (h : c < 127) : vp_nar .byte (nI c).toInt8.toInt32 = nI c := by
  have key : ∀ c : Fin 127, vp_nar .byte (nI c.val).toInt8.toInt32 = nI c.val := by decide +kernel
  exact key ⟨c, h⟩
theorem lt_case {x : Int32} (k : Int32) : x < k ∨ ¬ x < k := Classical.em _
