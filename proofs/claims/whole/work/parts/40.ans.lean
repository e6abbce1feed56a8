/-! ===== answers that are told of more than one thing ===== -/
theorem cnt_cong {P Q : Nat → Prop} [DecidablePred P] [DecidablePred Q] : ∀ {n : Nat}, (∀ m, m < n → (P m ↔ Q m)) → cntTo P n = cntTo Q n
  | 0, _ => rfl
  | n + 1, h => by
    simp only [cntTo]
    rw [cnt_cong (P := P) (Q := Q) (n := n) (fun m hm => h m (by omega))]
    by_cases hp : P n
    · rw [if_pos hp, if_pos ((h n (by omega)).mp hp)]
    · rw [if_neg hp, if_neg (fun q => hp ((h n (by omega)).mpr q))]
section Ans
variable {n c t sn : Nat} {kd : Nat → Nat} {R S L ρ : Nat → Nat → Int32}
theorem mn_eq (hR : RpR n kd R ρ) (hN : NwR n c t sn S L ρ) {m x : Nat} (hm : m < n) (hx : x ≤ 7 ∨ (10 ≤ x ∧ x ≤ 12) ∨ (20 ≤ x ∧ x ≤ 22)) : mnX S L n kd sn m x = mnF ρ n c kd sn m x := by
  have hn := hR.1
  have hS := hN.2.2.2
  have hSm : ∀ q, q < 3 → SmR n c S L ρ q := fun q hq => St.sm hS hn hq
  have hk := Rp.k4 hR
  obtain ⟨_, _, h6, h1, _, _, hl, _, he⟩ := hS
  unfold mnX mnF
  by_cases a : 20 ≤ x
  · rw [if_pos a, if_pos a, lv_eq (hSm (x - 20) (by omega)) hk (by omega) he 3 (Nat.le_refl 3)]
  · rw [if_neg a, if_neg a]
    by_cases b : 10 ≤ x
    · rw [if_pos b, if_pos b, pl_eq (hSm (x - 10) (by omega)) (hk m hm) hm, Int32.add_comm]
    · rw [if_neg b, if_neg b]
      rcases (show x = 0 ∨ x = 1 ∨ x = 2 ∨ x = 3 ∨ x = 4 ∨ x = 5 ∨ x = 6 ∨ x = 7 by omega) with rfl | rfl | rfl | rfl | rfl | rfl | rfl | rfl
      · exact ((hR.2.2.2 m (by omega)).2.2).symm
      · exact (h1 m hm).1
      · exact hl 0 (by decide) m hm
      · exact hl 1 (by decide) m hm
      · exact hl 2 (by decide) m hm
      · show (if m < ffe (cuX S) n 0 then (1 : Int32) else 0) = if c % 2 ^ (m + 1) = 0 then 1 else 0
        have := felt_iff (cu := cuX S) (hSm 0 (by decide)).2.1 hm
        by_cases q : m < ffe (cuX S) n 0
        · rw [if_pos q, if_pos (this.mp q)]
        · rw [if_neg q, if_neg (fun w => q (this.mpr w))]
      · show 1 - S 6 m = if c.testBit m = true then 0 else 1
        rw [h6 m (by omega)]
        by_cases q : c.testBit m = true
        · rw [if_pos q, if_pos q]; decide
        · rw [if_neg q, if_neg q]; decide
      · show bI (akX S L n kd sn m 3).1 = bI (akM ρ n c kd sn m 3).1
        rw [(ak_eq hSm hk he 3 (Nat.le_refl 3)).1]
theorem qn_eq (hR : RpR n kd R ρ) (hN : NwR n c t sn S L ρ) {q : Nat} (hq : q < 3) (x : Nat) : qnX S L n kd q x = qnF ρ n c kd q x := by
  have hn := hR.1
  have hS := hN.2.2.2
  have hSm := St.sm hS hn hq
  have hk := Rp.k4 hR
  obtain ⟨_, _, _, _, _, _, hl, h7, _⟩ := hS
  have e4 : cntTo (fun m => L q m = 1) n = cntTo (fun m => leM ρ m q = 1) n := cnt_cong (fun m hm => by rw [hl q hq m hm]; exact Iff.rfl)
  have e5 : cntTo (fun m => L q m = -1) n = cntTo (fun m => leM ρ m q = -1) n := cnt_cong (fun m hm => by rw [hl q hq m hm]; exact Iff.rfl)
  unfold qnX qnF
  rw [sm_eq hSm hk, (h7 q hq).1, (h7 q hq).2.1, e4, e5, Int32.add_comm 200]
theorem bx3 (f : Nat → Int32) : bx_sum f 3 = f 0 + f 1 + f 2 := by show 0 + f 0 + f 1 + f 2 = _; rw [Int32.zero_add]
theorem bx_zero {f : Nat → Int32} {a b : Nat} (hab : a ≤ b) (h : ∀ m, a ≤ m → m < b → f m = 0) : bx_sum f b = bx_sum f a := by
  induction hab with
  | refl => rfl
  | step hab ih => rename_i k; show bx_sum f k + f k = _; rw [ih (fun m x y => h m x (Nat.lt_succ_of_lt y)), h k hab (Nat.lt_succ_self k)]; exact Int32.add_zero _
theorem pcn_bx {c : Nat} {f : Nat → Int32} (h : ∀ m, m < 8 → f m = if c.testBit m = true then 1 else 0) : ∀ k, k ≤ 8 → bx_sum f k = nI (pcn c k)
  | 0, _ => rfl
  | k + 1, hk => by
    show bx_sum f k + f k = nI (pcn c k + c / 2 ^ k % 2)
    rw [pcn_bx h k (by omega), h k (by omega)]
    have e : ∀ a b : Nat, nI a + nI b = nI (a + b) := fun a b => (Int32.ofNat_add a b).symm
    by_cases q : c.testBit k = true
    · rw [if_pos q, (tb_div c k).mp q]; exact e _ 1
    · rw [if_neg q]
      have : c / 2 ^ k % 2 = 0 := by rw [tb_div] at q; omega
      rw [this]; exact Int32.add_zero _
theorem hm_eq {o1 o2 p0 : Int32} (hR : RpR n kd R ρ) (hN : NwR n c t sn S L ρ) (h9 : p0 = ρ 14 0) (h10 : o1 = ρ 0 0) (h11 : o2 = ρ 9 0) {x : Nat} (hx : x ≤ 11) : hmX o1 o2 p0 S L n kd x = hmN ρ n c kd x := by
  have hn := hR.1
  have hS := hN.2.2.2
  have hSm : ∀ q, q < 3 → SmR n c S L ρ q := fun q hq => St.sm hS hn hq
  have hk := Rp.k4 hR
  obtain ⟨_, ⟨hs0, hs12⟩, h6, h1, h18, _, _, h7, _⟩ := hS
  rcases (show x = 0 ∨ x = 1 ∨ x = 2 ∨ x = 3 ∨ x = 4 ∨ x = 5 ∨ x = 6 ∨ x = 7 ∨ x = 8 ∨ x = 9 ∨ x = 10 ∨ x = 11 by omega) with rfl | rfl | rfl | rfl | rfl | rfl | rfl | rfl | rfl | rfl | rfl | rfl
  · rfl
  · show nI _ = nI _; rw [pcn_fb hn (hSm 0 (by decide)).2.1]
  · exact pcn_bx h6 8 (Nat.le_refl 8)
  · show bx_sum (S 1) 8 = bx_sum (ρ 3) n
    rw [bx_zero hn (fun m a b => h18 m a b)]
    exact bx_cong (fun m hm => (h1 m hm).1)
  · show S 12 0 = ρ 6 0; rw [hs12, hN.2.1]
  · show bx_sum (S 7) 3 = ρ 7 0 + ρ 7 1 + ρ 7 2; rw [bx3, (h7 0 (by decide)).1, (h7 1 (by decide)).1, (h7 2 (by decide)).1]
  · show bx_sum (S 8) 3 = ρ 8 0 + ρ 8 1 + ρ 8 2; rw [bx3, (h7 0 (by decide)).2.1, (h7 1 (by decide)).2.1, (h7 2 (by decide)).2.1]
  · show nI (cntTo (fun q => 0 < smX S L n kd q) 3) = nI (cntTo (fun q => sgn (smM ρ n c kd q) = 1) 3)
    rw [cnt_cong (P := fun q => 0 < smX S L n kd q) (Q := fun q => sgn (smM ρ n c kd q) = 1) (fun q hq => by rw [sm_eq (hSm q hq) hk, sgn1])]
  · show S 0 0 = ρ 10 0; rw [hs0, hN.2.2.1]
  · exact h9
  · exact h10
  · exact h11
theorem hx_cong {f g : Nat → Int32} {h0 : Int64} : ∀ {k : Nat}, (∀ j, j < k → f j = g j) → hx31 f h0 k = hx31 g h0 k
  | 0, _ => rfl
  | k + 1, h => by simp only [hx31]; rw [hx_cong (fun j hj => h j (by omega)), h k (by omega)]
theorem hxT_eq {f : Nat → Int32} {h0 : Int64} : hx31 (fun i => f (digN i)) h0 14 = hxT f h0 23 := rfl
theorem dm_eq (hR : RpR n kd R ρ) (hN : NwR n c t sn S L ρ) : ∀ m, m ≤ n → dmX S L n kd sn m = dmF ρ n c kd sn m
  | 0, _ => rfl
  | m + 1, hm => by
    simp only [dmX, dmF]
    rw [dm_eq hR hN m (by omega), ← hxT_eq]
    exact hx_cong (fun i hi => mn_eq hR hN (by omega) (digN_ok i hi).2)
theorem mq_eq (hR : RpR n kd R ρ) (hN : NwR n c t sn S L ρ) (hn0 : 0 < n) {q : Nat} (hq : q < 3) (h0 : Int64) : mqX S L n kd q h0 = mqF ρ n c kd q h0 := by
  have hn := hR.1
  have hS := hN.2.2.2
  have hSm := St.sm hS hn hq
  have hk := Rp.k4 hR
  unfold mqX mqF
  rw [ch_eq hSm hk hn, ch_eq hSm hk hn, cut_eq hSm hk hn hn0]
  have e1 : hx31 (qnX S L n kd q) h0 6 = hx31 (qnF ρ n c kd q) h0 6 := hx_cong (fun j _ => qn_eq hR hN hq j)
  rw [e1]
  have e2 : hx31 (fun k => nI (sayX S L n kd (k / 2) q (k % 2))) (hx31 (qnF ρ n c kd q) h0 6) (2 * n) = hx31 (fun k => nI (sayM ρ n c kd (k / 2) q (k % 2))) (hx31 (qnF ρ n c kd q) h0 6) (2 * n) := hx_cong (fun j hj => by
    rw [say_eq hSm hk hn (fun m hm => (hS.2.2.2.1 m hm).2) (Nat.mod_lt _ (by decide))])
  rw [e2]
theorem dq_eq (hR : RpR n kd R ρ) (hN : NwR n c t sn S L ρ) (hn0 : 0 < n) {h0 : Int64} : ∀ q, q ≤ 3 → dqX S L n kd h0 q = dqF ρ n c kd h0 q
  | 0, _ => rfl
  | q + 1, hq => by simp only [dqX, dqF]; rw [dq_eq hR hN hn0 q (by omega), mq_eq hR hN hn0 (by omega)]
theorem dg_eq {o1 o2 p0 : Int32} {P1 : Nat → Int32} {pn : Nat} (hR : RpR n kd R ρ) (hN : NwR n c t sn S L ρ) (h9 : p0 = ρ 14 0) (h10 : o1 = ρ 0 0) (h11 : o2 = ρ 9 0) (hp : ∀ j, j < pn → ρ 15 j = P1 j) : dgX o1 o2 p0 P1 S L n kd sn pn = dgF ρ n c kd sn pn := by
  have hn := hR.1
  have hS := hN.2.2.2
  have hSm : ∀ q, q < 3 → SmR n c S L ρ q := fun q hq => St.sm hS hn hq
  have e1 : dsX S L n kd sn = dsF ρ n c kd sn := by
    unfold dsX dsF
    rw [dm_eq hR hN n (Nat.le_refl n)]
    by_cases hn0 : 0 < n
    · rw [if_pos hn0, if_pos hn0, dq_eq hR hN hn0 3 (Nat.le_refl 3), settle_eq hSm hS.2.2.2.2.2.1 hn, settle_eq hSm hS.2.2.2.2.2.1 hn]
    · rw [if_neg hn0, if_neg hn0]
  unfold dgX dgF
  rw [e1, hx_cong (f := P1) (g := ρ 15) (fun j hj => (hp j hj).symm)]
  refine hx_cong (fun j hj => ?_)
  rw [hm_eq hR hN h9 h10 h11 (show j ≤ 11 by omega)]
  unfold hmF
  rw [if_pos ⟨nI_le (Nat.zero_le j) (by omega), nI_le (b := 11) (by omega) (by decide)⟩, nI_clamp (by omega)]
end Ans
