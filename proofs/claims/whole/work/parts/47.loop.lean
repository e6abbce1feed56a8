/-! ===== the law, from its loop's head and from its entry ===== -/
theorem law_gt {L i : Nat} (hL : L ≤ 2048) (hi : i ≤ L) : (nI i > nI L - 4) ↔ L < i + 4 := by
  have h1 : (nI L - 4 : Int32).toInt = (L : Int) - 4 := by
    rw [show (nI L - 4 : Int32) = nI L - nI 4 from rfl, pk_sub_toInt (by omega) (by decide)]; rfl
  show nI L - 4 < nI i ↔ _
  rw [Int32.lt_iff_toInt_lt, h1, nI_toInt (by omega)]
  omega
section LLoop
variable {p : Program} {l : Launch} {e : Env} {s : State} {m : MethodId} {below : List Frame} {meth : Method} {c : Code} {Q : State → Prop}
variable {D : va_G} {ct : Nat → ClassId} {dt : Nat → Nat} {A : Nat → Prop} {ad : Nat → Nat → Nat} {bd : Nat → Nat} {b L : Nat} {xs : Nat → Int32}
theorem law_loop (X : LCx p s m c b L xs dt A) (E : ∀ (H : Heap) (ll : List Loc) (ls : Array Slot), gW D ct A s H ll [] → W p l e room_1 s m #[Value.ref b] below meth c H ll 600000 7302250 Q (F0 m 830 ls [])) : ∀ (n i k : Nat) (σ lm : Nat → Nat → Nat → Int32) (τ : Nat → Int64) (ρ : Nat → Nat → Int32) (θ : Nat → Nat → Int64) (H : Heap) (ll : List Loc) (ls : Array Slot), L + 1 - i = n → i ≤ L → k ≤ i → Rel k σ lm ρ → gW D ct A s H ll (wX ad ct σ lm τ ++ wM bd ct ρ θ) → lv_has ls 4 (lLoc b (ad 0 0) (bd 0) i) → W p l e room_1 s m #[Value.ref b] below meth c H ll 600000 7302250 Q (F0 m 18 ls []) := by
  intro n
  induction n using Nat.strongRecOn with
  | _ n ih =>
  intro i k σ lm τ ρ θ H ll ls hn hiL hki hR h hl
  obtain ⟨C, hXs, hbl, hbA, hL, hst⟩ := id X
  have hx := C.1
  have hb := C.2.1
  refine lv_iload_n hx hb dL_law_18 rfl (lv_at hl 3 rfl) ?_
  refine lv_aload_n hx hb dL_law_19 rfl (lv_at hl 0 rfl) ?_
  refine va_slen hx hb hXs hbl hbA h.2.2.2.1 dL_law_20 ?_
  refine lv_iconst (v := 4) hx hb dL_law_21 (by decide) ?_
  refine lv_isub hx hb dL_law_22 ?_
  refine lv_icmp_gt (tgt := 830) hx hb dL_law_23 (by decide) (fun _ => ?_) (fun c_23 => ?_)
  · exact E H ll ls ⟨h.1, fun k q hk => by simp at hk, ⟨fun i j p q hi => by simp at hi, fun k q hk => by simp at hk⟩, h.2.2.2⟩
  have hi3 : i + 3 < L := by
    have : ¬ L < i + 4 := fun q => c_23 ((law_gt hL hiL).mpr q)
    omega
  have K : ∀ (σ lm : Nat → Nat → Nat → Int32) (τ : Nat → Int64) (ρ : Nat → Nat → Int32) (θ : Nat → Nat → Int64) (H : Heap) (ll : List Loc), Rel (k + 1) σ lm ρ → gW D ct A s H ll (wX ad ct σ lm τ ++ wM bd ct ρ θ) → W p l e room_1 s m #[Value.ref b] below meth c H ll 600000 7302250 Q (F0 m 824 ls []) := by
    intro σ lm τ ρ θ H ll hR h
    refine ninc (lv' := [(3, .int (nI (i + 4))), (0, .ref b), (1, .ref (ad 0 0)), (2, .ref (bd 0))]) hx hb i 4 dL_law_824 hl (k := 3) rfl (by decide) rfl (fun ls hl => ?_)
    refine lv_goto (tgt := 18) hx hb dL_law_827 (by decide) ?_
    exact ih (L + 1 - (i + 4)) (by omega) (i + 4) (k + 1) σ lm τ ρ θ H ll ls rfl (by omega) (by omega) hR h (lv_sub hl [1, 2, 3, 0] rfl)
  refine lv_aload_n hx hb dL_law_26 rfl (lv_at hl 0 rfl) ?_
  refine lv_iload_n hx hb dL_law_27 rfl (lv_at hl 3 rfl) ?_
  refine lsld C h hXs hbl hbA (show i < L by omega) (by omega) dL_law_28 ?_
  refine lv_bipush (v := 31) hx hb dL_law_29 (by decide) ?_
  refine lv_iand hx hb dL_law_31 ?_
  obtain ⟨j, hj, ej⟩ := pk_andE (xs i) (m := 31) 5 (by decide)
  refine gas ej ?_
  by_cases h24 : j ≤ 24
  · rcases (show j = 0 ∨ j = 1 ∨ j = 2 ∨ j = 3 ∨ j = 4 ∨ j = 5 ∨ j = 6 ∨ j = 7 ∨ j = 8 ∨ j = 9 ∨ j = 10 ∨ j = 11 ∨ j = 12 ∨ j = 13 ∨ j = 14 ∨ j = 15 ∨ j = 16 ∨ j = 17 ∨ j = 18 ∨ j = 19 ∨ j = 20 ∨ j = 21 ∨ j = 22 ∨ j = 23 ∨ j = 24 by omega) with rfl | rfl | rfl | rfl | rfl | rfl | rfl | rfl | rfl | rfl | rfl | rfl | rfl | rfl | rfl | rfl | rfl | rfl | rfl | rfl | rfl | rfl | rfl | rfl | rfl
    · refine lv_tableIn (tgt := 148) (off := 116) hx hb dL_law_32 (by decide) (by decide) (by decide) (by decide) ?_
      exact lc_letter X hi3 (by omega) hR h hl K
    · refine lv_tableIn (tgt := 171) (off := 139) hx hb dL_law_32 (by decide) (by decide) (by decide) (by decide) ?_
      exact lc_blank X hi3 (by omega) hR h hl K
    · refine lv_tableIn (tgt := 184) (off := 152) hx hb dL_law_32 (by decide) (by decide) (by decide) (by decide) ?_
      exact lc_fault X hi3 (by omega) hR h hl K
    · refine lv_tableIn (tgt := 197) (off := 165) hx hb dL_law_32 (by decide) (by decide) (by decide) (by decide) ?_
      exact lc_rope X hi3 (by omega) hR h hl K
    · refine lv_tableIn (tgt := 210) (off := 178) hx hb dL_law_32 (by decide) (by decide) (by decide) (by decide) ?_
      exact lc_mussel X hi3 (by omega) hR h hl K
    · refine lv_tableIn (tgt := 243) (off := 211) hx hb dL_law_32 (by decide) (by decide) (by decide) (by decide) ?_
      exact lc_as X hi3 (by omega) hR h hl K
    · refine lv_tableIn (tgt := 276) (off := 244) hx hb dL_law_32 (by decide) (by decide) (by decide) (by decide) ?_
      exact lc_question X hi3 (by omega) hR h hl K
    · refine lv_tableIn (tgt := 309) (off := 277) hx hb dL_law_32 (by decide) (by decide) (by decide) (by decide) ?_
      exact lc_ask X hi3 (by omega) hR h hl K
    · refine lv_tableIn (tgt := 332) (off := 300) hx hb dL_law_32 (by decide) (by decide) (by decide) (by decide) ?_
      exact lc_tide X hi3 (by omega) hR h hl K
    · refine lv_tableIn (tgt := 345) (off := 313) hx hb dL_law_32 (by decide) (by decide) (by decide) (by decide) ?_
      exact lc_cut X hi3 (by omega) hR h hl K
    · refine lv_tableIn (tgt := 368) (off := 336) hx hb dL_law_32 (by decide) (by decide) (by decide) (by decide) ?_
      exact lc_tie X hi3 (by omega) hR h hl K
    · refine lv_tableIn (tgt := 391) (off := 359) hx hb dL_law_32 (by decide) (by decide) (by decide) (by decide) ?_
      exact lc_turn X hi3 (by omega) hR h hl K
    · refine lv_tableIn (tgt := 434) (off := 402) hx hb dL_law_32 (by decide) (by decide) (by decide) (by decide) ?_
      exact lc_grow X hi3 (by omega) hR h hl K
    · refine lv_tableIn (tgt := 467) (off := 435) hx hb dL_law_32 (by decide) (by decide) (by decide) (by decide) ?_
      exact lc_say X hi3 (by omega) hR h hl K
    · refine lv_tableIn (tgt := 510) (off := 478) hx hb dL_law_32 (by decide) (by decide) (by decide) (by decide) ?_
      exact lc_chance X hi3 (by omega) hR h hl K
    · refine lv_tableIn (tgt := 553) (off := 521) hx hb dL_law_32 (by decide) (by decide) (by decide) (by decide) ?_
      exact lc_cuts X hi3 (by omega) hR h hl K
    · refine lv_tableIn (tgt := 596) (off := 564) hx hb dL_law_32 (by decide) (by decide) (by decide) (by decide) ?_
      exact lc_fewTurns X hi3 (by omega) hR h hl K
    · refine lv_tableIn (tgt := 639) (off := 607) hx hb dL_law_32 (by decide) (by decide) (by decide) (by decide) ?_
      exact lc_settle X hi3 (by omega) hR h hl K
    · refine lv_tableIn (tgt := 662) (off := 630) hx hb dL_law_32 (by decide) (by decide) (by decide) (by decide) ?_
      exact lc_see X hi3 (by omega) hR h hl K
    · refine lv_tableIn (tgt := 705) (off := 673) hx hb dL_law_32 (by decide) (by decide) (by decide) (by decide) ?_
      exact lc_forget X hi3 (by omega) hR h hl K
    · refine lv_tableIn (tgt := 718) (off := 686) hx hb dL_law_32 (by decide) (by decide) (by decide) (by decide) ?_
      exact lc_tides X hi3 (by omega) hR h hl K
    · refine lv_tableIn (tgt := 761) (off := 729) hx hb dL_law_32 (by decide) (by decide) (by decide) (by decide) ?_
      exact lc_image X hi3 (by omega) hR h hl K
    · refine lv_tableIn (tgt := 774) (off := 742) hx hb dL_law_32 (by decide) (by decide) (by decide) (by decide) ?_
      exact lc_restore X hi3 (by omega) hR h hl K
    · refine lv_tableIn (tgt := 787) (off := 755) hx hb dL_law_32 (by decide) (by decide) (by decide) (by decide) ?_
      exact lc_count X hi3 (by omega) hR h hl K
    · refine lv_tableIn (tgt := 810) (off := 778) hx hb dL_law_32 (by decide) (by decide) (by decide) (by decide) ?_
      exact lc_digest X hi3 (by omega) hR h hl K
  · refine lv_tableOut (tgt := 824) hx hb dL_law_32 (Or.inr ?_) (by decide) ?_
    · rw [nI_toInt (by omega)]; omega
    · exact K σ lm τ ρ θ H ll hR.up h
end LLoop
