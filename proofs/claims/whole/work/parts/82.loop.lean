/-! the law's loop -/
theorem and31 (v : Int32) : ∃ n, n < 32 ∧ v &&& 31 = nI n := by
  refine ⟨(v &&& 31).toBitVec.toNat, ?_, ?_⟩
  · rw [Int32.toBitVec_and, BitVec.toNat_and]
    exact Nat.lt_of_le_of_lt Nat.and_le_right (by decide)
  · apply Int32.toBitVec_inj.mp
    show _ = BitVec.ofNat 32 _
    simp
theorem lw_small : ∀ L, L < 6 → ∀ i, i < 6 → (nI L - 6 : Int32) < nI i := by decide +kernel
theorem lw_left {L i : Nat} (hL : L ≤ 3072) (hi : i ≤ L) (h : ¬ (nI L - 6 : Int32) < nI i) : i + 6 ≤ L := by
  by_cases h6 : L < 6
  · exact absurd (lw_small L h6 i (by omega)) h
  · have e : nI L - 6 = nI (L - 6) := by
      have q := nI_add (L - 6) 6
      rw [show L - 6 + 6 = L by omega] at q
      rw [← q]
      show nI (L - 6) + 6 - 6 = _
      rw [Int32.add_sub_cancel]
    rw [e] at h
    rcases Nat.lt_or_ge (L - 6) i with q | q
    · exact absurd (nI_lt q (by omega)) h
    · omega
theorem lw_vp {L i : Nat} (hL : L ≤ 3072) (h : i + 6 ≤ L) : vp_in (nI i + 1) L ∧ vp_in (nI i + 2) L ∧ vp_in (nI i + 3) L ∧ vp_in (nI i + 4) L ∧ vp_in (nI i + 5) L := by
  have key : ∀ j, j < 6 → vp_in (nI i + nI j) L := fun j hj => by rw [nI_add]; exact vp_in_nI (by omega) (by omega)
  exact ⟨key 1 (by decide), key 2 (by decide), key 3 (by decide), key 4 (by decide), key 5 (by decide)⟩
set_option maxHeartbeats 4000000 in
set_option maxRecDepth 100000 in
theorem law_loop {p : Program} {l : Launch} {e : Env} {s : State} {m : MethodId} {args : Array Value} {below : List Frame} {meth : Method} {c : Code} {Q : State → Prop} {D : va_G} {g : Nat → ClassId} {A : Nat → Prop} {H0 : Heap} {ad am : Nat → Nat} {b L : Nat} {xs : Nat → Int32}
    (X : Cx p s m c args cL_law RL cwL D g) (hml : c.maxLocals = 4) (hV : va_X b L xs s H0 ∧ b < H0.size ∧ ¬ A b) (hL : L ≤ 3072) (fin : ∀ (W0 : va_W) (H : Heap) (locs : List Loc) (ls : Array Slot), Hp D A H0 H locs W0 → W p l e room_1 s m args below meth c H locs 36 790 Q (F0 m 1126 ls [])) :
    ∀ (n i : Nat) (σ τ : St) (H : Heap) (locs : List Loc) (ls : Array Slot), i ≤ L → L + 1 ≤ i + n → Rl σ τ → Hp D A H0 H locs (WC g ad σ ++ WM g am τ) → lv_has ls 4 [(0, .ref b), (1, .ref (ad 0)), (2, .ref (am 0)), (3, .int (nI i))] → W p l e room_1 s m args below meth c H locs 36 790 Q (F0 m 18 ls []) := by
  intro n
  induction n with
  | zero => intro i σ τ H locs ls h1 h2; exact absurd h2 (by omega)
  | succ n ih =>
    intro i σ τ H locs ls hi hn hR Y hl
    refine lv_iload_n X.1 X.2.1 dL_law_18 rfl (lv_at hl 3 rfl) ?_
    refine lv_aload_n X.1 X.2.1 dL_law_19 rfl (lv_at hl 0 rfl) ?_
    refine va_slen X.1 X.2.1 hV.1 hV.2.1 hV.2.2 Y.2.2.1 dL_law_20 ?_
    refine lv_bipush (v := 6) X.1 X.2.1 dL_law_21 (by decide) ?_
    refine lv_isub X.1 X.2.1 dL_law_23 ?_
    refine lv_icmp_gt (tgt := 1126) X.1 X.2.1 dL_law_24 (by decide) (fun _ => fin _ H locs ls Y) (fun hc => ?_)
    have h6 : i + 6 ≤ L := lw_left hL hi hc
    have hI := lw_vp hL h6
    have kk : ∀ (σ' τ' : St) (H1 : Heap) (locs1 : List Loc), Rl σ' τ' → Hp D A H0 H1 locs1 (WC g ad σ' ++ WM g am τ') → W p l e room_1 s m args below meth c H1 locs1 36 790 Q (F0 m 1120 ls []) := by
      intro σ' τ' H1 locs1 hR1 Y1
      refine lv_iinc (v := nI (i + 6)) (lv' := [(3, .int (nI (i + 6))), (0, .ref b), (1, .ref (ad 0)), (2, .ref (am 0))]) X.1 X.2.1 dL_law_1120 hl (k := 3) rfl (nI_add i 6) (by decide) rfl (fun ls hl => ?_)
      refine lv_goto (tgt := 18) X.1 X.2.1 dL_law_1123 (by decide) ?_
      exact ih (i + 6) σ' τ' H1 locs1 ls h6 (by omega) hR1 Y1 (lv_sub hl [1, 2, 3, 0] rfl)
    refine lv_aload_n X.1 X.2.1 dL_law_27 rfl (lv_at hl 0 rfl) ?_
    refine lv_iload_n X.1 X.2.1 dL_law_28 rfl (lv_at hl 3 rfl) ?_
    refine va_sld X.1 X.2.1 hV.1 hV.2.1 hV.2.2 Y.2.2.1 (vp_in_nI (by omega) (by omega)) dL_law_29 ?_
    refine lv_bipush (v := 31) X.1 X.2.1 dL_law_30 (by decide) ?_
    refine lv_iand X.1 X.2.1 dL_law_32 ?_
    obtain ⟨t, ht, et⟩ := and31 (xs (nI i).toNatClampNeg)
    rw [et]
    rcases (show t = 0 ∨ t = 1 ∨ t = 2 ∨ t = 3 ∨ t = 4 ∨ t = 5 ∨ t = 6 ∨ t = 7 ∨ t = 8 ∨ t = 9 ∨ t = 10 ∨ t = 11 ∨ t = 12 ∨ t = 13 ∨ t = 14 ∨ t = 15 ∨ t = 16 ∨ t = 17 ∨ t = 18 ∨ t = 19 ∨ t = 20 ∨ t = 21 ∨ t = 22 ∨ t = 23 ∨ t = 24 ∨ t = 25 ∨ t = 26 ∨ t = 27 ∨ t = 28 ∨ t = 29 ∨ t = 30 ∨ t = 31 by omega) with rfl | rfl | rfl | rfl | rfl | rfl | rfl | rfl | rfl | rfl | rfl | rfl | rfl | rfl | rfl | rfl | rfl | rfl | rfl | rfl | rfl | rfl | rfl | rfl | rfl | rfl | rfl | rfl | rfl | rfl | rfl | rfl
    · exact lv_tableIn (tgt := 168) (off := 135) X.1 X.2.1 dL_law_33 (by decide +kernel) (by decide +kernel) (by decide +kernel) (by decide) (lc_0 X hml hV hl hI Y hR kk)
    · exact lv_tableIn (tgt := 221) (off := 188) X.1 X.2.1 dL_law_33 (by decide +kernel) (by decide +kernel) (by decide +kernel) (by decide) (lc_1 X hml hV hl hI Y hR kk)
    · exact lv_tableIn (tgt := 254) (off := 221) X.1 X.2.1 dL_law_33 (by decide +kernel) (by decide +kernel) (by decide +kernel) (by decide) (lc_2 X hml hV hl hI Y hR kk)
    · exact lv_tableIn (tgt := 287) (off := 254) X.1 X.2.1 dL_law_33 (by decide +kernel) (by decide +kernel) (by decide +kernel) (by decide) (lc_3 X hml hV hl hI Y hR kk)
    · exact lv_tableIn (tgt := 330) (off := 297) X.1 X.2.1 dL_law_33 (by decide +kernel) (by decide +kernel) (by decide +kernel) (by decide) (lc_4 X hml hV hl hI Y hR kk)
    · exact lv_tableIn (tgt := 353) (off := 320) X.1 X.2.1 dL_law_33 (by decide +kernel) (by decide +kernel) (by decide +kernel) (by decide) (lc_5 X hml hV hl hI Y hR kk)
    · exact lv_tableIn (tgt := 376) (off := 343) X.1 X.2.1 dL_law_33 (by decide +kernel) (by decide +kernel) (by decide +kernel) (by decide) (lc_6 X hml hV hl hI Y hR kk)
    · exact lv_tableIn (tgt := 409) (off := 376) X.1 X.2.1 dL_law_33 (by decide +kernel) (by decide +kernel) (by decide +kernel) (by decide) (lc_7 X hml hV hl hI Y hR kk)
    · exact lv_tableIn (tgt := 432) (off := 399) X.1 X.2.1 dL_law_33 (by decide +kernel) (by decide +kernel) (by decide +kernel) (by decide) (lc_8 X hml hV hl hI Y hR kk)
    · exact lv_tableIn (tgt := 455) (off := 422) X.1 X.2.1 dL_law_33 (by decide +kernel) (by decide +kernel) (by decide +kernel) (by decide) (lc_9 X hml hV hl hI Y hR kk)
    · exact lv_tableIn (tgt := 518) (off := 485) X.1 X.2.1 dL_law_33 (by decide +kernel) (by decide +kernel) (by decide +kernel) (by decide) (lc_10 X hml hV hl hI Y hR kk)
    · exact lv_tableIn (tgt := 541) (off := 508) X.1 X.2.1 dL_law_33 (by decide +kernel) (by decide +kernel) (by decide +kernel) (by decide) (lc_11 X hml hV hl hI Y hR kk)
    · exact lv_tableIn (tgt := 584) (off := 551) X.1 X.2.1 dL_law_33 (by decide +kernel) (by decide +kernel) (by decide +kernel) (by decide) (lc_12 X hml hV hl hI Y hR kk)
    · exact lv_tableIn (tgt := 607) (off := 574) X.1 X.2.1 dL_law_33 (by decide +kernel) (by decide +kernel) (by decide +kernel) (by decide) (lc_13 X hml hV hl hI Y hR kk)
    · exact lv_tableIn (tgt := 640) (off := 607) X.1 X.2.1 dL_law_33 (by decide +kernel) (by decide +kernel) (by decide +kernel) (by decide) (lc_14 X hml hV hl hI Y hR kk)
    · exact lv_tableIn (tgt := 663) (off := 630) X.1 X.2.1 dL_law_33 (by decide +kernel) (by decide +kernel) (by decide +kernel) (by decide) (lc_15 X hml hV hl hI Y hR kk)
    · exact lv_tableIn (tgt := 696) (off := 663) X.1 X.2.1 dL_law_33 (by decide +kernel) (by decide +kernel) (by decide +kernel) (by decide) (lc_16 X hml hV hl hI Y hR kk)
    · exact lv_tableIn (tgt := 719) (off := 686) X.1 X.2.1 dL_law_33 (by decide +kernel) (by decide +kernel) (by decide +kernel) (by decide) (lc_17 X hml hV hl hI Y hR kk)
    · exact lv_tableIn (tgt := 732) (off := 699) X.1 X.2.1 dL_law_33 (by decide +kernel) (by decide +kernel) (by decide +kernel) (by decide) (lc_18 X hml hV hl hI Y hR kk)
    · exact lv_tableIn (tgt := 776) (off := 743) X.1 X.2.1 dL_law_33 (by decide +kernel) (by decide +kernel) (by decide +kernel) (by decide) (lc_19 X hml hV hl hI Y hR kk)
    · exact lv_tableIn (tgt := 819) (off := 786) X.1 X.2.1 dL_law_33 (by decide +kernel) (by decide +kernel) (by decide +kernel) (by decide) (lc_20 X hml hV hl hI Y hR kk)
    · exact lv_tableIn (tgt := 842) (off := 809) X.1 X.2.1 dL_law_33 (by decide +kernel) (by decide +kernel) (by decide +kernel) (by decide) (lc_21 X hml hV hl hI Y hR kk)
    · exact lv_tableIn (tgt := 885) (off := 852) X.1 X.2.1 dL_law_33 (by decide +kernel) (by decide +kernel) (by decide +kernel) (by decide) (lc_22 X hml hV hl hI Y hR kk)
    · exact lv_tableIn (tgt := 929) (off := 896) X.1 X.2.1 dL_law_33 (by decide +kernel) (by decide +kernel) (by decide +kernel) (by decide) (lc_23 X hml hV hl hI Y hR kk)
    · exact lv_tableIn (tgt := 992) (off := 959) X.1 X.2.1 dL_law_33 (by decide +kernel) (by decide +kernel) (by decide +kernel) (by decide) (lc_24 X hml hV hl hI Y hR kk)
    · exact lv_tableIn (tgt := 1015) (off := 982) X.1 X.2.1 dL_law_33 (by decide +kernel) (by decide +kernel) (by decide +kernel) (by decide) (lc_25 X hml hV hl hI Y hR kk)
    · exact lv_tableIn (tgt := 1038) (off := 1005) X.1 X.2.1 dL_law_33 (by decide +kernel) (by decide +kernel) (by decide +kernel) (by decide) (lc_26 X hml hV hl hI Y hR kk)
    · exact lv_tableIn (tgt := 1071) (off := 1038) X.1 X.2.1 dL_law_33 (by decide +kernel) (by decide +kernel) (by decide +kernel) (by decide) (lc_27 X hml hV hl hI Y hR kk)
    · exact lv_tableIn (tgt := 1084) (off := 1051) X.1 X.2.1 dL_law_33 (by decide +kernel) (by decide +kernel) (by decide +kernel) (by decide) (lc_28 X hml hV hl hI Y hR kk)
    · exact lv_tableIn (tgt := 1097) (off := 1064) X.1 X.2.1 dL_law_33 (by decide +kernel) (by decide +kernel) (by decide +kernel) (by decide) (lc_29 X hml hV hl hI Y hR kk)
    · exact lv_tableOut (tgt := 1120) X.1 X.2.1 dL_law_33 (Or.inr (by decide +kernel)) (by decide) (kk σ τ _ _ hR Y)
    · exact lv_tableOut (tgt := 1120) X.1 X.2.1 dL_law_33 (Or.inr (by decide +kernel)) (by decide) (kk σ τ _ _ hR Y)
