theorem q_back {σ τ : St} (h : Rl σ τ) (x : Int32) : ∃ r σ' τ', fX3_back σ x = some (r, σ') ∧ fX4_back τ x = some (r, τ') ∧ Rl σ' τ' := by
  obtain ⟨P, lam, rd, hr, hd, hs, hz⟩ := id h
  obtain ⟨d1, d2, d3, d4⟩ := hd
  rw [fX3_back, fX4_back, wi, d2, d3]
  by_cases c0 : x < 0
  · simp only [if_pos c0, if_true, if_false, Option.bind_some, i10, i01, im1, im2, im3, im9]; exact ⟨_, _, _, rfl, rfl, h⟩
  · by_cases c1 : x ≤ nI rd
    · have c1' : ¬ nI rd < x := Int32.not_lt.mpr c1
      simp only [if_neg c0, if_pos c1, if_neg c1', if_true, if_false, Option.bind_some, i10, i01, im1, im2, im3, im9, upe]
      obtain ⟨j, hj, rfl⟩ := nI_of2 (M := nI rd) (n := rd) (nI_toInt (by omega)) c0 c1
      rw [pk_sub hj]
      refine ⟨_, _, _, rfl, rfl, P, lam, rd - j, hr.mv (by intros; first | rfl | (simp (disch := omega) only [upz, upj]; done)) (by intros; first | rfl | (simp (disch := omega) only [upz, upj]; done)) (by intros; first | rfl | (simp (disch := omega) only [upz, upj]; done)) (by intros; first | rfl | (simp (disch := omega) only [upz, upj]; done)) (by intros; first | rfl | (simp (disch := omega) only [upz, upj]; done)) (by intros; first | rfl | (simp (disch := omega) only [upz, upj]; done)) (by intros; first | rfl | (simp (disch := omega) only [upz, upj]; done)), ⟨by omega, by rw [upe], by rw [upe], fun k hk => ?_⟩, hs.mv (by intros; first | rfl | (simp (disch := omega) only [upz, upj]; done)) (by intros; first | rfl | (simp (disch := omega) only [upz, upj]; done)) (by intros; first | rfl | (simp (disch := omega) only [upz, upj]; done)) (by intros; first | rfl | (simp (disch := omega) only [upz, upj]; done)), hz.mv (by intros; first | rfl | (simp (disch := omega) only [upz, upj]; done)) (by intros; first | rfl | (simp (disch := omega) only [upz, upj]; done)) (by intros; first | rfl | (simp (disch := omega) only [upz, upj]; done)) (by intros; first | rfl | (simp (disch := omega) only [upz, upj]; done)) (by intros; first | rfl | (simp (disch := omega) only [upz, upj]; done)) (by intros; first | rfl | (simp (disch := omega) only [upz, upj]; done))⟩
      rw [upz (by decide), upz (by decide), upz (by decide), upz (by decide)]
      exact d4 k (by omega)
    · have c1' : nI rd < x := Int32.not_le.mp c1
      simp only [if_neg c0, if_neg c1, if_pos c1', if_true, if_false, Option.bind_some, i10, i01, im1, im2, im3, im9]; exact ⟨_, _, _, rfl, rfl, h⟩
theorem neg_and {x : Int32} {t : Nat} (ht : t < 32) (hx : x < 0) : ¬ x &&& (nI t ^^^ (-1)) = 0 := by
  intro q
  have h1 : (x &&& (nI t ^^^ (-1))).toBitVec.msb = true := by
    rw [Int32.toBitVec_and, BitVec.msb_and, Int32.toBitVec_xor, BitVec.msb_xor]
    have hm : x.toBitVec.msb = true := by
      rw [Int32.lt_iff_toInt_lt, zeroI] at hx
      rw [BitVec.msb_eq_toInt]
      simpa using hx
    have ht2 : ∀ t, t < 32 → (nI t).toBitVec.msb = false := by decide +kernel
    rw [hm, ht2 t ht]
    decide
  rw [q] at h1
  exact absurd h1 (by decide)
theorem q_reading {σ τ : St} (h : Rl σ τ) (x y : Int32) : ∃ r σ' τ', fX3_reading σ x y = some (r, σ') ∧ fX4_reading τ x y = some (r, τ') ∧ Rl σ' τ' := by
  obtain ⟨P, lam, rd, hr, hd, hs, hz⟩ := id h
  have h32 := p32 hr.1
  obtain ⟨d1, d2, d3, d4⟩ := hd
  rw [fX3_reading, fX4_reading]
  rcases refL hr x with ⟨a, b⟩ | ⟨a, b, c⟩ | ⟨t, ht, rfl, a, b, c⟩
  · rw [a, if_pos b]; exact ⟨_, _, _, rfl, rfl, h⟩
  · rw [a, if_neg b, c]; exact ⟨_, _, _, rfl, rfl, h⟩
  · rw [a, if_neg b, c]
    simp only [if_true, if_false, Option.bind_some, i10, i01, im1, im2, im3, im9]
    by_cases c0 : y < 0
    · simp only [if_pos c0, if_neg (neg_and (show t < 32 by omega) c0)]; exact ⟨_, _, _, rfl, rfl, h⟩
    · simp only [if_neg c0]
      by_cases c1 : y &&& (nI t ^^^ (-1)) = 0
      · simp only [if_pos c1, d2, d3]
        by_cases c2 : rd = 8
        · subst c2
          rw [if_neg (by decide), if_pos (by decide)]
          exact ⟨_, _, _, rfl, rfl, h⟩
        · have e8 : (8 : Int32) = nI 8 := rfl
          have k1 : up2 τ 12 rd (nI t) 0 26 = nI rd := by rw [upz (by decide)]; exact d3
          have k2 : up2 (up2 τ 12 rd (nI t)) 13 rd y 0 26 = nI rd := by rw [upz (by decide)]; exact k1
          simp only [e8, ltT (show rd < 8 by omega) (by decide), eqF c2 (show rd < 2 ^ 31 by omega) (show 8 < 2 ^ 31 by decide), cN (show rd < 2 ^ 31 by omega), gP (show rd < 8 by omega) (by decide), if_true, if_false, k1, k2, upe, nI_1]
          refine ⟨_, _, _, rfl, by rw [nI_pred], P, lam, rd + 1, hr.mv (by intros; first | rfl | (simp (disch := omega) only [upz, upj]; done)) (by intros; first | rfl | (simp (disch := omega) only [upz, upj]; done)) ?_ (by intros; first | rfl | (simp (disch := omega) only [upz, upj]; done)) (by intros; first | rfl | (simp (disch := omega) only [upz, upj]; done)) (by intros; first | rfl | (simp (disch := omega) only [upz, upj]; done)) (by intros; first | rfl | (simp (disch := omega) only [upz, upj]; done)), ⟨by omega, by rw [upe], by rw [upe], fun k hk => ?_⟩, hs.mv ?_ (by intros; first | rfl | (simp (disch := omega) only [upz, upj]; done)) (by intros; first | rfl | (simp (disch := omega) only [upz, upj]; done)) (by intros; first | rfl | (simp (disch := omega) only [upz, upj]; done)), hz.mv (by intros; first | rfl | (simp (disch := omega) only [upz, upj]; done)) (by intros; first | rfl | (simp (disch := omega) only [upz, upj]; done)) (by intros; first | rfl | (simp (disch := omega) only [upz, upj]; done)) (by intros; first | rfl | (simp (disch := omega) only [upz, upj]; done)) (by intros; first | rfl | (simp (disch := omega) only [upz, upj]; done)) (by intros; first | rfl | (simp (disch := omega) only [upz, upj]; done))⟩
          · intro p j hp; simp (disch := omega) only [upz, upj]
          · simp only [up2e]
            by_cases ck : k = rd
            · subst ck
              simp
              exact ⟨t, ht, rfl⟩
            · have := d4 k (by omega)
              simpa [ck] using this
          · intro p j hp; simp (disch := omega) only [upz, upj]
      · simp only [if_neg c1]; exact ⟨_, _, _, rfl, rfl, h⟩
theorem q_as {σ τ : St} (h : Rl σ τ) (x y : Int32) : ∃ r σ' τ', fX3_as σ x y = some (r, σ') ∧ fX4_as τ x y = some (r, τ') ∧ Rl σ' τ' := by
  have hf := h.fault 0
  obtain ⟨P, lam, rd, hr, hd, hs, hz⟩ := id hf
  have h5 : P ≤ 5 := hr.1
  rw [fX3_as, fX4_as, wi]
  rcases per hr x with ⟨a, c⟩ | ⟨p, hp, rfl, a, c⟩
  · rw [a, c]; exact ⟨_, _, _, rfl, rfl, hf⟩
  · rw [a, c]
    simp only [if_true, if_false, Option.bind_some, i10, i01, im1, im2, im3, im9]
    by_cases c0 : y < 0
    · simp only [if_pos c0, if_true, if_false, Option.bind_some, i10, i01, im1, im2, im3, im9]; exact ⟨_, _, _, rfl, rfl, hf⟩
    · by_cases c1 : y ≤ 2
      · have c1' : ¬ 2 < y := Int32.not_lt.mpr c1
        simp only [if_neg c0, if_pos c1, if_neg c1', if_true, if_false, Option.bind_some, i10, i01, im1, im2, im3, im9, cN (show p < 2 ^ 31 by omega), gP (show p < 5 by omega) (by decide), (hr.2.2.2.2.2.2.2.1 p hp).1]
        by_cases c2 : y ≤ up2 τ 0 0 0 4 p
        · have c2' : ¬ up2 τ 0 0 0 4 p < y := Int32.not_lt.mpr c2
          rw [if_pos c2, if_neg c2']; exact ⟨_, _, _, rfl, rfl, hf⟩
        · have c2' : up2 τ 0 0 0 4 p < y := Int32.not_le.mp c2
          rw [if_neg c2, if_pos c2']; exact ⟨_, _, _, rfl, rfl, hf.fault 2⟩
      · have c1' : 2 < y := Int32.not_le.mp c1
        simp only [if_neg c0, if_neg c1, if_pos c1', if_true, if_false, Option.bind_some, i10, i01, im1, im2, im3, im9]; exact ⟨_, _, _, rfl, rfl, hf⟩
theorem tr_eq {σ τ : St} (h : Rl σ τ) : σ 0 2 = τ 0 1 := by
  obtain ⟨P, lam, rd, hr, hd, hs, hz⟩ := h
  exact hz.2.1
theorem beg {σ τ : St} (h : Rl σ τ) (v : Int32) : ∃ σ' τ', fX3_leaveTrace σ v = some σ' ∧ fX4_begins τ v = some τ' ∧ Rl σ' τ' ∧ (∀ z j, z ≠ 0 → σ' z j = σ z j) ∧ ∀ z j, z ≠ 0 → τ' z j = τ z j := by
  rw [fX3_leaveTrace, fX4_begins, tr_eq h]
  exact ⟨_, _, rfl, rfl, h.trace _, fun z j hz => upz hz, fun z j hz => upz hz⟩
theorem q_hail {σ τ : St} (h : Rl σ τ) (x : Int32) : ∃ r σ' τ', fX3_hail σ x = some (r, σ') ∧ fX4_hail τ x = some (r, τ') ∧ Rl σ' τ' := by
  obtain ⟨P, lam, rd, hr, hd, hs, hz⟩ := id h
  have h5 : P ≤ 5 := hr.1
  rw [fX3_hail, fX4_hail]
  rcases per hr x with ⟨a, c⟩ | ⟨p, hp, rfl, a, c⟩
  · rw [a, c]; exact ⟨_, _, _, rfl, rfl, h⟩
  · rw [a, c]
    simp only [if_true, if_false, Option.bind_some, i10, i01, im1, im2, im3, im9, cN (show p < 2 ^ 31 by omega), gP (show p < 5 by omega) (by decide), (hr.2.2.2.2.2.2.2.1 p hp).1, fX3_bankerIsHailed, fX3_lentHail]
    obtain ⟨σ4, τ4, a4, b4, r4, -, t4⟩ := beg h 4
    obtain ⟨σ5, τ5, a5, b5, r5, -, t5⟩ := beg h 5
    by_cases c2 : τ 4 p = 2
    · simp only [if_pos c2, a5, b5, if_true, if_false, Option.bind_some, i10, i01, im1, im2, im3, im9, t5 4 p (by decide), bind2]
      exact ⟨_, _, _, rfl, rfl, r5⟩
    · simp only [if_neg c2, a4, b4, if_true, if_false, Option.bind_some, i10, i01, im1, im2, im3, im9, t4 4 p (by decide), bind2]
      exact ⟨_, _, _, rfl, rfl, r4⟩
theorem notes_C {σ σ' : St} (a : σ' 10 0 = σ 10 0) (b : ∀ p j, σ' (13 + p) j = σ (13 + p) j) : ∀ (n : Nat) (v1 v2 v3 : Int32), fX0_allNotes_L4 n σ' v1 v2 v3 = fX0_allNotes_L4 n σ v1 v2 v3 := by
  intro n
  induction n with
  | zero => intro v1 v2 v3; rfl
  | succ n ih => intro v1 v2 v3; simp only [fX0_allNotes_L4, a, b, ih]
theorem q_tell {σ τ : St} (h : Rl σ τ) (x : Int32) : ∃ r σ' τ', fX3_tell 50 σ x = some (r, σ') ∧ fX4_tell 50 τ x = some (r, τ') ∧ Rl σ' τ' := by
  obtain ⟨P, lam, rd, hr, hd, hs, hz⟩ := id h
  have h5 : P ≤ 5 := hr.1
  rw [fX3_tell, fX4_tell]
  rcases per hr x with ⟨a, c⟩ | ⟨p, hp, rfl, a, c⟩
  · rw [a, c]; exact ⟨_, _, _, rfl, rfl, h⟩
  · rw [a, c]
    obtain ⟨r, m1, m2⟩ := notes_R hr hp (show 6 ≤ 50 by decide) (show 6 ≤ 50 by decide)
    have nt : ∀ σ' : St, (∀ z j, z ≠ 0 → σ' z j = σ z j) → fX0_allNotes 50 σ' (nI p) = some r := by
      intro σ' hq
      rw [← m1]
      exact notes_C (hq 10 0 (by decide)) (fun p j => hq (13 + p) j (by omega)) 50 _ _ _
    have hk := hr.2.2.2.2.2.2.2.1 p hp
    simp only [if_true, if_false, Option.bind_some, i10, i01, im1, im2, im3, im9, cN (show p < 2 ^ 31 by omega), gP (show p < 5 by omega) (by decide), hk.1, m2, fX3_friendTells, fX3_bankerTells, fX3_riderTells]
    rcases hk.2 with q | q | q
    · obtain ⟨s1, t1, a1, b1, r1, k1, l1⟩ := beg h 1
      simp only [q, i01, i02, if_false, a1, b1, if_true, if_false, Option.bind_some, i10, i01, im1, im2, im3, im9, nt s1 k1, bind2]
      exact ⟨_, _, _, rfl, rfl, r1⟩
    · obtain ⟨s2, t2, a2, b2, r2, k2, l2⟩ := beg h 2
      obtain ⟨s1, t1, a1, b1, r1, k1, l1⟩ := beg r2 1
      simp only [q, if_true, a1, b1, a2, b2, if_true, if_false, Option.bind_some, i10, i01, im1, im2, im3, im9, nt s1 (fun z j hz => (k1 z j hz).trans (k2 z j hz)), bind2]
      exact ⟨_, _, _, rfl, rfl, r1⟩
    · obtain ⟨s3, t3, a3, b3, r3, k3, l3⟩ := beg h 3
      obtain ⟨s2, t2, a2, b2, r2, k2, l2⟩ := beg r3 2
      obtain ⟨s1, t1, a1, b1, r1, k1, l1⟩ := beg r2 1
      obtain ⟨s0, t0, a0, b0, r0, k0, l0⟩ := beg r1 1
      simp only [q, i21, if_true, if_false, a0, b0, a1, b1, a2, b2, a3, b3, if_true, if_false, Option.bind_some, i10, i01, im1, im2, im3, im9, nt s1 (fun z j hz => (k1 z j hz).trans ((k2 z j hz).trans (k3 z j hz))), nt s0 (fun z j hz => (k0 z j hz).trans ((k1 z j hz).trans ((k2 z j hz).trans (k3 z j hz)))), bind2]
      refine ⟨_, _, _, rfl, ?_, r0⟩
      congr 2
      apply Int32.toBitVec_inj.mp
      simp only [Int32.toBitVec_add, Int32.toBitVec_mul]
      have : (2 : Int32).toBitVec = 2#32 := rfl
      rw [this, BitVec.two_mul]
      ac_rfl
