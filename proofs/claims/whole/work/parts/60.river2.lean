theorem take_R {σ τ0 τ : St} {k i m R T P rd0 P0 lam0 : Nat} (hr0 : Rr σ τ0 P0 lam0) (hd0 : Rd σ τ0 P0 rd0) (hs : Rs σ τ0) (hz : Rz σ τ0) (ha : Ax τ0 τ) (hk : k < 4) (P5 : P ≤ 5) (hm : m = 4 + P * (3 + P)) (him : i + m ≤ 60) (c1 : σ (6 + k) (i + 1) = nI (48 + R)) (t12 : τ 0 12 = nI R) (c2 : σ (6 + k) (i + 2) = nI (48 + T)) (t13 : τ 0 13 = nI T) (c3 : σ (6 + k) (i + 3) = nI (48 + P)) (t14 : τ 0 14 = nI P) (hkn : ∀ q, q < P → Kn σ τ k i P q) :
    ∃ σ' τ', fX0_takeText 300 σ k (nI i) = some σ' ∧ fX4_takeRiver 300 τ = some τ' ∧ σ' 10 0 = nI P ∧ τ' 0 5 = nI P ∧ Rl σ' τ' := by
  have h40 := P40 P5
  obtain ⟨kd, hkd⟩ : ∃ kd : Nat → Nat, ∀ q, q < P → kd q ≤ 2 ∧ τ 7 q = nI (kd q) ∧ fX2_kindOf (σ (6 + k) (i + (4 + (q * (3 + P) + 1)))) = some (nI (kd q)) := by
    have : ∀ q : Nat, ∃ d : Nat, q < P → d ≤ 2 ∧ τ 7 q = nI d ∧ fX2_kindOf (σ (6 + k) (i + (4 + (q * (3 + P) + 1)))) = some (nI d) := by
      intro q
      by_cases hq : q < P
      · obtain ⟨d, hd⟩ := (hkn q hq).1; exact ⟨d, fun _ => hd⟩
      · exact ⟨0, fun g => absurd g hq⟩
    exact Classical.skolem.mp this
  obtain ⟨lm, hlm⟩ : ∃ lm : Nat → Nat, ∀ q, lm q ≤ 1 ∧ (q < P → τ 8 q = nI (lm q) ∧ σ (6 + k) (i + (4 + (q * (3 + P) + 2))) = nI (48 + lm q)) := by
    have : ∀ q : Nat, ∃ d : Nat, d ≤ 1 ∧ (q < P → τ 8 q = nI d ∧ σ (6 + k) (i + (4 + (q * (3 + P) + 2))) = nI (48 + d)) := by
      intro q
      by_cases hq : q < P
      · obtain ⟨d, h1, h2⟩ := (hkn q hq).2.1; exact ⟨d, h1, fun _ => h2⟩
      · exact ⟨0, by decide, fun g => absurd g hq⟩
    exact Classical.skolem.mp this
  have hcell : ∀ (a b c d e : Int32) (j : Nat), (up2 (up2 (up2 (up2 (up2 σ 10 1 a) 10 2 b) 10 0 c) 10 3 d) 10 6 e) (6 + k) j = σ (6 + k) j := fun a b c d e j => by rw [upz (by omega), upz (by omega), upz (by omega), upz (by omega), upz (by omega)]
  obtain ⟨σ', s1, s2, s3, -, s5⟩ := tt_O (kd := kd) (lm := lm) hk P5 (by omega) (fun q => (hlm q).1) (fun j => σ (6 + k) j) (fun q hq => (hkd q hq).2.2) (fun q hq => ((hlm q).2 hq).2) P 0 300 (up2 (up2 (up2 (up2 (up2 σ 10 1 (nI R)) 10 2 (nI T)) 10 0 (nI P)) 10 3 0) 10 6 0) (fun j => hcell _ _ _ _ _ j) (by rw [upj (by decide), upj (by decide), upe]) (by rw [upj (by decide), upe]; rfl) (by omega) (by omega)
  obtain ⟨τ', t1, t2, t3, -, -, t6⟩ := tr_O P5 P 0 300 (up2 (up2 (up2 τ 0 5 (nI P)) 0 6 (nI R)) 0 7 (nI T)) (by rw [upj (by decide), upj (by decide), upe]) (by omega) (by omega)
  have S : fX0_takeText 300 σ k (nI i) = some σ' := by
    rw [fX0_takeText]
    rw [n0, Nat.zero_mul, Nat.add_zero] at s1
    simp only [ad1, ad2, ad3, ad4, cN (show i + 1 < 2 ^ 31 by omega), gP (show i + 1 < 60 by omega) (by decide), cN (show i + 2 < 2 ^ 31 by omega), gP (show i + 2 < 60 by omega) (by decide), cN (show i + 3 < 2 ^ 31 by omega), gP (show i + 3 < 60 by omega) (by decide), if_false, upz (show 6 + k ≠ 10 by omega), c1, c2, c3, s48]
    exact s1
  have Tt : fX4_takeRiver 300 τ = some τ' := by
    rw [fX4_takeRiver]
    rw [n0] at t1
    rw [t14, upj (show (12 : Nat) ≠ 5 by decide), t12, upj (show (13 : Nat) ≠ 6 by decide), upj (show (13 : Nat) ≠ 5 by decide), t13]
    exact t1
  have sA : ∀ z j, z ≠ 10 → z ≠ 11 → ¬ (13 ≤ z ∧ z < 18) → σ' z j = σ z j := fun z j w1 w2 w3 => by rw [s2 z j (by omega) w2 w3, upz w1, upz w1, upz w1, upz w1, upz w1]
  have tA : ∀ z j, ¬ (z = 0 ∧ (j = 26 ∨ (5 ≤ j ∧ j ≤ 7) ∨ (11 ≤ j ∧ j ≤ 14))) → z ≠ 4 → z ≠ 5 → z ≠ 6 → z ≠ 7 → z ≠ 8 → z ≠ 9 → τ' z j = τ0 z j := fun z j w1 w2 w3 w4 w5 w6 w7 => by
    rw [t2 z j (by omega) w2 w3 w4, up2e, if_neg (by omega), up2e, if_neg (by omega), up2e, if_neg (by omega)]
    exact ha z j (by omega) w5 w6 w7
  have p1 : σ' 10 0 = nI P := by rw [s2 _ _ (by decide) (by decide) (by decide), upj (by decide), upj (by decide), upe]
  have p2 : τ' 0 5 = nI P := by rw [t2 _ _ (by decide) (by decide) (by decide) (by decide), upj (by decide), upj (by decide), upe]
  have h32 := p32 P5
  have hlv := lamv_lt (fun q => (hlm q).1) P
  refine ⟨σ', τ', S, Tt, p1, p2, P, lamv lm P, 0, ⟨P5, by omega, p1, p2, ?_, ?_, s3, fun p hp => ?_, fun p hp => ?_, fun p q hp hq => ?_⟩, ⟨by decide, ?_, by rw [t3]; rfl, fun j hj => by omega⟩, hs.mv (fun j w hj => sA _ _ (by omega) (by omega) (by omega)) (fun j => tA _ _ (by omega) (by decide) (by decide) (by decide) (by decide) (by decide) (by decide)) (fun j => tA _ _ (by omega) (by decide) (by decide) (by decide) (by decide) (by decide) (by decide)) (fun j => tA _ _ (by omega) (by decide) (by decide) (by decide) (by decide) (by decide) (by decide)), hz.mv (sA _ _ (by decide) (by decide) (by decide)) (sA _ _ (by decide) (by decide) (by decide)) (tA _ _ (by omega) (by decide) (by decide) (by decide) (by decide) (by decide) (by decide)) (tA _ _ (by omega) (by decide) (by decide) (by decide) (by decide) (by decide) (by decide)) (tA _ _ (by omega) (by decide) (by decide) (by decide) (by decide) (by decide) (by decide)) (tA _ _ (by omega) (by decide) (by decide) (by decide) (by decide) (by decide) (by decide))⟩
  · rw [s2 _ _ (by decide) (by decide) (by decide), upj (by decide), upj (by decide), upj (by decide), upj (by decide), upe, t2 _ _ (by decide) (by decide) (by decide) (by decide), upj (by decide), upe]
  · rw [s2 _ _ (by decide) (by decide) (by decide), upj (by decide), upj (by decide), upj (by decide), upe, t2 _ _ (by decide) (by decide) (by decide) (by decide), upe]
  · obtain ⟨k1, k2, -⟩ := hkd p hp
    have e7 : τ' 4 p = nI (kd p) := by rw [(t6 p (by omega) hp).1, upz (by decide), upz (by decide), upz (by decide)]; exact k2
    rw [(s5 p (by omega) hp).1, e7]
    refine ⟨rfl, ?_⟩
    rcases (show kd p = 0 ∨ kd p = 1 ∨ kd p = 2 by omega) with g | g | g
    · rw [g]; exact Or.inl rfl
    · rw [g]; exact Or.inr (Or.inl rfl)
    · rw [g]; exact Or.inr (Or.inr rfl)
  · rw [(t6 p (by omega) hp).2.1, upz (by decide), upz (by decide), upz (by decide), ((hlm p).2 hp).1, lamv_b (fun q => (hlm q).1) P P5 p hp]
  · rw [(s5 p (by omega) hp).2 q hq, (t6 p (by omega) hp).2.2 q hq, upz (by decide), upz (by decide), upz (by decide), (hkn p hp).2.2 q hq]
  · rw [s2 _ _ (by decide) (by decide) (by decide), upe]; rfl
theorem q_river {σ τ : St} (h : Rl σ τ) (x ln y w : Int32) : ∃ r σ' τ', fX3_river 300 σ x ln y w = some (r, σ') ∧ fX4_river 300 τ x ln y w = some (r, τ') ∧ Rl σ' τ' := by
  have hf := h.fault 0
  obtain ⟨P, lam, rd, hr, hd, hs, hz⟩ := id hf
  rw [fX3_river, fX4_river]
  rcases shx x with ⟨a, c⟩ | ⟨k, hk, rfl, a, c⟩
  · rw [a, c]; exact ⟨_, _, _, rfl, rfl, hf⟩
  · rcases lnx ln with ⟨a2, c2⟩ | ⟨a2, c2, hln⟩
    · rw [a, c, a2, c2]; exact ⟨_, _, _, rfl, rfl, hf⟩
    · rw [a, a2, c, c2]
      simp only [if_true, if_false, Option.bind_some, i10, i01, im1, im2, im3, im9, cN (show k < 2 ^ 31 by omega), gP (show k < 4 by omega) (by decide)]
      rcases agn hk (hs k hk).1 ln y w hln with ⟨d1, d2⟩ | ⟨d1, d2⟩ | ⟨d1, ⟨q, d2⟩ | ⟨q, d3, d2⟩ | ⟨i, m, him, rfl, rfl, d3, d2⟩⟩
      · rw [d1, d2]
        simp only [if_true, if_false, Option.bind_some, i10, i01, im1, im2, im3, im9]
        exact ⟨_, _, _, rfl, rfl, hf.fault 1⟩
      · rw [d1, d2]
        simp only [if_true, if_false, Option.bind_some, i10, i01, im1, im2, im3, im9, i20]
        exact ⟨_, _, _, rfl, rfl, hf.fault 2⟩
      · rw [d1, d2]
        simp only [if_true, if_false, Option.bind_some, i10, i01, im1, im2, im3, im9, if_neg (Int32.not_le.mpr q), eq_false (show ¬ (4 : Int32) = 0 by decide)]
        exact ⟨_, _, _, rfl, rfl, hf.fault 4⟩
      · rw [d1, d2]
        simp only [if_true, if_false, Option.bind_some, i10, i01, im1, im2, im3, im9, if_pos (Int32.not_lt.mp q), d3, eq_false (show ¬ (3 : Int32) = 0 by decide)]
        exact ⟨_, _, _, rfl, rfl, hf.fault 3⟩
      · have hw0 : (0 : Int32) ≤ nI m := nI_pos' (by omega)
        rw [d1, d2]
        simp only [if_true, if_false, Option.bind_some, i10, i01, im1, im2, im3, im9, if_pos hw0, d3, e60, nI_add]
        have hT : Tx (up2 σ 0 3 0) (up2 (up2 τ 0 0 0) 0 11 (nI (60 * k + i))) k i m := ⟨hk, him, fun j hj => by
          rw [upz (show (3 : Nat) ≠ 0 by decide)]
          have := (hs k hk).2 (i + j) (by omega)
          rw [← Nat.add_assoc] at this
          exact this⟩
        have ax0 : Ax (up2 τ 0 0 0) (up2 (up2 τ 0 0 0) 0 11 (nI (60 * k + i))) := fun z j g1 g2 g3 g4 => by rw [up2e, if_neg (by omega)]
        obtain ⟨τ', ax, g⟩ := text_R (n1 := 300) (n2 := 300) hT upe (by decide) (by decide)
        have ax' : Ax (up2 τ 0 0 0) τ' := fun z j g1 g2 g3 g4 => (ax z j g1 g2 g3 g4).trans (ax0 z j g1 g2 g3 g4)
        rcases g with ⟨w, w1, w2, w3, w4⟩ | ⟨R, T, P', P2, P5, m1, w3, w4, e1, e2, e3, e4, e5', e6, e7⟩
        · rw [w3, w4]
          simp only [bind2, if_true, if_false, Option.bind_some, i10, i01, im1, im2, im3, im9, if_neg (nIne9 (show w < 2 ^ 31 by omega)), w2, pk_sub (show 60 * k + i ≤ 60 * k + i + w by omega), Nat.add_sub_cancel_left]
          exact ⟨_, _, _, rfl, rfl, hf.ax ax'⟩
        · rw [w3, w4]
          simp only [bind2, if_true, if_false, Option.bind_some, i10, i01, im1, im2, im3, im9]
          obtain ⟨σ2, τ2, s1, s2, s3, s4, s5⟩ := take_R hr hd hs hz ax' hk P5 m1 him e1 e2 e3 e4 e5' e6 e7
          rw [s1, s2]
          simp only [Option.bind_some, s3, s4]
          exact ⟨_, _, _, rfl, rfl, s5⟩
