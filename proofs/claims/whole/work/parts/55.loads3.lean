theorem loads_C {σ τ : St} (h : Rl σ τ) {k : Nat} (hk : k < 4) {i m : Nat} (him : i + m ≤ 60) (hm : m ≤ 20) {wh : Int32} (hwh : wh = 0 ∨ wh = 1 ∨ wh = 2 ∨ wh = 3 ∨ wh = 4 ∨ ∃ p, p < 5 ∧ wh = nI (10 + p)) :
    ∃ r τ', ((fX0_areLoads 300 σ k (nI i) (nI m)).bind fun r39 => if r39 = 0 then (some ((-2), σ)) else ((fX0_firstWrong 300 σ k (nI i) (nI m)).bind fun r42 => if wh = 1 then (some (r42, σ)) else (if r42 = (-9) then ((fX3_ofLoads 300 σ k (nI i) (nI m) wh).bind fun r46 => some (r46, σ)) else (some (((-100) : Int32) - r42, σ))))) = some (r, σ) ∧ fX4_loads_L101 300 τ (nI m) wh (nI (60 * k + i)) 0 = some (r, τ') ∧ Rl σ τ' := by
  obtain ⟨P, lam, rd, hr, hd, hs, hz⟩ := id h
  have h5 : P ≤ 5 := hr.1
  have h32 := p32 h5
  rw [fX0_areLoads]
  rcases are_L hr hs hk him wh m 0 300 300 (by omega) (by omega) (by omega) with ⟨g1, g2⟩ | ⟨g1, g2, n3, g3, g4⟩
  · rw [n0] at g1 g2
    rw [g1, g2]
    exact ⟨_, _, rfl, rfl, h⟩
  · rw [n0] at g1 g4
    rw [g1, g4]
    simp only [if_true, if_false, Option.bind_some, i10, i01, im1, im2, im3, im9]
    obtain ⟨fr, hfr⟩ := fr_ex hr hz.2.2.1 hz.2.2.2
    obtain ⟨pu, hpu⟩ := pu_ex hr hz.2.2.1 hz.2.2.2
    obtain ⟨ld, hld⟩ : ∃ ld : Nat → Nat, ∀ j, j < m → ld j < 2 ^ P ∧ σ (6 + k) (i + j) = nI (ld j) ∧ τ 3 (60 * k + i + j) = nI (ld j) := by
      have : ∀ j : Nat, ∃ d : Nat, j < m → d < 2 ^ P ∧ σ (6 + k) (i + j) = nI d ∧ τ 3 (60 * k + i + j) = nI d := by
        intro j
        by_cases hj : j < m
        · obtain ⟨d, hd⟩ := g2 j (by omega) hj
          exact ⟨d, fun _ => hd⟩
        · exact ⟨0, fun q => absurd q hj⟩
      exact Classical.skolem.mp this
    have hl32 : ∀ j, j < m → ld j < 32 := fun j hj => by have := (hld j hj).1; omega
    obtain ⟨τ', hA, hcase⟩ := go_R hr hz.2.2.1 hz.2.2.2 hfr hpu hk him hm hld (show 60 ≤ 300 by decide) (show 220 ≤ n3 by omega)
    have fin := h.ag hA
    rcases hcase with ⟨w, hw, f1, f2⟩ | ⟨f1, f2, f3⟩
    · rw [f1, f2]
      simp only [Option.bind_some, bind2]
      by_cases c1 : wh = 1
      · simp only [if_pos c1]; exact ⟨_, _, rfl, rfl, fin⟩
      · simp only [if_neg c1, if_neg (nIne9 (show w < 2 ^ 31 by omega))]; exact ⟨_, _, rfl, rfl, fin⟩
    · rw [f1, f2]
      simp only [Option.bind_some, bind2]
      have hcs : ∀ j, j < m → σ (6 + k) (i + j) = nI (ld j) := fun j hj => (hld j hj).2.1
      obtain ⟨q20, q21, q22, q23, q10⟩ := f3
      rcases hwh with rfl | rfl | rfl | rfl | rfl | ⟨p, hp, rfl⟩
      · have g := of_L hk him hcs (wh := 0) (by decide) (fun j n hj hn => so_0 hr hfr (hl32 j hj) hn) m 0 300 (by omega) (by omega)
        rw [n0, cnt] at g
        simp only [i01, if_false, if_true, fX3_ofLoads, if_pos (show (0 : Int32) < 10 by decide), g, fX4_tellLoads, q20, Option.bind_some]
        exact ⟨_, _, rfl, rfl, fin⟩
      · simp only [if_true]; exact ⟨_, _, rfl, rfl, fin⟩
      · have g := of_2 hk him hcs m 0 300 (by omega) (by omega)
        rw [n0, orr] at g
        simp only [i21, i20, if_false, if_true, fX3_ofLoads, if_pos (show (2 : Int32) < 10 by decide), g, fX4_tellLoads, q23, Option.bind_some]
        exact ⟨_, _, rfl, rfl, fin⟩
      · have g := of_L hk him hcs (wh := 3) (by decide) (fun j n hj hn => so_3 hr hpu (hl32 j hj) hn) m 0 300 (by omega) (by omega)
        rw [n0, cnt] at g
        simp only [eq_false (show ¬ (3 : Int32) = 1 by decide), eq_false (show ¬ (3 : Int32) = 0 by decide), eq_false (show ¬ (3 : Int32) = 2 by decide), if_false, if_true, fX3_ofLoads, if_pos (show (3 : Int32) < 10 by decide), g, fX4_tellLoads, q21, Option.bind_some]
        exact ⟨_, _, rfl, rfl, fin⟩
      · have g := of_L hk him hcs (wh := 4) (by decide) (fun j n hj hn => so_4 hr hpu (hl32 j hj) hn) m 0 300 (by omega) (by omega)
        rw [n0, cnt] at g
        simp only [eq_false (show ¬ (4 : Int32) = 1 by decide), eq_false (show ¬ (4 : Int32) = 0 by decide), eq_false (show ¬ (4 : Int32) = 2 by decide), eq_false (show ¬ (4 : Int32) = 3 by decide), if_false, if_true, fX3_ofLoads, if_pos (show (4 : Int32) < 10 by decide), g, fX4_tellLoads, q22, Option.bind_some]
        exact ⟨_, _, rfl, rfl, fin⟩
      · have ne : ∀ q, q < 5 → (nI (10 + p) = nI q) = False := fun q hq => eqF (by omega) (by omega) (by omega)
        have k0 : (nI (10 + p) = 0) = False := ne 0 (by decide)
        have k1 : (nI (10 + p) = 1) = False := ne 1 (by decide)
        have k2 : (nI (10 + p) = 2) = False := ne 2 (by decide)
        have k3 : (nI (10 + p) = 3) = False := ne 3 (by decide)
        have k4 : (nI (10 + p) = 4) = False := ne 4 (by decide)
        have k10 : (nI (10 + p) < 10) = False := ltF (b := 10) (by omega) (by omega)
        have kp : nI (10 + p) - 10 = nI p := by rw [show (10 : Int32) = nI 10 from rfl, pk_sub (by omega), Nat.add_sub_cancel_left]
        have g := of_L hk him hcs (wh := nI (10 + p)) (by rw [k2]; exact id) (fun j n hj hn => so_p hr hpu hp (hl32 j hj) hn) m 0 300 (by omega) (by omega)
        rw [n0, cnt] at g
        simp only [k0, k1, k2, k3, k4, k10, kp, if_false, if_true, fX3_ofLoads, fX4_tellLoads, g, cN (show p < 2 ^ 31 by omega), gP (show p < 5 by omega) (by decide)]
        rcases per (hA.rt hr) (nI p) with ⟨d1, d2⟩ | ⟨p', hp', ep, d1, d2⟩
        · rw [d1, d2]; exact ⟨_, _, rfl, rfl, fin⟩
        · have : p' = p := (nI_eq (by omega) (by omega)).mp ep.symm
          subst this
          rw [d1, d2]
          simp only [if_true, if_false, Option.bind_some, i10, i01, im1, im2, im3, im9, q10 p' hp']
          exact ⟨_, _, rfl, rfl, fin⟩
theorem q_loads {σ τ : St} (h : Rl σ τ) (x ln y w wh : Int32) : ∃ r σ' τ', fX3_loads 300 σ x ln y w wh = some (r, σ') ∧ fX4_loads 300 τ x ln y w wh = some (r, τ') ∧ Rl σ' τ' := by
  have hf := h.fault 0
  obtain ⟨P, lam, rd, hr, hd, hs, hz⟩ := id hf
  rw [fX3_loads]
  rcases shx x with ⟨a, c⟩ | ⟨k, hk, rfl, a, c⟩
  · rw [fX4_loads, a, c]; exact ⟨_, _, _, rfl, rfl, hf⟩
  · rcases lnx ln with ⟨a2, c2⟩ | ⟨a2, c2, hln⟩
    · rw [fX4_loads, a, c, a2, c2]; exact ⟨_, _, _, rfl, rfl, hf⟩
    · rw [a, a2]
      simp only [if_true, if_false, Option.bind_some, i10, i01, im1, im2, im3, im9]
      have hw1 : fX4_within w 0 20 = (if w < 0 then some 0 else if 20 < w then some 0 else some 1) := wi
      by_cases c0 : w < 0
      · rw [fX4_loads, c, c2, hw1]
        simp only [if_pos c0, if_true, if_false, Option.bind_some, i10, i01, im1, im2, im3, im9]; exact ⟨_, _, _, rfl, rfl, hf⟩
      · by_cases c20 : 20 < w
        · rw [fX4_loads, c, c2, hw1]
          simp only [if_neg c0, if_pos c20, if_true, if_false, Option.bind_some, i10, i01, im1, im2, im3, im9]; exact ⟨_, _, _, rfl, rfl, hf⟩
        · rw [if_neg c0, if_neg c20] at hw1
          simp only [if_neg c0, if_neg c20]
          rcases lqx wh with ⟨l1, l2, l3⟩ | ⟨l1, l2, l3⟩
          · rw [fX4_loads, c, c2, hw1, l1]
            simp only [if_true, if_false, Option.bind_some, i10, i01, im1, im2, im3, im9, l2, l3]; exact ⟨_, _, _, rfl, rfl, hf⟩
          · have hmod : fX4_loads 300 τ (nI k) ln y w wh = (fX4_against (up2 τ 0 0 0) (nI k) ln y w).bind fun r14 => if r14 = 0 then (if (up2 τ 0 0 0) 0 5 = 0 then (some ((-3), (up2 τ 0 0 0))) else (fX4_loads_L101 300 (up2 τ 0 0 0) w wh (((60 : Int32) * nI k) + y) 0)) else (bind2 (fX4_fails (up2 τ 0 0 0) r14) fun r18 σ18 => some (r18, σ18)) := by
              rw [fX4_loads, c, c2, hw1]
              rcases l2 with g | ⟨g, g'⟩
              · simp only [if_true, if_false, Option.bind_some, i10, i01, im1, im2, im3, im9, g]
              · simp only [if_true, if_false, Option.bind_some, i10, i01, im1, im2, im3, im9, g, g']
            rw [hmod, l1]
            simp only [if_true, if_false, Option.bind_some, i10, i01, im1, im2, im3, im9, cN (show k < 2 ^ 31 by omega), gP (show k < 4 by omega) (by decide)]
            rcases agn hk (hs k hk).1 ln y w hln with ⟨d1, d2⟩ | ⟨d1, d2⟩ | ⟨d1, ⟨q, -⟩ | ⟨-, d3, d2⟩ | ⟨i, m, him, rfl, rfl, d3, d2⟩⟩
            · rw [d1, d2]
              simp only [if_true, if_false, Option.bind_some, i10, i01, im1, im2, im3, im9]
              exact ⟨_, _, _, rfl, rfl, hf.fault 1⟩
            · rw [d1, d2]
              simp only [if_true, if_false, Option.bind_some, i10, i01, im1, im2, im3, im9, i20]
              exact ⟨_, _, _, rfl, rfl, hf.fault 2⟩
            · exact absurd q c0
            · rw [d1, d2]
              simp only [if_true, if_false, Option.bind_some, i10, i01, im1, im2, im3, im9, d3, eq_false (show ¬ (3 : Int32) = 0 by decide)]
              exact ⟨_, _, _, rfl, rfl, hf.fault 3⟩
            · have hm20 : m ≤ 20 := by
                rcases Nat.lt_or_ge 20 m with g | g
                · exact absurd (nI_lt (a := 20) g (by omega)) c20
                · exact g
              rw [d1, d2]
              simp only [if_true, if_false, Option.bind_some, i10, i01, im1, im2, im3, im9, d3, e60]
              rcases the hr with ⟨e1, e2⟩ | ⟨e1, e2, -⟩
              · rw [e1, if_pos e2]; exact ⟨_, _, _, rfl, rfl, hf⟩
              · rw [e1, if_neg e2]
                simp only [if_true, if_false, Option.bind_some, i10, i01, im1, im2, im3, im9]
                obtain ⟨r, τ', g1, g2, g3⟩ := loads_C hf hk him hm20 l3
                exact ⟨r, _, τ', g1, g2, g3⟩
