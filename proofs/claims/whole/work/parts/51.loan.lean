/-! LOANS -/
theorem nIne9 {q : Nat} (h : q < 2 ^ 31) : ¬ nI q = -9 := fun e => nI_pos h (by rw [e]; decide)
theorem lend_L {P lam rd p t : Nat} (hp : p < P) (ht : t < 32) (wh : Int32) (v : Nat) : ∀ (c q n1 n2 : Nat) (σ τ : St), Rq σ τ P lam rd → q + c = P → c + 16 ≤ n1 → c + 16 ≤ n2 →
    ∃ r σ' τ', fX0_lenderOf_L3 n1 σ (nI p) (nI t) (nI v) (nI q) = some (r, σ') ∧ Rq σ' τ' P lam rd ∧ ((r = -9 ∧ ∃ n3, n2 ≤ n3 + c + 1 ∧ fX4_loan_G66 n2 1 τ (nI p) (nI t) wh (nI v) (nI q) = fX4_loan_G66 n3 0 τ' (nI p) (nI t) wh (nI (v + 1)) 0) ∨ (¬ r = -9 ∧ fX4_loan_G66 n2 1 τ (nI p) (nI t) wh (nI v) (nI q) = if wh = 0 then some (nI v, τ') else some (r, τ'))) := by
  intro c
  induction c with
  | zero =>
    intro q n1 n2 σ τ h hq hn1 hn2
    have h5 : P ≤ 5 := h.1.1
    obtain ⟨m1, rfl⟩ : ∃ m, n1 = m + 1 := ⟨n1 - 1, by omega⟩
    obtain ⟨m2, rfl⟩ : ∃ m, n2 = m + 1 := ⟨n2 - 1, by omega⟩
    refine ⟨-9, σ, τ, ?_, h, Or.inl ⟨rfl, m2, by omega, ?_⟩⟩
    · rw [fX0_lenderOf_L3, h.1.2.2.1, if_pos (nI_le (by omega) (by omega))]
    · rw [fX4_loan_G66, if_neg (by decide), h.1.2.2.2.1, if_pos (nI_le (by omega) (by omega)), nI_1]
  | succ c ih =>
    intro q n1 n2 σ τ h hq hn1 hn2
    have h5 : P ≤ 5 := h.1.1
    obtain ⟨m1, rfl⟩ : ∃ m, n1 = m + 1 := ⟨n1 - 1, by omega⟩
    obtain ⟨m2, rfl⟩ : ∃ m, n2 = m + 1 := ⟨n2 - 1, by omega⟩
    have hqP : q < P := by omega
    have next : ∀ σ1 τ1, Rq σ1 τ1 P lam rd → ∃ r σ' τ', fX0_lenderOf_L3 m1 σ1 (nI p) (nI t) (nI v) (nI (q + 1)) = some (r, σ') ∧ Rq σ' τ' P lam rd ∧ ((r = -9 ∧ ∃ n3, m2 + 1 ≤ n3 + (c + 1) + 1 ∧ fX4_loan_G66 m2 1 τ1 (nI p) (nI t) wh (nI v) (nI (q + 1)) = fX4_loan_G66 n3 0 τ' (nI p) (nI t) wh (nI (v + 1)) 0) ∨ (¬ r = -9 ∧ fX4_loan_G66 m2 1 τ1 (nI p) (nI t) wh (nI v) (nI (q + 1)) = if wh = 0 then some (nI v, τ') else some (r, τ'))) := by
      intro σ1 τ1 h1
      obtain ⟨r, σ', τ', a1, a2, a3⟩ := ih (q + 1) m1 m2 σ1 τ1 h1 (by omega) (by omega) (by omega)
      refine ⟨r, σ', τ', a1, a2, ?_⟩
      rcases a3 with ⟨b1, n3, b2, b3⟩ | b
      · exact Or.inl ⟨b1, n3, by omega, b3⟩
      · exact Or.inr b
    have hn := h.1.2.2.2.2.2.2.2.2.2 p q hp hqP
    have h1 := h.1.2.2.1
    have h2 := h.1.2.2.2.1
    simp only [fX0_lenderOf_L3, fX4_loan_G66, fX4_pullsBy, h1, h2, leF (show q < P by omega) (show P < 2 ^ 31 by omega), e5, cN (show p < 2 ^ 31 by omega), cN (show q < 2 ^ 31 by omega), cN (show 5 * p + q < 2 ^ 31 by omega), gP (show p < 5 by omega) (by decide), gP (show q < 5 by omega) (by decide), gP (show 5 * p + q < 25 by omega) (by decide), if_false, nI_1, hn, Nat.one_ne_zero]
    by_cases cpq : q = p
    · subst cpq
      simp only [if_true]
      exact next σ τ h
    · have cpq' : ¬ nI q = nI p := fun e => cpq ((nI_eq (by omega) (by omega)).mp e)
      simp only [if_neg cpq']
      by_cases c9 : τ 6 (5 * p + q) + nI v ≤ 9
      · have c9' : ¬ 9 < τ 6 (5 * p + q) + nI v := Int32.not_lt.mpr c9
        have hq1 := h.note hp hqP (τ 6 (5 * p + q) + nI v)
        have hq2 := hq1.note hp hqP (τ 6 (5 * p + q))
        obtain ⟨u, -, -, p1, p2⟩ := pull_0 (load := t) (n1 := m1) (n2 := m2) hq1.1 ht hq1.2.2.2.2.2.1 hq1.2.2.2.2.2.2 (by omega) (by omega)
        simp only [if_pos c9, if_neg c9', p1, p2, Option.bind_some]
        by_cases cu : nI u = (1 : Int32) <<< (nI p &&& 31)
        · simp only [if_pos cu, bind2, i10, if_false]
          exact ⟨_, _, _, rfl, hq2, Or.inr ⟨nIne9 (by omega), rfl⟩⟩
        · simp only [if_neg cu, bind2, if_true]
          exact next _ _ hq2
      · have c9' : 9 < τ 6 (5 * p + q) + nI v := Int32.not_le.mp c9
        simp only [if_neg c9, if_pos c9', bind2, if_true]
        exact next σ τ h
theorem loan_L {P lam rd p t : Nat} (hp : p < P) (ht : t < 32) (wh : Int32) : ∀ (c v n1 n2 : Nat) (σ τ : St), Rq σ τ P lam rd → v + c = 10 → c + 30 ≤ n1 → 8 * c + 30 ≤ n2 → ∃ r σ' τ', fX3_loan_L58 n1 σ (nI p) (nI t) wh (nI v) = some (r, σ') ∧ fX4_loan_G66 n2 0 τ (nI p) (nI t) wh (nI v) 0 = some (r, τ') ∧ Rq σ' τ' P lam rd := by
  intro c
  induction c with
  | zero =>
    intro v n1 n2 σ τ h hv hn1 hn2
    obtain ⟨m1, rfl⟩ : ∃ m, n1 = m + 1 := ⟨n1 - 1, by omega⟩
    obtain ⟨m2, rfl⟩ : ∃ m, n2 = m + 1 := ⟨n2 - 1, by omega⟩
    have c9 : ((9 : Int32) < nI v) = True := ltT (a := 9) (by omega) (by omega)
    simp only [fX3_loan_L58, fX4_loan_G66, c9, if_true]
    exact ⟨_, _, _, rfl, rfl, h⟩
  | succ c ih =>
    intro v n1 n2 σ τ h hv hn1 hn2
    have h5 : P ≤ 5 := h.1.1
    obtain ⟨m1, rfl⟩ : ∃ m, n1 = m + 1 := ⟨n1 - 1, by omega⟩
    obtain ⟨m2, rfl⟩ : ∃ m, n2 = m + 1 := ⟨n2 - 1, by omega⟩
    have c9 : ((9 : Int32) < nI v) = False := ltF (a := 9) (by omega) (by omega)
    obtain ⟨r, σ', τ', a1, a2, a3⟩ := lend_L hp ht wh v P 0 m1 m2 σ τ h (by omega) (by omega) (by omega)
    rw [n0] at a1
    rw [fX3_loan_L58, fX4_loan_G66, if_pos rfl]
    simp only [c9, if_false, fX0_lenderOf, a1, nI_1]
    rw [n0] at a3
    rcases a3 with ⟨rfl, n3, b2, b3⟩ | ⟨b1, b2⟩
    · rw [b3]
      simp only [bind2, if_true]
      exact ih (v + 1) m1 n3 σ' τ' a2 (by omega) (by omega) (by omega)
    · rw [b2]
      simp only [bind2, if_neg b1]
      by_cases cw : wh = 0
      · simp only [if_pos cw]; exact ⟨_, _, _, rfl, rfl, a2⟩
      · simp only [if_neg cw]; exact ⟨_, _, _, rfl, rfl, a2⟩
theorem q_loan {σ τ : St} (h : Rl σ τ) (x y z : Int32) : ∃ r σ' τ', fX3_loan 150 σ x y z = some (r, σ') ∧ fX4_loan 150 τ x y z = some (r, τ') ∧ Rl σ' τ' := by
  obtain ⟨P, lam, rd, hq⟩ := id h
  have hr := hq.1
  have hz := hq.2.2.2
  have h5 : P ≤ 5 := hr.1
  have h32 := p32 h5
  have core : ∀ b : Int32, (b = 0 → fX4_within z 0 1 = some 0) → (¬ b = 0 → fX4_within z 0 1 = some 1) → ∃ r σ' τ', ((fX3_refusalOfOneIn σ x y b).bind fun r3 => if r3 = 0 then ((fX0_pullersOf 150 σ y).bind fun r6 => if r6 = (1 : Int32) <<< (x &&& 31) then (if z = 0 then (some (0, σ)) else (some ((-9), σ))) else (fX3_loan_L58 150 σ x y z 1)) else (some (r3, σ))) = some (r, σ') ∧ fX4_loan 150 τ x y z = some (r, τ') ∧ Rl σ' τ' := by
    intro b hb2 hb3
    rw [fX4_loan]
    rcases refO hr x y b with ⟨a, c⟩ | ⟨p, hp, rfl, c, ⟨a, d⟩ | ⟨t, ht, rfl, d, ⟨q, a⟩ | ⟨q0, q, a⟩ | ⟨q0, q, a⟩⟩⟩
    · rw [a, c]; exact ⟨_, _, _, rfl, rfl, h⟩
    · rw [a, c, d]; exact ⟨_, _, _, rfl, rfl, h⟩
    · rw [a, c, d, hb2 q]; exact ⟨_, _, _, rfl, rfl, h⟩
    · rw [a, c, d, hb3 q0, of0 (by omega) (by omega) q]; exact ⟨_, _, _, rfl, rfl, h⟩
    · rw [a, c, d, hb3 q0, of1 (by omega) (by omega) q]
      obtain ⟨u, -, -, p1, p2⟩ := pull_0 (load := t) (n1 := 150) (n2 := 150) hr (by omega) hz.2.2.1 hz.2.2.2 (by decide) (by decide)
      simp only [if_true, if_false, Option.bind_some, i10, i01, im1, im2, im3, im9, p1, p2]
      by_cases cu : nI u = (1 : Int32) <<< (nI p &&& 31)
      · simp only [if_pos cu]
        by_cases cz : z = 0
        · simp only [if_pos cz]; exact ⟨_, _, _, rfl, rfl, h⟩
        · simp only [if_neg cz]; exact ⟨_, _, _, rfl, rfl, h⟩
      · simp only [if_neg cu]
        obtain ⟨r, σ', τ', a1, a2, a3⟩ := loan_L hp (show t < 32 by omega) z 9 1 150 150 σ τ hq (by decide) (by decide) (by decide)
        rw [n1] at a1 a2
        exact ⟨r, σ', τ', a1, a2, P, lam, rd, a3⟩
  rw [fX3_loan]
  by_cases c0 : z = 0
  · rw [if_pos c0]
    exact core 1 (fun q => absurd q (by decide)) (fun _ => by subst c0; rfl)
  · by_cases c1 : z = 1
    · rw [if_neg c0, if_pos c1]
      exact core 1 (fun q => absurd q (by decide)) (fun _ => by subst c1; rfl)
    · rw [if_neg c0, if_neg c1]
      refine core 0 (fun _ => ?_) (fun q => absurd rfl q)
      rw [wi]
      by_cases g : z < 0
      · rw [if_pos g]
      · rw [if_neg g, if_pos]
        apply Int32.not_le.mp
        intro hle
        obtain ⟨j, hj, rfl⟩ := nI_of2 (M := 1) (n := 1) (by decide) g hle
        rcases (show j = 0 ∨ j = 1 by omega) with rfl | rfl
        · exact c0 rfl
        · exact c1 rfl
