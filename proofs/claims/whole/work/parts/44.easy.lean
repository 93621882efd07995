/-! THE CALLS WITHOUT A LOOP OF THEIR OWN -/
theorem q_ofPerson {σ τ : St} (h : Rl σ τ) (x y : Int32) : ∃ r, fX3_ofPerson 50 σ x y = some r ∧ fX4_ofPerson 50 τ x y = some r := by
  obtain ⟨P, lam, rd, hr, -⟩ := h
  have h5 : P ≤ 5 := hr.1
  rw [fX3_ofPerson, fX4_ofPerson]
  rcases per hr x with ⟨a, c⟩ | ⟨p, hp, rfl, a, c⟩
  · rw [a, c]; exact ⟨_, rfl, rfl⟩
  · rw [a, c]
    obtain ⟨r, n1, n2⟩ := notes_R hr hp (show 6 ≤ 50 by decide) (show 6 ≤ 50 by decide)
    have hl := hr.2.2.2.2.2.2.1
    have hk := (hr.2.2.2.2.2.2.2.1 p hp).1
    have hm := hr.2.2.2.2.2.2.2.2.1 p hp
    simp only [if_true, if_false, Option.bind_some, i10, i01, im1, im2, im3, im9, n1, n2, cN (show p < 2 ^ 31 by omega), gP (show p < 5 by omega) (by decide), hl, hk, hm, bt5 lam hr.2.1 p (by omega)]
    by_cases c0 : y = 0
    · simp only [if_pos c0]; exact ⟨_, rfl, rfl⟩
    · by_cases c1 : y = 1
      · simp only [if_neg c0, if_pos c1]; exact ⟨_, rfl, rfl⟩
      · by_cases c2 : y = 2
        · simp only [if_neg c0, if_neg c1, if_pos c2]; exact ⟨_, rfl, rfl⟩
        · simp only [if_neg c0, if_neg c1, if_neg c2]; exact ⟨_, rfl, rfl⟩
theorem q_owes {σ τ : St} (h : Rl σ τ) (x y : Int32) : ∃ r, fX3_owes σ x y = some r ∧ fX4_owes τ x y = some r := by
  obtain ⟨P, lam, rd, hr, -⟩ := h
  have h5 : P ≤ 5 := hr.1
  rw [fX3_owes, fX4_owes]
  rcases per hr x with ⟨a, c⟩ | ⟨p, hp, rfl, a, c⟩
  · rw [a, c]; exact ⟨_, rfl, rfl⟩
  · rcases per hr y with ⟨a', c'⟩ | ⟨q, hq, rfl, a', c'⟩
    · rw [a, c, a', c']; exact ⟨_, rfl, rfl⟩
    · rw [a, c, a', c']
      simp only [if_true, if_false, Option.bind_some, i10, i01, im1, im2, im3, im9, e5, cN (show p < 2 ^ 31 by omega), cN (show q < 2 ^ 31 by omega), cN (show 5 * p + q < 2 ^ 31 by omega), gP (show p < 5 by omega) (by decide), gP (show q < 5 by omega) (by decide), gP (show 5 * p + q < 25 by omega) (by decide), hr.2.2.2.2.2.2.2.2.2 p q hp hq]
      exact ⟨_, rfl, rfl⟩
theorem wi {x a b : Int32} : fX4_within x a b = (if x < a then some 0 else if b < x then some 0 else some 1) := rfl
theorem Rr.note {σ τ : St} {P lam p q : Nat} (h : Rr σ τ P lam) (hp : p < P) (hq : q < P) (v : Int32) : Rr (up2 σ (13 + p) q v) (up2 τ 6 (5 * p + q) v) P lam := by
  obtain ⟨h1, h2, h3, h4, h5, h6, h7, h8, h9, h10⟩ := h
  refine ⟨h1, h2, ?_, ?_, ?_, ?_, ?_, ?_, ?_, ?_⟩
  · rw [upz (by omega)]; exact h3
  · rw [upz (by omega)]; exact h4
  · rw [upz (by omega), upz (by omega)]; exact h5
  · rw [upz (by omega), upz (by omega)]; exact h6
  · rw [upz (by omega)]; exact h7
  · intro a ha; rw [upz (by omega), upz (by omega)]; exact h8 a ha
  · intro a ha; rw [upz (by omega)]; exact h9 a ha
  · intro a b ha hb
    rw [up2e, up2e]
    by_cases c : a = p ∧ b = q
    · rw [if_pos ⟨by omega, c.2⟩, if_pos ⟨rfl, by omega⟩]
    · rw [if_neg (fun z => c ⟨by omega, z.2⟩), if_neg (fun z => c (by omega))]
      exact h10 a b ha hb
theorem q_lend {σ τ : St} (h : Rl σ τ) (x y z : Int32) : ∃ r σ' τ', fX3_lend σ x y z = some (r, σ') ∧ fX4_lend τ x y z = some (r, τ') ∧ Rl σ' τ' := by
  obtain ⟨P, lam, rd, hr, hd, hs, hz⟩ := id h
  have h5 : P ≤ 5 := hr.1
  rw [fX3_lend, fX4_lend]
  rcases pair hr x y with ⟨a, c⟩ | ⟨p, q, hp, hq, hpq, rfl, rfl, a, c⟩
  · rw [a, c]; exact ⟨_, _, _, rfl, rfl, h⟩
  · rw [a, c, wi]
    simp only [if_true, if_false, Option.bind_some, i10, i01, im1, im2, im3, im9]
    by_cases c0 : z < 0
    · simp only [if_pos c0, if_true, if_false, Option.bind_some, i10, i01, im1, im2, im3, im9]; exact ⟨_, _, _, rfl, rfl, h⟩
    · by_cases c1 : z ≤ 9
      · have c1' : ¬ 9 < z := Int32.not_lt.mpr c1
        simp only [if_neg c0, if_pos c1, if_neg c1', if_true, if_false, Option.bind_some, i10, i01, im1, im2, im3, im9, e5, cN (show p < 2 ^ 31 by omega), cN (show q < 2 ^ 31 by omega), cN (show 5 * p + q < 2 ^ 31 by omega), gP (show p < 5 by omega) (by decide), gP (show q < 5 by omega) (by decide), gP (show 5 * p + q < 25 by omega) (by decide), hr.2.2.2.2.2.2.2.2.2 p q hp hq]
        exact ⟨_, _, _, rfl, rfl, P, lam, rd, hr.note hp hq z, hd.mv (by intros; first | rfl | (simp (disch := omega) only [upz, upj]; done)) (by intros; first | rfl | (simp (disch := omega) only [upz, upj]; done)) (by intros; first | rfl | (simp (disch := omega) only [upz, upj]; done)) (by intros; first | rfl | (simp (disch := omega) only [upz, upj]; done)) (by intros; first | rfl | (simp (disch := omega) only [upz, upj]; done)) (by intros; first | rfl | (simp (disch := omega) only [upz, upj]; done)), hs.mv (by intros; first | rfl | (simp (disch := omega) only [upz, upj]; done)) (by intros; first | rfl | (simp (disch := omega) only [upz, upj]; done)) (by intros; first | rfl | (simp (disch := omega) only [upz, upj]; done)) (by intros; first | rfl | (simp (disch := omega) only [upz, upj]; done)), hz.mv (by intros; first | rfl | (simp (disch := omega) only [upz, upj]; done)) (by intros; first | rfl | (simp (disch := omega) only [upz, upj]; done)) (by intros; first | rfl | (simp (disch := omega) only [upz, upj]; done)) (by intros; first | rfl | (simp (disch := omega) only [upz, upj]; done)) (by intros; first | rfl | (simp (disch := omega) only [upz, upj]; done)) (by intros; first | rfl | (simp (disch := omega) only [upz, upj]; done))⟩
      · have c1' : 9 < z := Int32.not_le.mp c1
        simp only [if_neg c0, if_neg c1, if_pos c1', if_true, if_false, Option.bind_some, i10, i01, im1, im2, im3, im9]; exact ⟨_, _, _, rfl, rfl, h⟩
theorem q_count {σ τ : St} (h : Rl σ τ) (z : Int32) : ∃ r σ' τ', fX3_count σ z = some (r, σ') ∧ fX4_count τ z = some (r, τ') ∧ Rl σ' τ' := by
  obtain ⟨P, lam, rd, hr, hd, hs, hz⟩ := id h
  rw [fX3_count, fX4_count, wi]
  by_cases c0 : z < 1
  · simp only [if_pos c0, if_true, if_false, Option.bind_some, i10, i01, im1, im2, im3, im9]; exact ⟨_, _, _, rfl, rfl, h⟩
  · by_cases c1 : z ≤ 3
    · have c1' : ¬ 3 < z := Int32.not_lt.mpr c1
      simp only [if_neg c0, if_pos c1, if_neg c1', if_true, if_false, Option.bind_some, i10, i01, im1, im2, im3, im9]
      rcases the hr with ⟨a, b⟩ | ⟨a, b, -⟩
      · rw [a, if_pos b]; exact ⟨_, _, _, rfl, rfl, h⟩
      · rw [a, if_neg b]
        obtain ⟨h1, h2, h3, h4, h5, h6, h7, h8, h9, h10⟩ := hr
        refine ⟨_, _, _, rfl, by rw [h6], P, lam, rd, ⟨h1, h2, ?_, ?_, ?_, ?_, ?_, ?_, ?_, ?_⟩, hd.mv (by intros; first | rfl | (simp (disch := omega) only [upz, upj]; done)) (by intros; first | rfl | (simp (disch := omega) only [upz, upj]; done)) (by intros; first | rfl | (simp (disch := omega) only [upz, upj]; done)) (by intros; first | rfl | (simp (disch := omega) only [upz, upj]; done)) (by intros; first | rfl | (simp (disch := omega) only [upz, upj]; done)) (by intros; first | rfl | (simp (disch := omega) only [upz, upj]; done)), hs.mv (by intros; first | rfl | (simp (disch := omega) only [upz, upj]; done)) (by intros; first | rfl | (simp (disch := omega) only [upz, upj]; done)) (by intros; first | rfl | (simp (disch := omega) only [upz, upj]; done)) (by intros; first | rfl | (simp (disch := omega) only [upz, upj]; done)), ?_⟩
        · rw [upj (by decide)]; exact h3
        · rw [upj (by decide)]; exact h4
        · rw [upj (by decide), upj (by decide)]; exact h5
        · rw [upe, upe]
        · rw [upj (by decide)]; exact h7
        · intro p hp; rw [upz (by decide), upz (by decide)]; exact h8 p hp
        · intro p hp; rw [upz (by decide)]; exact h9 p hp
        · intro p q hp hq; rw [upz (by omega), upz (by decide)]; exact h10 p q hp hq
        · exact hz.mv (by intros; first | rfl | (simp (disch := omega) only [upz, upj]; done)) (by intros; first | rfl | (simp (disch := omega) only [upz, upj]; done)) (by intros; first | rfl | (simp (disch := omega) only [upz, upj]; done)) (by intros; first | rfl | (simp (disch := omega) only [upz, upj]; done)) (by intros; first | rfl | (simp (disch := omega) only [upz, upj]; done)) (by intros; first | rfl | (simp (disch := omega) only [upz, upj]; done))
    · have c1' : 3 < z := Int32.not_le.mp c1
      simp only [if_neg c0, if_neg c1, if_pos c1', if_true, if_false, Option.bind_some, i10, i01, im1, im2, im3, im9]; exact ⟨_, _, _, rfl, rfl, h⟩
theorem q_build {σ τ : St} (h : Rl σ τ) (z : Int32) : ∃ r σ' τ', fX3_build σ z = some (r, σ') ∧ fX4_build τ z = some (r, τ') ∧ Rl σ' τ' := by
  obtain ⟨P, lam, rd, hr, hd, hs, hz⟩ := id h
  rw [fX3_build, fX4_build, wi]
  by_cases c0 : z < 1
  · simp only [if_pos c0, if_true, if_false, Option.bind_some, i10, i01, im1, im2, im3, im9]; exact ⟨_, _, _, rfl, rfl, h⟩
  · by_cases c1 : z ≤ 3
    · have c1' : ¬ 3 < z := Int32.not_lt.mpr c1
      simp only [if_neg c0, if_pos c1, if_neg c1', if_true, if_false, Option.bind_some, i10, i01, im1, im2, im3, im9]
      rcases the hr with ⟨a, b⟩ | ⟨a, b, -⟩
      · rw [a, if_pos b]; exact ⟨_, _, _, rfl, rfl, h⟩
      · rw [a, if_neg b]
        obtain ⟨h1, h2, h3, h4, h5, h6, h7, h8, h9, h10⟩ := hr
        refine ⟨_, _, _, rfl, by rw [h5], P, lam, rd, ⟨h1, h2, ?_, ?_, ?_, ?_, ?_, ?_, ?_, ?_⟩, hd.mv (by intros; first | rfl | (simp (disch := omega) only [upz, upj]; done)) (by intros; first | rfl | (simp (disch := omega) only [upz, upj]; done)) (by intros; first | rfl | (simp (disch := omega) only [upz, upj]; done)) (by intros; first | rfl | (simp (disch := omega) only [upz, upj]; done)) (by intros; first | rfl | (simp (disch := omega) only [upz, upj]; done)) (by intros; first | rfl | (simp (disch := omega) only [upz, upj]; done)), hs.mv (by intros; first | rfl | (simp (disch := omega) only [upz, upj]; done)) (by intros; first | rfl | (simp (disch := omega) only [upz, upj]; done)) (by intros; first | rfl | (simp (disch := omega) only [upz, upj]; done)) (by intros; first | rfl | (simp (disch := omega) only [upz, upj]; done)), ?_⟩
        · rw [upj (by decide)]; exact h3
        · rw [upj (by decide)]; exact h4
        · rw [upe, upe]
        · rw [upj (by decide), upj (by decide)]; exact h6
        · rw [upj (by decide)]; exact h7
        · intro p hp; rw [upz (by decide), upz (by decide)]; exact h8 p hp
        · intro p hp; rw [upz (by decide)]; exact h9 p hp
        · intro p q hp hq; rw [upz (by omega), upz (by decide)]; exact h10 p q hp hq
        · exact hz.mv (by intros; first | rfl | (simp (disch := omega) only [upz, upj]; done)) (by intros; first | rfl | (simp (disch := omega) only [upz, upj]; done)) (by intros; first | rfl | (simp (disch := omega) only [upz, upj]; done)) (by intros; first | rfl | (simp (disch := omega) only [upz, upj]; done)) (by intros; first | rfl | (simp (disch := omega) only [upz, upj]; done)) (by intros; first | rfl | (simp (disch := omega) only [upz, upj]; done))
    · have c1' : 3 < z := Int32.not_le.mp c1
      simp only [if_neg c0, if_neg c1, if_pos c1', if_true, if_false, Option.bind_some, i10, i01, im1, im2, im3, im9]; exact ⟨_, _, _, rfl, rfl, h⟩
theorem q_debt {σ τ : St} (h : Rl σ τ) (x y : Int32) : ∃ r, fX3_debt 50 σ x y = some r ∧ fX4_debt 50 τ x y = some r := by
  obtain ⟨P, lam, rd, hr, hd, hs, hz⟩ := h
  have h5 : P ≤ 5 := hr.1
  have h32 := p32 h5
  rw [fX3_debt, fX4_debt]
  rcases refO hr x y 1 with ⟨a, c⟩ | ⟨p, hp, rfl, c, ⟨a, d⟩ | ⟨t, ht, rfl, d, ⟨q, -⟩ | ⟨-, q, a⟩ | ⟨-, q, a⟩⟩⟩
  · rw [a, c]; exact ⟨_, rfl, rfl⟩
  · rw [a, c, d]; exact ⟨_, rfl, rfl⟩
  · exact absurd q (by decide)
  · rw [a, c, d, of0 (by omega) (by omega) q]; exact ⟨_, rfl, rfl⟩
  · obtain ⟨r, d1, d2⟩ := debt_R (forg := 0) (wet := 0) (load := t) (n1 := 50) (n2 := 50) hr hp (by omega) (by decide) (by decide) (by simp) hz.2.2.1 hz.2.2.2 (by decide) (by decide)
    rw [n0] at d1
    rw [a, c, d, of1 (by omega) (by omega) q]
    simp only [if_true, if_false, Option.bind_some, i10, i01, im1, im2, im3, im9, d1, d2]
    exact ⟨_, rfl, rfl⟩
theorem q_pullers {σ τ : St} (h : Rl σ τ) (x : Int32) : ∃ r, fX3_pullers 50 σ x = some r ∧ fX4_pullers 50 τ x = some r := by
  obtain ⟨P, lam, rd, hr, hd, hs, hz⟩ := h
  have h32 := p32 hr.1
  rw [fX3_pullers, fX4_pullers]
  rcases refL hr x with ⟨a, b⟩ | ⟨a, b, c⟩ | ⟨t, ht, rfl, a, b, c⟩
  · rw [a, if_pos b]; exact ⟨_, rfl, rfl⟩
  · rw [a, if_neg b, c]; exact ⟨_, rfl, rfl⟩
  · obtain ⟨u, -, -, p1, p2⟩ := pull_0 (load := t) (n1 := 50) (n2 := 50) hr (by omega) hz.2.2.1 hz.2.2.2 (by decide) (by decide)
    rw [a, if_neg b, c]
    simp only [if_true, if_false, Option.bind_some, i10, i01, im1, im2, im3, im9, p1, p2]
    exact ⟨_, rfl, rfl⟩
theorem q_fair {σ τ : St} (h : Rl σ τ) (x : Int32) : ∃ r, fX3_fair 50 σ x = some r ∧ fX4_fair 50 τ x = some r := by
  obtain ⟨P, lam, rd, hr, hd, hs, hz⟩ := h
  have h32 := p32 hr.1
  rw [fX3_fair, fX4_fair]
  rcases refL hr x with ⟨a, b⟩ | ⟨a, b, c⟩ | ⟨t, ht, rfl, a, b, c⟩
  · rw [a, if_pos b]; exact ⟨_, rfl, rfl⟩
  · rw [a, if_neg b, c]; exact ⟨_, rfl, rfl⟩
  · obtain ⟨r, hr01, p1, p2⟩ := fair_R (load := t) (n1 := 50) (n2 := 50) hr (by omega) hz.2.2.1 hz.2.2.2 (by decide) (by decide)
    rw [a, if_neg b, c]
    simp only [if_true, if_false, Option.bind_some, i10, i01, im1, im2, im3, im9, p1, p2]
    rcases hr01 with rfl | rfl
    · exact ⟨_, rfl, rfl⟩
    · exact ⟨_, rfl, rfl⟩
theorem q_trace {σ τ : St} (h : Rl σ τ) : ∃ r, fX3_trace σ = some r ∧ fX4_trace τ = some r := by
  obtain ⟨P, lam, rd, hr, hd, hs, hz⟩ := h
  exact ⟨_, rfl, by rw [fX4_trace, hz.2.1]⟩
theorem q_fault {σ τ : St} (h : Rl σ τ) : ∃ r, fX3_fault σ = some r ∧ fX4_fault τ = some r := by
  obtain ⟨P, lam, rd, hr, hd, hs, hz⟩ := h
  exact ⟨_, rfl, by rw [fX4_fault, hz.1]⟩
theorem q_many {σ τ : St} (h : Rl σ τ) (x : Int32) : ∃ r, fX3_many σ x = some r ∧ fX4_many τ x = some r := by
  obtain ⟨P, lam, rd, hr, hd, hs, hz⟩ := h
  rw [fX3_many, fX4_many, hr.2.2.1, hr.2.2.2.1, hr.2.2.2.2.1, hr.2.2.2.2.2.1, hd.2.1, hd.2.2.1]
  by_cases c0 : x = 0
  · simp only [if_pos c0]; exact ⟨_, rfl, rfl⟩
  · by_cases c1 : x = 1
    · simp only [if_neg c0, if_pos c1]; exact ⟨_, rfl, rfl⟩
    · by_cases c2 : x = 2
      · simp only [if_neg c0, if_neg c1, if_pos c2]; exact ⟨_, rfl, rfl⟩
      · by_cases c3 : x = 3
        · simp only [if_neg c0, if_neg c1, if_neg c2, if_pos c3]; exact ⟨_, rfl, rfl⟩
        · simp only [if_neg c0, if_neg c1, if_neg c2, if_neg c3]; exact ⟨_, rfl, rfl⟩
theorem Rl.fault {σ τ : St} (h : Rl σ τ) (v : Int32) : Rl (up2 σ 0 3 v) (up2 τ 0 0 v) := by
  obtain ⟨P, lam, rd, hr, hd, hs, hz⟩ := h
  exact ⟨P, lam, rd, hr.mv (by intros; first | rfl | (simp (disch := omega) only [upz, upj]; done)) (by intros; first | rfl | (simp (disch := omega) only [upz, upj]; done)) (by intros; first | rfl | (simp (disch := omega) only [upz, upj]; done)) (by intros; first | rfl | (simp (disch := omega) only [upz, upj]; done)) (by intros; first | rfl | (simp (disch := omega) only [upz, upj]; done)) (by intros; first | rfl | (simp (disch := omega) only [upz, upj]; done)) (by intros; first | rfl | (simp (disch := omega) only [upz, upj]; done)), hd.mv (by intros; first | rfl | (simp (disch := omega) only [upz, upj]; done)) (by intros; first | rfl | (simp (disch := omega) only [upz, upj]; done)) (by intros; first | rfl | (simp (disch := omega) only [upz, upj]; done)) (by intros; first | rfl | (simp (disch := omega) only [upz, upj]; done)) (by intros; first | rfl | (simp (disch := omega) only [upz, upj]; done)) (by intros; first | rfl | (simp (disch := omega) only [upz, upj]; done)), hs.mv (by intros; first | rfl | (simp (disch := omega) only [upz, upj]; done)) (by intros; first | rfl | (simp (disch := omega) only [upz, upj]; done)) (by intros; first | rfl | (simp (disch := omega) only [upz, upj]; done)) (by intros; first | rfl | (simp (disch := omega) only [upz, upj]; done)), by rw [upe, upe], by rw [upj (by decide), upj (by decide)]; exact hz.2.1, by rw [upj (by decide)]; exact hz.2.2.1, by rw [upj (by decide)]; exact hz.2.2.2⟩
theorem Rl.trace {σ τ : St} (h : Rl σ τ) (v : Int32) : Rl (up2 σ 0 2 v) (up2 τ 0 1 v) := by
  obtain ⟨P, lam, rd, hr, hd, hs, hz⟩ := h
  exact ⟨P, lam, rd, hr.mv (by intros; first | rfl | (simp (disch := omega) only [upz, upj]; done)) (by intros; first | rfl | (simp (disch := omega) only [upz, upj]; done)) (by intros; first | rfl | (simp (disch := omega) only [upz, upj]; done)) (by intros; first | rfl | (simp (disch := omega) only [upz, upj]; done)) (by intros; first | rfl | (simp (disch := omega) only [upz, upj]; done)) (by intros; first | rfl | (simp (disch := omega) only [upz, upj]; done)) (by intros; first | rfl | (simp (disch := omega) only [upz, upj]; done)), hd.mv (by intros; first | rfl | (simp (disch := omega) only [upz, upj]; done)) (by intros; first | rfl | (simp (disch := omega) only [upz, upj]; done)) (by intros; first | rfl | (simp (disch := omega) only [upz, upj]; done)) (by intros; first | rfl | (simp (disch := omega) only [upz, upj]; done)) (by intros; first | rfl | (simp (disch := omega) only [upz, upj]; done)) (by intros; first | rfl | (simp (disch := omega) only [upz, upj]; done)), hs.mv (by intros; first | rfl | (simp (disch := omega) only [upz, upj]; done)) (by intros; first | rfl | (simp (disch := omega) only [upz, upj]; done)) (by intros; first | rfl | (simp (disch := omega) only [upz, upj]; done)) (by intros; first | rfl | (simp (disch := omega) only [upz, upj]; done)), by rw [upj (by decide), upj (by decide)]; exact hz.1, by rw [upe, upe], by rw [upj (by decide)]; exact hz.2.2.1, by rw [upj (by decide)]; exact hz.2.2.2⟩
