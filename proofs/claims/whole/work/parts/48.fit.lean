/-! WHAT FITS THE READINGS -/
def Rq (σ τ : St) (P lam rd : Nat) : Prop := Rr σ τ P lam ∧ Rd σ τ P rd ∧ Rs σ τ ∧ Rz σ τ
theorem so_L {σ τ : St} {P lam rd : Nat} (h : Rq σ τ P lam rd) : ∀ (k i n1 n2 : Nat), i + k = rd → k + 13 ≤ n1 → k + 13 ≤ n2 → ∃ r : Int32, fX0_areReadingsSo_L2 n1 σ (nI i) = some r ∧ fX4_areSo_L2 n2 τ (nI i) = some r := by
  obtain ⟨hr, hd, -, hz⟩ := h
  obtain ⟨d1, d2, d3, d4⟩ := hd
  have h32 := p32 hr.1
  intro k
  induction k with
  | zero =>
    intro i n1 n2 hi hn1 hn2
    obtain ⟨m1, rfl⟩ : ∃ m, n1 = m + 1 := ⟨n1 - 1, by omega⟩
    obtain ⟨m2, rfl⟩ : ∃ m, n2 = m + 1 := ⟨n2 - 1, by omega⟩
    simp only [fX0_areReadingsSo_L2, fX4_areSo_L2, d2, d3, leT (show rd ≤ i by omega) (show i < 2 ^ 31 by omega), if_true]
    exact ⟨_, rfl, rfl⟩
  | succ k ih =>
    intro i n1 n2 hi hn1 hn2
    obtain ⟨m1, rfl⟩ : ∃ m, n1 = m + 1 := ⟨n1 - 1, by omega⟩
    obtain ⟨m2, rfl⟩ : ∃ m, n2 = m + 1 := ⟨n2 - 1, by omega⟩
    obtain ⟨e1, e2, ld, hld, e3⟩ := d4 i (by omega)
    obtain ⟨u, -, -, p1, p2⟩ := pull_0 (load := ld) (n1 := m1) (n2 := m2) hr (by omega) hz.2.2.1 hz.2.2.2 (by omega) (by omega)
    simp only [fX0_areReadingsSo_L2, fX4_areSo_L2, d2, d3, leF (show i < rd by omega) (show rd < 2 ^ 31 by omega), cN (show i < 2 ^ 31 by omega), gP (show i < 8 by omega) (by decide), e1, e2, e3, p1, p2, if_false, Option.bind_some, nI_1]
    by_cases c : nI u = τ 13 i
    · rw [if_pos c, if_pos c]; exact ih (i + 1) m1 m2 (by omega) (by omega) (by omega)
    · rw [if_neg c, if_neg c]; exact ⟨_, rfl, rfl⟩
theorem so_R {σ τ : St} {P lam rd : Nat} (h : Rq σ τ P lam rd) {n1 n2 : Nat} (hn1 : 21 ≤ n1) (hn2 : 21 ≤ n2) : ∃ r : Int32, fX0_areReadingsSo n1 σ = some r ∧ fX4_areSo n2 τ = some r := by
  have := h.2.1.1
  exact so_L h rd 0 n1 n2 (by omega) (by omega) (by omega)
theorem Rq.note {σ τ : St} {P lam rd p q : Nat} (h : Rq σ τ P lam rd) (hp : p < P) (hq : q < P) (v : Int32) : Rq (up2 σ (13 + p) q v) (up2 τ 6 (5 * p + q) v) P lam rd := by
  obtain ⟨hr, hd, hs, hz⟩ := h
  have h5 : P ≤ 5 := hr.1
  exact ⟨hr.note hp hq v, hd.mv (by intros; first | rfl | (simp (disch := omega) only [upz, upj]; done)) (by intros; first | rfl | (simp (disch := omega) only [upz, upj]; done)) (by intros; first | rfl | (simp (disch := omega) only [upz, upj]; done)) (by intros; first | rfl | (simp (disch := omega) only [upz, upj]; done)) (by intros; first | rfl | (simp (disch := omega) only [upz, upj]; done)) (by intros; first | rfl | (simp (disch := omega) only [upz, upj]; done)), hs.mv (by intros; first | rfl | (simp (disch := omega) only [upz, upj]; done)) (by intros; first | rfl | (simp (disch := omega) only [upz, upj]; done)) (by intros; first | rfl | (simp (disch := omega) only [upz, upj]; done)) (by intros; first | rfl | (simp (disch := omega) only [upz, upj]; done)), hz.mv (by intros; first | rfl | (simp (disch := omega) only [upz, upj]; done)) (by intros; first | rfl | (simp (disch := omega) only [upz, upj]; done)) (by intros; first | rfl | (simp (disch := omega) only [upz, upj]; done)) (by intros; first | rfl | (simp (disch := omega) only [upz, upj]; done)) (by intros; first | rfl | (simp (disch := omega) only [upz, upj]; done)) (by intros; first | rfl | (simp (disch := omega) only [upz, upj]; done))⟩
theorem notes_loop {P lam rd p q : Nat} (hp : p < P) (hq : q < P) (was : Int32) : ∀ (c v n1 n2 : Nat) (σ τ : St) (acc : Int32), Rq σ τ P lam rd → v + c = 10 → c + 22 ≤ n1 → c + 22 ≤ n2 → ∃ r σ' τ', fX0_notesThatFit_L15 n1 σ (nI p) (nI q) was acc (nI v) = some (r, σ') ∧ fX4_notes_L28 n2 τ (nI p) (nI q) was acc (nI v) = some (r, τ') ∧ Rq σ' τ' P lam rd := by
  intro c
  induction c with
  | zero =>
    intro v n1 n2 σ τ acc h hv hn1 hn2
    have h5 : P ≤ 5 := h.1.1
    obtain ⟨m1, rfl⟩ : ∃ m, n1 = m + 1 := ⟨n1 - 1, by omega⟩
    obtain ⟨m2, rfl⟩ : ∃ m, n2 = m + 1 := ⟨n2 - 1, by omega⟩
    have c9 : ((9 : Int32) < nI v) = True := ltT (a := 9) (by omega) (by omega)
    simp only [fX0_notesThatFit_L15, fX4_notes_L28, c9, e5, cN (show p < 2 ^ 31 by omega), cN (show q < 2 ^ 31 by omega), cN (show 5 * p + q < 2 ^ 31 by omega), gP (show p < 5 by omega) (by decide), gP (show q < 5 by omega) (by decide), gP (show 5 * p + q < 25 by omega) (by decide), if_true, if_false]
    exact ⟨_, _, _, rfl, rfl, h.note hp hq was⟩
  | succ c ih =>
    intro v n1 n2 σ τ acc h hv hn1 hn2
    have h5 : P ≤ 5 := h.1.1
    obtain ⟨m1, rfl⟩ : ∃ m, n1 = m + 1 := ⟨n1 - 1, by omega⟩
    obtain ⟨m2, rfl⟩ : ∃ m, n2 = m + 1 := ⟨n2 - 1, by omega⟩
    have c9 : ((9 : Int32) < nI v) = False := ltF (a := 9) (by omega) (by omega)
    have hq' := h.note hp hq (nI v)
    obtain ⟨r, s1, s2⟩ := so_R hq' (show 21 ≤ m1 by omega) (show 21 ≤ m2 by omega)
    simp only [fX0_notesThatFit_L15, fX4_notes_L28, c9, e5, cN (show p < 2 ^ 31 by omega), cN (show q < 2 ^ 31 by omega), cN (show 5 * p + q < 2 ^ 31 by omega), gP (show p < 5 by omega) (by decide), gP (show q < 5 by omega) (by decide), gP (show 5 * p + q < 25 by omega) (by decide), if_false, s1, s2, Option.bind_some, nI_1]
    by_cases c0 : r = 0
    · simp only [if_pos c0]; exact ih (v + 1) m1 m2 _ _ _ hq' (by omega) (by omega) (by omega)
    · simp only [if_neg c0]; exact ih (v + 1) m1 m2 _ _ _ hq' (by omega) (by omega) (by omega)
theorem q_notes {σ τ : St} (h : Rl σ τ) (x y : Int32) : ∃ r σ' τ', fX3_notes 50 σ x y = some (r, σ') ∧ fX4_notes 50 τ x y = some (r, τ') ∧ Rl σ' τ' := by
  obtain ⟨P, lam, rd, hq⟩ := id h
  have hr := hq.1
  have h5 : P ≤ 5 := hr.1
  rw [fX3_notes, fX4_notes]
  rcases pair hr x y with ⟨a, c⟩ | ⟨p, q, hp, hq2, hpq, rfl, rfl, a, c⟩
  · rw [a, c]; exact ⟨_, _, _, rfl, rfl, h⟩
  · rw [a, c]
    simp only [if_true, if_false, Option.bind_some, i10, i01, im1, im2, im3, im9, fX0_notesThatFit, e5, cN (show p < 2 ^ 31 by omega), cN (show q < 2 ^ 31 by omega), cN (show 5 * p + q < 2 ^ 31 by omega), gP (show p < 5 by omega) (by decide), gP (show q < 5 by omega) (by decide), gP (show 5 * p + q < 25 by omega) (by decide), hr.2.2.2.2.2.2.2.2.2 p q hp hq2]
    obtain ⟨r, σ', τ', s1, s2, s3⟩ := notes_loop hp hq2 (τ 6 (5 * p + q)) 10 0 50 50 σ τ 0 hq (by decide) (by decide) (by decide)
    rw [n0] at s1 s2
    rw [s1, s2]
    exact ⟨_, _, _, rfl, rfl, P, lam, rd, s3⟩
theorem Rq.kind {σ τ : St} {P lam rd p : Nat} (h : Rq σ τ P lam rd) (hp : p < P) {v : Int32} (hv : v = 0 ∨ v = 1 ∨ v = 2) : Rq (up2 σ 11 p v) (up2 τ 4 p v) P lam rd := by
  obtain ⟨hr, hd, hs, hz⟩ := h
  refine ⟨?_, hd.mv (by intros; first | rfl | (simp (disch := omega) only [upz, upj]; done)) (by intros; first | rfl | (simp (disch := omega) only [upz, upj]; done)) (by intros; first | rfl | (simp (disch := omega) only [upz, upj]; done)) (by intros; first | rfl | (simp (disch := omega) only [upz, upj]; done)) (by intros; first | rfl | (simp (disch := omega) only [upz, upj]; done)) (by intros; first | rfl | (simp (disch := omega) only [upz, upj]; done)), hs.mv (by intros; first | rfl | (simp (disch := omega) only [upz, upj]; done)) (by intros; first | rfl | (simp (disch := omega) only [upz, upj]; done)) (by intros; first | rfl | (simp (disch := omega) only [upz, upj]; done)) (by intros; first | rfl | (simp (disch := omega) only [upz, upj]; done)), hz.mv (by intros; first | rfl | (simp (disch := omega) only [upz, upj]; done)) (by intros; first | rfl | (simp (disch := omega) only [upz, upj]; done)) (by intros; first | rfl | (simp (disch := omega) only [upz, upj]; done)) (by intros; first | rfl | (simp (disch := omega) only [upz, upj]; done)) (by intros; first | rfl | (simp (disch := omega) only [upz, upj]; done)) (by intros; first | rfl | (simp (disch := omega) only [upz, upj]; done))⟩
  obtain ⟨h1, h2, h3, h4, h5, h6, h7, h8, h9, h10⟩ := hr
  refine ⟨h1, h2, ?_, ?_, ?_, ?_, ?_, ?_, ?_, ?_⟩
  · rw [upz (by omega)]; exact h3
  · rw [upz (by omega)]; exact h4
  · rw [upz (by omega), upz (by omega)]; exact h5
  · rw [upz (by omega), upz (by omega)]; exact h6
  · rw [upz (by omega)]; exact h7
  · intro a ha
    by_cases c : a = p
    · subst c; rw [upe, upe]; exact ⟨rfl, hv⟩
    · rw [upj c, upj c]; exact h8 a ha
  · intro a ha; rw [upz (by omega)]; exact h9 a ha
  · intro a b ha hb; rw [upz (by omega), upz (by omega)]; exact h10 a b ha hb
theorem kinds_loop {P lam rd p : Nat} (hp : p < P) {was : Int32} (hw : was = 0 ∨ was = 1 ∨ was = 2) : ∀ (c v n1 n2 : Nat) (σ τ : St) (acc : Int32), Rq σ τ P lam rd → v + c = 3 → c + 22 ≤ n1 → c + 22 ≤ n2 → ∃ r σ' τ', fX0_kindsThatFit_L12 n1 σ (nI p) was acc (nI v) = some (r, σ') ∧ fX4_kinds_L22 n2 τ (nI p) was acc (nI v) = some (r, τ') ∧ Rq σ' τ' P lam rd := by
  intro c
  induction c with
  | zero =>
    intro v n1 n2 σ τ acc h hv hn1 hn2
    have h5 : P ≤ 5 := h.1.1
    obtain ⟨m1, rfl⟩ : ∃ m, n1 = m + 1 := ⟨n1 - 1, by omega⟩
    obtain ⟨m2, rfl⟩ : ∃ m, n2 = m + 1 := ⟨n2 - 1, by omega⟩
    have c9 : ((2 : Int32) < nI v) = True := ltT (a := 2) (by omega) (by omega)
    have c8 : ((3 : Int32) ≤ nI v) = True := leT (a := 3) (by omega) (by omega)
    simp only [fX0_kindsThatFit_L12, fX4_kinds_L22, c9, c8, cN (show p < 2 ^ 31 by omega), gP (show p < 5 by omega) (by decide), if_true, if_false]
    exact ⟨_, _, _, rfl, rfl, h.kind hp hw⟩
  | succ c ih =>
    intro v n1 n2 σ τ acc h hv hn1 hn2
    have h5 : P ≤ 5 := h.1.1
    obtain ⟨m1, rfl⟩ : ∃ m, n1 = m + 1 := ⟨n1 - 1, by omega⟩
    obtain ⟨m2, rfl⟩ : ∃ m, n2 = m + 1 := ⟨n2 - 1, by omega⟩
    have c9 : ((2 : Int32) < nI v) = False := ltF (a := 2) (by omega) (by omega)
    have c8 : ((3 : Int32) ≤ nI v) = False := leF (a := 3) (by omega) (by omega)
    have hv3 : nI v = 0 ∨ nI v = 1 ∨ nI v = 2 := by
      rcases (show v = 0 ∨ v = 1 ∨ v = 2 by omega) with rfl | rfl | rfl
      · exact Or.inl rfl
      · exact Or.inr (Or.inl rfl)
      · exact Or.inr (Or.inr rfl)
    have hq' := h.kind hp hv3
    obtain ⟨r, s1, s2⟩ := so_R hq' (show 21 ≤ m1 by omega) (show 21 ≤ m2 by omega)
    simp only [fX0_kindsThatFit_L12, fX4_kinds_L22, c9, c8, cN (show p < 2 ^ 31 by omega), gP (show p < 5 by omega) (by decide), if_false, s1, s2, Option.bind_some, nI_1]
    by_cases c0 : r = 0
    · simp only [if_pos c0]; exact ih (v + 1) m1 m2 _ _ _ hq' (by omega) (by omega) (by omega)
    · simp only [if_neg c0]; exact ih (v + 1) m1 m2 _ _ _ hq' (by omega) (by omega) (by omega)
theorem q_kinds {σ τ : St} (h : Rl σ τ) (x : Int32) : ∃ r σ' τ', fX3_kinds 50 σ x = some (r, σ') ∧ fX4_kinds 50 τ x = some (r, τ') ∧ Rl σ' τ' := by
  obtain ⟨P, lam, rd, hq⟩ := id h
  have hr := hq.1
  have h5 : P ≤ 5 := hr.1
  rw [fX3_kinds, fX4_kinds]
  rcases per hr x with ⟨a, c⟩ | ⟨p, hp, rfl, a, c⟩
  · rw [a, c]; exact ⟨_, _, _, rfl, rfl, h⟩
  · rw [a, c]
    have hk := hr.2.2.2.2.2.2.2.1 p hp
    simp only [if_true, if_false, Option.bind_some, i10, i01, im1, im2, im3, im9, fX0_kindsThatFit, cN (show p < 2 ^ 31 by omega), gP (show p < 5 by omega) (by decide), hk.1]
    obtain ⟨r, σ', τ', s1, s2, s3⟩ := kinds_loop hp hk.2 3 0 50 50 σ τ 0 hq (by decide) (by decide) (by decide)
    rw [n0] at s1 s2
    rw [s1, s2]
    exact ⟨_, _, _, rfl, rfl, P, lam, rd, s3⟩
theorem Rq.times {σ τ : St} {P lam rd : Nat} (h : Rq σ τ P lam rd) (v : Int32) : Rq (up2 σ 10 2 v) (up2 τ 0 7 v) P lam rd := by
  obtain ⟨hr, hd, hs, hz⟩ := h
  refine ⟨?_, hd.mv (by intros; first | rfl | (simp (disch := omega) only [upz, upj]; done)) (by intros; first | rfl | (simp (disch := omega) only [upz, upj]; done)) (by intros; first | rfl | (simp (disch := omega) only [upz, upj]; done)) (by intros; first | rfl | (simp (disch := omega) only [upz, upj]; done)) (by intros; first | rfl | (simp (disch := omega) only [upz, upj]; done)) (by intros; first | rfl | (simp (disch := omega) only [upz, upj]; done)), hs.mv (by intros; first | rfl | (simp (disch := omega) only [upz, upj]; done)) (by intros; first | rfl | (simp (disch := omega) only [upz, upj]; done)) (by intros; first | rfl | (simp (disch := omega) only [upz, upj]; done)) (by intros; first | rfl | (simp (disch := omega) only [upz, upj]; done)), hz.mv (by intros; first | rfl | (simp (disch := omega) only [upz, upj]; done)) (by intros; first | rfl | (simp (disch := omega) only [upz, upj]; done)) (by intros; first | rfl | (simp (disch := omega) only [upz, upj]; done)) (by intros; first | rfl | (simp (disch := omega) only [upz, upj]; done)) (by intros; first | rfl | (simp (disch := omega) only [upz, upj]; done)) (by intros; first | rfl | (simp (disch := omega) only [upz, upj]; done))⟩
  obtain ⟨h1, h2, h3, h4, h5, h6, h7, h8, h9, h10⟩ := hr
  refine ⟨h1, h2, ?_, ?_, ?_, ?_, ?_, ?_, ?_, ?_⟩
  · rw [upj (by decide)]; exact h3
  · rw [upj (by decide)]; exact h4
  · rw [upj (by decide), upj (by decide)]; exact h5
  · rw [upe, upe]
  · rw [upj (by decide)]; exact h7
  · intro p hp; rw [upz (by decide), upz (by decide)]; exact h8 p hp
  · intro p hp; rw [upz (by decide)]; exact h9 p hp
  · intro p q hp hq; rw [upz (by omega), upz (by decide)]; exact h10 p q hp hq
theorem often_loop {P lam rd : Nat} (was : Int32) : ∀ (c v n1 n2 : Nat) (σ τ : St) (acc : Int32), Rq σ τ P lam rd → v + c = 4 → c + 22 ≤ n1 → c + 22 ≤ n2 → ∃ r σ' τ', fX0_timesThatFit_L9 n1 σ was acc (nI v) = some (r, σ') ∧ fX4_often_L19 n2 τ was acc (nI v) = some (r, τ') ∧ Rq σ' τ' P lam rd := by
  intro c
  induction c with
  | zero =>
    intro v n1 n2 σ τ acc h hv hn1 hn2
    obtain ⟨m1, rfl⟩ : ∃ m, n1 = m + 1 := ⟨n1 - 1, by omega⟩
    obtain ⟨m2, rfl⟩ : ∃ m, n2 = m + 1 := ⟨n2 - 1, by omega⟩
    have c9 : ((3 : Int32) < nI v) = True := ltT (a := 3) (by omega) (by omega)
    simp only [fX0_timesThatFit_L9, fX4_often_L19, c9, if_true, if_false]
    exact ⟨_, _, _, rfl, rfl, h.times was⟩
  | succ c ih =>
    intro v n1 n2 σ τ acc h hv hn1 hn2
    obtain ⟨m1, rfl⟩ : ∃ m, n1 = m + 1 := ⟨n1 - 1, by omega⟩
    obtain ⟨m2, rfl⟩ : ∃ m, n2 = m + 1 := ⟨n2 - 1, by omega⟩
    have c9 : ((3 : Int32) < nI v) = False := ltF (a := 3) (by omega) (by omega)
    have hq' := h.times (nI v)
    obtain ⟨r, s1, s2⟩ := so_R hq' (show 21 ≤ m1 by omega) (show 21 ≤ m2 by omega)
    simp only [fX0_timesThatFit_L9, fX4_often_L19, c9, if_false, s1, s2, Option.bind_some, nI_1]
    by_cases c0 : r = 0
    · simp only [if_pos c0]; exact ih (v + 1) m1 m2 _ _ _ hq' (by omega) (by omega) (by omega)
    · simp only [if_neg c0]; exact ih (v + 1) m1 m2 _ _ _ hq' (by omega) (by omega) (by omega)
theorem q_often {σ τ : St} (h : Rl σ τ) : ∃ r σ' τ', fX3_often 50 σ = some (r, σ') ∧ fX4_often 50 τ = some (r, τ') ∧ Rl σ' τ' := by
  obtain ⟨P, lam, rd, hq⟩ := id h
  rw [fX3_often, fX4_often]
  rcases the hq.1 with ⟨a, b⟩ | ⟨a, b, -⟩
  · rw [a, if_pos b]; exact ⟨_, _, _, rfl, rfl, h⟩
  · rw [a, if_neg b]
    simp only [if_true, if_false, Option.bind_some, i10, i01, im1, im2, im3, im9, fX0_timesThatFit, hq.1.2.2.2.2.2.1]
    obtain ⟨r, σ', τ', s1, s2, s3⟩ := often_loop (τ 0 7) 3 1 50 50 σ τ 0 hq (by decide) (by decide) (by decide)
    rw [n1] at s1 s2
    rw [s1, s2]
    exact ⟨_, _, _, rfl, rfl, P, lam, rd, s3⟩
