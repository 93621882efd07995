/-! WHAT THE TWO HOLD ALIKE -/
theorem upz {σ : St} {q i z j : Nat} {v : Int32} (h : z ≠ q) : up2 σ q i v z j = σ z j := congrFun (if_neg h) j
theorem upj {σ : St} {q i z j : Nat} {v : Int32} (h : j ≠ i) : up2 σ q i v z j = σ z j := by
  by_cases hz : z = q
  · subst hz
    show (if z = z then upd (σ z) i v else σ z) j = _
    rw [if_pos rfl]
    exact if_neg h
  · exact upz hz
theorem upe {σ : St} {q i : Nat} {v : Int32} : up2 σ q i v q i = v := by
  show (if q = q then upd (σ q) i v else σ q) i = _
  rw [if_pos rfl]
  exact if_pos rfl
theorem up2e (σ : St) (q i z j : Nat) (v : Int32) : up2 σ q i v z j = if z = q ∧ j = i then v else σ z j := by
  by_cases h : z = q
  · subst h
    by_cases g : j = i
    · subst g; rw [upe, if_pos ⟨rfl, rfl⟩]
    · rw [upj g, if_neg (fun q => g q.2)]
  · rw [upz h, if_neg (fun q => h q.1)]
theorem im1 : ((-1 : Int32) = 0) = False := by decide
theorem im2 : ((-2 : Int32) = 0) = False := by decide
theorem im3 : ((-3 : Int32) = 0) = False := by decide
theorem im9 : ((-9 : Int32) = 0) = False := by decide
def Rd (σ τ : St) (P rd : Nat) : Prop := rd ≤ 8 ∧ σ 10 6 = nI rd ∧ τ 0 26 = nI rd ∧ ∀ k, k < rd → σ 18 k = τ 12 k ∧ σ 19 k = τ 13 k ∧ ∃ ld, ld < 2 ^ P ∧ τ 12 k = nI ld
def Sh (σ τ : St) (k : Nat) : Prop := (σ (2 + k) 1 = 0 ∧ τ 1 k = -9) ∨ (σ (2 + k) 1 = 1 ∧ τ 1 k = σ (2 + k) 2 ∧ (τ 1 k = 0 ∨ τ 1 k = 1 ∨ τ 1 k = 2) ∧ ∃ len, len ≤ 60 ∧ σ (2 + k) 3 = nI len ∧ τ 2 k = nI len)
def Rs (σ τ : St) : Prop := ∀ k, k < 4 → Sh σ τ k ∧ ∀ i, i < 60 → σ (6 + k) i = τ 3 (60 * k + i)
def Rz (σ τ : St) : Prop := σ 0 3 = τ 0 0 ∧ σ 0 2 = τ 0 1 ∧ τ 0 18 = 0 ∧ τ 0 19 = 0
def Rl (σ τ : St) : Prop := ∃ P lam rd, Rr σ τ P lam ∧ Rd σ τ P rd ∧ Rs σ τ ∧ Rz σ τ
theorem Rr.mv {σ τ σ' τ' : St} {P lam : Nat} (h : Rr σ τ P lam) (a : ∀ j, j < 4 → σ' 10 j = σ 10 j) (b : ∀ j, σ' 11 j = σ 11 j) (c : ∀ p j, p < 5 → σ' (13 + p) j = σ (13 + p) j) (d : ∀ j, 5 ≤ j → j ≤ 7 → τ' 0 j = τ 0 j) (e : ∀ j, τ' 4 j = τ 4 j) (f : ∀ j, τ' 5 j = τ 5 j) (g : ∀ j, τ' 6 j = τ 6 j) : Rr σ' τ' P lam := by
  obtain ⟨h1, h2, h3, h4, h5, h6, h7, h8, h9, h10⟩ := h
  refine ⟨h1, h2, ?_, ?_, ?_, ?_, ?_, ?_, ?_, ?_⟩
  · rw [a 0 (by decide)]; exact h3
  · rw [d 5 (by decide) (by decide)]; exact h4
  · rw [a 1 (by decide), d 6 (by decide) (by decide)]; exact h5
  · rw [a 2 (by decide), d 7 (by decide) (by decide)]; exact h6
  · rw [a 3 (by decide)]; exact h7
  · intro p hp; rw [b, e]; exact h8 p hp
  · intro p hp; rw [f]; exact h9 p hp
  · intro p q hp hq; rw [c p q (by omega), g]; exact h10 p q hp hq
theorem Rd.mv {σ τ σ' τ' : St} {P rd : Nat} (h : Rd σ τ P rd) (a : σ' 10 6 = σ 10 6) (b : ∀ j, j < 8 → σ' 18 j = σ 18 j) (c : ∀ j, j < 8 → σ' 19 j = σ 19 j) (d : τ' 0 26 = τ 0 26) (e : ∀ j, j < 8 → τ' 12 j = τ 12 j) (f : ∀ j, j < 8 → τ' 13 j = τ 13 j) : Rd σ' τ' P rd := by
  obtain ⟨h1, h2, h3, h4⟩ := h
  refine ⟨h1, by rw [a]; exact h2, by rw [d]; exact h3, fun k hk => ?_⟩
  rw [b k (by omega), c k (by omega), e k (by omega), f k (by omega)]
  exact h4 k hk
theorem Rs.mv {σ τ σ' τ' : St} (h : Rs σ τ) (a : ∀ k j, k < 8 → σ' (2 + k) j = σ (2 + k) j) (b : ∀ j, τ' 1 j = τ 1 j) (c : ∀ j, τ' 2 j = τ 2 j) (d : ∀ j, τ' 3 j = τ 3 j) : Rs σ' τ' := by
  intro k hk
  obtain ⟨h1, h2⟩ := h k hk
  refine ⟨?_, fun i hi => ?_⟩
  · unfold Sh
    rw [a k 1 (by omega), a k 2 (by omega), a k 3 (by omega), b, c]
    exact h1
  · have := a (4 + k) i (by omega)
    rw [show 2 + (4 + k) = 6 + k by omega] at this
    rw [this, d]
    exact h2 i hi
theorem Rz.mv {σ τ σ' τ' : St} (h : Rz σ τ) (a : σ' 0 3 = σ 0 3) (b : σ' 0 2 = σ 0 2) (c : τ' 0 0 = τ 0 0) (d : τ' 0 1 = τ 0 1) (e : τ' 0 18 = τ 0 18) (f : τ' 0 19 = τ 0 19) : Rz σ' τ' := by
  obtain ⟨h1, h2, h3, h4⟩ := h
  exact ⟨by rw [a, c]; exact h1, by rw [b, d]; exact h2, by rw [e]; exact h3, by rw [f]; exact h4⟩
theorem the {σ τ : St} {P lam : Nat} (h : Rr σ τ P lam) : (fX0_isThere σ = some 0 ∧ τ 0 5 = 0) ∨ (fX0_isThere σ = some 1 ∧ ¬ τ 0 5 = 0 ∧ 0 < P) := by
  obtain ⟨h5, -, h1, h2, -⟩ := h
  rw [fX0_isThere, h1, h2]
  by_cases c : P = 0
  · subst c; left; exact ⟨rfl, rfl⟩
  · right
    rw [if_neg (by rw [← n0]; exact nI_ge (by omega) (by omega))]
    exact ⟨rfl, fun q => c ((nI_eq (by omega) (by omega)).mp (q.trans n0.symm)), by omega⟩
theorem refL {σ τ : St} {P lam : Nat} (h : Rr σ τ P lam) (x : Int32) : (fX3_refusalOfLoad σ x = some (-3) ∧ τ 0 5 = 0) ∨ (fX3_refusalOfLoad σ x = some (-2) ∧ ¬ τ 0 5 = 0 ∧ fX4_isSet τ x = some 0) ∨ ∃ t, t < 2 ^ P ∧ x = nI t ∧ fX3_refusalOfLoad σ x = some 0 ∧ ¬ τ 0 5 = 0 ∧ fX4_isSet τ x = some 1 := by
  rw [fX3_refusalOfLoad]
  rcases the h with ⟨a, b⟩ | ⟨a, b, -⟩
  · left; rw [a]; exact ⟨rfl, b⟩
  · right
    rcases ist h x with ⟨c, d⟩ | ⟨t, ht, e, c, d⟩
    · left; rw [a, c]; exact ⟨rfl, b, d⟩
    · right; refine ⟨t, ht, e, ?_, b, d⟩; rw [a, c]; rfl
theorem refO {σ τ : St} {P lam : Nat} (h : Rr σ τ P lam) (x y b : Int32) : (fX3_refusalOfOneIn σ x y b = some (-1) ∧ fX4_isPerson τ x = some 0) ∨ ∃ p, p < P ∧ x = nI p ∧ fX4_isPerson τ x = some 1 ∧ ((fX3_refusalOfOneIn σ x y b = some (-2) ∧ fX4_isSet τ y = some 0) ∨ ∃ t, t < 2 ^ P ∧ y = nI t ∧ fX4_isSet τ y = some 1 ∧ ((b = 0 ∧ fX3_refusalOfOneIn σ x y b = some (-2)) ∨ (¬ b = 0 ∧ t / 2 ^ p % 2 = 0 ∧ fX3_refusalOfOneIn σ x y b = some (-3)) ∨ (¬ b = 0 ∧ t / 2 ^ p % 2 = 1 ∧ fX3_refusalOfOneIn σ x y b = some 0))) := by
  have h5 : P ≤ 5 := h.1
  have h32 := p32 h5
  rw [fX3_refusalOfOneIn]
  rcases per h x with ⟨a, c⟩ | ⟨p, hp, e, a, c⟩
  · left; rw [a]; exact ⟨rfl, c⟩
  · right
    refine ⟨p, hp, e, c, ?_⟩
    rcases ist h y with ⟨d, f⟩ | ⟨t, ht, g, d, f⟩
    · left; rw [a, d]; exact ⟨rfl, f⟩
    · right
      refine ⟨t, ht, g, f, ?_⟩
      rw [a, d]
      simp only [if_true, if_false, Option.bind_some, i10, i01, im1, im2, im3, im9]
      by_cases hb : b = 0
      · left; rw [if_pos hb]; exact ⟨hb, rfl⟩
      · right
        rw [if_neg hb, e, g]
        rcases b01 t p with q | q
        · left; rw [sh0 (by omega) (by omega) q]; exact ⟨hb, q, rfl⟩
        · right; rw [sh1 (by omega) (by omega) q]; exact ⟨hb, q, rfl⟩
theorem pair {σ τ : St} {P lam : Nat} (h : Rr σ τ P lam) (x y : Int32) : (fX0_isPair σ x y = some 0 ∧ fX4_isNote τ x y = some 0) ∨ ∃ p q, p < P ∧ q < P ∧ p ≠ q ∧ x = nI p ∧ y = nI q ∧ fX0_isPair σ x y = some 1 ∧ fX4_isNote τ x y = some 1 := by
  have h5 : P ≤ 5 := h.1
  rw [fX0_isPair, fX4_isNote]
  rcases per h x with ⟨a, c⟩ | ⟨p, hp, e, a, c⟩
  · left; rw [a, c]; exact ⟨rfl, rfl⟩
  · rcases per h y with ⟨d, f⟩ | ⟨q, hq, g, d, f⟩
    · left; rw [a, c, d, f]; exact ⟨rfl, rfl⟩
    · rw [a, c, d, f, e, g]
      simp only [if_true, if_false, Option.bind_some, i10, i01, im1, im2, im3, im9]
      by_cases hpq : p = q
      · left; rw [if_pos (congrArg nI hpq)]; exact ⟨rfl, rfl⟩
      · right
        rw [if_neg (fun z => hpq ((nI_eq (by omega) (by omega)).mp z))]
        exact ⟨p, q, hp, hq, hpq, rfl, rfl, rfl, rfl⟩
theorem e5 (p q : Nat) : (5 : Int32) * nI p + nI q = nI (5 * p + q) := by rw [show (5 : Int32) = nI 5 from rfl, pk_mul, nI_add]
theorem notes_L {σ τ : St} {P lam p : Nat} (h : Rr σ τ P lam) (hp : p < P) :
    ∀ (k i : Nat) (acc : Int32) (n1 n2 : Nat), i + k = P → k < n1 → k < n2 → ∃ r, fX0_allNotes_L4 n1 σ (nI p) acc (nI i) = some r ∧ fX4_allOf_L4 n2 τ (nI p) acc (nI i) = some r := by
  obtain ⟨h5, -, h1, h2, -, h3, -, hK, -, hN⟩ := h
  intro k
  induction k with
  | zero =>
    intro i acc n1 n2 hi hn1 hn2
    obtain ⟨m1, rfl⟩ : ∃ m, n1 = m + 1 := ⟨n1 - 1, by omega⟩
    obtain ⟨m2, rfl⟩ : ∃ m, n2 = m + 1 := ⟨n2 - 1, by omega⟩
    simp only [fX0_allNotes_L4, fX4_allOf_L4, h1, h2, leT (show P ≤ i by omega) (show i < 2 ^ 31 by omega), if_true]
    exact ⟨_, rfl, rfl⟩
  | succ k ih =>
    intro i acc n1 n2 hi hn1 hn2
    obtain ⟨m1, rfl⟩ : ∃ m, n1 = m + 1 := ⟨n1 - 1, by omega⟩
    obtain ⟨m2, rfl⟩ : ∃ m, n2 = m + 1 := ⟨n2 - 1, by omega⟩
    simp only [fX0_allNotes_L4, fX4_allOf_L4, h1, h2, leF (show i < P by omega) (show P < 2 ^ 31 by omega), e5, cN (show p < 2 ^ 31 by omega), cN (show i < 2 ^ 31 by omega), cN (show 5 * p + i < 2 ^ 31 by omega), gP (show p < 5 by omega) (by decide), gP (show i < 5 by omega) (by decide), gP (show 5 * p + i < 25 by omega) (by decide), hN p i hp (by omega), if_false, nI_1]
    exact ih (i + 1) _ m1 m2 (by omega) (by omega) (by omega)
theorem notes_R {σ τ : St} {P lam p : Nat} (h : Rr σ τ P lam) (hp : p < P) {n1 n2 : Nat} (hn1 : 6 ≤ n1) (hn2 : 6 ≤ n2) : ∃ r, fX0_allNotes n1 σ (nI p) = some r ∧ fX4_allOf n2 τ (nI p) = some r := by
  have h5 : P ≤ 5 := h.1
  exact notes_L h hp P 0 0 n1 n2 (by omega) (by omega) (by omega)
