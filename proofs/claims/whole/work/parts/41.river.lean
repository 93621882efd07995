/-! THE RIVER, held by both: who owes how much, who pulls, what is fair -/
def Rr (σ τ : St) (P lam : Nat) : Prop := P ≤ 5 ∧ lam < 32 ∧ σ 10 0 = nI P ∧ τ 0 5 = nI P ∧ σ 10 1 = τ 0 6 ∧ σ 10 2 = τ 0 7 ∧ σ 10 3 = nI lam ∧ (∀ p, p < P → σ 11 p = τ 4 p ∧ (τ 4 p = 0 ∨ τ 4 p = 1 ∨ τ 4 p = 2)) ∧ (∀ p, p < P → τ 5 p = nI (lam / 2 ^ p % 2)) ∧ ∀ p q, p < P → q < P → σ (13 + p) q = τ 6 (5 * p + q)
theorem per {σ τ : St} {P lam : Nat} (h : Rr σ τ P lam) (x : Int32) : (fX0_isPerson σ x = some 0 ∧ fX4_isPerson τ x = some 0) ∨ ∃ p, p < P ∧ x = nI p ∧ fX0_isPerson σ x = some 1 ∧ fX4_isPerson τ x = some 1 := by
  obtain ⟨h5, -, h1, h2, -⟩ := h
  rw [fX0_isPerson, fX4_isPerson, h1, h2]
  rcases pk_ix x (n := P) (by omega) with c | c | ⟨p, hp, rfl⟩
  · left; rw [if_pos c]; exact ⟨rfl, rfl⟩
  · left
    by_cases c0 : x < 0
    · rw [if_pos c0]; exact ⟨rfl, rfl⟩
    · rw [if_neg c0, if_pos c]; exact ⟨rfl, rfl⟩
  · right
    refine ⟨p, hp, rfl, ?_⟩
    rw [if_neg (nI_pos (by omega)), if_neg (nI_ge hp (by omega))]
    exact ⟨rfl, rfl⟩
theorem all5 : ∀ P, P ≤ 5 → ((1 : Int32) <<< (nI P &&& 31)) = nI (2 ^ P) := fun P h => pw5 P (by omega)
theorem evb {σ τ : St} {P lam : Nat} (h : Rr σ τ P lam) : fX0_everybody σ = some (nI (2 ^ P - 1)) := by
  obtain ⟨h5, -, h1, -⟩ := h
  rw [fX0_everybody, h1, all5 P h5, ← n1, pk_sub Nat.one_le_two_pow]
theorem p32 {P : Nat} (h : P ≤ 5) : 2 ^ P ≤ 32 := Nat.le_trans (Nat.pow_le_pow_right (by omega) h) (by decide)
theorem ist {σ τ : St} {P lam : Nat} (h : Rr σ τ P lam) (x : Int32) : (fX0_isLoad σ x = some 0 ∧ fX4_isSet τ x = some 0) ∨ ∃ s, s < 2 ^ P ∧ x = nI s ∧ fX0_isLoad σ x = some 1 ∧ fX4_isSet τ x = some 1 := by
  have he := evb h
  obtain ⟨h5, -, h1, h2, -⟩ := h
  have hp := p32 h5
  have hp1 : 1 ≤ 2 ^ P := Nat.one_le_two_pow
  rw [fX0_isLoad, fX4_isSet, he, h2, all5 P h5]
  rcases pk_ix x (n := 2 ^ P) (by omega) with c | c | ⟨s, hs, rfl⟩
  · left; rw [if_pos c, if_pos c]; exact ⟨rfl, rfl⟩
  · left
    by_cases c0 : x < 0
    · rw [if_pos c0, if_pos c0]; exact ⟨rfl, rfl⟩
    · rw [if_neg c0, if_neg c0, if_pos c]
      refine ⟨?_, rfl⟩
      show (if nI (2 ^ P - 1) < x then some 0 else some 1) = some 0
      rw [if_pos]
      have : nI (2 ^ P - 1) < nI (2 ^ P) := nI_lt (by omega) (by omega)
      rw [Int32.lt_iff_toInt_lt] at *
      rw [Int32.le_iff_toInt_le] at c
      omega
  · right
    refine ⟨s, hs, rfl, ?_⟩
    rw [if_neg (nI_pos (by omega)), if_neg (nI_pos (by omega)), if_neg (nI_ge hs (by omega))]
    refine ⟨?_, rfl⟩
    show (if nI (2 ^ P - 1) < nI s then some 0 else some 1) = some 1
    rw [if_neg (nI_nlt (by omega) (by omega))]
-- what one owes in a load
theorem debt_L {σ τ : St} {P lam p load forg wet : Nat} (h : Rr σ τ P lam) (hp : p < P) (hl : load < 32) (hf : forg < 32) (hw : wet < 32) (hwz : wet / 2 ^ p % 2 = 0) (tw : τ 0 18 = nI wet) (tf : τ 0 19 = nI forg) :
    ∀ (k i : Nat) (acc : Int32) (n1 n2 : Nat), i + k = P → k < n1 → k < n2 → ∃ r, fX0_debtIf_L6 n1 σ (nI p) (nI load) (nI forg) acc (nI i) = some r ∧ fX4_debtOf_L5 n2 τ (nI p) (nI load) acc (nI i) = some r := by
  obtain ⟨h5, -, h1, h2, -, h3, -, hK, -, hN⟩ := h
  intro k
  induction k with
  | zero =>
    intro i acc n1 n2 hi hn1 hn2
    obtain ⟨m1, rfl⟩ : ∃ m, n1 = m + 1 := ⟨n1 - 1, by omega⟩
    obtain ⟨m2, rfl⟩ : ∃ m, n2 = m + 1 := ⟨n2 - 1, by omega⟩
    obtain ⟨e1, e2⟩ := hK p hp
    simp only [fX0_debtIf_L6, fX4_debtOf_L5, h1, h2, leT (show P ≤ i by omega) (show i < 2 ^ 31 by omega), gP (show p < 5 by omega) (by decide), cN (show p < 2 ^ 31 by omega), e1, if_true, if_false]
    rcases e2 with q | q | q <;> simp only [q, i10, i01, i20, i21, i12, i02, if_true, if_false]
    · exact ⟨_, rfl, rfl⟩
    · by_cases c : acc ≤ 0
      · rw [if_pos c]; exact ⟨_, rfl, rfl⟩
      · rw [if_neg c]; exact ⟨_, rfl, rfl⟩
    · exact ⟨_, rfl, rfl⟩
  | succ k ih =>
    intro i acc n1 n2 hi hn1 hn2
    obtain ⟨m1, rfl⟩ : ∃ m, n1 = m + 1 := ⟨n1 - 1, by omega⟩
    obtain ⟨m2, rfl⟩ : ∃ m, n2 = m + 1 := ⟨n2 - 1, by omega⟩
    have hn := hN p i hp (by omega)
    have e5 : (5 : Int32) * nI p + nI i = nI (5 * p + i) := by rw [show (5 : Int32) = nI 5 from rfl, pk_mul, nI_add]
    simp only [fX0_debtIf_L6, fX4_debtOf_L5, h1, h2, h3, leF (show i < P by omega) (show P < 2 ^ 31 by omega), gP (show p < 5 by omega) (by decide), gP (show i < 5 by omega) (by decide), cN (show p < 2 ^ 31 by omega), cN (show i < 2 ^ 31 by omega), e5, gP (show 5 * p + i < 25 by omega) (by decide), cN (show 5 * p + i < 2 ^ 31 by omega), tw, tf, of0 hw (show p < 5 by omega) hwz, hn, if_true, if_false, Option.bind_some, nI_1]
    rcases b01 forg i with cf | cf <;> rcases b01 load i with cl | cl
    · simp only [sh0 hf (show i < 5 by omega) cf, sh0 hl (show i < 5 by omega) cl, of0 hf (show i < 5 by omega) cf, of0 hl (show i < 5 by omega) cl, i01, if_true, if_false, Option.bind_some]
      exact ih (i + 1) _ m1 m2 (by omega) (by omega) (by omega)
    · simp only [sh0 hf (show i < 5 by omega) cf, sh1 hl (show i < 5 by omega) cl, of0 hf (show i < 5 by omega) cf, of1 hl (show i < 5 by omega) cl, i10, if_true, if_false, Option.bind_some]
      exact ih (i + 1) _ m1 m2 (by omega) (by omega) (by omega)
    · simp only [sh1 hf (show i < 5 by omega) cf, sh0 hl (show i < 5 by omega) cl, of1 hf (show i < 5 by omega) cf, of0 hl (show i < 5 by omega) cl, i10, if_true, if_false, Option.bind_some, add0]
      exact ih (i + 1) _ m1 m2 (by omega) (by omega) (by omega)
    · simp only [sh1 hf (show i < 5 by omega) cf, sh1 hl (show i < 5 by omega) cl, of1 hf (show i < 5 by omega) cf, of1 hl (show i < 5 by omega) cl, i10, if_true, if_false, Option.bind_some, add0, mul0]
      exact ih (i + 1) _ m1 m2 (by omega) (by omega) (by omega)
theorem debt_R {σ τ : St} {P lam p load forg wet : Nat} (h : Rr σ τ P lam) (hp : p < P) (hl : load < 32) (hf : forg < 32) (hw : wet < 32) (hwz : wet / 2 ^ p % 2 = 0) (tw : τ 0 18 = nI wet) (tf : τ 0 19 = nI forg) {n1 n2 : Nat} (hn1 : 6 ≤ n1) (hn2 : 6 ≤ n2) :
    ∃ r, fX0_debtIf n1 σ (nI p) (nI load) (nI forg) = some r ∧ fX4_debtOf n2 τ (nI p) (nI load) = some r := by
  have h5 : P ≤ 5 := h.1
  exact debt_L h hp hl hf hw hwz tw tf P 0 0 n1 n2 (by omega) (by omega) (by omega)
theorem debt_W {σ τ : St} {P lam p load wet : Nat} (h : Rr σ τ P lam) (hp : p < P) (hl : load < 32) (hw : wet < 32) (hwz : wet / 2 ^ p % 2 = 1) (tw : τ 0 18 = nI wet) :
    ∀ (k i n2 : Nat), i + k = P → k < n2 → fX4_debtOf_L5 n2 τ (nI p) (nI load) 0 (nI i) = some 0 := by
  obtain ⟨h5, -, h1, h2, -, h3, -, hK, -, hN⟩ := h
  intro k
  induction k with
  | zero =>
    intro i n2 hi hn2
    obtain ⟨m2, rfl⟩ : ∃ m, n2 = m + 1 := ⟨n2 - 1, by omega⟩
    obtain ⟨e1, e2⟩ := hK p hp
    simp only [fX4_debtOf_L5, h2, leT (show P ≤ i by omega) (show i < 2 ^ 31 by omega), gP (show p < 5 by omega) (by decide), cN (show p < 2 ^ 31 by omega), if_true, if_false]
    rcases e2 with q | q | q <;> simp only [q, i10, i01, i20, i21, i12, i02, if_true, if_false]
    · rfl
    · rfl
  | succ k ih =>
    intro i n2 hi hn2
    obtain ⟨m2, rfl⟩ : ∃ m, n2 = m + 1 := ⟨n2 - 1, by omega⟩
    simp only [fX4_debtOf_L5, h2, leF (show i < P by omega) (show P < 2 ^ 31 by omega), tw, of1 hw (show p < 5 by omega) hwz, i10, if_true, if_false, Option.bind_some, nI_1, mul0, add0]
    rcases b01 load i with cl | cl
    · simp only [of0 hl (show i < 5 by omega) cl, if_true, if_false, Option.bind_some]
      exact ih (i + 1) m2 (by omega) (by omega)
    · simp only [of1 hl (show i < 5 by omega) cl, i10, if_true, if_false, Option.bind_some]
      exact ih (i + 1) m2 (by omega) (by omega)
