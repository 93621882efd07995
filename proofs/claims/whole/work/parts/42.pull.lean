def ow (l w : Nat) : Nat := l &&& (w ^^^ 31)
theorem ow_d : ∀ l, l < 32 → ∀ w, w < 32 → nI l &&& (nI w ^^^ (-1)) = nI (ow l w) := by decide +kernel
theorem ow_lt : ∀ l, l < 32 → ∀ w, w < 32 → ow l w < 32 := by decide +kernel
theorem ow_b : ∀ l, l < 32 → ∀ w, w < 32 → ∀ p, p < 5 → ow l w / 2 ^ p % 2 = (l / 2 ^ p % 2) * (1 - w / 2 ^ p % 2) := by decide +kernel
theorem oneI : (1 : Int32).toInt = 1 := by decide
theorem zeroI : (0 : Int32).toInt = 0 := by decide
theorem z_le {x : Int32} (h : 1 ≤ x) : (0 ≤ x) = True := by
  refine eq_true ?_
  rw [Int32.le_iff_toInt_le, oneI] at h
  rw [Int32.le_iff_toInt_le, zeroI]; omega
theorem z_ne {x : Int32} (h : 1 ≤ x) : (0 = x) = False := by
  refine eq_false (fun q => ?_)
  subst q
  exact absurd h (by decide)
theorem pull_L {σ τ : St} {P lam load forg wet : Nat} (h : Rr σ τ P lam) (hl : load < 32) (hf : forg < 32) (hw : wet < 32) (tw : τ 0 18 = nI wet) (tf : τ 0 19 = nI forg) :
    ∀ (k i t : Nat) (v4 v2 : Int32) (n1 n2 : Nat), i + k = P → t < 2 ^ i → (load = 0 → t = 0) → ((v4 = v2 ∧ 1 ≤ v2) ∨ (v4 = 0 ∧ v2 = 1 ∧ t = 0)) → k + 7 ≤ n1 → k + 7 ≤ n2 →
      ∃ u, u < 2 ^ P ∧ (load = 0 → u = 0) ∧ fX0_pullersIf_L16 n1 σ (nI load) (nI forg) v4 (nI t) (nI (ow load wet)) (nI i) = some (nI u) ∧ fX4_pullersOf_L7 n2 τ (nI load) v2 (nI t) (nI i) = some (nI u) := by
  have h5 : P ≤ 5 := h.1
  have h1 : σ 10 0 = nI P := h.2.2.1
  have h2 : τ 0 5 = nI P := h.2.2.2.1
  intro k
  induction k with
  | zero =>
    intro i t v4 v2 n1 n2 hi ht hz _ hn1 hn2
    obtain ⟨m1, rfl⟩ : ∃ m, n1 = m + 1 := ⟨n1 - 1, by omega⟩
    obtain ⟨m2, rfl⟩ : ∃ m, n2 = m + 1 := ⟨n2 - 1, by omega⟩
    have : i = P := by omega
    subst this
    refine ⟨t, ht, hz, ?_, ?_⟩
    · rw [fX0_pullersIf_L16, h1, if_pos Int32.le_rfl]
    · rw [fX4_pullersOf_L7, h2, if_pos Int32.le_rfl]
  | succ k ih =>
    intro i t v4 v2 n1 n2 hi ht hz hv hn1 hn2
    obtain ⟨m1, rfl⟩ : ∃ m, n1 = m + 1 := ⟨n1 - 1, by omega⟩
    obtain ⟨m2, rfl⟩ : ∃ m, n2 = m + 1 := ⟨n2 - 1, by omega⟩
    have hi5 : i < 5 := by omega
    have ht32 : t < 32 := Nat.lt_of_lt_of_le ht (p32 (by omega))
    have ht2 : t < 2 ^ (i + 1) := by rw [Nat.pow_succ]; omega
    have hv2 : 1 ≤ v2 := by
      rcases hv with ⟨-, q⟩ | ⟨-, rfl, -⟩
      · exact q
      · decide
    have hv4 : (0 ≤ v4) = True := by
      rcases hv with ⟨rfl, q⟩ | ⟨rfl, -, -⟩
      · exact z_le q
      · exact eq_true (by decide)
    have hb := ow_b load hl wet hw i hi5
    have stay := ih (i + 1) t v4 v2 m1 m2 (by omega) ht2 hz hv (by omega) (by omega)
    simp only [fX0_pullersIf_L16, fX4_pullersOf_L7, h1, h2, leF (show i < P by omega) (show P < 2 ^ 31 by omega), if_true, if_false, nI_1, pw5 i (by omega), or0]
    rcases b01 load i with cl | cl
    · rw [cl, Nat.zero_mul] at hb
      simp only [sh0 (ow_lt load hl wet hw) hi5 hb, of0 hl hi5 cl, i01, if_true, if_false, Option.bind_some, hv4, z_le hv2, z_ne hv2]
      exact stay
    · have hl0 : load = 0 → False := fun q => by subst q; simp at cl
      rcases b01 wet i with cw | cw
      · rw [cl, cw] at hb
        obtain ⟨r, d1, d2⟩ := debt_R h (show i < P by omega) hl hf hw cw tw tf (show 6 ≤ m1 by omega) (show 6 ≤ m2 by omega)
        simp only [sh1 (ow_lt load hl wet hw) hi5 hb, of1 hl hi5 cl, i10, if_true, if_false, Option.bind_some, d1, d2]
        have new : ∀ w : Int32, 1 ≤ w → ∃ u, u < 2 ^ P ∧ (load = 0 → u = 0) ∧ fX0_pullersIf_L16 m1 σ (nI load) (nI forg) w (nI (2 ^ i)) (nI (ow load wet)) (nI (i + 1)) = some (nI u) ∧ fX4_pullersOf_L7 m2 τ (nI load) w (nI (2 ^ i)) (nI (i + 1)) = some (nI u) := fun w hw1 => ih (i + 1) (2 ^ i) w w m1 m2 (by omega) (Nat.pow_lt_pow_right (by decide) (by omega)) (fun q => (hl0 q).elim) (Or.inl ⟨rfl, hw1⟩) (by omega) (by omega)
        rcases hv with ⟨rfl, q⟩ | ⟨rfl, rfl, rfl⟩
        · by_cases c1 : r ≤ v4
          · simp only [c1, if_true]
            by_cases c2 : r = v4
            · subst c2
              have : ¬ r ≤ 0 := by
                rw [Int32.le_iff_toInt_le, oneI] at q
                rw [Int32.le_iff_toInt_le, zeroI]; omega
              simp only [this, if_true, if_false, ors t ht32 i hi5 ht]
              exact ih (i + 1) (t + 2 ^ i) r r m1 m2 (by omega) (by rw [Nat.pow_succ]; omega) (fun z => (hl0 z).elim) (Or.inl ⟨rfl, q⟩) (by omega) (by omega)
            · simp only [c2, if_false]
              by_cases c3 : r ≤ 0
              · simp only [c3, if_true]; exact stay
              · simp only [c3, if_false]; exact stay
          · simp only [c1, if_true, if_false, zor]
            refine new r ?_
            rw [Int32.le_iff_toInt_le] at *
            rw [oneI] at *
            omega
        · by_cases c1 : r ≤ 0
          · have c2 : (r ≤ 1) = True := by
              refine eq_true ?_
              rw [Int32.le_iff_toInt_le] at *
              rw [oneI]; rw [zeroI] at c1; omega
            have c3 : (r = 1) = False := by
              refine eq_false (fun q => ?_)
              subst q
              exact absurd c1 (by decide)
            simp only [c1, c2, c3, if_true, if_false]
            exact stay
          · simp only [c1, if_false, n0, zor, if_true]
            by_cases c2 : r ≤ 1
            · have c3 : r = 1 := by
                apply Int32.toInt_inj.mp
                rw [Int32.le_iff_toInt_le] at *
                rw [oneI] at *
                rw [zeroI] at c1
                omega
              subst c3
              simp only [c2, if_true]
              exact new 1 (by decide)
            · simp only [c2, if_false]
              refine new r ?_
              rw [Int32.le_iff_toInt_le] at *
              rw [oneI] at *
              omega
      · rw [cl, cw] at hb
        have d2 : fX4_debtOf m2 τ (nI i) (nI load) = some 0 := debt_W h (show i < P by omega) hl hw cw tw P 0 m2 (by omega) (by omega)
        simp only [sh0 (ow_lt load hl wet hw) hi5 hb, of1 hl hi5 cl, i10, i01, if_true, if_false, Option.bind_some, d2, hv4, z_le hv2, z_ne hv2]
        exact stay
theorem pull_R {σ τ : St} {P lam load forg wet : Nat} (h : Rr σ τ P lam) (hl : load < 32) (hf : forg < 32) (hw : wet < 32) (tw : τ 0 18 = nI wet) (tf : τ 0 19 = nI forg) {n1 n2 : Nat} (hn1 : 12 ≤ n1) (hn2 : 12 ≤ n2) :
    ∃ u, u < 2 ^ P ∧ (load = 0 → u = 0) ∧ fX0_pullersIf n1 σ (nI load) (nI forg) (nI wet) = some (nI u) ∧ fX4_pullersOf n2 τ (nI load) = some (nI u) := by
  have h5 : P ≤ 5 := h.1
  obtain ⟨u, h1, h2, h3, h4⟩ := pull_L h hl hf hw tw tf P 0 0 0 1 n1 n2 (by omega) (by decide) (fun _ => rfl) (Or.inr ⟨rfl, rfl, rfl⟩) (by omega) (by omega)
  refine ⟨u, h1, h2, ?_, h4⟩
  rw [fX0_pullersIf, ow_d load hl wet hw]
  exact h3
theorem pull_0 {σ τ : St} {P lam load : Nat} (h : Rr σ τ P lam) (hl : load < 32) (tw : τ 0 18 = 0) (tf : τ 0 19 = 0) {n1 n2 : Nat} (hn1 : 12 ≤ n1) (hn2 : 12 ≤ n2) :
    ∃ u, u < 2 ^ P ∧ (load = 0 → u = 0) ∧ fX0_pullersOf n1 σ (nI load) = some (nI u) ∧ fX4_pullersOf n2 τ (nI load) = some (nI u) := by
  obtain ⟨u, h1, h2, h3, h4⟩ := pull_R (forg := 0) (wet := 0) h hl (by decide) (by decide) tw tf hn1 hn2
  refine ⟨u, h1, h2, ?_, h4⟩
  rw [fX0_pullersOf, show (0 : Int32) = nI 0 from rfl, h3]
  rfl
-- fair or not
theorem lam_b : ∀ u, u < 32 → ∀ w, w < 32 → ((nI u &&& nI w = 0) ↔ ∀ p, p < 5 → ¬ (u / 2 ^ p % 2 = 1 ∧ w / 2 ^ p % 2 = 1)) := by decide +kernel
theorem hib : ∀ P, P ≤ 5 → ∀ u, u < 32 → u < 2 ^ P → ∀ p, p < 5 → P ≤ p → u / 2 ^ p % 2 = 0 := by decide +kernel
theorem fair_L {σ τ : St} {P lam u : Nat} (h : Rr σ τ P lam) (hu : u < 32) :
    ∀ (k i n2 : Nat), i + k = P → k < n2 → ∃ r : Int32, (r = 0 ∨ r = 1) ∧ (r = 1 ↔ ∀ p, i ≤ p → p < P → ¬ (u / 2 ^ p % 2 = 1 ∧ lam / 2 ^ p % 2 = 1)) ∧ fX4_isFair_L33 n2 τ (nI u) (nI i) = some r := by
  obtain ⟨h5, hlam, h1, h2, -, h3, -, hK, hL, hN⟩ := h
  intro k
  induction k with
  | zero =>
    intro i n2 hi hn2
    obtain ⟨m2, rfl⟩ : ∃ m, n2 = m + 1 := ⟨n2 - 1, by omega⟩
    refine ⟨1, Or.inr rfl, ⟨fun _ p _ _ => by omega, fun _ => rfl⟩, ?_⟩
    rw [fX4_isFair_L33, h2, if_pos (nI_le (show P ≤ i by omega) (by omega))]
  | succ k ih =>
    intro i n2 hi hn2
    obtain ⟨m2, rfl⟩ : ∃ m, n2 = m + 1 := ⟨n2 - 1, by omega⟩
    obtain ⟨r, r1, r2, r3⟩ := ih (i + 1) m2 (by omega) (by omega)
    have go : ¬ (u / 2 ^ i % 2 = 1 ∧ lam / 2 ^ i % 2 = 1) → (r = 1 ↔ ∀ p, i ≤ p → p < P → ¬ (u / 2 ^ p % 2 = 1 ∧ lam / 2 ^ p % 2 = 1)) := by
      intro hni
      rw [r2]
      constructor
      · intro q p hip hpP
        rcases Nat.eq_or_lt_of_le hip with rfl | hlt
        · exact hni
        · exact q p hlt hpP
      · intro q p hip hpP
        exact q p (by omega) hpP
    simp only [fX4_isFair_L33, h2, leF (show i < P by omega) (show P < 2 ^ 31 by omega), if_true, if_false, nI_1, cN (show i < 2 ^ 31 by omega), gP (show i < 5 by omega) (by decide), hL i (by omega), r3]
    rcases b01 u i with cu | cu
    · simp only [of0 hu (show i < 5 by omega) cu, Option.bind_some, if_true]
      exact ⟨r, r1, go (by omega), rfl⟩
    · simp only [of1 hu (show i < 5 by omega) cu, Option.bind_some, i10, if_false]
      rcases b01 lam i with cl | cl
      · simp only [cl, n0, i01, if_false]
        exact ⟨r, r1, go (by omega), rfl⟩
      · simp only [cl, n1, if_true]
        refine ⟨0, Or.inl rfl, ⟨fun q => absurd q (by decide), fun q => absurd ⟨cu, cl⟩ (q i (Nat.le_refl _) (by omega))⟩, rfl⟩
theorem fair_R {σ τ : St} {P lam load : Nat} (h : Rr σ τ P lam) (hl : load < 32) (tw : τ 0 18 = 0) (tf : τ 0 19 = 0) {n1 n2 : Nat} (hn1 : 12 ≤ n1) (hn2 : 12 ≤ n2) :
    ∃ r : Int32, (r = 0 ∨ r = 1) ∧ fX0_isFair n1 σ (nI load) = some r ∧ fX4_isFair n2 τ (nI load) = some r := by
  obtain ⟨u, hu, hu0, p1, p2⟩ := pull_0 h hl tw tf hn1 hn2
  have h5 : P ≤ 5 := h.1
  have hlam := h.2.1
  have hroom : σ 10 1 = τ 0 6 := h.2.2.2.2.1
  have hlm : σ 10 3 = nI lam := h.2.2.2.2.2.2.1
  have hu32 : u < 32 := Nat.lt_of_lt_of_le hu (p32 h5)
  obtain ⟨r, r1, r2, r3⟩ := fair_L h hu32 P 0 n2 (by omega) (by omega)
  rw [n0] at r3
  simp only [fX0_isFair, fX4_isFair, bitc load hl, bitc u hu32, sizeN hl (show 6 ≤ n2 by omega), sizeN hu32 (show 6 ≤ n2 by omega), p1, p2, Option.bind_some, hroom, hlm]
  by_cases c0 : load = 0
  · subst c0
    have := hu0 rfl
    subst this
    refine ⟨0, Or.inl rfl, ?_, ?_⟩
    · by_cases c : nI (pc 5 0) ≤ τ 0 6
      · rw [if_pos c, if_neg (by decide)]
      · rw [if_neg c]
    · rw [if_pos n0]
  · have c0' : ¬ nI load = 0 := fun q => c0 ((nI_eq (by omega) (by omega)).mp (q.trans n0.symm))
    rw [if_neg c0']
    by_cases c1 : nI (pc 5 load) ≤ τ 0 6
    · have c1' : ¬ τ 0 6 < nI (pc 5 load) := Int32.not_lt.mpr c1
      rw [if_pos c1, if_neg c1']
      by_cases c2 : nI (pc 5 u) = 1
      · rw [if_pos c2, if_pos c2]
        have hr : r = 1 ↔ nI u &&& nI lam = 0 := by
          rw [r2, lam_b u hu32 lam hlam]
          constructor
          · intro q p hp
            by_cases hpP : p < P
            · exact q p (by omega) hpP
            · rw [hib P h5 u hu32 hu p hp (by omega)]; omega
          · intro q p _ hpP
            exact q p (by omega)
        refine ⟨r, r1, ?_, r3⟩
        by_cases c3 : nI u &&& nI lam = 0
        · rw [if_pos c3, hr.mpr c3]
        · rw [if_neg c3]
          rcases r1 with rfl | rfl
          · rfl
          · exact absurd (hr.mp rfl) c3
      · rw [if_neg c2, if_neg c2]; exact ⟨0, Or.inl rfl, rfl, rfl⟩
    · have c1' : τ 0 6 < nI (pc 5 load) := Int32.not_le.mp c1
      rw [if_neg c1, if_pos c1']
      exact ⟨0, Or.inl rfl, rfl, rfl⟩
