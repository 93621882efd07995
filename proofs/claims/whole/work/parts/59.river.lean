/-! A TEXT THAT IS TAKEN -/
def lamv (lm : Nat → Nat) : Nat → Nat
  | 0 => 0
  | p + 1 => lamv lm p + lm p * 2 ^ p
theorem lamv_lt {lm : Nat → Nat} (h : ∀ q, lm q ≤ 1) : ∀ p, lamv lm p < 2 ^ p
  | 0 => Nat.zero_lt_one
  | p + 1 => by
    have h1 := lamv_lt h p
    have h2 : lm p * 2 ^ p ≤ 1 * 2 ^ p := Nat.mul_le_mul_right _ (h p)
    rw [lamv, Nat.pow_succ]
    omega
theorem lmo : ∀ p, p < 5 → ∀ a, a < 32 → a < 2 ^ p → ∀ b, b < 2 → (nI a ||| (nI b <<< (nI p &&& 31))) = nI (a + b * 2 ^ p) := by decide +kernel
theorem lmb1 : ∀ p, p < 5 → ∀ a, a < 32 → a < 2 ^ p → ∀ b, b < 2 → (a + b * 2 ^ p) / 2 ^ p % 2 = b := by decide +kernel
theorem lmb2 : ∀ p, p < 5 → ∀ j, j < 5 → j < p → ∀ a, a < 32 → ∀ b, b < 2 → (a + b * 2 ^ p) / 2 ^ j % 2 = a / 2 ^ j % 2 := by decide +kernel
theorem lamv_b {lm : Nat → Nat} (h : ∀ q, lm q ≤ 1) : ∀ p, p ≤ 5 → ∀ j, j < p → lamv lm p / 2 ^ j % 2 = lm j := by
  intro p
  induction p with
  | zero => intro _ j hj; omega
  | succ p ih =>
    intro hp j hj
    have hl := lamv_lt h p
    have h32 := p32 (show p ≤ 5 by omega)
    have b1 := lmb1 p (by omega) (lamv lm p) (by omega) hl (lm p) (by have := h p; omega)
    rw [lamv]
    by_cases e : j = p
    · subst e; exact b1
    · rw [lmb2 p (by omega) j (by omega) (by omega) (lamv lm p) (by omega) (lm p) (by have := h p; omega)]; exact ih (by omega) j (by omega)
theorem ad1 (a : Nat) : nI a + 1 = nI (a + 1) := nI_1 a
theorem ad2 (a : Nat) : nI a + 2 = nI (a + 2) := by rw [show (2 : Int32) = nI 2 from rfl, nI_add]
theorem ad3 (a : Nat) : nI a + 3 = nI (a + 3) := by rw [show (3 : Int32) = nI 3 from rfl, nI_add]
theorem ad4 (a : Nat) : nI a + 4 = nI (a + 4) := by rw [show (4 : Int32) = nI 4 from rfl, nI_add]
theorem s48 (d : Nat) : nI (48 + d) - 48 = nI d := by rw [show (48 : Int32) = nI 48 from rfl, pk_sub (by omega), Nat.add_sub_cancel_left]
theorem tt_I {k A P p : Nat} (hk : k < 4) (hA : A + P ≤ 60) (hP : P ≤ 5) (hp : p < 5) : ∀ (c q n : Nat) (σ : St), σ 10 0 = nI P → q + c = P → c < n → ∃ σ' n3, n ≤ n3 + c + 1 ∧ fX0_takeText_G62 n 1 σ k (nI A) (nI p) (nI q) = fX0_takeText_G62 n3 0 σ' k (nI (A + P)) (nI (p + 1)) 0 ∧ ∀ z j, σ' z j = if z = 13 + p ∧ q ≤ j ∧ j < P then σ (6 + k) (A + j) - 48 else σ z j := by
  intro c
  induction c with
  | zero =>
    intro q n σ h1 hq hn
    obtain ⟨n, rfl⟩ : ∃ m, n = m + 1 := ⟨n - 1, by omega⟩
    refine ⟨σ, n, by omega, ?_, fun z j => by rw [if_neg (by omega)]⟩
    rw [fX0_takeText_G62, if_neg (by decide), h1, if_pos (nI_le (by omega) (by omega)), nI_add, nI_1]
  | succ c ih =>
    intro q n σ h1 hq hn
    obtain ⟨n, rfl⟩ : ∃ m, n = m + 1 := ⟨n - 1, by omega⟩
    obtain ⟨σ', n3, g1, g2, g3⟩ := ih (q + 1) n (up2 σ (13 + p) q (σ (6 + k) (A + q) - 48)) (by rw [upz (by omega)]; exact h1) (by omega) (by omega)
    refine ⟨σ', n3, by omega, ?_, fun z j => ?_⟩
    · rw [fX0_takeText_G62, if_neg (by decide)]
      simp only [h1, leF (show q < P by omega) (show P < 2 ^ 31 by omega), if_false, nI_add, nI_1, cN (show p < 2 ^ 31 by omega), gP (show p < 5 by omega) (by decide), cN (show q < 2 ^ 31 by omega), gP (show q < 5 by omega) (by decide), cN (show A + q < 2 ^ 31 by omega), gP (show A + q < 60 by omega) (by decide)]
      exact g2
    · rw [g3, show up2 σ (13 + p) q (σ (6 + k) (A + q) - 48) (6 + k) (A + j) = σ (6 + k) (A + j) from upz (by omega), up2e]
      by_cases c1 : z = 13 + p ∧ q + 1 ≤ j ∧ j < P
      · rw [if_pos c1, if_pos ⟨c1.1, by omega, c1.2.2⟩]
      · rw [if_neg c1]
        by_cases c2 : z = 13 + p ∧ j = q
        · rw [if_pos c2, if_pos ⟨c2.1, by omega, by omega⟩, c2.2]
        · rw [if_neg c2, if_neg (fun g => c2 ⟨g.1, by omega⟩)]
theorem tt_O {k i P : Nat} {kd lm : Nat → Nat} (hk : k < 4) (hP : P ≤ 5) (hi : i + (4 + P * (3 + P)) ≤ 60) (hlm : ∀ q, lm q ≤ 1) (X : Nat → Int32) (hkd : ∀ q, q < P → fX2_kindOf (X (i + (4 + (q * (3 + P) + 1)))) = some (nI (kd q))) (hX : ∀ q, q < P → X (i + (4 + (q * (3 + P) + 2))) = nI (48 + lm q)) : ∀ (c p n : Nat) (σ : St), (∀ j, σ (6 + k) j = X j) → σ 10 0 = nI P → σ 10 3 = nI (lamv lm p) → p + c = P → 8 * c < n →
    ∃ σ', fX0_takeText_G62 n 0 σ k (nI (i + (4 + p * (3 + P)))) (nI p) 0 = some σ' ∧ (∀ z j, ¬ (z = 10 ∧ j = 3) → z ≠ 11 → ¬ (13 ≤ z ∧ z < 18) → σ' z j = σ z j) ∧ σ' 10 3 = nI (lamv lm P) ∧ (∀ q, q < p → σ' 11 q = σ 11 q ∧ ∀ j, σ' (13 + q) j = σ (13 + q) j) ∧ (∀ q, p ≤ q → q < P → σ' 11 q = nI (kd q) ∧ ∀ j, j < P → σ' (13 + q) j = X (i + (4 + (q * (3 + P) + (3 + j)))) - 48) := by
  have h40 := P40 hP
  intro c
  induction c with
  | zero =>
    intro p n σ hc h1 h3 hp hn
    obtain ⟨n, rfl⟩ : ∃ m, n = m + 1 := ⟨n - 1, by omega⟩
    have : p = P := by omega
    subst this
    refine ⟨σ, ?_, fun _ _ _ _ _ => rfl, h3, fun q _ => ⟨rfl, fun _ => rfl⟩, fun q q1 q2 => by omega⟩
    rw [fX0_takeText_G62, if_pos rfl, h1, if_pos Int32.le_rfl]
  | succ c ih =>
    intro p n σ hc h1 h3 hp hn
    obtain ⟨n, rfl⟩ : ∃ m, n = m + 1 := ⟨n - 1, by omega⟩
    have hpP : p < P := by omega
    have hpl := posL (t := 0) hpP (by omega)
    have hl := lamv_lt hlm p
    have h32 := p32 (show p ≤ 5 by omega)
    have e1 : i + (4 + p * (3 + P)) + 1 = i + (4 + (p * (3 + P) + 1)) := by omega
    have e2 : i + (4 + p * (3 + P)) + 2 = i + (4 + (p * (3 + P) + 2)) := by omega
    have e3 : i + (4 + p * (3 + P)) + 3 = i + (4 + (p * (3 + P) + 3)) := by omega
    have r1 : up2 σ 11 p (nI (kd p)) 10 3 = nI (lamv lm p) := by rw [upz (by decide)]; exact h3
    have r2 : ∀ j, up2 σ 11 p (nI (kd p)) (6 + k) j = X j := fun j => by rw [upz (by omega)]; exact hc j
    rw [fX0_takeText_G62, if_pos rfl]
    simp only [h1, leF hpP (show P < 2 ^ 31 by omega), if_false, ad1, ad2, ad3, e1, e2, e3, cN (show i + (4 + (p * (3 + P) + 1)) < 2 ^ 31 by omega), gP (show i + (4 + (p * (3 + P) + 1)) < 60 by omega) (by decide), cN (show i + (4 + (p * (3 + P) + 2)) < 2 ^ 31 by omega), gP (show i + (4 + (p * (3 + P) + 2)) < 60 by omega) (by decide), cN (show p < 2 ^ 31 by omega), gP (show p < 5 by omega) (by decide), hc, hkd p hpP, Option.bind_some, r1, r2, hX p hpP, s48, lmo p (by omega) (lamv lm p) (by omega) hl (lm p) (by have := hlm p; omega)]
    obtain ⟨σ1, n3, g1, g2, g3⟩ := tt_I (k := k) (A := i + (4 + (p * (3 + P) + 3))) (P := P) (p := p) hk (by omega) hP (by omega) P 0 n (up2 (up2 σ 11 p (nI (kd p))) 10 3 (nI (lamv lm p + lm p * 2 ^ p))) (by rw [upj (by decide), upz (by decide)]; exact h1) (by omega) (by omega)
    rw [n0] at g2
    rw [g2]
    have e4 : i + (4 + (p * (3 + P) + 3)) + P = i + (4 + (p + 1) * (3 + P)) := by rw [Nat.add_mul, Nat.one_mul]; omega
    rw [e4]
    have f1 : ∀ z j, z ≠ 13 + p → ¬ (z = 10 ∧ j = 3) → ¬ (z = 11 ∧ j = p) → σ1 z j = σ z j := fun z j w1 w2 w3 => by rw [g3, if_neg (fun g => w1 g.1), up2e, if_neg w2, up2e, if_neg w3]
    obtain ⟨σ', a1, a2, a3, a4, a5⟩ := ih (p + 1) n3 σ1 (fun j => by rw [f1 _ _ (by omega) (by omega) (by omega)]; exact hc j) (by rw [f1 _ _ (by omega) (by decide) (by omega)]; exact h1) (by rw [g3, if_neg (by omega), upe]; rfl) (by omega) (by omega)
    refine ⟨σ', a1, fun z j w1 w2 w3 => by rw [a2 z j w1 w2 w3]; exact f1 z j (by omega) w1 (by omega), a3, fun q hq => ?_, fun q q1 q2 => ?_⟩
    · obtain ⟨b1, b2⟩ := a4 q (by omega)
      exact ⟨by rw [b1]; exact f1 _ _ (by omega) (by omega) (by omega), fun j => by rw [b2 j]; exact f1 _ _ (by omega) (by omega) (by omega)⟩
    · by_cases e : q = p
      · subst e
        obtain ⟨b1, b2⟩ := a4 q (by omega)
        refine ⟨by rw [b1, g3, if_neg (by omega), upz (by decide), upe], fun j hj => ?_⟩
        rw [b2 j, g3, if_pos ⟨rfl, by omega, hj⟩, upz (by omega), upz (by omega), hc]
        congr 2
        omega
      · exact a5 q (by omega) q2
theorem tr_I {P p : Nat} (hP : P ≤ 5) (hp : p < P) : ∀ (c q n : Nat) (τ : St), τ 0 5 = nI P → q + c = P → c < n → ∃ τ' n3, n ≤ n3 + c + 1 ∧ fX4_takeRiver_G26 n 1 τ (nI p) (nI q) = fX4_takeRiver_G26 n3 0 τ' (nI (p + 1)) 0 ∧ ∀ z j, τ' z j = if z = 6 ∧ 5 * p + q ≤ j ∧ j < 5 * p + P then τ 9 j else τ z j := by
  intro c
  induction c with
  | zero =>
    intro q n τ h1 hq hn
    obtain ⟨n, rfl⟩ : ∃ m, n = m + 1 := ⟨n - 1, by omega⟩
    refine ⟨τ, n, by omega, ?_, fun z j => by rw [if_neg (by omega)]⟩
    rw [fX4_takeRiver_G26, if_neg (by decide), h1, if_pos (nI_le (by omega) (by omega)), nI_1]
  | succ c ih =>
    intro q n τ h1 hq hn
    obtain ⟨n, rfl⟩ : ∃ m, n = m + 1 := ⟨n - 1, by omega⟩
    obtain ⟨τ', n3, g1, g2, g3⟩ := ih (q + 1) n (up2 τ 6 (5 * p + q) (τ 9 (5 * p + q))) (by rw [upz (by decide)]; exact h1) (by omega) (by omega)
    refine ⟨τ', n3, by omega, ?_, fun z j => ?_⟩
    · rw [fX4_takeRiver_G26, if_neg (by decide)]
      simp only [h1, leF (show q < P by omega) (show P < 2 ^ 31 by omega), if_false, e5, nI_1, cN (show 5 * p + q < 2 ^ 31 by omega), gP (show 5 * p + q < 25 by omega) (by decide)]
      exact g2
    · rw [g3, upz (show (9 : Nat) ≠ 6 by decide), up2e]
      by_cases c1 : z = 6 ∧ 5 * p + (q + 1) ≤ j ∧ j < 5 * p + P
      · rw [if_pos c1, if_pos ⟨c1.1, by omega, c1.2.2⟩]
      · rw [if_neg c1]
        by_cases c2 : z = 6 ∧ j = 5 * p + q
        · rw [if_pos c2, if_pos ⟨c2.1, by omega, by omega⟩, c2.2]
        · rw [if_neg c2, if_neg (fun g => c2 ⟨g.1, by omega⟩)]
theorem tr_O {P : Nat} (hP : P ≤ 5) : ∀ (c p n : Nat) (τ : St), τ 0 5 = nI P → p + c = P → 8 * c < n →
    ∃ τ', fX4_takeRiver_G26 n 0 τ (nI p) 0 = some τ' ∧ (∀ z j, ¬ (z = 0 ∧ j = 26) → z ≠ 4 → z ≠ 5 → z ≠ 6 → τ' z j = τ z j) ∧ τ' 0 26 = 0 ∧ (∀ q, q < p → τ' 4 q = τ 4 q ∧ τ' 5 q = τ 5 q) ∧ (∀ j, j < 5 * p → τ' 6 j = τ 6 j) ∧ ∀ q, p ≤ q → q < P → τ' 4 q = τ 7 q ∧ τ' 5 q = τ 8 q ∧ ∀ j, j < P → τ' 6 (5 * q + j) = τ 9 (5 * q + j) := by
  intro c
  induction c with
  | zero =>
    intro p n τ h1 hp hn
    obtain ⟨n, rfl⟩ : ∃ m, n = m + 1 := ⟨n - 1, by omega⟩
    refine ⟨up2 τ 0 26 0, ?_, fun z j w1 _ _ _ => by rw [up2e, if_neg w1], upe, fun q _ => ⟨upz (by decide), upz (by decide)⟩, fun j _ => upz (by decide), fun q q1 q2 => by omega⟩
    rw [fX4_takeRiver_G26, if_pos rfl, h1, if_pos (nI_le (by omega) (by omega))]
  | succ c ih =>
    intro p n τ h1 hp hn
    obtain ⟨n, rfl⟩ : ∃ m, n = m + 1 := ⟨n - 1, by omega⟩
    rw [fX4_takeRiver_G26, if_pos rfl]
    simp only [h1, leF (show p < P by omega) (show P < 2 ^ 31 by omega), if_false, cN (show p < 2 ^ 31 by omega), gP (show p < 5 by omega) (by decide), upz (show (8 : Nat) ≠ 4 by decide)]
    obtain ⟨τ1, n3, g1, g2, g3⟩ := tr_I (p := p) hP (by omega) P 0 n (up2 (up2 τ 4 p (τ 7 p)) 5 p (τ 8 p)) (by rw [upz (by decide), upz (by decide)]; exact h1) (by omega) (by omega)
    rw [n0] at g2
    rw [g2]
    have f1 : ∀ z j, z ≠ 6 → ¬ (z = 4 ∧ j = p) → ¬ (z = 5 ∧ j = p) → τ1 z j = τ z j := fun z j w1 w2 w3 => by rw [g3, if_neg (fun g => w1 g.1), up2e, if_neg w3, up2e, if_neg w2]
    obtain ⟨τ', a1, a2, a3, a4, a5, a6⟩ := ih (p + 1) n3 τ1 (by rw [f1 _ _ (by decide) (by omega) (by omega)]; exact h1) (by omega) (by omega)
    refine ⟨τ', a1, fun z j w1 w2 w3 w4 => by rw [a2 z j w1 w2 w3 w4]; exact f1 z j w4 (by omega) (by omega), a3, fun q hq => ?_, fun j hj => ?_, fun q q1 q2 => ?_⟩
    · obtain ⟨b1, b2⟩ := a4 q (by omega)
      exact ⟨by rw [b1]; exact f1 _ _ (by decide) (by omega) (by omega), by rw [b2]; exact f1 _ _ (by decide) (by omega) (by omega)⟩
    · rw [a5 j (by omega), g3, if_neg (by omega), upz (by decide), upz (by decide)]
    · by_cases e : q = p
      · subst e
        obtain ⟨b1, b2⟩ := a4 q (by omega)
        refine ⟨by rw [b1, g3, if_neg (by omega), upz (by decide), upe], by rw [b2, g3, if_neg (by omega), upe], fun j hj => ?_⟩
        rw [a5 _ (by omega), g3, if_pos ⟨rfl, by omega, by omega⟩, upz (by decide), upz (by decide)]
      · obtain ⟨b1, b2, b3⟩ := a6 q (by omega) q2
        refine ⟨by rw [b1]; exact f1 _ _ (by decide) (by omega) (by omega), by rw [b2]; exact f1 _ _ (by decide) (by omega) (by omega), fun j hj => by rw [b3 j hj]; exact f1 _ _ (by decide) (by omega) (by omega)⟩
theorem Rl.ax {σ τ τ' : St} (h : Rl σ τ) (a : Ax τ τ') : Rl σ τ' := by
  obtain ⟨P, lam, rd, hr, hd, hs, hz⟩ := h
  exact ⟨P, lam, rd, hr.mv (fun _ _ => rfl) (fun _ => rfl) (fun _ _ _ => rfl) (fun _ _ _ => a _ _ (by omega) (by decide) (by decide) (by decide)) (fun _ => a _ _ (by omega) (by decide) (by decide) (by decide)) (fun _ => a _ _ (by omega) (by decide) (by decide) (by decide)) (fun _ => a _ _ (by omega) (by decide) (by decide) (by decide)), hd.mv rfl (fun _ _ => rfl) (fun _ _ => rfl) (a _ _ (by omega) (by decide) (by decide) (by decide)) (fun _ _ => a _ _ (by omega) (by decide) (by decide) (by decide)) (fun _ _ => a _ _ (by omega) (by decide) (by decide) (by decide)), hs.mv (fun _ _ _ => rfl) (fun _ => a _ _ (by omega) (by decide) (by decide) (by decide)) (fun _ => a _ _ (by omega) (by decide) (by decide) (by decide)) (fun _ => a _ _ (by omega) (by decide) (by decide) (by decide)), hz.mv rfl rfl (a _ _ (by omega) (by decide) (by decide) (by decide)) (a _ _ (by omega) (by decide) (by decide) (by decide)) (a _ _ (by omega) (by decide) (by decide) (by decide)) (a _ _ (by omega) (by decide) (by decide) (by decide))⟩
