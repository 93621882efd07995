theorem posL {P p t : Nat} (hp : p < P) (ht : t < 3 + P) : p * (3 + P) + (3 + P) ≤ P * (3 + P) := by
  have : (p + 1) * (3 + P) ≤ P * (3 + P) := Nat.mul_le_mul_right _ hp
  rw [Nat.add_mul, Nat.one_mul] at this
  exact this
theorem P40 {P : Nat} (h : P ≤ 5) : P * (3 + P) ≤ 40 := Nat.mul_le_mul h (show 3 + P ≤ 8 by omega)
theorem digs_L {σ : St} {k i m P p : Nat} (hP : P ≤ 5) (hp : p < P) : ∀ (c q n2 : Nat) (τ : St), Tx σ τ k i m → τ 0 14 = nI P → τ 0 11 = nI (60 * k + i + (4 + (p * (3 + P) + (3 + q)))) → 4 + (p * (3 + P) + (3 + q)) ≤ m → q + c = P → c < n2 →
    ∃ τ', (∀ z j, ¬ (z = 0 ∧ j = 11) → ¬ (z = 9 ∧ 5 * p + q ≤ j ∧ j < 5 * p + P) → τ' z j = τ z j) ∧
      ((∃ w, w ≤ m ∧ τ' 0 11 = nI (60 * k + i + w) ∧ fX4_readPerson_L112 n2 τ (nI (60 * k + i + m)) (nI p) (nI q) = some (0, τ') ∧ ∀ n, FF σ k i m (n + c + 1) (4 + (p * (3 + P) + (3 + q))) (nI P) (nI (4 + P * (3 + P))) = some (nI w)) ∨
       (4 + (p * (3 + P) + (3 + P)) ≤ m ∧ τ' 0 11 = nI (60 * k + i + (4 + (p * (3 + P) + (3 + P)))) ∧ fX4_readPerson_L112 n2 τ (nI (60 * k + i + m)) (nI p) (nI q) = some (1, τ') ∧ (∀ n, FF σ k i m (n + c) (4 + (p * (3 + P) + (3 + q))) (nI P) (nI (4 + P * (3 + P))) = FF σ k i m n (4 + (p * (3 + P) + (3 + P))) (nI P) (nI (4 + P * (3 + P)))) ∧ ∀ j, q ≤ j → j < P → τ' 9 (5 * p + j) = σ (6 + k) (i + (4 + (p * (3 + P) + (3 + j)))) - 48)) := by
  have h40 := P40 hP
  intro c
  induction c with
  | zero =>
    intro q n2 τ hT h14 hat hm hq hn
    obtain ⟨n2, rfl⟩ : ∃ m, n2 = m + 1 := ⟨n2 - 1, by omega⟩
    have : q = P := by omega
    subst this
    refine ⟨τ, fun _ _ _ _ => rfl, Or.inr ⟨hm, hat, ?_, fun n => rfl, fun j h1 h2 => by omega⟩⟩
    rw [fX4_readPerson_L112, h14, if_pos Int32.le_rfl]
  | succ c ih =>
    intro q n2 τ hT h14 hat hm hq hn
    obtain ⟨n2, rfl⟩ : ∃ m, n2 = m + 1 := ⟨n2 - 1, by omega⟩
    have hpl := posL (t := 0) hp (by omega)
    have i60 := hT.2.1
    have hk := hT.1
    have key : ∀ hi, hi ≤ 9 → (∀ x, fX2_goesOn (nI (4 + (p * (3 + P) + (3 + q)))) x (nI P) = fX2_isDigit x (nI 0) (nI hi)) → fX4_readPerson_L112 (n2 + 1) τ (nI (60 * k + i + m)) (nI p) (nI q) = (bind2 (fX4_digit τ (nI (60 * k + i + m)) (nI 0) (nI hi)) fun r54 σ54 => if (up2 σ54 9 (5 * p + q) r54) 9 (5 * p + q) = (-9) then (some (0, (up2 σ54 9 (5 * p + q) r54))) else (fX4_readPerson_L112 n2 (up2 σ54 9 (5 * p + q) r54) (nI (60 * k + i + m)) (nI p) (nI (q + 1)))) → 
        ∃ τ', (∀ z j, ¬ (z = 0 ∧ j = 11) → ¬ (z = 9 ∧ 5 * p + q ≤ j ∧ j < 5 * p + P) → τ' z j = τ z j) ∧
      ((∃ w, w ≤ m ∧ τ' 0 11 = nI (60 * k + i + w) ∧ fX4_readPerson_L112 (n2 + 1) τ (nI (60 * k + i + m)) (nI p) (nI q) = some (0, τ') ∧ ∀ n, FF σ k i m (n + (c + 1) + 1) (4 + (p * (3 + P) + (3 + q))) (nI P) (nI (4 + P * (3 + P))) = some (nI w)) ∨
       (4 + (p * (3 + P) + (3 + P)) ≤ m ∧ τ' 0 11 = nI (60 * k + i + (4 + (p * (3 + P) + (3 + P)))) ∧ fX4_readPerson_L112 (n2 + 1) τ (nI (60 * k + i + m)) (nI p) (nI q) = some (1, τ') ∧ (∀ n, FF σ k i m (n + (c + 1)) (4 + (p * (3 + P) + (3 + q))) (nI P) (nI (4 + P * (3 + P))) = FF σ k i m n (4 + (p * (3 + P) + (3 + P))) (nI P) (nI (4 + P * (3 + P)))) ∧ ∀ j, q ≤ j → j < P → τ' 9 (5 * p + j) = σ (6 + k) (i + (4 + (p * (3 + P) + (3 + j)))) - 48)) := by
      intro hi hhi hg hstep
      rw [hstep]
      rcases dgx hT hat hm (show 4 + (p * (3 + P) + (3 + q)) < 4 + P * (3 + P) by omega) (by omega) (Nat.zero_le hi) hhi hg with ⟨d1, d2⟩ | ⟨d, -, d9, dm, dc, d1, d2⟩
      · rw [d1]
        simp only [bind2, upe, if_true]
        refine ⟨_, fun z j g1 g2 => by rw [up2e, if_neg (by omega)], Or.inl ⟨_, hm, by rw [upz (by decide)]; exact hat, rfl, fun n => d2 _⟩⟩
      · rw [d1]
        simp only [bind2, upe, if_neg (nIne9 (show d < 2 ^ 31 by omega))]
        have e1 : 60 * k + i + (4 + (p * (3 + P) + (3 + q))) + 1 = 60 * k + i + (4 + (p * (3 + P) + (3 + (q + 1)))) := by omega
        have e2 : 4 + (p * (3 + P) + (3 + q)) + 1 = 4 + (p * (3 + P) + (3 + (q + 1))) := by omega
        obtain ⟨τ', g1, g2⟩ := ih (q + 1) n2 (up2 (up2 τ 0 11 (nI (60 * k + i + (4 + (p * (3 + P) + (3 + q))) + 1))) 9 (5 * p + q) (nI d)) (hT.mv (fun j => by rw [upz (by decide), upz (by decide)])) (by rw [upz (by decide), upj (by decide)]; exact h14) (by rw [upz (by decide), upe, e1]) (by omega) (by omega) (by omega)
        have hstep2 : ∀ n, FF σ k i m (n + 1) (4 + (p * (3 + P) + (3 + q))) (nI P) (nI (4 + P * (3 + P))) = FF σ k i m n (4 + (p * (3 + P) + (3 + (q + 1)))) (nI P) (nI (4 + P * (3 + P))) := fun n => by rw [← e2]; exact ff_ok hT n _ _ _ dm (by omega) (by omega) (by omega) d2
        refine ⟨τ', fun z j w1 w2 => by rw [g1 z j w1 (by omega), up2e, if_neg (by omega), up2e, if_neg (by omega)], ?_⟩
        rcases g2 with ⟨w, a1, a2, a3, a4⟩ | ⟨a1, a2, a3, a4, a5⟩
        · exact Or.inl ⟨w, a1, a2, a3, fun n => by rw [← a4 n, ← hstep2]; rfl⟩
        · refine Or.inr ⟨a1, a2, a3, fun n => by rw [← a4 n, ← hstep2]; rfl, fun j j1 j2 => ?_⟩
          by_cases e : j = q
          · subst e
            rw [g1 _ _ (by omega) (by omega), upe, dc, show (48 : Int32) = nI 48 from rfl, pk_sub (by omega), Nat.add_sub_cancel_left]
          · exact a5 j (by omega) j2
    have hlt : (nI P ≤ nI q) = False := leF (by omega) (by omega)
    have t3 : ¬ 3 + q = 0 := by omega
    have t31 : ¬ 3 + q = 1 := by omega
    have t32 : ¬ 3 + q = 2 := by omega
    by_cases cq : q = p
    · refine key 0 (by decide) (fun x => ?_) ?_
      · rw [gonP hP hp (by omega), if_neg t3, if_neg t31, if_neg t32, if_pos (by omega)]
      · rw [fX4_readPerson_L112]
        simp only [h14, hlt, if_false, eqT cq, if_true, e5, cN (show 5 * p + q < 2 ^ 31 by omega), gP (show 5 * p + q < 25 by omega) (by decide), nI_1, n0]
    · refine key 9 (by decide) (fun x => ?_) ?_
      · rw [gonP hP hp (by omega), if_neg t3, if_neg t31, if_neg t32, if_neg (by omega)]
      · rw [fX4_readPerson_L112]
        simp only [h14, hlt, if_false, eqF cq (show q < 2 ^ 31 by omega) (show p < 2 ^ 31 by omega), e5, cN (show 5 * p + q < 2 ^ 31 by omega), gP (show 5 * p + q < 25 by omega) (by decide), nI_1, n0]
        rfl
theorem kof {x : Int32} : (x = 114 ∧ fX2_kindOf x = some (nI 0)) ∨ (x = 102 ∧ fX2_kindOf x = some (nI 1)) ∨ (x = 98 ∧ fX2_kindOf x = some (nI 2)) ∨ (¬ x = 114 ∧ ¬ x = 102 ∧ ¬ x = 98 ∧ fX2_kindOf x = some (-9)) := by
  rw [fX2_kindOf]
  by_cases a : x = 98
  · subst a; exact Or.inr (Or.inr (Or.inl ⟨rfl, rfl⟩))
  · by_cases b : x = 102
    · subst b; exact Or.inr (Or.inl ⟨rfl, rfl⟩)
    · by_cases c : x = 114
      · subst c; exact Or.inl ⟨rfl, rfl⟩
      · refine Or.inr (Or.inr (Or.inr ⟨c, b, a, ?_⟩)); rw [if_neg a, if_neg b, if_neg c]
theorem cont_R {σ τ : St} {k i m P p n2 kd : Nat} (hP : P ≤ 5) (hp : p < P) (hT : Tx σ τ k i m) (h14 : τ 0 14 = nI P) (hat : τ 0 11 = nI (60 * k + i + (4 + (p * (3 + P) + 1)))) (hm : 4 + (p * (3 + P) + 1) < m) (hn : 6 ≤ n2) (hkd : kd ≤ 2) :
    ∃ τ', (∀ z j, ¬ (z = 0 ∧ j = 11) → ¬ (z = 7 ∧ j = p) → ¬ (z = 8 ∧ j = p) → ¬ (z = 9 ∧ 5 * p ≤ j ∧ j < 5 * p + P) → τ' z j = τ z j) ∧
      ((∃ w, w ≤ m ∧ τ' 0 11 = nI (60 * k + i + w) ∧ (bind2 (fX4_digit (up2 (up2 τ 7 p (nI kd)) 0 11 (nI (60 * k + i + (4 + (p * (3 + P) + 1)) + 1))) (nI (60 * k + i + m)) 0 1) fun r42 σ42 => if (up2 σ42 8 p r42) 8 p = (-9) then (some (0, (up2 σ42 8 p r42))) else (fX4_readPerson_L112 n2 (up2 σ42 8 p r42) (nI (60 * k + i + m)) (nI p) 0)) = some (0, τ') ∧ ∀ n, FF σ k i m (n + P + 2) (4 + (p * (3 + P) + 2)) (nI P) (nI (4 + P * (3 + P))) = some (nI w)) ∨
       (4 + (p * (3 + P) + (3 + P)) ≤ m ∧ τ' 0 11 = nI (60 * k + i + (4 + (p * (3 + P) + (3 + P)))) ∧ (bind2 (fX4_digit (up2 (up2 τ 7 p (nI kd)) 0 11 (nI (60 * k + i + (4 + (p * (3 + P) + 1)) + 1))) (nI (60 * k + i + m)) 0 1) fun r42 σ42 => if (up2 σ42 8 p r42) 8 p = (-9) then (some (0, (up2 σ42 8 p r42))) else (fX4_readPerson_L112 n2 (up2 σ42 8 p r42) (nI (60 * k + i + m)) (nI p) 0)) = some (1, τ') ∧ (∀ n, FF σ k i m (n + P + 1) (4 + (p * (3 + P) + 2)) (nI P) (nI (4 + P * (3 + P))) = FF σ k i m n (4 + (p * (3 + P) + (3 + P))) (nI P) (nI (4 + P * (3 + P)))) ∧ τ' 7 p = nI kd ∧ (∃ lm, lm ≤ 1 ∧ τ' 8 p = nI lm ∧ σ (6 + k) (i + (4 + (p * (3 + P) + 2))) = nI (48 + lm)) ∧ ∀ j, j < P → τ' 9 (5 * p + j) = σ (6 + k) (i + (4 + (p * (3 + P) + (3 + j)))) - 48)) := by
  have h40 := P40 hP
  have hpl := posL (t := 0) hp (by omega)
  have i60 := hT.2.1
  have hk := hT.1
  have e1 : 60 * k + i + (4 + (p * (3 + P) + 1)) + 1 = 60 * k + i + (4 + (p * (3 + P) + 2)) := by omega
  have hg : ∀ x, fX2_goesOn (nI (4 + (p * (3 + P) + 2))) x (nI P) = fX2_isDigit x (nI 0) (nI 1) := fun x => by rw [gonP hP hp (by omega), if_neg (by decide), if_neg (by decide), if_pos rfl]
  have hT1 : Tx σ (up2 (up2 τ 7 p (nI kd)) 0 11 (nI (60 * k + i + (4 + (p * (3 + P) + 1)) + 1))) k i m := hT.mv (fun j => by rw [upz (by decide), upz (by decide)])
  rcases dgx hT1 (by rw [upe, e1]) (show 4 + (p * (3 + P) + 2) ≤ m by omega) (show 4 + (p * (3 + P) + 2) < 4 + P * (3 + P) by omega) (by omega) (Nat.zero_le 1) (by decide) hg with ⟨d1, d2⟩ | ⟨d, -, d9, dm, dc, d1, d2⟩
  · rw [n0, n1] at d1
    rw [d1]
    simp only [bind2, upe, if_true]
    refine ⟨_, fun z j g1 g2 g3 g4 => by rw [up2e, if_neg g3, up2e, if_neg g1, up2e, if_neg g2], Or.inl ⟨_, by omega, by rw [upz (by decide), upe, e1], rfl, fun n => d2 _⟩⟩
  · rw [n0, n1] at d1
    rw [d1]
    simp only [bind2, upe, if_neg (nIne9 (show d < 2 ^ 31 by omega))]
    have e2 : 60 * k + i + (4 + (p * (3 + P) + 2)) + 1 = 60 * k + i + (4 + (p * (3 + P) + (3 + 0))) := by omega
    have e3 : 4 + (p * (3 + P) + 2) + 1 = 4 + (p * (3 + P) + (3 + 0)) := by omega
    obtain ⟨τ', g1, g2⟩ := digs_L hP hp P 0 n2 (up2 (up2 (up2 (up2 τ 7 p (nI kd)) 0 11 (nI (60 * k + i + (4 + (p * (3 + P) + 1)) + 1))) 0 11 (nI (60 * k + i + (4 + (p * (3 + P) + 2)) + 1))) 8 p (nI d)) (hT1.mv (fun j => by rw [upz (by decide), upz (by decide)])) (by rw [upz (by decide), upj (by decide), upj (by decide), upz (by decide)]; exact h14) (by rw [upz (by decide), upe, e2]) (by omega) (by omega) (by omega)
    have hstep2 : ∀ n, FF σ k i m (n + 1) (4 + (p * (3 + P) + 2)) (nI P) (nI (4 + P * (3 + P))) = FF σ k i m n (4 + (p * (3 + P) + (3 + 0))) (nI P) (nI (4 + P * (3 + P))) := fun n => by rw [← e3]; exact ff_ok hT n _ _ _ dm (by omega) (by omega) (by omega) d2
    rw [n0] at g2
    refine ⟨τ', fun z j w1 w2 w3 w4 => by rw [g1 z j w1 (by omega), up2e, if_neg w3, up2e, if_neg w1, up2e, if_neg w1, up2e, if_neg w2], ?_⟩
    rcases g2 with ⟨w, a1, a2, a3, a4⟩ | ⟨a1, a2, a3, a4, a5⟩
    · exact Or.inl ⟨w, a1, a2, a3, fun n => by rw [← a4 n, ← hstep2]⟩
    · refine Or.inr ⟨a1, a2, a3, fun n => by rw [← a4 n, ← hstep2], ?_, ⟨d, d9, ?_, dc⟩, fun j hj => a5 j (by omega) hj⟩
      · rw [g1 _ _ (by omega) (by omega), upz (by decide), upz (by decide), upz (by decide), upe]
      · rw [g1 _ _ (by omega) (by omega), upe]
theorem person_R {σ τ : St} {k i m P p n2 : Nat} (hP : P ≤ 5) (hp : p < P) (hT : Tx σ τ k i m) (h14 : τ 0 14 = nI P) (hat : τ 0 11 = nI (60 * k + i + (4 + (p * (3 + P) + 1)))) (hm : 4 + (p * (3 + P) + 1) ≤ m) (hn : 6 ≤ n2) :
    ∃ τ', (∀ z j, ¬ (z = 0 ∧ j = 11) → ¬ (z = 7 ∧ j = p) → ¬ (z = 8 ∧ j = p) → ¬ (z = 9 ∧ 5 * p ≤ j ∧ j < 5 * p + P) → τ' z j = τ z j) ∧
      ((∃ w, w ≤ m ∧ τ' 0 11 = nI (60 * k + i + w) ∧ fX4_readPerson n2 τ (nI (60 * k + i + m)) (nI p) = some (0, τ') ∧ ∀ n, FF σ k i m (n + P + 3) (4 + (p * (3 + P) + 1)) (nI P) (nI (4 + P * (3 + P))) = some (nI w)) ∨
       (4 + (p * (3 + P) + (3 + P)) ≤ m ∧ τ' 0 11 = nI (60 * k + i + (4 + (p * (3 + P) + (3 + P)))) ∧ fX4_readPerson n2 τ (nI (60 * k + i + m)) (nI p) = some (1, τ') ∧ (∀ n, FF σ k i m (n + P + 2) (4 + (p * (3 + P) + 1)) (nI P) (nI (4 + P * (3 + P))) = FF σ k i m n (4 + (p * (3 + P) + (3 + P))) (nI P) (nI (4 + P * (3 + P)))) ∧ (∃ kd, kd ≤ 2 ∧ τ' 7 p = nI kd ∧ fX2_kindOf (σ (6 + k) (i + (4 + (p * (3 + P) + 1)))) = some (nI kd)) ∧ (∃ lm, lm ≤ 1 ∧ τ' 8 p = nI lm ∧ σ (6 + k) (i + (4 + (p * (3 + P) + 2))) = nI (48 + lm)) ∧ ∀ j, j < P → τ' 9 (5 * p + j) = σ (6 + k) (i + (4 + (p * (3 + P) + (3 + j)))) - 48)) := by
  have h40 := P40 hP
  have hpl := posL (t := 0) hp (by omega)
  have i60 := hT.2.1
  have hk := hT.1
  have gP5 := gP (show p < 5 by omega) (by decide)
  have cNp := cN (show p < 2 ^ 31 by omega)
  have hg : ∀ x, fX2_goesOn (nI (4 + (p * (3 + P) + 1))) x (nI P) = (fX2_kindOf x).bind (fun r => if r = -9 then some 0 else some 1) := fun x => by rw [gonP hP hp (by omega), if_neg (by decide), if_pos rfl]
  have nop : up2 τ 7 p (-9) 0 11 = nI (60 * k + i + (4 + (p * (3 + P) + 1))) := by rw [upz (by decide)]; exact hat
  have frm : ∀ z j, ¬ (z = 0 ∧ j = 11) → ¬ (z = 7 ∧ j = p) → ¬ (z = 8 ∧ j = p) → ¬ (z = 9 ∧ 5 * p ≤ j ∧ j < 5 * p + P) → up2 τ 7 p (-9) z j = τ z j := fun z j g1 g2 g3 g4 => by rw [up2e, if_neg g2]
  rw [fX4_readPerson]
  by_cases c : 4 + (p * (3 + P) + 1) < m
  · have hx := hT.2.2 _ c
    have ec : 60 * k + i + (4 + (p * (3 + P) + 1)) = 60 * k + i + (4 + (p * (3 + P) + 1)) := rfl
    simp only [hat, leF (show 60 * k + i + (4 + (p * (3 + P) + 1)) < 60 * k + i + m by omega) (show 60 * k + i + m < 2 ^ 31 by omega), if_false, cN (show 60 * k + i + (4 + (p * (3 + P) + 1)) < 2 ^ 31 by omega), gP (show 60 * k + i + (4 + (p * (3 + P) + 1)) < 240 by omega) (by decide), cNp, gP5, upe, ← hx]
    have fin : ∀ kd, kd ≤ 2 → fX2_kindOf (σ (6 + k) (i + (4 + (p * (3 + P) + 1)))) = some (nI kd) → ∀ X, X = (bind2 (fX4_digit (up2 (up2 τ 7 p (nI kd)) 0 11 (nI (60 * k + i + (4 + (p * (3 + P) + 1)) + 1))) (nI (60 * k + i + m)) 0 1) fun r42 σ42 => if (up2 σ42 8 p r42) 8 p = (-9) then (some (0, (up2 σ42 8 p r42))) else (fX4_readPerson_L112 n2 (up2 σ42 8 p r42) (nI (60 * k + i + m)) (nI p) 0)) →
        ∃ τ', (∀ z j, ¬ (z = 0 ∧ j = 11) → ¬ (z = 7 ∧ j = p) → ¬ (z = 8 ∧ j = p) → ¬ (z = 9 ∧ 5 * p ≤ j ∧ j < 5 * p + P) → τ' z j = τ z j) ∧
      ((∃ w, w ≤ m ∧ τ' 0 11 = nI (60 * k + i + w) ∧ X = some (0, τ') ∧ ∀ n, FF σ k i m (n + P + 3) (4 + (p * (3 + P) + 1)) (nI P) (nI (4 + P * (3 + P))) = some (nI w)) ∨
       (4 + (p * (3 + P) + (3 + P)) ≤ m ∧ τ' 0 11 = nI (60 * k + i + (4 + (p * (3 + P) + (3 + P)))) ∧ X = some (1, τ') ∧ (∀ n, FF σ k i m (n + P + 2) (4 + (p * (3 + P) + 1)) (nI P) (nI (4 + P * (3 + P))) = FF σ k i m n (4 + (p * (3 + P) + (3 + P))) (nI P) (nI (4 + P * (3 + P)))) ∧ (∃ kd, kd ≤ 2 ∧ τ' 7 p = nI kd ∧ fX2_kindOf (σ (6 + k) (i + (4 + (p * (3 + P) + 1)))) = some (nI kd)) ∧ (∃ lm, lm ≤ 1 ∧ τ' 8 p = nI lm ∧ σ (6 + k) (i + (4 + (p * (3 + P) + 2))) = nI (48 + lm)) ∧ ∀ j, j < P → τ' 9 (5 * p + j) = σ (6 + k) (i + (4 + (p * (3 + P) + (3 + j)))) - 48)) := by
      intro kd hkd hko X hX
      subst hX
      have e3 : 4 + (p * (3 + P) + 1) + 1 = 4 + (p * (3 + P) + 2) := by omega
      have hgo : fX2_goesOn (nI (4 + (p * (3 + P) + 1))) (σ (6 + k) (i + (4 + (p * (3 + P) + 1)))) (nI P) = some 1 := by rw [hg, hko, Option.bind_some, if_neg (nIne9 (by omega))]
      have hstep2 : ∀ n, FF σ k i m (n + 1) (4 + (p * (3 + P) + 1)) (nI P) (nI (4 + P * (3 + P))) = FF σ k i m n (4 + (p * (3 + P) + 2)) (nI P) (nI (4 + P * (3 + P))) := fun n => by rw [← e3]; exact ff_ok hT n _ _ _ c (by omega) (by omega) (by omega) hgo
      obtain ⟨τ', g1, g2⟩ := cont_R (n2 := n2) hP hp hT h14 hat c hn hkd
      refine ⟨τ', g1, ?_⟩
      rcases g2 with ⟨w, a1, a2, a3, a4⟩ | ⟨a1, a2, a3, a4, a5, a6, a7⟩
      · exact Or.inl ⟨w, a1, a2, a3, fun n => by rw [← a4 n, ← hstep2]⟩
      · exact Or.inr ⟨a1, a2, a3, fun n => by rw [← a4 n, ← hstep2], ⟨kd, hkd, a5, hko⟩, a6, a7⟩
    have upn : ∀ v : Int32, up2 τ 7 p v 0 11 + 1 = nI (60 * k + i + (4 + (p * (3 + P) + 1)) + 1) := fun v => by rw [upz (by decide), hat, nI_1]
    rcases kof (x := σ (6 + k) (i + (4 + (p * (3 + P) + 1)))) with ⟨a, b⟩ | ⟨a, b⟩ | ⟨a, b⟩ | ⟨a1, a2, a3, b⟩
    · refine fin 0 (by decide) b _ ?_
      rw [if_pos a, if_neg (by decide), upn]; simp only [upe]; rfl
    · refine fin 1 (by decide) b _ ?_
      rw [a, if_neg (by decide), if_pos rfl, if_neg (by decide), upn]; simp only [upe]; rfl
    · refine fin 2 (by decide) b _ ?_
      rw [a, if_neg (by decide), if_neg (by decide), if_pos rfl, if_neg (by decide), upn]; simp only [upe]; rfl
    · rw [if_neg a1, if_neg a2, if_neg a3]
      simp only [if_true]
      refine ⟨_, frm, Or.inl ⟨_, hm, nop, rfl, fun n => ff_bad hT _ _ _ _ c (by omega) (by omega) ?_⟩⟩
      rw [hg, b]; rfl
  · have em : 4 + (p * (3 + P) + 1) = m := by omega
    rw [hat, em, if_pos Int32.le_rfl]
    simp only [cNp, gP5, if_false, upe, if_true]
    refine ⟨_, frm, Or.inl ⟨m, Nat.le_refl m, by rw [nop, em], rfl, fun n => ?_⟩⟩
    show FF σ k i m (n + P + 2 + 1) m (nI P) (nI (4 + P * (3 + P))) = some (nI m)
    rw [ff_end hT _ _ _ (by omega), if_neg (by omega)]
