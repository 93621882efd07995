/-- what is known of a person's codes, and of what the reference has read of them -/
def Kn (σ τ : St) (k i P p : Nat) : Prop := (∃ kd, kd ≤ 2 ∧ τ 7 p = nI kd ∧ fX2_kindOf (σ (6 + k) (i + (4 + (p * (3 + P) + 1)))) = some (nI kd)) ∧ (∃ lm, lm ≤ 1 ∧ τ 8 p = nI lm ∧ σ (6 + k) (i + (4 + (p * (3 + P) + 2))) = nI (48 + lm)) ∧ ∀ j, j < P → τ 9 (5 * p + j) = σ (6 + k) (i + (4 + (p * (3 + P) + (3 + j)))) - 48
theorem Kn.mv {σ τ τ' : St} {k i P p : Nat} (h : Kn σ τ k i P p) (a : τ' 7 p = τ 7 p) (b : τ' 8 p = τ 8 p) (c : ∀ j, j < P → τ' 9 (5 * p + j) = τ 9 (5 * p + j)) : Kn σ τ' k i P p := by
  obtain ⟨⟨kd, k1, k2, k3⟩, ⟨lm, l1, l2, l3⟩, h3⟩ := h
  exact ⟨⟨kd, k1, by rw [a]; exact k2, k3⟩, ⟨lm, l1, by rw [b]; exact l2, l3⟩, fun j hj => by rw [c j hj]; exact h3 j hj⟩
theorem river_L {σ : St} {k i m P : Nat} (hP : P ≤ 5) : ∀ (c p n2 : Nat) (τ : St), Tx σ τ k i m → τ 0 14 = nI P → τ 0 11 = nI (60 * k + i + (4 + p * (3 + P))) → 4 + p * (3 + P) ≤ m → p + c = P → c + 8 ≤ n2 →
    ∃ τ', (∀ z j, ¬ (z = 0 ∧ j = 11) → ¬ (z = 7 ∧ p ≤ j) → ¬ (z = 8 ∧ p ≤ j) → ¬ (z = 9 ∧ 5 * p ≤ j) → τ' z j = τ z j) ∧
      ((∃ w, w ≤ m ∧ τ' 0 11 = nI (60 * k + i + w) ∧ fX4_readRiver_L80 n2 τ (nI (60 * k + i + m)) (nI p) = some (0, τ') ∧ ∀ n, FF σ k i m (n + c * (3 + P) + 2) (4 + p * (3 + P)) (nI P) (nI (4 + P * (3 + P))) = some (nI w)) ∨
       (m = 4 + P * (3 + P) ∧ fX4_readRiver_L80 n2 τ (nI (60 * k + i + m)) (nI p) = some (1, τ') ∧ (∀ n, FF σ k i m (n + c * (3 + P) + 2) (4 + p * (3 + P)) (nI P) (nI (4 + P * (3 + P))) = some (-9)) ∧ ∀ q, p ≤ q → q < P → Kn σ τ' k i P q)) := by
  have h40 := P40 hP
  intro c
  induction c with
  | zero =>
    intro p n2 τ hT h14 hat hm hp hn
    obtain ⟨n2, rfl⟩ : ∃ m, n2 = m + 1 := ⟨n2 - 1, by omega⟩
    have i60 := hT.2.1
    have hk := hT.1
    have : p = P := by omega
    subst this
    rw [fX4_readRiver_L80, h14, if_pos Int32.le_rfl, hat]
    refine ⟨τ, fun _ _ _ _ _ _ => rfl, ?_⟩
    by_cases e : m = 4 + p * (3 + p)
    · right
      refine ⟨e, by rw [e, if_pos rfl], fun n => ?_, fun q h1 h2 => by omega⟩
      have := ff_end hT (n + 1) (4 + p * (3 + p)) (nI p) (by omega)
      rw [if_pos (by omega)] at this
      rw [Nat.zero_mul, Nat.add_zero]
      rw [e] at this ⊢
      exact this
    · left
      refine ⟨4 + p * (3 + p), hm, hat, by rw [if_neg (fun q => e (by have := (nI_eq (by omega) (by omega)).mp q; omega))], fun n => ?_⟩
      rw [Nat.zero_mul, Nat.add_zero]
      exact ff_len hT (n + 1) _ _ _ (by omega) (Nat.le_refl _)
  | succ c ih =>
    intro p n2 τ hT h14 hat hm hp hn
    obtain ⟨n2, rfl⟩ : ∃ m, n2 = m + 1 := ⟨n2 - 1, by omega⟩
    have i60 := hT.2.1
    have hk := hT.1
    have hpP : p < P := by omega
    have hpl := posL (t := 0) hpP (by omega)
    have hg : ∀ x, fX2_goesOn (nI (4 + p * (3 + P))) x (nI P) = if x = 44 then some 1 else some 0 := fun x => by
      have := gonP (t := 0) hP hpP (by omega) x
      rw [Nat.add_zero, if_pos rfl] at this
      exact this
    rw [fX4_readRiver_L80, h14, if_neg (nI_ge hpP (by omega))]
    rcases sgx hT hat hm (show 4 + p * (3 + P) < 4 + P * (3 + P) by omega) (by omega) hg with ⟨d1, d2⟩ | ⟨dm, d1, d2⟩
    · rw [d1]
      simp only [bind2, if_true]
      exact ⟨τ, fun _ _ _ _ _ _ => rfl, Or.inl ⟨_, hm, hat, rfl, fun n => d2 _⟩⟩
    · rw [d1]
      simp only [bind2, i10, if_false]
      have e1 : 60 * k + i + (4 + p * (3 + P)) + 1 = 60 * k + i + (4 + (p * (3 + P) + 1)) := by omega
      have e3 : 4 + p * (3 + P) + 1 = 4 + (p * (3 + P) + 1) := by omega
      have hstep2 : ∀ n, FF σ k i m (n + 1) (4 + p * (3 + P)) (nI P) (nI (4 + P * (3 + P))) = FF σ k i m n (4 + (p * (3 + P) + 1)) (nI P) (nI (4 + P * (3 + P))) := fun n => by rw [← e3]; exact ff_ok hT n _ _ _ dm (by omega) (by omega) (by omega) d2
      obtain ⟨τ1, g1, g2⟩ := person_R (n2 := n2) hP hpP (hT.mv (τ' := up2 τ 0 11 (nI (60 * k + i + (4 + p * (3 + P)) + 1))) (fun j => upz (by decide))) (by rw [upj (by decide)]; exact h14) (by rw [upe, e1]) (by omega) (by omega)
      have em : (c + 1) * (3 + P) = c * (3 + P) + (3 + P) := by rw [Nat.add_mul, Nat.one_mul]
      have hfr1 : ∀ z j, ¬ (z = 0 ∧ j = 11) → ¬ (z = 7 ∧ p ≤ j) → ¬ (z = 8 ∧ p ≤ j) → ¬ (z = 9 ∧ 5 * p ≤ j) → τ1 z j = τ z j := fun z j w1 w2 w3 w4 => by rw [g1 z j w1 (by omega) (by omega) (by omega), up2e, if_neg w1]
      rcases g2 with ⟨w, a1, a2, a3, a4⟩ | ⟨a1, a2, a3, a4, a5, a6, a7⟩
      · rw [a3]
        simp only [if_true]
        refine ⟨τ1, hfr1, Or.inl ⟨w, a1, a2, rfl, fun n => ?_⟩⟩
        have := a4 (n + c * (3 + P) + 1)
        rw [← hstep2] at this
        rw [← this]
        congr 1
        omega
      · rw [a3]
        simp only [i10, if_false, nI_1]
        have e4 : 4 + (p * (3 + P) + (3 + P)) = 4 + (p + 1) * (3 + P) := by rw [Nat.add_mul, Nat.one_mul]
        rw [e4] at a1 a2
        obtain ⟨τ2, b1, b2⟩ := ih (p + 1) n2 τ1 (hT.mv (fun j => hfr1 3 j (by omega) (by omega) (by omega) (by omega))) (by rw [hfr1 0 14 (by decide) (by omega) (by omega) (by omega)]; exact h14) a2 a1 (by omega) (by omega)
        have cls : ∀ n, FF σ k i m (n + (c + 1) * (3 + P) + 2) (4 + p * (3 + P)) (nI P) (nI (4 + P * (3 + P))) = FF σ k i m (n + c * (3 + P) + 2) (4 + (p + 1) * (3 + P)) (nI P) (nI (4 + P * (3 + P))) := fun n => by
          have := a4 (n + c * (3 + P) + 2)
          rw [← hstep2, e4] at this
          rw [← this]
          congr 1
          omega
        refine ⟨τ2, fun z j w1 w2 w3 w4 => by rw [b1 z j w1 (by omega) (by omega) (by omega)]; exact hfr1 z j w1 w2 w3 w4, ?_⟩
        rcases b2 with ⟨w, c1, c2, c3, c4⟩ | ⟨c1, c2, c3, c4⟩
        · exact Or.inl ⟨w, c1, c2, c3, fun n => by rw [cls]; exact c4 n⟩
        · refine Or.inr ⟨c1, c2, fun n => by rw [cls]; exact c3 n, fun q q1 q2 => ?_⟩
          by_cases e : q = p
          · subst e
            have kn : Kn σ τ1 k i P q := ⟨a5, a6, a7⟩
            exact kn.mv (b1 _ _ (by omega) (by omega) (by omega) (by omega)) (b1 _ _ (by omega) (by omega) (by omega) (by omega)) (fun j hj => b1 _ _ (by omega) (by omega) (by omega) (by omega))
          · exact c4 q (by omega) q2
theorem text_R {σ τ : St} {k i m n1 n2 : Nat} (hT : Tx σ τ k i m) (hat : τ 0 11 = nI (60 * k + i)) (hn1 : 60 ≤ n1) (hn2 : 20 ≤ n2) :
    ∃ τ', Ax τ τ' ∧ ((∃ w, w ≤ m ∧ τ' 0 11 = nI (60 * k + i + w) ∧ fX4_readRiver n2 τ (nI (60 * k + i + m)) = some (0, τ') ∧ fX2_firstFault n1 σ k (nI i) (nI m) = some (nI w)) ∨
      (∃ R T P, 2 ≤ P ∧ P ≤ 5 ∧ m = 4 + P * (3 + P) ∧ fX4_readRiver n2 τ (nI (60 * k + i + m)) = some (1, τ') ∧ fX2_firstFault n1 σ k (nI i) (nI m) = some (-9) ∧ σ (6 + k) (i + 1) = nI (48 + R) ∧ τ' 0 12 = nI R ∧ σ (6 + k) (i + 2) = nI (48 + T) ∧ τ' 0 13 = nI T ∧ σ (6 + k) (i + 3) = nI (48 + P) ∧ τ' 0 14 = nI P ∧ ∀ q, q < P → Kn σ τ' k i P q)) := by
  have i60 := hT.2.1
  have hk := hT.1
  have hff : ∀ n, fX2_firstFault n σ k (nI i) (nI m) = FF σ k i m n 0 0 (nI 4) := fun n => rfl
  obtain ⟨x, rfl⟩ : ∃ x, n1 = x + 1 + 1 + 1 + 1 := ⟨n1 - 4, by omega⟩
  rw [hff, fX4_readRiver]
  rcases sgx (a := 0) (L := 4) (v3 := 0) (cd := 111) hT (by rw [Nat.add_zero]; exact hat) (by omega) (by decide) (by decide) (fun x => gon0 x 0) with ⟨d1, d2⟩ | ⟨m0, d1, d2⟩
  · rw [d1]
    simp only [bind2, if_true]
    exact ⟨τ, fun _ _ _ _ _ _ => rfl, Or.inl ⟨0, by omega, by rw [Nat.add_zero]; exact hat, rfl, d2 _⟩⟩
  · have s0 : FF σ k i m (x + 1 + 1 + 1 + 1) 0 0 (nI 4) = FF σ k i m (x + 1 + 1 + 1) 1 0 (nI 4) := ff_ok hT _ _ _ _ m0 (by decide) (by decide) (by decide) d2
    rw [d1, s0]
    simp only [bind2, i10, if_false]
    generalize ht1 : up2 τ 0 11 (nI (60 * k + i + 0 + 1)) = τ1
    have a1 : τ1 0 11 = nI (60 * k + i + 1) := by rw [← ht1, upe]
    have hT1 : Tx σ τ1 k i m := hT.mv (fun j => by rw [← ht1, upz (by decide)])
    have ax1 : Ax τ τ1 := fun z j g1 g2 g3 g4 => by rw [← ht1, up2e, if_neg (by omega)]
    rcases dgx (a := 1) (L := 4) (v3 := 0) (lo := 1) (hi := 3) hT1 a1 (by omega) (by decide) (by decide) (by decide) (by decide) (fun x => gon1 x 0) with ⟨d1, d2⟩ | ⟨R, -, R3, m1, dc1, d1, d2⟩
    · have d1' : fX4_digit τ1 (nI (60 * k + i + m)) 1 3 = some (-9, τ1) := d1
      rw [d1']
      simp only [upe, if_true]
      exact ⟨_, fun z j g1 g2 g3 g4 => by rw [up2e, if_neg (by omega)]; exact ax1 z j g1 g2 g3 g4, Or.inl ⟨1, by omega, by rw [upj (by decide)]; exact a1, rfl, d2 _⟩⟩
    · have d1' : fX4_digit τ1 (nI (60 * k + i + m)) 1 3 = some (nI R, up2 τ1 0 11 (nI (60 * k + i + 1 + 1))) := d1
      have s1 : FF σ k i m (x + 1 + 1 + 1) 1 0 (nI 4) = FF σ k i m (x + 1 + 1) 2 0 (nI 4) := ff_ok hT _ _ _ _ m1 (by decide) (by decide) (by decide) d2
      rw [d1', s1]
      simp only [upe, if_neg (nIne9 (show R < 2 ^ 31 by omega))]
      generalize ht2 : up2 (up2 τ1 0 11 (nI (60 * k + i + 1 + 1))) 0 12 (nI R) = τ2
      have a2 : τ2 0 11 = nI (60 * k + i + 2) := by rw [← ht2, upj (by decide), upe]
      have r2 : τ2 0 12 = nI R := by rw [← ht2, upe]
      have hT2 : Tx σ τ2 k i m := hT1.mv (fun j => by rw [← ht2, upz (by decide), upz (by decide)])
      have ax2 : Ax τ τ2 := fun z j g1 g2 g3 g4 => by rw [← ht2, up2e, if_neg (by omega), up2e, if_neg (by omega)]; exact ax1 z j g1 g2 g3 g4
      rcases dgx (a := 2) (L := 4) (v3 := 0) (lo := 1) (hi := 3) hT2 a2 (by omega) (by decide) (by decide) (by decide) (by decide) (fun x => gon2 x 0) with ⟨e1, e2⟩ | ⟨T, -, T3, m2, dc2, e1, e2⟩
      · have e1' : fX4_digit τ2 (nI (60 * k + i + m)) 1 3 = some (-9, τ2) := e1
        rw [e1']
        simp only [upe, if_true]
        exact ⟨_, fun z j g1 g2 g3 g4 => by rw [up2e, if_neg (by omega)]; exact ax2 z j g1 g2 g3 g4, Or.inl ⟨2, by omega, by rw [upj (by decide)]; exact a2, rfl, e2 _⟩⟩
      · have e1' : fX4_digit τ2 (nI (60 * k + i + m)) 1 3 = some (nI T, up2 τ2 0 11 (nI (60 * k + i + 2 + 1))) := e1
        have s2 : FF σ k i m (x + 1 + 1) 2 0 (nI 4) = FF σ k i m (x + 1) 3 0 (nI 4) := ff_ok hT _ _ _ _ m2 (by decide) (by decide) (by decide) e2
        rw [e1', s2]
        simp only [upe, if_neg (nIne9 (show T < 2 ^ 31 by omega))]
        generalize ht3 : up2 (up2 τ2 0 11 (nI (60 * k + i + 2 + 1))) 0 13 (nI T) = τ3
        have a3 : τ3 0 11 = nI (60 * k + i + 3) := by rw [← ht3, upj (by decide), upe]
        have r3 : τ3 0 12 = nI R := by rw [← ht3, upj (by decide), upj (by decide)]; exact r2
        have t3 : τ3 0 13 = nI T := by rw [← ht3, upe]
        have hT3 : Tx σ τ3 k i m := hT2.mv (fun j => by rw [← ht3, upz (by decide), upz (by decide)])
        have ax3 : Ax τ τ3 := fun z j g1 g2 g3 g4 => by rw [← ht3, up2e, if_neg (by omega), up2e, if_neg (by omega)]; exact ax2 z j g1 g2 g3 g4
        rcases dgx (a := 3) (L := 4) (v3 := 0) (lo := 2) (hi := 5) hT3 a3 (by omega) (by decide) (by decide) (by decide) (by decide) (fun x => gon3 x 0) with ⟨f1, f2⟩ | ⟨P, P2, P5, m3, dc3, f1, f2⟩
        · have f1' : fX4_digit τ3 (nI (60 * k + i + m)) 2 5 = some (-9, τ3) := f1
          rw [f1']
          simp only [upe, if_true]
          exact ⟨_, fun z j g1 g2 g3 g4 => by rw [up2e, if_neg (by omega)]; exact ax3 z j g1 g2 g3 g4, Or.inl ⟨3, by omega, by rw [upj (by decide)]; exact a3, rfl, f2 _⟩⟩
        · have f1' : fX4_digit τ3 (nI (60 * k + i + m)) 2 5 = some (nI P, up2 τ3 0 11 (nI (60 * k + i + 3 + 1))) := f1
          have s3 : FF σ k i m (x + 1) 3 0 (nI 4) = FF σ k i m x 4 (nI P) (nI (4 + P * (3 + P))) := ff_3 hT _ _ _ m3 dc3 f2
          rw [f1', s3]
          simp only [upe, if_neg (nIne9 (show P < 2 ^ 31 by omega))]
          generalize ht4 : up2 (up2 τ3 0 11 (nI (60 * k + i + 3 + 1))) 0 14 (nI P) = τ4
          have a4 : τ4 0 11 = nI (60 * k + i + (4 + 0 * (3 + P))) := by rw [← ht4, upj (by decide), upe, Nat.zero_mul]
          have r4 : τ4 0 12 = nI R := by rw [← ht4, upj (by decide), upj (by decide)]; exact r3
          have t4 : τ4 0 13 = nI T := by rw [← ht4, upj (by decide), upj (by decide)]; exact t3
          have p4 : τ4 0 14 = nI P := by rw [← ht4, upe]
          have hT4 : Tx σ τ4 k i m := hT3.mv (fun j => by rw [← ht4, upz (by decide), upz (by decide)])
          have ax4 : Ax τ τ4 := fun z j g1 g2 g3 g4 => by rw [← ht4, up2e, if_neg (by omega), up2e, if_neg (by omega)]; exact ax3 z j g1 g2 g3 g4
          have h40 := P40 P5
          obtain ⟨τ', g1, g2⟩ := river_L P5 P 0 n2 τ4 hT4 p4 a4 (by rw [Nat.zero_mul]; omega) (by omega) (by omega)
          obtain ⟨y, hy⟩ : ∃ y, x = y + P * (3 + P) + 2 := ⟨x - (P * (3 + P) + 2), by omega⟩
          rw [n0, Nat.zero_mul, Nat.add_zero] at g2
          refine ⟨τ', fun z j w1 w2 w3 w4 => by rw [g1 z j (by omega) (by omega) (by omega) (by omega)]; exact ax4 z j w1 w2 w3 w4, ?_⟩
          rcases g2 with ⟨w, c1, c2, c3, c4⟩ | ⟨c1, c2, c3, c4⟩
          · exact Or.inl ⟨w, c1, c2, c3, by rw [hy]; exact c4 y⟩
          · exact Or.inr ⟨R, T, P, P2, P5, c1, c2, by rw [hy]; exact c3 y, dc1, by rw [g1 _ _ (by decide) (by omega) (by omega) (by omega)]; exact r4, dc2, by rw [g1 _ _ (by decide) (by omega) (by omega) (by omega)]; exact t4, dc3, by rw [g1 _ _ (by decide) (by omega) (by omega) (by omega)]; exact p4, fun q hq => c4 q (by omega) hq⟩
