/-! WHO FORGAVE -/
theorem Rr.forg {σ τ τ' : St} {P lam : Nat} (h : Rr σ τ P lam) (ht : ∀ z j, ¬ (z = 0 ∧ (j = 18 ∨ j = 19)) → τ' z j = τ z j) : Rr σ τ' P lam :=
  h.mv (fun _ _ => rfl) (fun _ => rfl) (fun _ _ _ => rfl) (fun j _ _ => ht 0 j (by omega)) (fun j => ht 4 j (by omega)) (fun j => ht 5 j (by omega)) (fun j => ht 6 j (by omega))
theorem andn_d : ∀ l, l < 32 → ∀ w, w < 32 → (nI l &&& (nI w ^^^ (-1)) = 0 ↔ ow l w = 0) := by decide +kernel
theorem forg_L {σ τ0 : St} {P lam t : Nat} (hr : Rr σ τ0 P lam) (ht : t < 32) (hw : τ0 0 18 = 0) : ∀ (c v n1 n2 : Nat) (τ : St) (best : Int32), (∀ z j, ¬ (z = 0 ∧ j = 19) → τ z j = τ0 z j) → (best = -9 ∨ ∃ b, b < 32 ∧ best = nI b) → v + c = t + 1 → c + 14 ≤ n1 → c + 14 ≤ n2 →
    ∃ r τ', fX3_forgave_L18 n1 σ (nI t) best (nI v) = some r ∧ fX4_forgave_L26 n2 τ (nI t) best (nI v) = some (r, τ') ∧ τ' 0 19 = 0 ∧ ∀ z j, ¬ (z = 0 ∧ j = 19) → τ' z j = τ0 z j := by
  intro c
  induction c with
  | zero =>
    intro v n1 n2 τ best hk hb hv hn1 hn2
    obtain ⟨m1, rfl⟩ : ∃ m, n1 = m + 1 := ⟨n1 - 1, by omega⟩
    obtain ⟨m2, rfl⟩ : ∃ m, n2 = m + 1 := ⟨n2 - 1, by omega⟩
    simp only [fX3_forgave_L18, fX4_forgave_L26, ltT (show t < v by omega) (show v < 2 ^ 31 by omega), if_true]
    refine ⟨_, _, rfl, rfl, upe, fun z j hz => ?_⟩
    rw [up2e, if_neg hz]; exact hk z j hz
  | succ c ih =>
    intro v n1 n2 τ best hk hb hv hn1 hn2
    obtain ⟨m1, rfl⟩ : ∃ m, n1 = m + 1 := ⟨n1 - 1, by omega⟩
    obtain ⟨m2, rfl⟩ : ∃ m, n2 = m + 1 := ⟨n2 - 1, by omega⟩
    have hk' : ∀ z j, ¬ (z = 0 ∧ j = 19) → up2 τ 0 19 (nI v) z j = τ0 z j := fun z j hz => by rw [up2e, if_neg hz]; exact hk z j hz
    have hr' : Rr σ (up2 τ 0 19 (nI v)) P lam := hr.forg (fun z j hz => hk' z j (by omega))
    obtain ⟨u, -, -, p1, p2⟩ := pull_R (load := t) (forg := v) (wet := 0) (n1 := m1) (n2 := m2) hr' ht (by omega) (by decide) (by rw [hk' 0 18 (by decide)]; exact hw) upe (by omega) (by omega)
    rw [n0] at p1
    have next : ∀ best', (best' = -9 ∨ ∃ b, b < 32 ∧ best' = nI b) → ∀ τ1, (∀ z j, ¬ (z = 0 ∧ j = 19) → τ1 z j = τ0 z j) → ∃ r τ', fX3_forgave_L18 m1 σ (nI t) best' (nI (v + 1)) = some r ∧ fX4_forgave_L26 m2 τ1 (nI t) best' (nI (v + 1)) = some (r, τ') ∧ τ' 0 19 = 0 ∧ ∀ z j, ¬ (z = 0 ∧ j = 19) → τ' z j = τ0 z j := fun best' hb' τ1 hk1 => ih (v + 1) m1 m2 τ1 best' hk1 hb' (by omega) (by omega) (by omega)
    simp only [fX3_forgave_L18, fX4_forgave_L26, ltF (show v ≤ t by omega) (show t < 2 ^ 31 by omega), if_false, nI_1, p1, p2, Option.bind_some]
    by_cases cs : nI v &&& (nI t ^^^ (-1)) = 0
    · simp only [if_pos cs]
      by_cases c9 : best = -9
      · simp only [if_pos c9]
        by_cases cu : nI u = 0
        · simp only [if_pos cu]; exact next (nI v) (Or.inr ⟨v, by omega, rfl⟩) _ hk'
        · simp only [if_neg cu]; exact next best hb _ hk'
      · simp only [if_neg c9]
        rcases hb with hb | ⟨b, hb1, hb2⟩
        · exact absurd hb c9
        · simp only [hb2, bitc v (show v < 32 by omega), bitc b hb1, sizeN (show v < 32 by omega) (show 6 ≤ m2 by omega), sizeN hb1 (show 6 ≤ m2 by omega), Option.bind_some]
          by_cases cz : nI (pc 5 b) ≤ nI (pc 5 v)
          · simp only [if_pos cz]; exact next (nI b) (Or.inr ⟨b, hb1, rfl⟩) _ hk
          · simp only [if_neg cz]
            by_cases cu : nI u = 0
            · simp only [if_pos cu]; exact next (nI v) (Or.inr ⟨v, by omega, rfl⟩) _ hk'
            · simp only [if_neg cu]; exact next (nI b) (Or.inr ⟨b, hb1, rfl⟩) _ hk'
    · simp only [if_neg cs]
      by_cases c9 : best = -9
      · simp only [if_pos c9]; exact next best hb _ hk
      · simp only [if_neg c9]
        rcases hb with hb | ⟨b, hb1, hb2⟩
        · exact absurd hb c9
        · simp only [hb2, bitc v (show v < 32 by omega), bitc b hb1, Option.bind_some, ite_self]
          exact next (nI b) (Or.inr ⟨b, hb1, rfl⟩) _ hk
theorem q_forgave {σ τ : St} (h : Rl σ τ) (x : Int32) : ∃ r τ', fX3_forgave 60 σ x = some r ∧ fX4_forgave 60 τ x = some (r, τ') ∧ Rl σ τ' := by
  obtain ⟨P, lam, rd, hr, hd, hs, hz⟩ := id h
  have h32 := p32 hr.1
  rw [fX3_forgave, fX4_forgave]
  rcases refL hr x with ⟨a, b⟩ | ⟨a, b, c⟩ | ⟨t, ht, rfl, a, b, c⟩
  · rw [a, if_pos b]; exact ⟨_, _, rfl, rfl, h⟩
  · rw [a, if_neg b, c]; exact ⟨_, _, rfl, rfl, h⟩
  · rw [a, if_neg b, c]
    simp only [if_true, if_false, Option.bind_some, i10, i01, im1, im2, im3, im9]
    obtain ⟨r, τ', s1, s2, s3, s4⟩ := forg_L hr (show t < 32 by omega) hz.2.2.1 (t + 1) 0 60 60 τ (-9) (fun _ _ _ => rfl) (Or.inl rfl) (by omega) (by omega) (by omega)
    rw [n0] at s1 s2
    rw [s1, s2]
    refine ⟨_, _, rfl, rfl, P, lam, rd, hr.forg (fun z j hz => s4 z j (by omega)), hd.mv rfl (fun _ _ => rfl) (fun _ _ => rfl) (s4 _ _ (by decide)) (fun j _ => s4 _ _ (by omega)) (fun j _ => s4 _ _ (by omega)), hs.mv (fun _ _ _ => rfl) (fun j => s4 _ _ (by omega)) (fun j => s4 _ _ (by omega)) (fun j => s4 _ _ (by omega)), ?_⟩
    exact ⟨by rw [s4 _ _ (by decide)]; exact hz.1, by rw [s4 _ _ (by decide)]; exact hz.2.1, by rw [s4 _ _ (by decide)]; exact hz.2.2.1, s3⟩
