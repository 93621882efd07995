/-! the two begin alike; what the tables say of the arrays' classes -/
theorem Rl0 : Rl σ0 τ0 := by
  refine ⟨0, 0, 0, ⟨by decide, by decide, nI_0.symm, nI_0.symm, rfl, rfl, nI_0.symm, fun p h => absurd h (Nat.not_lt_zero _), fun p h => absurd h (Nat.not_lt_zero _), fun p q h => absurd h (Nat.not_lt_zero _)⟩, ⟨by decide, nI_0.symm, nI_0.symm, fun k h => absurd h (Nat.not_lt_zero _)⟩, fun k hk => ⟨Or.inl ⟨rfl, ?_⟩, fun i _ => rfl⟩, rfl, rfl, rfl, rfl⟩
  rcases (show k = 0 ∨ k = 1 ∨ k = 2 ∨ k = 3 by omega) with rfl | rfl | rfl | rfl <;> rfl
theorem ao_arr {args : Array Value} {s : State} (h : (Cond.arrayOver (.array .int)).before args s = true) : ∃ comp c k, s.vm.findClass "[I" = some comp ∧ s.vm.classes[c]? = some k ∧ k.kind = .array comp (.array .int) ∧ s.vm.findClass "[[I" = some c := by
  unfold Cond.before Cond.holds at h
  have h := eq_of_beq h
  simp only [Cond.value] at h
  obtain ⟨comp, h1, h2⟩ := Option.bind_eq_some_iff.mp h
  obtain ⟨c, h3, h4⟩ := Option.bind_eq_some_iff.mp h2
  obtain ⟨k, h5, h6⟩ := Option.map_eq_some_iff.mp h4
  obtain ⟨hlt, hp, -⟩ := Array.findIdx?_eq_some_iff_getElem.mp h3
  rw [(Array.getElem?_eq_some_iff.mp h5).2] at hp
  refine ⟨comp, c, k, h1, h5, ?_⟩
  revert h6 hp
  cases k.kind with
  | array cp ty =>
    intro h6 hp
    simp at h6 hp
    exact ⟨by rw [hp, h6.1], h6.2⟩
  | _ => intro h6; simp at h6
theorem law_K {s : State} {args : Array Value} (hts : ∀ w ∈ lw_tbl, w.before args s = true) : ∃ (D : va_G) (g : Nat → ClassId), va_K D vwCl (tysG g) s ∧ XT g s := by
  have tb : ∀ w ∈ TB, w.before args s = true := fun w h => hts w (List.mem_filter.mp h).1
  obtain ⟨c0, i0, k0⟩ := u_known (C := RX0) (T := TX0) (N := 11) (n := 11) tb tin_TX0 (tb _ tw_50)
  obtain ⟨c1, i1, k1⟩ := u_known (C := RX1) (T := TX1) (N := 4) (n := 4) tb tin_TX1 (tb _ tw_105)
  obtain ⟨c2, i2, k2⟩ := u_known (C := RX3) (T := TX3) (N := 4) (n := 4) tb tin_TX3 (tb _ tw_42)
  obtain ⟨c3, i3, k3⟩ := u_known (C := RX4) (T := TX4) (N := 29) (n := 29) tb tin_TX4 (tb _ tw_464)
  obtain ⟨cI, kI, pI, hI1, hI2, hI3⟩ := Cond.arrayClass_spec (tb _ tw_101)
  obtain ⟨cZ, kZ, pZ, hZ1, hZ2, hZ3⟩ := Cond.arrayClass_spec (tb _ tw_102)
  have hAO : (Cond.arrayOver (.object RX1)).before args s = true := hts _ (List.mem_of_getElem? (i := 104) (by decide +kernel))
  have hAA : (Cond.arrayOver (.array .int)).before args s = true := hts _ (List.mem_of_getElem? (i := 56) (by decide +kernel))
  obtain ⟨pS, cS, kS, hS1, -, hS3, hS4, hS5⟩ := Cond.arrayOver_spec hAO
  obtain ⟨pA, cA, kA, hA1, hA2, hA3, hA4⟩ := ao_arr hAA
  have eI : pA = cI := Option.some.inj (hA1.symm.trans hI1)
  subst eI
  refine ⟨(fun k => match k with | 0 => c0 | 1 => c1 | 2 => c2 | _ => c3, fun k => match k with | 0 => i0 | 1 => i1 | 2 => i2 | _ => i3), fun k => match k with | 0 => pA | 1 => cZ | 2 => cS | _ => cA, ⟨fun k q hq => ?_, fun k q hq => ?_⟩, ?_⟩
  · match k, hq with
    | 0, hq => cases hq; exact k0
    | 1, hq => cases hq; exact k1
    | 2, hq => cases hq; exact k2
    | 3, hq => cases hq; exact k3
  · match k, hq with
    | 0, hq => cases hq; exact ⟨fun n z => ⟨fun k h => (by cases h), kI, hI2, pI, hI3⟩, hI1⟩
    | 1, hq => cases hq; exact ⟨fun n z => ⟨fun k h => (by cases h), kZ, hZ2, pZ, hZ3⟩, hZ1⟩
    | 2, hq => cases hq; exact ⟨fun n z => ⟨fun k h => (by cases h), kS, hS3, pS, hS4⟩, kS, pS, hS3, hS4, hS1, hS5⟩
    | 3, hq => cases hq; exact ⟨fun n z => ⟨fun k h => (by cases h), kA, hA2, pA, hA3⟩, hA4⟩
  · exact ⟨va_Nw.of rfl (hts _ (List.mem_of_getElem? (i := 51) (by decide +kernel))), va_Nw.of rfl (hts _ (List.mem_of_getElem? (i := 106) (by decide +kernel))), va_AO.of hAO, kA, hA2, hA3⟩
