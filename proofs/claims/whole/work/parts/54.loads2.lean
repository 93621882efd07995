theorem zero_L (b mm : Int32) : ∀ (c v n : Nat) (τ : St), v + c = 5 → c < n → ∃ τ' n3, n ≤ n3 + c + 1 ∧ fX4_goLoads_L22 n τ b mm (nI v) = fX4_goLoads_G42 n3 0 τ' b mm 0 0 0 ∧ (∀ z j, z ≠ 10 → τ' z j = τ z j) ∧ ∀ q, q < 5 → τ' 10 q = if v ≤ q then 0 else τ 10 q := by
  intro c
  induction c with
  | zero =>
    intro v n τ hv hn
    obtain ⟨m, rfl⟩ : ∃ m, n = m + 1 := ⟨n - 1, by omega⟩
    refine ⟨τ, m, by omega, ?_, fun _ _ _ => rfl, fun q hq => by rw [if_neg (by omega)]⟩
    rw [fX4_goLoads_L22, if_pos (show (5 : Int32) ≤ nI v from nI_le (a := 5) (by omega) (by omega))]
  | succ c ih =>
    intro v n τ hv hn
    obtain ⟨m, rfl⟩ : ∃ m, n = m + 1 := ⟨n - 1, by omega⟩
    obtain ⟨τ', n3, g1, g2, g3, g4⟩ := ih (v + 1) m (up2 τ 10 v 0) (by omega) (by omega)
    refine ⟨τ', n3, by omega, ?_, fun z j hz => by rw [g3 z j hz, upz hz], fun q hq => ?_⟩
    · rw [fX4_goLoads_L22, if_neg (show ¬ (5 : Int32) ≤ nI v from nI_ge (b := 5) (by omega) (by omega))]
      simp only [cN (show v < 2 ^ 31 by omega), gP (show v < 5 by omega) (by decide), if_false, nI_1]
      exact g2
    · rw [g4 q hq]
      by_cases e : q = v
      · subst e; rw [if_neg (by omega), upe, if_pos (by omega)]
      · rw [upj e]
        by_cases e2 : v + 1 ≤ q
        · rw [if_pos e2, if_pos (by omega)]
        · rw [if_neg e2, if_neg (by omega)]
theorem go_R {σ0 τ0 : St} {P lam k i m : Nat} {fr : Nat → Int32} {pu ld : Nat → Nat} (hr : Rr σ0 τ0 P lam) (tw : τ0 0 18 = 0) (tf : τ0 0 19 = 0) (hfr : Fr σ0 τ0 P lam fr) (hpu : Pu σ0 τ0 P lam pu) (hk : k < 4) (him : i + m ≤ 60) (hm : m ≤ 20) (hc : ∀ j, j < m → ld j < 2 ^ P ∧ σ0 (6 + k) (i + j) = nI (ld j) ∧ τ0 3 (60 * k + i + j) = nI (ld j)) {a1 a2 : Nat} (ha1 : 60 ≤ a1) (ha2 : 220 ≤ a2) :
      ∃ τ', Ag τ0 τ' ∧ ((∃ w, w < 60 ∧ fX0_firstWrong a1 σ0 k (nI i) (nI m) = some (nI w) ∧ fX4_goLoads a2 τ0 (nI (60 * k + i)) (nI m) = some (nI w, τ')) ∨ (fX0_firstWrong a1 σ0 k (nI i) (nI m) = some (-9) ∧ fX4_goLoads a2 τ0 (nI (60 * k + i)) (nI m) = some (-9, τ') ∧ GI P fr pu ld τ' m)) := by
  have h5 : P ≤ 5 := hr.1
  obtain ⟨τ1, n3, g1, g2, g3, g4⟩ := zero_L (nI (60 * k + i)) (nI m) 5 0 a2 (up2 (up2 (up2 (up2 τ0 0 20 0) 0 21 0) 0 22 0) 0 23 0) (by decide) (by omega)
  have hA : Ag τ0 τ1 := fun z j w1 w2 => by
    rw [g3 z j w2, up2e, if_neg (by omega), up2e, if_neg (by omega), up2e, if_neg (by omega), up2e, if_neg (by omega)]
  have hG : GI P fr pu ld τ1 0 := by
    refine ⟨?_, ?_, ?_, ?_, fun p hp => ?_⟩
    · rw [g3 _ _ (by decide), upj (by decide), upj (by decide), upj (by decide), upe]; rfl
    · rw [g3 _ _ (by decide), upj (by decide), upj (by decide), upe]; rfl
    · rw [g3 _ _ (by decide), upj (by decide), upe]; rfl
    · rw [g3 _ _ (by decide), upe]; rfl
    · rw [g4 p (by omega), if_pos (by omega)]; rfl
  obtain ⟨τ', hA', h⟩ := go_L hr tw tf hfr hpu hk him hc m 0 a1 n3 τ1 hA hG (by omega) (by omega) (by omega)
  rw [n0] at g2 h
  refine ⟨τ', hA', ?_⟩
  rw [fX0_firstWrong, fX4_goLoads, g2]
  exact h
theorem are_L {σ0 τ0 : St} {P lam k i m : Nat} (hr : Rr σ0 τ0 P lam) (hs : Rs σ0 τ0) (hk : k < 4) (him : i + m ≤ 60) (wh : Int32) : ∀ (c a n1 n2 : Nat), a + c = m → c + 5 ≤ n1 → c + 5 ≤ n2 →
    (fX0_areLoads_L3 n1 σ0 k (nI i) (nI m) (nI a) = some 0 ∧ fX4_loads_L101 n2 τ0 (nI m) wh (nI (60 * k + i)) (nI a) = some (-2, τ0)) ∨ (fX0_areLoads_L3 n1 σ0 k (nI i) (nI m) (nI a) = some 1 ∧ (∀ j, a ≤ j → j < m → ∃ ld, ld < 2 ^ P ∧ σ0 (6 + k) (i + j) = nI ld ∧ τ0 3 (60 * k + i + j) = nI ld) ∧ ∃ n3, n2 ≤ n3 + c + 1 ∧ fX4_loads_L101 n2 τ0 (nI m) wh (nI (60 * k + i)) (nI a) = bind2 (fX4_goLoads n3 τ0 (nI (60 * k + i)) (nI m)) (fun r30 σ30 => if wh = 1 then some (r30, σ30) else if r30 = -9 then (fX4_tellLoads σ30 wh).bind (fun r34 => some (r34, σ30)) else some (-100 - r30, σ30))) := by
  intro c
  induction c with
  | zero =>
    intro a n1 n2 ha hn1 hn2
    obtain ⟨m1, rfl⟩ : ∃ m, n1 = m + 1 := ⟨n1 - 1, by omega⟩
    obtain ⟨m2, rfl⟩ : ∃ m, n2 = m + 1 := ⟨n2 - 1, by omega⟩
    right
    have : a = m := by omega
    subst this
    refine ⟨?_, fun j h1 h2 => by omega, m2, by omega, ?_⟩
    · rw [fX0_areLoads_L3, if_pos Int32.le_rfl]
    · rw [fX4_loads_L101, if_pos Int32.le_rfl]
  | succ c ih =>
    intro a n1 n2 ha hn1 hn2
    obtain ⟨m1, rfl⟩ : ∃ m, n1 = m + 1 := ⟨n1 - 1, by omega⟩
    obtain ⟨m2, rfl⟩ : ∃ m, n2 = m + 1 := ⟨n2 - 1, by omega⟩
    have e1 := (hs k hk).2 (i + a) (by omega)
    rw [← Nat.add_assoc] at e1
    rw [fX0_areLoads_L3, fX4_loads_L101]
    simp only [leF (show a < m by omega) (show m < 2 ^ 31 by omega), if_false, nI_add, nI_1, cN (show i + a < 2 ^ 31 by omega), gP (show i + a < 60 by omega) (by decide), cN (show 60 * k + i + a < 2 ^ 31 by omega), gP (show 60 * k + i + a < 240 by omega) (by decide), e1]
    rcases ist hr (τ0 3 (60 * k + i + a)) with ⟨d1, d2⟩ | ⟨t, ht, et, d1, d2⟩
    · left; rw [d1, d2]; exact ⟨rfl, rfl⟩
    · rw [d1, d2]
      simp only [if_true, if_false, Option.bind_some, i10, i01, im1, im2, im3, im9]
      rcases ih (a + 1) m1 m2 (by omega) (by omega) (by omega) with g | ⟨g1, g2, n3, g3, g4⟩
      · left; exact g
      · right
        refine ⟨g1, fun j h1 h2 => ?_, n3, by omega, g4⟩
        by_cases e : j = a
        · subst e; exact ⟨t, ht, by rw [e1]; exact et, et⟩
        · exact g2 j (by omega) h2
theorem of_L {σ0 : St} {k i m : Nat} {ld : Nat → Nat} {f : Nat → Bool} {wh : Int32} (hk : k < 4) (him : i + m ≤ 60) (hc : ∀ j, j < m → σ0 (6 + k) (i + j) = nI (ld j)) (h2 : ¬ wh = 2) (hso : ∀ j n, j < m → 12 ≤ n → fX0_isSo n σ0 (nI (ld j)) wh = some (if f j = true then 1 else 0)) : ∀ (c a n : Nat), a + c = m → c + 20 ≤ n → fX3_ofLoads_L31 n σ0 k (nI i) (nI m) wh (cnt f a) (nI a) = some (cnt f m) := by
  intro c
  induction c with
  | zero =>
    intro a n ha hn
    obtain ⟨m1, rfl⟩ : ∃ m, n = m + 1 := ⟨n - 1, by omega⟩
    have : a = m := by omega
    subst this
    rw [fX3_ofLoads_L31, if_pos Int32.le_rfl]
  | succ c ih =>
    intro a n ha hn
    obtain ⟨m1, rfl⟩ : ∃ m, n = m + 1 := ⟨n - 1, by omega⟩
    rw [fX3_ofLoads_L31]
    have nx := ih (a + 1) m1 (by omega) (by omega)
    simp only [leF (show a < m by omega) (show m < 2 ^ 31 by omega), if_false, nI_add, nI_1, cN (show i + a < 2 ^ 31 by omega), gP (show i + a < 60 by omega) (by decide), hc a (by omega), if_neg h2, hso a m1 (by omega) (by omega), Option.bind_some]
    by_cases e : f a = true
    · rw [cnt, if_pos e] at nx
      simp only [if_pos e, i10, if_false]; exact nx
    · rw [cnt, if_neg e] at nx
      simp only [if_neg e, if_true]; exact nx
theorem of_2 {σ0 : St} {k i m : Nat} {ld : Nat → Nat} (hk : k < 4) (him : i + m ≤ 60) (hc : ∀ j, j < m → σ0 (6 + k) (i + j) = nI (ld j)) : ∀ (c a n : Nat), a + c = m → c + 20 ≤ n → fX3_ofLoads_L31 n σ0 k (nI i) (nI m) 2 (orr ld a) (nI a) = some (orr ld m) := by
  intro c
  induction c with
  | zero =>
    intro a n ha hn
    obtain ⟨m1, rfl⟩ : ∃ m, n = m + 1 := ⟨n - 1, by omega⟩
    have : a = m := by omega
    subst this
    rw [fX3_ofLoads_L31, if_pos Int32.le_rfl]
  | succ c ih =>
    intro a n ha hn
    obtain ⟨m1, rfl⟩ : ∃ m, n = m + 1 := ⟨n - 1, by omega⟩
    rw [fX3_ofLoads_L31]
    have nx := ih (a + 1) m1 (by omega) (by omega)
    simp only [leF (show a < m by omega) (show m < 2 ^ 31 by omega), if_false, nI_add, nI_1, cN (show i + a < 2 ^ 31 by omega), gP (show i + a < 60 by omega) (by decide), hc a (by omega), if_true]
    exact nx
theorem Rl.ag {σ τ τ' : St} (h : Rl σ τ) (a : Ag τ τ') : Rl σ τ' := by
  obtain ⟨P, lam, rd, hr, hd, hs, hz⟩ := h
  exact ⟨P, lam, rd, a.rt hr, hd.mv rfl (fun _ _ => rfl) (fun _ _ => rfl) (a _ _ (by omega) (by decide)) (fun _ _ => a _ _ (by omega) (by decide)) (fun _ _ => a _ _ (by omega) (by decide)), hs.mv (fun _ _ _ => rfl) (fun _ => a _ _ (by omega) (by decide)) (fun _ => a _ _ (by omega) (by decide)) (fun _ => a _ _ (by omega) (by decide)), hz.mv rfl rfl (a _ _ (by omega) (by decide)) (a _ _ (by omega) (by decide)) (a _ _ (by omega) (by decide)) (a _ _ (by omega) (by decide))⟩
theorem so_0 {σ0 τ0 : St} {P lam : Nat} {fr : Nat → Int32} {ld : Nat → Nat} (hr : Rr σ0 τ0 P lam) (hfr : Fr σ0 τ0 P lam fr) {j n : Nat} (hj : ld j < 32) (hn : 12 ≤ n) : fX0_isSo n σ0 (nI (ld j)) 0 = some (if fF fr ld j = true then 1 else 0) := by
  obtain ⟨a, b, -⟩ := hfr _ hj
  rw [fX0_isSo, if_pos rfl, b σ0 n hr hn, Option.bind_some]
  rcases a with g | g
  · rw [g, if_neg (by simp [fF, g])]
  · rw [g, if_pos (by simp [fF, g])]
theorem so_3 {σ0 τ0 : St} {P lam : Nat} {pu ld : Nat → Nat} (hr : Rr σ0 τ0 P lam) (hpu : Pu σ0 τ0 P lam pu) {j n : Nat} (hj : ld j < 32) (hn : 12 ≤ n) : fX0_isSo n σ0 (nI (ld j)) 3 = some (if fQ pu ld j = true then 1 else 0) := by
  have h32 := p32 hr.1
  obtain ⟨a, b, -⟩ := hpu _ hj
  have hp5 := pcle (pu (ld j)) (by omega)
  rw [fX0_isSo, if_neg (by decide), if_neg (by decide), if_neg (by decide), if_pos rfl, b σ0 n hr hn, Option.bind_some, bitc _ (by omega), Option.bind_some]
  by_cases g : 1 < pc 5 (pu (ld j))
  · rw [if_neg (show ¬ nI _ ≤ 1 from nI_ge (a := 1) g (by omega)), if_pos (by simp [fQ, g])]
  · rw [if_pos (show nI _ ≤ 1 from nI_le (b := 1) (by omega) (by decide)), if_neg (by simp [fQ, g])]
theorem so_4 {σ0 τ0 : St} {P lam : Nat} {pu ld : Nat → Nat} (hr : Rr σ0 τ0 P lam) (hpu : Pu σ0 τ0 P lam pu) {j n : Nat} (hj : ld j < 32) (hn : 12 ≤ n) : fX0_isSo n σ0 (nI (ld j)) 4 = some (if fD pu ld j = true then 1 else 0) := by
  have h32 := p32 hr.1
  obtain ⟨a, b, -⟩ := hpu _ hj
  rw [fX0_isSo, if_neg (by decide), if_neg (by decide), if_neg (by decide), if_neg (by decide), if_pos rfl, b σ0 n hr hn, Option.bind_some]
  by_cases g : pu (ld j) = 0
  · rw [g, if_pos n0, if_pos (by simp [fD, g])]
  · rw [if_neg (fun q => g ((nI_eq (by omega) (by omega)).mp (q.trans n0.symm))), if_neg (by simp [fD, g])]
theorem so_p {σ0 τ0 : St} {P lam p : Nat} {pu ld : Nat → Nat} (hr : Rr σ0 τ0 P lam) (hpu : Pu σ0 τ0 P lam pu) (hp : p < 5) {j n : Nat} (hj : ld j < 32) (hn : 12 ≤ n) : fX0_isSo n σ0 (nI (ld j)) (nI (10 + p)) = some (if fP pu ld p j = true then 1 else 0) := by
  have h32 := p32 hr.1
  obtain ⟨a, b, -⟩ := hpu _ hj
  have ne : ∀ q, q < 5 → ¬ nI (10 + p) = nI q := fun q hq e => by have := (nI_eq (by omega) (by omega)).mp e; omega
  rw [fX0_isSo, if_neg (show ¬ nI (10 + p) = 0 from ne 0 (by decide)), if_neg (show ¬ nI (10 + p) = 1 from ne 1 (by decide)), if_neg (show ¬ nI (10 + p) = 2 from ne 2 (by decide)), if_neg (show ¬ nI (10 + p) = 3 from ne 3 (by decide)), if_neg (show ¬ nI (10 + p) = 4 from ne 4 (by decide)), b σ0 n hr hn, Option.bind_some, show nI (10 + p) - 10 = nI p by rw [show (10 : Int32) = nI 10 from rfl, pk_sub (by omega), Nat.add_sub_cancel_left]]
  rcases b01 (pu (ld j)) p with g | g
  · rw [sh0 (by omega) hp g, if_neg (by decide), if_neg (by simp [fP, g])]
  · rw [sh1 (by omega) hp g, if_pos rfl, if_pos (by simp [fP, g])]
theorem lqx (x : Int32) : (fX3_isLoadsQuestion x = some 0 ∧ fX4_within x 0 4 = some 0 ∧ fX4_within x 10 14 = some 0) ∨ (fX3_isLoadsQuestion x = some 1 ∧ (fX4_within x 0 4 = some 1 ∨ (fX4_within x 0 4 = some 0 ∧ fX4_within x 10 14 = some 1)) ∧ (x = 0 ∨ x = 1 ∨ x = 2 ∨ x = 3 ∨ x = 4 ∨ ∃ p, p < 5 ∧ x = nI (10 + p))) := by
  rw [fX3_isLoadsQuestion, wi, wi]
  have t4 : (4 : Int32).toInt = 4 := by decide
  have t10 : (10 : Int32).toInt = 10 := by decide
  have t14 : (14 : Int32).toInt = 14 := by decide
  have t15 : (15 : Int32).toInt = 15 := by decide
  by_cases c0 : x < 0
  · left
    have c10 : x < 10 := by rw [Int32.lt_iff_toInt_lt] at *; rw [zeroI] at c0; omega
    rw [if_pos c0, if_pos c10, if_pos c0, if_pos c10]; exact ⟨rfl, rfl, rfl⟩
  · by_cases c4 : x ≤ 4
    · right
      rw [if_neg c0, if_pos c4, if_neg c0, if_neg (Int32.not_lt.mpr c4)]
      refine ⟨rfl, Or.inl rfl, ?_⟩
      obtain ⟨j, hj, rfl⟩ := nI_of2 (M := 4) (n := 4) (by decide) c0 c4
      rcases (show j = 0 ∨ j = 1 ∨ j = 2 ∨ j = 3 ∨ j = 4 by omega) with rfl | rfl | rfl | rfl | rfl
      · exact Or.inl rfl
      · exact Or.inr (Or.inl rfl)
      · exact Or.inr (Or.inr (Or.inl rfl))
      · exact Or.inr (Or.inr (Or.inr (Or.inl rfl)))
      · exact Or.inr (Or.inr (Or.inr (Or.inr (Or.inl rfl))))
    · rw [if_neg c0, if_neg c4, if_neg c0, if_pos (Int32.not_le.mp c4)]
      by_cases c10 : x < 10
      · left; rw [if_pos c10, if_pos c10]; exact ⟨rfl, rfl, rfl⟩
      · by_cases c15 : 15 ≤ x
        · left
          have c14 : 14 < x := by rw [Int32.lt_iff_toInt_lt]; rw [Int32.le_iff_toInt_le] at c15; omega
          rw [if_neg c10, if_pos c15, if_neg c10, if_pos c14]; exact ⟨rfl, rfl, rfl⟩
        · right
          have c14 : ¬ 14 < x := by rw [Int32.lt_iff_toInt_lt]; rw [Int32.le_iff_toInt_le] at c15; omega
          rw [if_neg c10, if_neg c15, if_neg c10, if_neg c14]
          refine ⟨rfl, Or.inr ⟨rfl, rfl⟩, ?_⟩
          obtain ⟨j, hj, rfl⟩ := nI_of2 (M := 14) (n := 14) (by decide) c0 (Int32.not_lt.mp c14)
          have : 10 ≤ j := by
            rcases Nat.lt_or_ge j 10 with q | q
            · exact absurd (nI_lt (b := 10) q (by decide)) c10
            · exact q
          exact Or.inr (Or.inr (Or.inr (Or.inr (Or.inr ⟨j - 10, by omega, by rw [show 10 + (j - 10) = j by omega]⟩))))
