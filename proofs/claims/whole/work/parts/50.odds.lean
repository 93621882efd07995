/-! ODDS -/
def hv : Nat → Nat → Nat → Nat × Nat
  | 0, u, l => (u, l)
  | k + 1, u, l => if u % 2 = 0 then hv k (u / 2) (l / 2) else hv k u l
theorem lt_mono : ∀ (n : Nat) (v0 v2 : Int64) (v4 : Int32) (v5 v7 r : Int64), fX4_inLeastTerms_L6 n v0 v2 v4 v5 v7 = some r → fX4_inLeastTerms_L6 (n + 1) v0 v2 v4 v5 v7 = some r := by
  intro n
  induction n with
  | zero => intro v0 v2 v4 v5 v7 r h; cases (show none = some r from h)
  | succ n ih =>
    intro v0 v2 v4 v5 v7 r h
    rw [fX4_inLeastTerms_L6] at h ⊢
    by_cases c : lg_cmp v7 0 = 0
    · rw [if_pos c] at h ⊢; exact h
    · rw [if_neg c] at h ⊢
      obtain ⟨c2, h⟩ := og h
      rw [if_neg c2]
      exact ih _ _ _ _ _ _ h
theorem lt_add (k : Nat) {n : Nat} {v0 v2 : Int64} {v4 : Int32} {r : Int64} (h : fX4_inLeastTerms n v0 v2 v4 = some r) : fX4_inLeastTerms (n + k) v0 v2 v4 = some r := by
  induction k with
  | zero => exact h
  | succ k ih => exact lt_mono _ _ _ _ _ _ _ ih
theorem lt_d : ∀ P, P < 6 → ∀ m, m < 33 → m ≤ 2 ^ P → fX4_inLeastTerms 12 (nI m).toInt64 (nI (2 ^ P)).toInt64 0 = some (nI (hv P m (2 ^ P)).1).toInt64 ∧ fX4_inLeastTerms 12 (nI m).toInt64 (nI (2 ^ P)).toInt64 1 = some (nI (hv P m (2 ^ P)).2).toInt64 := by decide +kernel
theorem hv_L {σ : St} {P : Nat} (h5 : P ≤ 5) (h1 : σ 10 0 = nI P) (z : Int32) : ∀ (k i u l n : Nat), i + k = P → k < n → u ≤ 32 → l ≤ 32 → fX3_odds_L52 n σ z (nI u) (nI l) (nI i) = some (if z = 0 then (nI (hv k u l).1).toInt64 else (nI (hv k u l).2).toInt64) := by
  intro k
  induction k with
  | zero =>
    intro i u l n hi hn hu hl
    obtain ⟨m, rfl⟩ : ∃ m, n = m + 1 := ⟨n - 1, by omega⟩
    rw [fX3_odds_L52, h1, if_pos (nI_le (by omega) (by omega))]
    by_cases c : z = 0
    · rw [if_pos c, if_pos c]; rfl
    · rw [if_neg c, if_neg c]; rfl
  | succ k ih =>
    intro i u l n hi hn hu hl
    obtain ⟨m, rfl⟩ : ∃ m, n = m + 1 := ⟨n - 1, by omega⟩
    have er : nI u - nI u / 2 * 2 = nI (u % 2) := pk_rem (d := 2) (by omega) (by decide) (by decide)
    have eu : nI u / 2 = nI (u / 2) := pk_div (d := 2) (by omega) (by decide) (by decide)
    have el : nI l / 2 = nI (l / 2) := pk_div (d := 2) (by omega) (by decide) (by decide)
    rw [fX3_odds_L52, h1, if_neg (nI_ge (by omega) (by omega)), er, nI_1]
    by_cases c : u % 2 = 0
    · rw [c, if_pos n0, eu, el, ih (i + 1) (u / 2) (l / 2) m (by omega) (by omega) (by omega) (by omega), hv, if_pos c]
    · have c1 : u % 2 = 1 := by omega
      rw [c1, if_neg (by decide), ih (i + 1) u l m (by omega) (by omega) hu hl, hv, if_neg c]
theorem wet_L {σ τ0 : St} {P lam t p : Nat} (hr : Rr σ τ0 P lam) (ht : t < 32) (hp : p < P) (hf : τ0 0 19 = 0) (wh : Int32) : ∀ (c w n1 n2 a : Nat) (τ : St), (∀ z j, ¬ (z = 0 ∧ j = 18) → τ z j = τ0 z j) → τ 0 18 = nI w → w + c = 2 ^ P → c + 20 ≤ n1 → c + 20 ≤ n2 →
    ∃ m n3 τ', m ≤ a + c ∧ 12 ≤ n3 ∧ fX0_wetSetsWithPuller_L11 n1 σ (nI p) (nI t) (nI (2 ^ P - 1)) (nI a) (nI w) = some (nI m) ∧ fX4_odds_L53 n2 τ (nI p) (nI t) wh (nI a) (nI (2 ^ P)) = (fX4_inLeastTerms n3 (nI m).toInt64 (nI (2 ^ P)).toInt64 wh).bind (fun r => some (r, τ')) ∧ τ' 0 18 = 0 ∧ ∀ z j, ¬ (z = 0 ∧ j = 18) → τ' z j = τ0 z j := by
  have h5 : P ≤ 5 := hr.1
  have h32 := p32 h5
  have h1p : 1 ≤ 2 ^ P := Nat.one_le_two_pow
  intro c
  induction c with
  | zero =>
    intro w n1 n2 a τ hk hw hv hn1 hn2
    obtain ⟨m1, rfl⟩ : ∃ m, n1 = m + 1 := ⟨n1 - 1, by omega⟩
    obtain ⟨m2, rfl⟩ : ∃ m, n2 = m + 1 := ⟨n2 - 1, by omega⟩
    refine ⟨a, m2, up2 τ 0 18 0, by omega, by omega, ?_, ?_, upe, fun z j hz => ?_⟩
    · rw [fX0_wetSetsWithPuller_L11, if_pos (nI_lt (by omega) (by omega))]
    · rw [fX4_odds_L53, hw, if_pos (nI_le (by omega) (by omega))]
    · rw [up2e, if_neg hz]; exact hk z j hz
  | succ c ih =>
    intro w n1 n2 a τ hk hw hv hn1 hn2
    obtain ⟨m1, rfl⟩ : ∃ m, n1 = m + 1 := ⟨n1 - 1, by omega⟩
    obtain ⟨m2, rfl⟩ : ∃ m, n2 = m + 1 := ⟨n2 - 1, by omega⟩
    have hr' : Rr σ τ P lam := hr.forg (fun z j hz => hk z j (by omega))
    obtain ⟨u, hu, -, p1, p2⟩ := pull_R (load := t) (forg := 0) (wet := w) (n1 := m1) (n2 := m2) hr' ht (by decide) (by omega) hw (by rw [hk 0 19 (by decide)]; exact hf) (by omega) (by omega)
    rw [n0] at p1
    have hu32 : u < 32 := by omega
    have hk' : ∀ z j, ¬ (z = 0 ∧ j = 18) → up2 τ 0 18 (nI (w + 1)) z j = τ0 z j := fun z j hz => by rw [up2e, if_neg hz]; exact hk z j hz
    rw [fX0_wetSetsWithPuller_L11, fX4_odds_L53, hw, if_neg (nI_nlt (by omega) (by omega)), if_neg (nI_ge (by omega) (by omega)), p1, p2]
    simp only [Option.bind_some, nI_1, bt5 u hu32 p (show p < 5 by omega), nI_add]
    rcases b01 u p with cb | cb
    · rw [cb, of0 hu32 (by omega) cb]
      simp only [Option.bind_some, if_true, add0]
      obtain ⟨m, n3, τ', g1, g2, g3, g4, g5⟩ := ih (w + 1) m1 m2 (a + 0) _ hk' upe (by omega) (by omega) (by omega)
      exact ⟨m, n3, τ', by omega, g2, g3, g4, g5⟩
    · rw [cb, of1 hu32 (by omega) cb]
      simp only [Option.bind_some, i10, if_false, nI_1]
      obtain ⟨m, n3, τ', g1, g2, g3, g4, g5⟩ := ih (w + 1) m1 m2 (a + 1) _ hk' upe (by omega) (by omega) (by omega)
      exact ⟨m, n3, τ', by omega, g2, g3, g4, g5⟩
theorem q_odds {σ τ : St} (h : Rl σ τ) (x y z : Int32) : ∃ r τ', fX3_odds 90 σ x y z = some r ∧ fX4_odds 90 τ x y z = some (r, τ') ∧ Rl σ τ' := by
  obtain ⟨P, lam, rd, hr, hd, hs, hz⟩ := id h
  have h5 : P ≤ 5 := hr.1
  have h32 := p32 h5
  have core : ∀ b : Int32, (¬ b = 0 → z = 0 ∨ z = 1) → (b = 0 → fX4_within z 0 1 = some 0) → (¬ b = 0 → fX4_within z 0 1 = some 1) → ∃ r τ', ((fX3_refusalOfOneIn σ x y b).bind fun r3 => if r3 = 0 then ((fX0_wetSetsWithPuller 90 σ x y).bind fun r6 => fX3_odds_L52 90 σ z r6 ((1 : Int32) <<< ((σ 10 0) &&& 31)) 0) else (some (-9223372036854775808))) = some r ∧ fX4_odds 90 τ x y z = some (r, τ') ∧ Rl σ τ' := by
    intro b hb1 hb2 hb3
    rw [fX4_odds]
    rcases refO hr x y b with ⟨a, c⟩ | ⟨p, hp, rfl, c, ⟨a, d⟩ | ⟨t, ht, rfl, d, ⟨q, a⟩ | ⟨q0, q, a⟩ | ⟨q0, q, a⟩⟩⟩
    · rw [a, c]; exact ⟨_, _, rfl, rfl, h⟩
    · rw [a, c, d]; exact ⟨_, _, rfl, rfl, h⟩
    · rw [a, c, d, hb2 q]; exact ⟨_, _, rfl, rfl, h⟩
    · rw [a, c, d, hb3 q0, of0 (by omega) (by omega) q]; exact ⟨_, _, rfl, rfl, h⟩
    · rw [a, c, d, hb3 q0, of1 (by omega) (by omega) q]
      simp only [if_true, if_false, Option.bind_some, i10, i01, im1, im2, im3, im9, fX0_wetSetsWithPuller, evb hr, hr.2.2.1, hr.2.2.2.1, all5 P h5]
      obtain ⟨m, n3, τ', g1, g2, g3, g4, g5, g6⟩ := wet_L hr (show t < 32 by omega) hp hz.2.2.2 z (2 ^ P) 0 90 90 0 (up2 τ 0 18 0) (fun a b hab => by rw [up2e, if_neg hab]) (by rw [upe]; rfl) (by omega) (by omega) (by omega)
      rw [n0] at g3 g4
      rw [g3, g4]
      simp only [Option.bind_some]
      rw [← n0, hv_L h5 hr.2.2.1 z P 0 m (2 ^ P) 90 (by omega) (by omega) (by omega) h32]
      obtain ⟨k, rfl⟩ : ∃ k, n3 = 12 + k := ⟨n3 - 12, by omega⟩
      obtain ⟨l0, l1⟩ := lt_d P (by omega) m (by omega) (by omega)
      have fin : Rl σ τ' := by
        refine ⟨P, lam, rd, hr.forg (fun z j hz => g6 z j (by omega)), hd.mv rfl (fun _ _ => rfl) (fun _ _ => rfl) (g6 _ _ (by decide)) (fun j _ => g6 _ _ (by omega)) (fun j _ => g6 _ _ (by omega)), hs.mv (fun _ _ _ => rfl) (fun j => g6 _ _ (by omega)) (fun j => g6 _ _ (by omega)) (fun j => g6 _ _ (by omega)), ?_⟩
        exact ⟨by rw [g6 _ _ (by decide)]; exact hz.1, by rw [g6 _ _ (by decide)]; exact hz.2.1, g5, by rw [g6 _ _ (by decide)]; exact hz.2.2.2⟩
      rcases hb1 q0 with rfl | rfl
      · rw [lt_add k l0, if_pos rfl]; exact ⟨_, _, rfl, rfl, fin⟩
      · rw [lt_add k l1, if_neg (by decide)]; exact ⟨_, _, rfl, rfl, fin⟩
  rw [fX3_odds]
  by_cases c0 : z = 0
  · rw [if_pos c0]
    exact core 1 (fun _ => Or.inl c0) (fun q => absurd q (by decide)) (fun _ => by subst c0; rfl)
  · by_cases c1 : z = 1
    · rw [if_neg c0, if_pos c1]
      exact core 1 (fun _ => Or.inr c1) (fun q => absurd q (by decide)) (fun _ => by subst c1; rfl)
    · rw [if_neg c0, if_neg c1]
      refine core 0 (fun q => absurd rfl q) (fun _ => ?_) (fun q => absurd rfl q)
      rw [wi]
      by_cases g : z < 0
      · rw [if_pos g]
      · rw [if_neg g, if_pos]
        apply Int32.not_le.mp
        intro hle
        obtain ⟨j, hj, rfl⟩ := nI_of2 (M := 1) (n := 1) (by decide) g hle
        rcases (show j = 0 ∨ j = 1 by omega) with rfl | rfl
        · exact c0 rfl
        · exact c1 rfl
