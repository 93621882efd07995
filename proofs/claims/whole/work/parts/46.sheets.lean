/-! SHEETS -/
theorem shx (x : Int32) : (fX3_isSheet x = some 0 ∧ fX4_isSheet x = some 0) ∨ ∃ k, k < 4 ∧ x = nI k ∧ fX3_isSheet x = some 1 ∧ fX4_isSheet x = some 1 := by
  rw [fX3_isSheet, fX4_isSheet, wi]
  rcases pk_ix x (n := 4) (by decide) with c | c | ⟨k, hk, rfl⟩
  · left; simp only [if_pos c, if_true, if_false, Option.bind_some, i10, i01, im1, im2, im3, im9]; exact ⟨trivial, trivial⟩
  · left
    by_cases c0 : x < 0
    · simp only [if_pos c0, if_true, if_false, Option.bind_some, i10, i01, im1, im2, im3, im9]; exact ⟨trivial, trivial⟩
    · have c4 : (4 : Int32) ≤ x := c
      have c3 : (3 : Int32) < x := by
        rw [Int32.le_iff_toInt_le] at c4
        rw [Int32.lt_iff_toInt_lt]
        have e4 : (4 : Int32).toInt = 4 := by decide
        have e3 : (3 : Int32).toInt = 3 := by decide
        omega
      simp only [if_neg c0, if_pos c4, if_pos c3, if_true, if_false, Option.bind_some, i10, i01, im1, im2, im3, im9]; exact ⟨trivial, trivial⟩
  · right
    refine ⟨k, hk, rfl, ?_⟩
    have c4 : ¬ (4 : Int32) ≤ nI k := nI_ge (b := 4) hk (by decide)
    have c3 : ¬ (3 : Int32) < nI k := nI_nlt (a := 3) (by omega) (by decide)
    simp only [if_neg (nI_pos (show k < 2 ^ 31 by omega)), if_neg c4, if_neg c3, if_true, if_false, Option.bind_some, i10, i01, im1, im2, im3, im9]
    exact ⟨trivial, trivial⟩
theorem lnx (x : Int32) : (fX3_isLane x = some 0 ∧ fX4_isSort x = some 0) ∨ (fX3_isLane x = some 1 ∧ fX4_isSort x = some 1 ∧ (x = 0 ∨ x = 1 ∨ x = 2)) := by
  rw [fX3_isLane, fX4_isSort, wi]
  rcases pk_ix x (n := 3) (by decide) with c | c | ⟨k, hk, rfl⟩
  · left; simp only [if_pos c, if_true, if_false, Option.bind_some, i10, i01, im1, im2, im3, im9]; exact ⟨trivial, trivial⟩
  · left
    by_cases c0 : x < 0
    · simp only [if_pos c0, if_true, if_false, Option.bind_some, i10, i01, im1, im2, im3, im9]; exact ⟨trivial, trivial⟩
    · have c4 : (3 : Int32) ≤ x := c
      have c3 : (2 : Int32) < x := by
        rw [Int32.le_iff_toInt_le] at c4
        rw [Int32.lt_iff_toInt_lt]
        have e4 : (3 : Int32).toInt = 3 := by decide
        have e3 : (2 : Int32).toInt = 2 := by decide
        omega
      simp only [if_neg c0, if_pos c3, if_true, if_false, Option.bind_some, i10, i01, im1, im2, im3, im9]; exact ⟨trivial, trivial⟩
  · right
    have c3 : ¬ (2 : Int32) < nI k := nI_nlt (a := 2) (by omega) (by decide)
    simp only [if_neg (nI_pos (show k < 2 ^ 31 by omega)), if_neg c3, if_true, if_false, Option.bind_some, i10, i01, im1, im2, im3, im9]
    refine ⟨trivial, trivial, ?_⟩
    rcases (show k = 0 ∨ k = 1 ∨ k = 2 by omega) with rfl | rfl | rfl
    · exact Or.inl rfl
    · exact Or.inr (Or.inl rfl)
    · exact Or.inr (Or.inr rfl)
theorem ne9 {x : Int32} (h : x = 0 ∨ x = 1 ∨ x = 2) : ¬ x = -9 := by
  rcases h with rfl | rfl | rfl <;> decide
theorem e60 (p q : Nat) : (60 : Int32) * nI p + nI q = nI (60 * p + q) := by rw [show (60 : Int32) = nI 60 from rfl, pk_mul, nI_add]
theorem hcx {σ : St} {k len : Nat} (hl : len ≤ 60) (h3 : σ (2 + k) 3 = nI len) (x y : Int32) : (fX1_hasCells σ k x y = some 0 ∧ (x < 0 ∨ nI len < x ∨ y < 0 ∨ nI len - x < y)) ∨ ∃ i m, i + m ≤ len ∧ x = nI i ∧ y = nI m ∧ fX1_hasCells σ k x y = some 1 := by
  rw [fX1_hasCells, h3]
  by_cases c0 : x < 0
  · left; rw [if_pos c0]; exact ⟨rfl, Or.inl c0⟩
  · by_cases c1 : nI len < x
    · left; rw [if_neg c0, if_pos c1]; exact ⟨rfl, Or.inr (Or.inl c1)⟩
    · by_cases c2 : y < 0
      · left; rw [if_neg c0, if_neg c1, if_pos c2]; exact ⟨rfl, Or.inr (Or.inr (Or.inl c2))⟩
      · by_cases c3 : nI len - x < y
        · left; rw [if_neg c0, if_neg c1, if_neg c2, if_pos c3]; exact ⟨rfl, Or.inr (Or.inr (Or.inr c3))⟩
        · right
          rw [if_neg c0, if_neg c1, if_neg c2, if_neg c3]
          obtain ⟨i, hi, rfl⟩ := nI_of2 (M := nI len) (n := len) (nI_toInt (by omega)) c0 (Int32.not_lt.mp c1)
          rw [pk_sub hi] at c3
          obtain ⟨m, hm, rfl⟩ := nI_of2 (M := nI (len - i)) (n := len - i) (nI_toInt (by omega)) c2 (Int32.not_lt.mp c3)
          exact ⟨i, m, by omega, rfl, rfl, rfl⟩
theorem agn {σ τ : St} {k : Nat} (hk : k < 4) (h : Sh σ τ k) (ln x y : Int32) (hln : ln = 0 ∨ ln = 1 ∨ ln = 2) :
    (fX1_faultAs σ k ln = some 1 ∧ fX4_against τ (nI k) ln x y = some 1) ∨ (fX1_faultAs σ k ln = some 2 ∧ fX4_against τ (nI k) ln x y = some 2) ∨ (fX1_faultAs σ k ln = some 0 ∧ ((y < 0 ∧ fX4_against τ (nI k) ln x y = some 4) ∨ (¬ y < 0 ∧ fX1_hasCells σ k x y = some 0 ∧ fX4_against τ (nI k) ln x y = some 3) ∨ ∃ i m, i + m ≤ 60 ∧ x = nI i ∧ y = nI m ∧ fX1_hasCells σ k x y = some 1 ∧ fX4_against τ (nI k) ln x y = some 0)) := by
  have hck := cN (show k < 2 ^ 31 by omega)
  have hgk := gP (show k < 4 by omega) (by decide)
  rcases h with ⟨a, b⟩ | ⟨a, b, b2, len, hl, l1, l2⟩
  · left
    simp only [fX1_faultAs, fX4_against, a, hck, hgk, b, if_true, if_false]
    exact ⟨trivial, trivial⟩
  · have b9 := ne9 b2
    by_cases cl : τ 1 k = ln
    · right; right
      have e1 : fX1_faultAs σ k ln = some 0 := by simp only [fX1_faultAs, a, ← b, cl, i10, if_true, if_false]
      refine ⟨e1, ?_⟩
      have ea : fX4_against τ (nI k) ln x y = (if 0 ≤ y then (if x < 0 then some 3 else if nI len < x then some 3 else if y ≤ nI len - x then some 0 else some 3) else some 4) := by
        simp only [fX4_against, hck, hgk, if_neg b9, if_pos cl, l2, if_true, if_false]
      rw [ea]
      by_cases cy : y < 0
      · left; exact ⟨cy, by rw [if_neg (Int32.not_le.mpr cy)]⟩
      · right
        rw [if_pos (Int32.not_lt.mp cy)]
        rcases hcx (σ := σ) (k := k) hl l1 x y with ⟨q, w⟩ | ⟨i, m, him, rfl, rfl, q⟩
        · left
          refine ⟨cy, q, ?_⟩
          by_cases c0 : x < 0
          · rw [if_pos c0]
          · by_cases c1 : nI len < x
            · rw [if_neg c0, if_pos c1]
            · have c3 : nI len - x < y := by
                rcases w with w | w | w | w
                · exact absurd w c0
                · exact absurd w c1
                · exact absurd w cy
                · exact w
              rw [if_neg c0, if_neg c1, if_neg (Int32.not_le.mpr c3)]
        · right
          refine ⟨i, m, by omega, rfl, rfl, q, ?_⟩
          rw [if_neg (nI_pos (by omega)), if_neg (nI_nlt (by omega) (by omega)), pk_sub (by omega), if_pos (nI_le (by omega) (by omega))]
    · right; left
      have cl' : ¬ σ (2 + k) 2 = ln := by rw [← b]; exact cl
      simp only [fX1_faultAs, fX4_against, a, hck, hgk, if_neg b9, if_neg cl, if_neg cl', i10, if_true, if_false]
      exact ⟨trivial, trivial⟩
theorem start_L {k : Nat} (hk : k < 4) : ∀ (c i n : Nat) (σ : St), i + c = 60 → c < n → ∃ σ', fX1_startRow_L17 n σ k (nI i) = some σ' ∧ ∀ z j, σ' z j = if z = 6 + k ∧ i ≤ j ∧ j < 60 then 0 else σ z j := by
  intro c
  induction c with
  | zero =>
    intro i n σ hi hn
    obtain ⟨m, rfl⟩ : ∃ m, n = m + 1 := ⟨n - 1, by omega⟩
    refine ⟨σ, ?_, fun z j => ?_⟩
    · rw [fX1_startRow_L17, if_pos (show (60 : Int32) ≤ nI i from nI_le (a := 60) (by omega) (by omega))]
    · rw [if_neg (by omega)]
  | succ c ih =>
    intro i n σ hi hn
    obtain ⟨m, rfl⟩ : ∃ m, n = m + 1 := ⟨n - 1, by omega⟩
    obtain ⟨σ', h1, h2⟩ := ih (i + 1) m (up2 σ (6 + k) i 0) (by omega) (by omega)
    refine ⟨σ', ?_, fun z j => ?_⟩
    · rw [fX1_startRow_L17, if_neg (show ¬ (60 : Int32) ≤ nI i from nI_ge (b := 60) (by omega) (by omega))]
      simp only [cN (show i < 2 ^ 31 by omega), gP (show i < 60 by omega) (by decide), if_false, nI_1]
      exact h1
    · rw [h2, up2e]
      by_cases q1 : z = 6 + k ∧ i + 1 ≤ j ∧ j < 60
      · rw [if_pos q1, if_pos ⟨q1.1, by omega, q1.2.2⟩]
      · rw [if_neg q1]
        by_cases q2 : z = 6 + k ∧ j = i
        · rw [if_pos q2, if_pos ⟨q2.1, by omega, by omega⟩]
        · rw [if_neg q2, if_neg (fun w => q2 ⟨w.1, by omega⟩)]
theorem sheet_L {k : Nat} (hk : k < 4) : ∀ (c i n : Nat) (τ : St), i + c = 60 → c < n → ∃ τ', fX4_sheet_L57 n τ (nI k) (nI i) = some (1, τ') ∧ ∀ z j, τ' z j = if z = 3 ∧ 60 * k + i ≤ j ∧ j < 60 * k + 60 then 0 else τ z j := by
  intro c
  induction c with
  | zero =>
    intro i n τ hi hn
    obtain ⟨m, rfl⟩ : ∃ m, n = m + 1 := ⟨n - 1, by omega⟩
    refine ⟨τ, ?_, fun z j => ?_⟩
    · rw [fX4_sheet_L57, if_pos (show (60 : Int32) ≤ nI i from nI_le (a := 60) (by omega) (by omega))]
    · rw [if_neg (by omega)]
  | succ c ih =>
    intro i n τ hi hn
    obtain ⟨m, rfl⟩ : ∃ m, n = m + 1 := ⟨n - 1, by omega⟩
    obtain ⟨τ', h1, h2⟩ := ih (i + 1) m (up2 τ 3 (60 * k + i) 0) (by omega) (by omega)
    refine ⟨τ', ?_, fun z j => ?_⟩
    · rw [fX4_sheet_L57, if_neg (show ¬ (60 : Int32) ≤ nI i from nI_ge (b := 60) (by omega) (by omega))]
      simp only [e60, cN (show 60 * k + i < 2 ^ 31 by omega), gP (show 60 * k + i < 240 by omega) (by decide), if_false, nI_1]
      exact h1
    · rw [h2, up2e]
      by_cases q1 : z = 3 ∧ 60 * k + (i + 1) ≤ j ∧ j < 60 * k + 60
      · rw [if_pos q1, if_pos ⟨q1.1, by omega, q1.2.2⟩]
      · rw [if_neg q1]
        by_cases q2 : z = 3 ∧ j = 60 * k + i
        · rw [if_pos q2, if_pos ⟨q2.1, by omega, by omega⟩]
        · rw [if_neg q2, if_neg (fun w => q2 ⟨w.1, by omega⟩)]
theorem q_sheet {σ τ : St} (h : Rl σ τ) (x y w : Int32) : ∃ r σ' τ', fX3_sheet 80 σ x y w = some (r, σ') ∧ fX4_sheet 80 τ x y w = some (r, τ') ∧ Rl σ' τ' := by
  have hf := h.fault 0
  obtain ⟨P, lam, rd, hr, hd, hs, hz⟩ := id hf
  rw [fX3_sheet, fX4_sheet]
  rcases shx x with ⟨a, c⟩ | ⟨k, hk, rfl, a, c⟩
  · rw [a, c]; exact ⟨_, _, _, rfl, rfl, hf⟩
  · rcases lnx y with ⟨a2, c2⟩ | ⟨a2, c2, hy⟩
    · rw [a, c, a2, c2]; exact ⟨_, _, _, rfl, rfl, hf⟩
    · rw [a, c, a2, c2]
      simp only [if_true, if_false, Option.bind_some, i10, i01, im1, im2, im3, im9]
      by_cases c60 : w ≤ 60
      · by_cases c0 : 0 ≤ w
        · obtain ⟨len, hlen, rfl⟩ := nI_of2 (M := 60) (n := 60) (by decide) (Int32.not_lt.mpr c0) c60
          simp only [if_pos c60, if_pos c0, cN (show k < 2 ^ 31 by omega), gP (show k < 4 by omega) (by decide), if_false, fX1_startRow]
          obtain ⟨σ', s1, s2⟩ := start_L hk 60 0 80 (up2 (up2 (up2 (up2 σ 0 3 0) (2 + k) 1 1) (2 + k) 2 y) (2 + k) 3 (nI len)) (by decide) (by decide)
          obtain ⟨τ', t1, t2⟩ := sheet_L hk 60 0 80 (up2 (up2 (up2 τ 0 0 0) 1 k y) 2 k (nI len)) (by decide) (by decide)
          rw [n0] at s1 t1
          rw [s1, t1]
          simp only [Option.bind_some]
          refine ⟨_, _, _, rfl, rfl, P, lam, rd, hr.mv ?_ ?_ ?_ ?_ ?_ ?_ ?_, hd.mv ?_ ?_ ?_ ?_ ?_ ?_, ?_, hz.mv ?_ ?_ ?_ ?_ ?_ ?_⟩
          rotate_right 7
          · intro a ha
            obtain ⟨g1, g2⟩ := hs a ha
            by_cases hak : a = k
            · subst hak
              refine ⟨Or.inr ⟨?_, ?_, ?_, len, hlen, ?_, ?_⟩, fun i hi => ?_⟩
              · rw [s2, if_neg (by omega), upj (by decide), upj (by decide), upe]
              · rw [s2, t2, if_neg (by omega), if_neg (by omega), upz (show (1 : Nat) ≠ 2 by decide), upe, upj (show (2 : Nat) ≠ 3 by decide), upe]
              · rw [t2, if_neg (by omega), upz (by decide), upe]; exact hy
              · rw [s2, if_neg (by omega), upe]
              · rw [t2, if_neg (by omega), upe]
              · rw [s2, t2, if_pos ⟨rfl, by omega, hi⟩, if_pos ⟨rfl, by omega, by omega⟩]
            · have k1 : ∀ j, σ' (2 + a) j = up2 σ 0 3 0 (2 + a) j := fun j => by rw [s2, if_neg (by omega), upz (by omega), upz (by omega), upz (by omega)]
              have k2 : ∀ z, z = 1 ∨ z = 2 → τ' z a = up2 τ 0 0 0 z a := fun z hz => by rw [t2, if_neg (by omega), upj (by omega), upj (by omega)]
              refine ⟨?_, fun i hi => ?_⟩
              · unfold Sh
                rw [k1, k1, k1, k2 1 (by decide), k2 2 (by decide)]
                exact g1
              · rw [s2, t2, if_neg (by omega), if_neg (by omega)]
                have g3 := g2 i hi
                simp (disch := omega) only [upz, upj] at g3 ⊢
                exact g3
          all_goals intros
          all_goals first | (rw [s2, if_neg (by omega)]; simp (disch := omega) only [upz, upj]; done) | (rw [t2, if_neg (by omega)]; simp (disch := omega) only [upz, upj]; done)
        · simp only [if_pos c60, if_neg c0]; exact ⟨_, _, _, rfl, rfl, hf.fault 4⟩
      · simp only [if_neg c60]; exact ⟨_, _, _, rfl, rfl, hf⟩
theorem q_lose {σ τ : St} (h : Rl σ τ) (x : Int32) : ∃ r σ' τ', fX3_lose σ x = some (r, σ') ∧ fX4_lose τ x = some (r, τ') ∧ Rl σ' τ' := by
  obtain ⟨P, lam, rd, hr, hd, hs, hz⟩ := id h
  rw [fX3_lose, fX4_lose]
  rcases shx x with ⟨a, c⟩ | ⟨k, hk, rfl, a, c⟩
  · rw [a, c]; exact ⟨_, _, _, rfl, rfl, h⟩
  · rw [a, c]
    simp only [if_true, if_false, Option.bind_some, i10, i01, im1, im2, im3, im9, cN (show k < 2 ^ 31 by omega), gP (show k < 4 by omega) (by decide)]
    have fin : Rl (up2 σ (2 + k) 1 0) (up2 τ 1 k (-9)) := by
      refine ⟨P, lam, rd, hr.mv (by intros; first | rfl | (simp (disch := omega) only [upz, upj]; done)) (by intros; first | rfl | (simp (disch := omega) only [upz, upj]; done)) (by intros; first | rfl | (simp (disch := omega) only [upz, upj]; done)) (by intros; first | rfl | (simp (disch := omega) only [upz, upj]; done)) (by intros; first | rfl | (simp (disch := omega) only [upz, upj]; done)) (by intros; first | rfl | (simp (disch := omega) only [upz, upj]; done)) (by intros; first | rfl | (simp (disch := omega) only [upz, upj]; done)), hd.mv (by intros; first | rfl | (simp (disch := omega) only [upz, upj]; done)) (by intros; first | rfl | (simp (disch := omega) only [upz, upj]; done)) (by intros; first | rfl | (simp (disch := omega) only [upz, upj]; done)) (by intros; first | rfl | (simp (disch := omega) only [upz, upj]; done)) (by intros; first | rfl | (simp (disch := omega) only [upz, upj]; done)) (by intros; first | rfl | (simp (disch := omega) only [upz, upj]; done)), ?_, hz.mv (by intros; first | rfl | (simp (disch := omega) only [upz, upj]; done)) (by intros; first | rfl | (simp (disch := omega) only [upz, upj]; done)) (by intros; first | rfl | (simp (disch := omega) only [upz, upj]; done)) (by intros; first | rfl | (simp (disch := omega) only [upz, upj]; done)) (by intros; first | rfl | (simp (disch := omega) only [upz, upj]; done)) (by intros; first | rfl | (simp (disch := omega) only [upz, upj]; done))⟩
      intro a ha
      obtain ⟨g1, g2⟩ := hs a ha
      refine ⟨?_, fun i hi => by rw [upz (by omega), upz (by decide)]; exact g2 i hi⟩
      by_cases hak : a = k
      · subst hak
        exact Or.inl ⟨upe, upe⟩
      · unfold Sh
        simp (disch := omega) only [upz, upj]
        exact g1
    rcases (hs k hk).1 with ⟨q1, q2⟩ | ⟨q1, q2, q3, -⟩
    · simp only [q1, q2, if_true]; exact ⟨_, _, _, rfl, rfl, fin⟩
    · simp only [q1, if_neg (ne9 q3), i10, if_false]; exact ⟨_, _, _, rfl, rfl, fin⟩
theorem wcell {σ τ : St} (h : Rl σ τ) {k i : Nat} (hk : k < 4) (hi : i < 60) (v : Int32) : Rl (up2 σ (6 + k) i v) (up2 τ 3 (60 * k + i) v) := by
  obtain ⟨P, lam, rd, hr, hd, hs, hz⟩ := id h
  refine ⟨P, lam, rd, hr.mv (by intros; first | rfl | (simp (disch := omega) only [upz, upj]; done)) (by intros; first | rfl | (simp (disch := omega) only [upz, upj]; done)) (by intros; first | rfl | (simp (disch := omega) only [upz, upj]; done)) (by intros; first | rfl | (simp (disch := omega) only [upz, upj]; done)) (by intros; first | rfl | (simp (disch := omega) only [upz, upj]; done)) (by intros; first | rfl | (simp (disch := omega) only [upz, upj]; done)) (by intros; first | rfl | (simp (disch := omega) only [upz, upj]; done)), hd.mv (by intros; first | rfl | (simp (disch := omega) only [upz, upj]; done)) (by intros; first | rfl | (simp (disch := omega) only [upz, upj]; done)) (by intros; first | rfl | (simp (disch := omega) only [upz, upj]; done)) (by intros; first | rfl | (simp (disch := omega) only [upz, upj]; done)) (by intros; first | rfl | (simp (disch := omega) only [upz, upj]; done)) (by intros; first | rfl | (simp (disch := omega) only [upz, upj]; done)), ?_, hz.mv (by intros; first | rfl | (simp (disch := omega) only [upz, upj]; done)) (by intros; first | rfl | (simp (disch := omega) only [upz, upj]; done)) (by intros; first | rfl | (simp (disch := omega) only [upz, upj]; done)) (by intros; first | rfl | (simp (disch := omega) only [upz, upj]; done)) (by intros; first | rfl | (simp (disch := omega) only [upz, upj]; done)) (by intros; first | rfl | (simp (disch := omega) only [upz, upj]; done))⟩
  intro a ha
  obtain ⟨g1, g2⟩ := hs a ha
  refine ⟨?_, fun b hb => ?_⟩
  · unfold Sh
    simp (disch := omega) only [upz, upj]
    exact g1
  · rw [up2e, up2e]
    by_cases c : a = k ∧ b = i
    · rw [if_pos ⟨by omega, c.2⟩, if_pos ⟨rfl, by omega⟩]
    · rw [if_neg (fun z => c ⟨by omega, z.2⟩), if_neg (fun z => c (by omega))]
      exact g2 b hb
theorem hcl {σ : St} {k len : Nat} (hl : len ≤ 60) (h3 : σ (2 + k) 3 = nI len) (x : Int32) : (fX1_hasCell σ k x = some 0 ∧ fX4_within x 0 (nI len - 1) = some 0) ∨ ∃ i, i < len ∧ x = nI i ∧ fX1_hasCell σ k x = some 1 ∧ fX4_within x 0 (nI len - 1) = some 1 := by
  rw [fX1_hasCell, h3, wi]
  rcases pk_ix x (n := len) (by omega) with c | c | ⟨i, hi, rfl⟩
  · left; rw [if_pos c, if_pos c]; exact ⟨rfl, rfl⟩
  · left
    by_cases c0 : x < 0
    · rw [if_pos c0, if_pos c0]; exact ⟨rfl, rfl⟩
    · have c3 : nI len - 1 < x := by
        rw [Int32.le_iff_toInt_le, nI_toInt (by omega)] at c
        rw [Int32.lt_iff_toInt_lt, ← n1, pk_sub_toInt (by omega) (by omega)]
        omega
      rw [if_neg c0, if_neg c0, if_pos c, if_pos c3]; exact ⟨rfl, rfl⟩
  · right
    refine ⟨i, hi, rfl, ?_⟩
    rw [if_neg (nI_pos (by omega)), if_neg (nI_pos (by omega)), if_neg (nI_ge hi (by omega)), ← n1, pk_sub (by omega), if_neg (nI_nlt (by omega) (by omega))]
    exact ⟨rfl, rfl⟩
theorem q_put {σ τ : St} (h : Rl σ τ) (x y w : Int32) : ∃ r σ' τ', fX3_put σ x y w = some (r, σ') ∧ fX4_put τ x y w = some (r, τ') ∧ Rl σ' τ' := by
  have hf := h.fault 0
  obtain ⟨P, lam, rd, hr, hd, hs, hz⟩ := id hf
  rw [fX3_put, fX4_put]
  rcases shx x with ⟨a, c⟩ | ⟨k, hk, rfl, a, c⟩
  · rw [a, c]; exact ⟨_, _, _, rfl, rfl, hf⟩
  · rw [a, c]
    simp only [if_true, if_false, Option.bind_some, i10, i01, im1, im2, im3, im9, cN (show k < 2 ^ 31 by omega), gP (show k < 4 by omega) (by decide)]
    rcases (hs k hk).1 with ⟨q1, q2⟩ | ⟨q1, q2, q3, len, hlen, l1, l2⟩
    · simp only [q1, q2, if_true]; exact ⟨_, _, _, rfl, rfl, hf.fault 1⟩
    · simp only [q1, if_neg (ne9 q3), i10, if_false, l2]
      rcases hcl hlen l1 y with ⟨d1, d2⟩ | ⟨i, hi, rfl, d1, d2⟩
      · simp only [d1, d2, if_true, if_false, Option.bind_some, i10, i01, im1, im2, im3, im9]; exact ⟨_, _, _, rfl, rfl, hf.fault 3⟩
      · simp only [d1, d2, if_true, if_false, Option.bind_some, i10, i01, im1, im2, im3, im9, fX1_store, ← q2, e60, cN (show i < 2 ^ 31 by omega), gP (show i < 60 by omega) (by decide), cN (show 60 * k + i < 2 ^ 31 by omega), gP (show 60 * k + i < 240 by omega) (by decide)]
        rcases q3 with q | q | q
        · simp only [q, if_true, Option.bind_some]; exact ⟨_, _, _, rfl, rfl, wcell hf hk (by omega) _⟩
        · simp only [q, i10, if_true, if_false, Option.bind_some]; exact ⟨_, _, _, rfl, rfl, wcell hf hk (by omega) _⟩
        · simp only [q, i20, i21, if_true, if_false, Option.bind_some]; exact ⟨_, _, _, rfl, rfl, wcell hf hk (by omega) _⟩
theorem q_cell {σ τ : St} (h : Rl σ τ) (x y w : Int32) : ∃ r σ' τ', fX3_cell σ x y w = some (r, σ') ∧ fX4_cell τ x y w = some (r, τ') ∧ Rl σ' τ' := by
  have hf := h.fault 0
  obtain ⟨P, lam, rd, hr, hd, hs, hz⟩ := id hf
  rw [fX3_cell, fX4_cell]
  rcases shx x with ⟨a, c⟩ | ⟨k, hk, rfl, a, c⟩
  · rw [a, c]; exact ⟨_, _, _, rfl, rfl, hf⟩
  · rcases lnx w with ⟨a2, c2⟩ | ⟨a2, c2, hy⟩
    · rw [a, c, a2, c2]; exact ⟨_, _, _, rfl, rfl, hf⟩
    · rw [a, c, a2, c2]
      simp only [if_true, if_false, Option.bind_some, i10, i01, im1, im2, im3, im9, cN (show k < 2 ^ 31 by omega), gP (show k < 4 by omega) (by decide), fX1_faultAs]
      rcases (hs k hk).1 with ⟨q1, q2⟩ | ⟨q1, q2, q3, len, hlen, l1, l2⟩
      · simp only [q1, q2, if_true, if_true, if_false, Option.bind_some, i10, i01, im1, im2, im3, im9]; exact ⟨_, _, _, rfl, rfl, hf.fault 1⟩
      · simp only [q1, if_neg (ne9 q3), i10, if_false, ← q2]
        by_cases cl : up2 τ 0 0 0 1 k = w
        · simp only [if_pos cl, if_true, Option.bind_some, l2]
          rcases hcl hlen l1 y with ⟨d1, d2⟩ | ⟨i, hi, rfl, d1, d2⟩
          · simp only [d1, d2, if_true, if_false, Option.bind_some, i10, i01, im1, im2, im3, im9]; exact ⟨_, _, _, rfl, rfl, hf.fault 3⟩
          · simp only [d1, d2, if_true, if_false, Option.bind_some, i10, i01, im1, im2, im3, im9, e60, cN (show i < 2 ^ 31 by omega), gP (show i < 60 by omega) (by decide), cN (show 60 * k + i < 2 ^ 31 by omega), gP (show 60 * k + i < 240 by omega) (by decide), (hs k hk).2 i (by omega)]
            exact ⟨_, _, _, rfl, rfl, hf⟩
        · simp only [if_neg cl, Option.bind_some, i20, if_false]; exact ⟨_, _, _, rfl, rfl, hf.fault 2⟩
