theorem copyF {k o i j m : Nat} (hk : k < 4) (ho : o < 4) (him : i + m ≤ 60) (hjm : j + m ≤ 60) (hov : k = o → j ≤ i) : ∀ (c q n : Nat) (τ : St), q + c = m → c < n → ∃ τ', fX4_copy_L166 n τ (nI k) (nI i) (nI o) (nI j) (nI m) 0 (nI q) = some (nI m, τ') ∧ ∀ z w, τ' z w = if z = 3 ∧ 60 * o + j + q ≤ w ∧ w < 60 * o + j + m then τ 3 (60 * k + i + (w - (60 * o + j))) else τ z w := by
  intro c
  induction c with
  | zero =>
    intro q n τ hq hn
    obtain ⟨n, rfl⟩ : ∃ m, n = m + 1 := ⟨n - 1, by omega⟩
    refine ⟨τ, ?_, fun z w => by rw [if_neg (by omega)]⟩
    rw [fX4_copy_L166, if_pos (nI_le (by omega) (by omega))]
  | succ c ih =>
    intro q n τ hq hn
    obtain ⟨n, rfl⟩ : ∃ m, n = m + 1 := ⟨n - 1, by omega⟩
    obtain ⟨τ', h1, h2⟩ := ih (q + 1) n (up2 τ 3 (60 * o + j + q) (τ 3 (60 * k + i + q))) (by omega) (by omega)
    refine ⟨τ', ?_, fun z w => ?_⟩
    · simp only [fX4_copy_L166, leF (show q < m by omega) (show m < 2 ^ 31 by omega), if_true, if_false, e60, nI_add, nI_1, cN (show 60 * k + i + q < 2 ^ 31 by omega), cN (show 60 * o + j + q < 2 ^ 31 by omega), gP (show 60 * k + i + q < 240 by omega) (by decide), gP (show 60 * o + j + q < 240 by omega) (by decide)]
      exact h1
    · rw [h2, up2e, up2e]
      by_cases c1 : z = 3 ∧ 60 * o + j + (q + 1) ≤ w ∧ w < 60 * o + j + m
      · have hne : ¬ (3 = 3 ∧ 60 * k + i + (w - (60 * o + j)) = 60 * o + j + q) := by
          rintro ⟨-, hw⟩
          by_cases hko : k = o
          · have := hov hko; subst hko; omega
          · rcases Nat.lt_or_gt_of_ne hko with g | g <;> omega
        rw [if_pos c1, if_neg hne, if_pos ⟨c1.1, by omega, c1.2.2⟩]
      · rw [if_neg c1]
        by_cases c2 : z = 3 ∧ w = 60 * o + j + q
        · rw [if_pos c2, if_pos ⟨c2.1, by omega, by omega⟩]
          congr 1; omega
        · rw [if_neg c2, if_neg (fun g => c2 ⟨g.1, by omega⟩)]
theorem copyB {k o i j m : Nat} (hk : k < 4) (ho : o < 4) (him : i + m ≤ 60) (hjm : j + m ≤ 60) (hov : k = o → i < j) : ∀ (c q n : Nat) (τ : St), q + c = m → c < n → ∃ τ', fX4_copy_L166 n τ (nI k) (nI i) (nI o) (nI j) (nI m) 1 (nI q) = some (nI m, τ') ∧ ∀ z w, τ' z w = if z = 3 ∧ 60 * o + j ≤ w ∧ w < 60 * o + j + (m - q) then τ 3 (60 * k + i + (w - (60 * o + j))) else τ z w := by
  intro c
  induction c with
  | zero =>
    intro q n τ hq hn
    obtain ⟨n, rfl⟩ : ∃ m, n = m + 1 := ⟨n - 1, by omega⟩
    refine ⟨τ, ?_, fun z w => by rw [if_neg (by omega)]⟩
    rw [fX4_copy_L166, if_pos (nI_le (by omega) (by omega))]
  | succ c ih =>
    intro q n τ hq hn
    obtain ⟨n, rfl⟩ : ∃ m, n = m + 1 := ⟨n - 1, by omega⟩
    obtain ⟨τ', h1, h2⟩ := ih (q + 1) n (up2 τ 3 (60 * o + j + (m - 1 - q)) (τ 3 (60 * k + i + (m - 1 - q)))) (by omega) (by omega)
    have es : nI m - 1 - nI q = nI (m - 1 - q) := by rw [← n1, pk_sub (by omega), pk_sub (by omega)]
    refine ⟨τ', ?_, fun z w => ?_⟩
    · simp only [fX4_copy_L166, leF (show q < m by omega) (show m < 2 ^ 31 by omega), i10, if_true, if_false, e60, es, nI_add, nI_1, cN (show 60 * k + i + (m - 1 - q) < 2 ^ 31 by omega), cN (show 60 * o + j + (m - 1 - q) < 2 ^ 31 by omega), gP (show 60 * k + i + (m - 1 - q) < 240 by omega) (by decide), gP (show 60 * o + j + (m - 1 - q) < 240 by omega) (by decide)]
      exact h1
    · rw [h2, up2e, up2e]
      by_cases c1 : z = 3 ∧ 60 * o + j ≤ w ∧ w < 60 * o + j + (m - (q + 1))
      · have hne : ¬ (3 = 3 ∧ 60 * k + i + (w - (60 * o + j)) = 60 * o + j + (m - 1 - q)) := by
          rintro ⟨-, hw⟩
          by_cases hko : k = o
          · have := hov hko; subst hko; omega
          · rcases Nat.lt_or_gt_of_ne hko with g | g <;> omega
        rw [if_pos c1, if_neg hne, if_pos ⟨c1.1, c1.2.1, by omega⟩]
      · rw [if_neg c1]
        by_cases c2 : z = 3 ∧ w = 60 * o + j + (m - 1 - q)
        · rw [if_pos c2, if_pos ⟨c2.1, by omega, by omega⟩]
          congr 1; omega
        · rw [if_neg c2, if_neg (fun g => c2 ⟨g.1, by omega⟩)]
theorem copy_S {σ τ τ' : St} (h : Rl σ τ) {k o i j m : Nat} (hk : k < 4) (ho : o < 4) (him : i + m ≤ 60) (hjm : j + m ≤ 60) (ht : ∀ z w, τ' z w = if z = 3 ∧ 60 * o + j ≤ w ∧ w < 60 * o + j + m then τ 3 (60 * k + i + (w - (60 * o + j))) else τ z w) : Rl (upA σ (6 + o) (va_cpy (σ (6 + k)) (σ (6 + o)) i j m)) τ' := by
  obtain ⟨P, lam, rd, hr, hd, hs, hz⟩ := id h
  have ks : ∀ z j, z ≠ 6 + o → upA σ (6 + o) (va_cpy (σ (6 + k)) (σ (6 + o)) i j m) z = σ z := fun z j hz => if_neg hz
  have kt : ∀ z w, z ≠ 3 → τ' z w = τ z w := fun z w hz => by rw [ht, if_neg (fun g => hz g.1)]
  have ks : ∀ z w, z ≠ 6 + o → upA σ (6 + o) (va_cpy (σ (6 + k)) (σ (6 + o)) i j m) z w = σ z w := fun z w hz => congrFun (if_neg hz) w
  refine ⟨P, lam, rd, hr.mv (fun w _ => ks _ _ (by omega)) (fun w => ks _ _ (by omega)) (fun p w hp => ks _ _ (by omega)) (fun w _ _ => kt _ _ (by decide)) (fun w => kt _ _ (by decide)) (fun w => kt _ _ (by decide)) (fun w => kt _ _ (by decide)), hd.mv (ks _ _ (by omega)) (fun w _ => ks _ _ (by omega)) (fun w _ => ks _ _ (by omega)) (kt _ _ (by decide)) (fun w _ => kt _ _ (by decide)) (fun w _ => kt _ _ (by decide)), ?_, hz.mv (ks _ _ (by omega)) (ks _ _ (by omega)) (kt _ _ (by decide)) (kt _ _ (by decide)) (kt _ _ (by decide)) (kt _ _ (by decide))⟩
  intro a ha
  obtain ⟨g1, g2⟩ := hs a ha
  refine ⟨?_, fun b hb => ?_⟩
  · unfold Sh
    rw [ks _ _ (by omega), ks _ _ (by omega), ks _ _ (by omega), kt _ _ (by decide), kt _ _ (by decide)]
    exact g1
  · by_cases hao : a = o
    · subst hao
      rw [show upA σ (6 + a) (va_cpy (σ (6 + k)) (σ (6 + a)) i j m) (6 + a) b = va_cpy (σ (6 + k)) (σ (6 + a)) i j m b from congrFun (if_pos rfl) b, ht]
      by_cases c : j ≤ b ∧ b < j + m
      · rw [pk_cpy_in c.1 c.2, if_pos ⟨rfl, by omega, by omega⟩, (hs k hk).2 (i + (b - j)) (by omega)]
        congr 1; omega
      · rw [pk_cpy_out (by omega), if_neg (by omega)]
        exact g2 b hb
    · rw [ks _ _ (by omega), ht, if_neg]
      · exact g2 b hb
      · rintro ⟨-, h1, h2⟩
        rcases Nat.lt_or_gt_of_ne hao with g | g <;> omega
theorem q_copy {σ τ : St} (h : Rl σ τ) (x y u v w : Int32) : ∃ r σ' τ', fX3_copy σ x y u v w = some (r, σ') ∧ fX4_copy 80 τ x y u v w = some (r, τ') ∧ Rl σ' τ' := by
  have hf := h.fault 0
  obtain ⟨P, lam, rd, hr, hd, hs, hz⟩ := id hf
  rw [fX3_copy, fX4_copy]
  rcases shx x with ⟨a, c⟩ | ⟨k, hk, rfl, a, c⟩
  · rw [a, c]; exact ⟨_, _, _, rfl, rfl, hf⟩
  · rcases shx u with ⟨a2, c2⟩ | ⟨o, ho, rfl, a2, c2⟩
    · rw [a, c, a2, c2]; exact ⟨_, _, _, rfl, rfl, hf⟩
    · rw [a, c, a2, c2]
      simp only [if_true, if_false, Option.bind_some, i10, i01, im1, im2, im3, im9, cN (show k < 2 ^ 31 by omega), gP (show k < 4 by omega) (by decide), cN (show o < 2 ^ 31 by omega), gP (show o < 4 by omega) (by decide)]
      rcases (hs k hk).1 with ⟨q1, q2⟩ | ⟨q1, q2, q3, len, hlen, l1, l2⟩
      · simp only [q1, q2, if_true]; exact ⟨_, _, _, rfl, rfl, hf.fault 1⟩
      · simp only [q1, if_neg (ne9 q3), i10, if_false]
        rcases (hs o ho).1 with ⟨p1, p2⟩ | ⟨p1, p2, p3, lno, hlno, m1, m2⟩
        · simp only [p1, p2, if_true]; exact ⟨_, _, _, rfl, rfl, hf.fault 1⟩
        · simp only [p1, if_neg (ne9 p3), i10, if_false, ← q2, ← p2, l2, m2]
          by_cases cl : up2 τ 0 0 0 1 k = up2 τ 0 0 0 1 o
          · simp only [if_pos cl]
            have bad : (y < 0 ∨ v < 0 ∨ w < 0 ∨ nI len < y ∨ nI lno < v ∨ nI len - y < w ∨ ¬ w ≤ nI lno - v) → ∃ τ', (if y < 0 then bind2 (fX4_fails (up2 τ 0 0 0) 3) fun r18 σ18 => some (r18, σ18) else if v < 0 then bind2 (fX4_fails (up2 τ 0 0 0) 3) fun r21 σ21 => some (r21, σ21) else if w < 0 then bind2 (fX4_fails (up2 τ 0 0 0) 3) fun r24 σ24 => some (r24, σ24) else if nI len < y then bind2 (fX4_fails (up2 τ 0 0 0) 3) fun r28 σ28 => some (r28, σ28) else if nI lno < v then bind2 (fX4_fails (up2 τ 0 0 0) 3) fun r32 σ32 => some (r32, σ32) else if nI len - y < w then bind2 (fX4_fails (up2 τ 0 0 0) 3) fun r36 σ36 => some (r36, σ36) else if w ≤ nI lno - v then (if v ≤ y then fX4_copy_L166 80 (up2 τ 0 0 0) (nI k) y (nI o) v w 0 0 else fX4_copy_L166 80 (up2 τ 0 0 0) (nI k) y (nI o) v w 1 0) else bind2 (fX4_fails (up2 τ 0 0 0) 3) fun r41 σ41 => some (r41, σ41)) = some (-10 - 3, τ') ∧ τ' = up2 (up2 τ 0 0 0) 0 0 3 := by
              intro hb
              by_cases g1 : y < 0
              · rw [if_pos g1]; exact ⟨_, rfl, rfl⟩
              · by_cases g2 : v < 0
                · rw [if_neg g1, if_pos g2]; exact ⟨_, rfl, rfl⟩
                · by_cases g3 : w < 0
                  · rw [if_neg g1, if_neg g2, if_pos g3]; exact ⟨_, rfl, rfl⟩
                  · by_cases g4 : nI len < y
                    · rw [if_neg g1, if_neg g2, if_neg g3, if_pos g4]; exact ⟨_, rfl, rfl⟩
                    · by_cases g5 : nI lno < v
                      · rw [if_neg g1, if_neg g2, if_neg g3, if_neg g4, if_pos g5]; exact ⟨_, rfl, rfl⟩
                      · by_cases g6 : nI len - y < w
                        · rw [if_neg g1, if_neg g2, if_neg g3, if_neg g4, if_neg g5, if_pos g6]; exact ⟨_, rfl, rfl⟩
                        · have g7 : ¬ w ≤ nI lno - v := by
                            rcases hb with q | q | q | q | q | q | q
                            · exact absurd q g1
                            · exact absurd q g2
                            · exact absurd q g3
                            · exact absurd q g4
                            · exact absurd q g5
                            · exact absurd q g6
                            · exact q
                          rw [if_neg g1, if_neg g2, if_neg g3, if_neg g4, if_neg g5, if_neg g6, if_neg g7]; exact ⟨_, rfl, rfl⟩
            rcases hcx hlen l1 y w with ⟨d1, d2⟩ | ⟨i, m, him, rfl, rfl, d1⟩
            · obtain ⟨τ', b1, b2⟩ := bad (by rcases d2 with q | q | q | q <;> simp [q])
              subst b2
              simp only [d1, if_true, if_false, Option.bind_some, i10, i01, im1, im2, im3, im9]
              exact ⟨_, _, _, rfl, b1, hf.fault 3⟩
            · rcases hcx hlno m1 v (nI m) with ⟨d3, d4⟩ | ⟨j, m', hjm, rfl, hmm, d3⟩
              · obtain ⟨τ', b1, b2⟩ := bad (by
                  rcases d4 with q | q | q | q
                  · simp [q]
                  · simp [q]
                  · simp [q]
                  · have := Int32.not_le.mpr q; simp [this])
                subst b2
                simp only [d1, d3, if_true, if_false, Option.bind_some, i10, i01, im1, im2, im3, im9]
                exact ⟨_, _, _, rfl, b1, hf.fault 3⟩
              · have hm : m' = m := (nI_eq (by omega) (by omega)).mp hmm.symm
                subst hm
                simp only [d1, d3, if_true, if_false, Option.bind_some, i10, i01, im1, im2, im3, im9, pk_sub (show i ≤ len by omega), pk_sub (show j ≤ lno by omega), ltF (show i ≤ len by omega) (show len < 2 ^ 31 by omega), ltF (show j ≤ lno by omega) (show lno < 2 ^ 31 by omega), ltF (show m' ≤ len - i by omega) (show len - i < 2 ^ 31 by omega), leT (show m' ≤ lno - j by omega) (show lno - j < 2 ^ 31 by omega), cN (show i < 2 ^ 31 by omega), cN (show j < 2 ^ 31 by omega), cN (show m' < 2 ^ 31 by omega), eq_false (nI_pos (show i < 2 ^ 31 by omega)), eq_false (nI_pos (show j < 2 ^ 31 by omega)), eq_false (nI_pos (show m' < 2 ^ 31 by omega)), eq_false (show ¬ 60 < i + m' by omega), eq_false (show ¬ 60 < j + m' by omega), false_or, or_false]
                by_cases cd : j ≤ i
                · obtain ⟨τ', t1, t2⟩ := copyF (k := k) (o := o) (i := i) (j := j) (m := m') hk ho (by omega) (by omega) (fun _ => cd) m' 0 80 (up2 τ 0 0 0) (by omega) (by omega)
                  rw [n0] at t1
                  rw [if_pos (nI_le cd (by omega)), t1]
                  exact ⟨_, _, _, rfl, rfl, copy_S hf hk ho (by omega) (by omega) t2⟩
                · obtain ⟨τ', t1, t2⟩ := copyB (k := k) (o := o) (i := i) (j := j) (m := m') hk ho (by omega) (by omega) (fun _ => by omega) m' 0 80 (up2 τ 0 0 0) (by omega) (by omega)
                  rw [n0] at t1
                  rw [if_neg (nI_ge (by omega) (by omega)), t1]
                  exact ⟨_, _, _, rfl, rfl, copy_S hf hk ho (by omega) (by omega) t2⟩
          · simp only [if_neg cl]; exact ⟨_, _, _, rfl, rfl, hf.fault 2⟩
