/-! TEXTS: the class's one loop beside the reference's readings -/
def Ax (τ0 τ : St) : Prop := ∀ z j, ¬ (z = 0 ∧ 11 ≤ j ∧ j ≤ 14) → z ≠ 7 → z ≠ 8 → z ≠ 9 → τ z j = τ0 z j
/-- where a text lies: sheet k from i on, m codes; both hold the same codes -/
def Tx (σ τ : St) (k i m : Nat) : Prop := k < 4 ∧ i + m ≤ 60 ∧ ∀ j, j < m → σ (6 + k) (i + j) = τ 3 (60 * k + i + j)
theorem Tx.mv {σ τ τ' : St} {k i m : Nat} (h : Tx σ τ k i m) (e : ∀ j, τ' 3 j = τ 3 j) : Tx σ τ' k i m := ⟨h.1, h.2.1, fun j hj => by rw [e]; exact h.2.2 j hj⟩
abbrev FF (σ : St) (k i m n a : Nat) (v3 v4 : Int32) : Option Int32 := fX2_firstFault_L8 n σ k (nI i) (nI m) v3 v4 (nI a)
theorem ff_end {σ τ : St} {k i m : Nat} (h : Tx σ τ k i m) (n L : Nat) (v3 : Int32) (hL : L < 100) : FF σ k i m (n + 1) m v3 (nI L) = if L ≤ m then some (-9) else some (nI m) := by
  have := h.2.1
  show fX2_firstFault_L8 (n + 1) σ k (nI i) (nI m) v3 (nI L) (nI m) = _
  rw [fX2_firstFault_L8, if_pos Int32.le_rfl]
  by_cases c : L ≤ m
  · rw [if_pos c, if_pos (nI_le c (by omega))]
  · rw [if_neg c, if_neg (nI_ge (by omega) (by omega))]
theorem ff_len {σ τ : St} {k i m : Nat} (h : Tx σ τ k i m) (n a L : Nat) (v3 : Int32) (ha : a < m) (hL : L ≤ a) : FF σ k i m (n + 1) a v3 (nI L) = some (nI a) := by
  have := h.2.1
  show fX2_firstFault_L8 (n + 1) σ k (nI i) (nI m) v3 (nI L) (nI a) = _
  rw [fX2_firstFault_L8]
  simp only [leF (show a < m by omega) (show m < 2 ^ 31 by omega), if_false, nI_add, cN (show i + a < 2 ^ 31 by omega), gP (show i + a < 60 by omega) (by decide), leT hL (show a < 2 ^ 31 by omega), if_true]
theorem ff_bad {σ τ : St} {k i m : Nat} (h : Tx σ τ k i m) (n a L : Nat) (v3 : Int32) (ha : a < m) (hL : a < L) (hL2 : L < 100) (hg : fX2_goesOn (nI a) (σ (6 + k) (i + a)) v3 = some 0) : FF σ k i m (n + 1) a v3 (nI L) = some (nI a) := by
  have := h.2.1
  show fX2_firstFault_L8 (n + 1) σ k (nI i) (nI m) v3 (nI L) (nI a) = _
  rw [fX2_firstFault_L8]
  simp only [leF (show a < m by omega) (show m < 2 ^ 31 by omega), if_false, nI_add, cN (show i + a < 2 ^ 31 by omega), gP (show i + a < 60 by omega) (by decide), leF hL (show L < 2 ^ 31 by omega), hg, Option.bind_some, if_true]
theorem ff_ok {σ τ : St} {k i m : Nat} (h : Tx σ τ k i m) (n a L : Nat) (v3 : Int32) (ha : a < m) (hL : a < L) (hL2 : L < 100) (h3 : a ≠ 3) (hg : fX2_goesOn (nI a) (σ (6 + k) (i + a)) v3 = some 1) : FF σ k i m (n + 1) a v3 (nI L) = FF σ k i m n (a + 1) v3 (nI L) := by
  have := h.2.1
  show fX2_firstFault_L8 (n + 1) σ k (nI i) (nI m) v3 (nI L) (nI a) = fX2_firstFault_L8 n σ k (nI i) (nI m) v3 (nI L) (nI (a + 1))
  have k3 : (nI a = 3) = False := eqF (b := 3) h3 (by omega) (by decide)
  rw [fX2_firstFault_L8]
  simp only [leF (show a < m by omega) (show m < 2 ^ 31 by omega), if_false, nI_add, nI_1, cN (show i + a < 2 ^ 31 by omega), gP (show i + a < 60 by omega) (by decide), leF hL (show L < 2 ^ 31 by omega), hg, Option.bind_some, i10, k3]
theorem ff_3 {σ τ : St} {k i m : Nat} (h : Tx σ τ k i m) (n d : Nat) (v3 : Int32) (ha : 3 < m) (hd : σ (6 + k) (i + 3) = nI (48 + d)) (hg : fX2_goesOn (nI 3) (σ (6 + k) (i + 3)) v3 = some 1) : FF σ k i m (n + 1) 3 v3 (nI 4) = FF σ k i m n 4 (nI d) (nI (4 + d * (3 + d))) := by
  have := h.2.1
  show fX2_firstFault_L8 (n + 1) σ k (nI i) (nI m) v3 (nI 4) (nI 3) = fX2_firstFault_L8 n σ k (nI i) (nI m) (nI d) (nI (4 + d * (3 + d))) (nI 4)
  have e48 : nI (48 + d) - 48 = nI d := by rw [show (48 : Int32) = nI 48 from rfl, pk_sub (by omega), Nat.add_sub_cancel_left]
  rw [hd] at hg
  have eL : (4 : Int32) + nI d * ((3 : Int32) + nI d) = nI (4 + d * (3 + d)) := by
    rw [show (3 : Int32) = nI 3 from rfl, show (4 : Int32) = nI 4 from rfl, nI_add, pk_mul, nI_add]
  rw [fX2_firstFault_L8]
  simp only [leF (show 3 < m by omega) (show m < 2 ^ 31 by omega), if_false, nI_add, nI_1, cN (show i + 3 < 2 ^ 31 by omega), gP (show i + 3 < 60 by omega) (by decide), leF (show 3 < 4 by decide) (show 4 < 2 ^ 31 by decide), hg, Option.bind_some, i10, hd, e48, eL]
  rw [if_pos (show nI 3 = 3 from rfl)]
theorem bsome {α : Type} (o : Option α) : (o.bind fun r => some r) = o := by cases o <;> rfl
theorem dig_w (x a b : Int32) : fX2_isDigit x a b = fX4_within x (48 + a) (48 + b) := rfl
theorem i48 (a : Nat) : (48 : Int32) + nI a = nI (48 + a) := by rw [show (48 : Int32) = nI 48 from rfl, nI_add]
/-- a digit, read by both -/
theorem dgx {σ τ : St} {k i m a L lo hi : Nat} {v3 : Int32} (h : Tx σ τ k i m) (hat : τ 0 11 = nI (60 * k + i + a)) (ham : a ≤ m) (haL : a < L) (hL : L < 100) (hlo : lo ≤ hi) (hhi : hi ≤ 9) (hg : ∀ x, fX2_goesOn (nI a) x v3 = fX2_isDigit x (nI lo) (nI hi)) :
    (fX4_digit τ (nI (60 * k + i + m)) (nI lo) (nI hi) = some (-9, τ) ∧ ∀ n, FF σ k i m (n + 1) a v3 (nI L) = some (nI a)) ∨ ∃ d, lo ≤ d ∧ d ≤ hi ∧ a < m ∧ σ (6 + k) (i + a) = nI (48 + d) ∧ fX4_digit τ (nI (60 * k + i + m)) (nI lo) (nI hi) = some (nI d, up2 τ 0 11 (nI (60 * k + i + a + 1))) ∧ fX2_goesOn (nI a) (σ (6 + k) (i + a)) v3 = some 1 := by
  have hk := h.1
  have hm := h.2.1
  rw [fX4_digit, hat]
  by_cases c : a < m
  · simp only [leF (show 60 * k + i + a < 60 * k + i + m by omega) (show 60 * k + i + m < 2 ^ 31 by omega), if_false, cN (show 60 * k + i + a < 2 ^ 31 by omega), gP (show 60 * k + i + a < 240 by omega) (by decide), nI_1, upe, nI_pred, upz (show (3 : Nat) ≠ 0 by decide), i48, ← h.2.2 a c]
    have hw : fX4_within (σ (6 + k) (i + a)) (nI (48 + lo)) (nI (48 + hi)) = fX2_goesOn (nI a) (σ (6 + k) (i + a)) v3 := by rw [hg, dig_w, i48, i48]
    rw [hw]
    have hv : fX2_goesOn (nI a) (σ (6 + k) (i + a)) v3 = (if σ (6 + k) (i + a) < nI (48 + lo) then some 0 else if nI (48 + hi) < σ (6 + k) (i + a) then some 0 else some 1) := by rw [← hw]; exact wi
    by_cases g1 : σ (6 + k) (i + a) < nI (48 + lo)
    · left
      rw [if_pos g1] at hv
      exact ⟨by rw [hv]; rfl, fun n => ff_bad h n a L v3 c haL hL hv⟩
    · by_cases g2 : nI (48 + hi) < σ (6 + k) (i + a)
      · left
        rw [if_neg g1, if_pos g2] at hv
        exact ⟨by rw [hv]; rfl, fun n => ff_bad h n a L v3 c haL hL hv⟩
      · right
        rw [if_neg g1, if_neg g2] at hv
        have hx0 : ¬ σ (6 + k) (i + a) < 0 := by
          rw [Int32.lt_iff_toInt_lt, nI_toInt (by omega)] at g1
          rw [Int32.lt_iff_toInt_lt, zeroI]
          omega
        obtain ⟨j, hj, ej⟩ := nI_of2 (M := nI (48 + hi)) (n := 48 + hi) (nI_toInt (by omega)) hx0 (Int32.not_lt.mp g2)
        have hj2 : 48 + lo ≤ j := by
          rcases Nat.lt_or_ge j (48 + lo) with q | q
          · rw [ej] at g1; exact absurd (nI_lt q (by omega)) g1
          · exact q
        refine ⟨j - 48, by omega, by omega, c, by rw [ej, show 48 + (j - 48) = j by omega], ?_, hv⟩
        rw [hv]
        simp only [Option.bind_some, i10, if_false, ej]
        rw [show (48 : Int32) = nI 48 from rfl, pk_sub (by omega)]
  · left
    have : a = m := by omega
    subst this
    rw [if_pos Int32.le_rfl]
    exact ⟨rfl, fun n => by rw [ff_end h n L v3 hL, if_neg (by omega)]⟩
/-- a sign, read by both -/
theorem sgx {σ τ : St} {k i m a L : Nat} {v3 cd : Int32} (h : Tx σ τ k i m) (hat : τ 0 11 = nI (60 * k + i + a)) (ham : a ≤ m) (haL : a < L) (hL : L < 100) (hg : ∀ x, fX2_goesOn (nI a) x v3 = if x = cd then some 1 else some 0) :
    (fX4_isSign τ (nI (60 * k + i + m)) cd = some (0, τ) ∧ ∀ n, FF σ k i m (n + 1) a v3 (nI L) = some (nI a)) ∨ (a < m ∧ fX4_isSign τ (nI (60 * k + i + m)) cd = some (1, up2 τ 0 11 (nI (60 * k + i + a + 1))) ∧ fX2_goesOn (nI a) (σ (6 + k) (i + a)) v3 = some 1) := by
  have hk := h.1
  have hm := h.2.1
  rw [fX4_isSign, hat]
  by_cases c : a < m
  · simp only [leF (show 60 * k + i + a < 60 * k + i + m by omega) (show 60 * k + i + m < 2 ^ 31 by omega), if_false, cN (show 60 * k + i + a < 2 ^ 31 by omega), gP (show 60 * k + i + a < 240 by omega) (by decide), nI_1, ← h.2.2 a c]
    by_cases g1 : σ (6 + k) (i + a) = cd
    · right; rw [if_pos g1]; exact ⟨c, rfl, by rw [hg, if_pos g1]⟩
    · left; rw [if_neg g1]; exact ⟨rfl, fun n => ff_bad h n a L v3 c haL hL (by rw [hg, if_neg g1])⟩
  · left
    have : a = m := by omega
    subst this
    rw [if_pos Int32.le_rfl]
    exact ⟨rfl, fun n => by rw [ff_end h n L v3 hL, if_neg (by omega)]⟩
-- what goes on where
theorem gon0 (x v3 : Int32) : fX2_goesOn (nI 0) x v3 = if x = 111 then some 1 else some 0 := rfl
theorem gon1 (x v3 : Int32) : fX2_goesOn (nI 1) x v3 = fX2_isDigit x (nI 1) (nI 3) := by
  rw [fX2_goesOn, if_neg (by decide), if_pos (show nI 1 = 1 from rfl), bsome]; rfl
theorem gon2 (x v3 : Int32) : fX2_goesOn (nI 2) x v3 = fX2_isDigit x (nI 1) (nI 3) := by
  rw [fX2_goesOn, if_neg (by decide), if_neg (by decide), if_pos (show nI 2 = 2 from rfl), bsome]; rfl
theorem gon3 (x v3 : Int32) : fX2_goesOn (nI 3) x v3 = fX2_isDigit x (nI 2) (nI 5) := by
  rw [fX2_goesOn, if_neg (by decide), if_neg (by decide), if_neg (by decide), if_pos (show nI 3 = 3 from rfl), bsome]; rfl
theorem gonP {P p t : Nat} (hP : P ≤ 5) (hp : p < P) (ht : t < 3 + P) (x : Int32) : fX2_goesOn (nI (4 + (p * (3 + P) + t))) x (nI P) = (if t = 0 then (if x = 44 then some 1 else some 0) else if t = 1 then (fX2_kindOf x).bind (fun r => if r = -9 then some 0 else some 1) else if t = 2 then fX2_isDigit x (nI 0) (nI 1) else if t - 3 = p then fX2_isDigit x (nI 0) (nI 0) else fX2_isDigit x (nI 0) (nI 9)) := by
  have hpE : p * (3 + P) ≤ 4 * 8 := Nat.mul_le_mul (by omega) (by omega)
  have hE : (3 : Int32) + nI P = nI (3 + P) := by rw [show (3 : Int32) = nI 3 from rfl, nI_add]
  have h4 : nI (4 + (p * (3 + P) + t)) - 4 = nI (p * (3 + P) + t) := by rw [show (4 : Int32) = nI 4 from rfl, pk_sub (by omega), Nat.add_sub_cancel_left]
  have hdiv : nI (p * (3 + P) + t) / nI (3 + P) = nI p := by
    rw [pk_div (by omega) (by omega) (by omega)]
    congr 1
    rw [Nat.mul_comm, Nat.mul_add_div (by omega), Nat.div_eq_of_lt ht, Nat.add_zero]
  have hrem : nI (p * (3 + P) + t) - nI p * nI (3 + P) = nI t := by rw [pk_mul, pk_sub (by omega), Nat.add_sub_cancel_left]
  have z0 : ¬ nI (3 + P) = 0 := nI_ne0 (by omega) (by omega)
  have ne : ∀ q, q < 4 → ¬ nI (4 + (p * (3 + P) + t)) = nI q := fun q hq e => by have := (nI_eq (by omega) (by omega)).mp e; omega
  rw [fX2_goesOn, if_neg (show ¬ _ = (0 : Int32) from ne 0 (by decide)), if_neg (show ¬ _ = (1 : Int32) from ne 1 (by decide)), if_neg (show ¬ _ = (2 : Int32) from ne 2 (by decide)), if_neg (show ¬ _ = (3 : Int32) from ne 3 (by decide)), h4, bsome, fX2_goesOnInPerson]
  simp only [hE, if_neg z0, hdiv, hrem, bsome]
  by_cases t0 : t = 0
  · subst t0; rw [if_pos (show nI 0 = 0 from rfl), if_pos rfl]
  · rw [if_neg (show ¬ nI t = 0 from fun e => t0 ((nI_eq (b := 0) (by omega) (by omega)).mp e)), if_neg t0]
    by_cases t1 : t = 1
    · subst t1; rw [if_pos (show nI 1 = 1 from rfl), if_pos rfl]
    · rw [if_neg (show ¬ nI t = 1 from fun e => t1 ((nI_eq (b := 1) (by omega) (by omega)).mp e)), if_neg t1]
      by_cases t2 : t = 2
      · subst t2; rw [if_pos (show nI 2 = 2 from rfl), if_pos rfl]; rfl
      · rw [if_neg (show ¬ nI t = 2 from fun e => t2 ((nI_eq (b := 2) (by omega) (by omega)).mp e)), if_neg t2, show nI t - 3 = nI (t - 3) by rw [show (3 : Int32) = nI 3 from rfl, pk_sub (by omega)]]
        by_cases tp : t - 3 = p
        · rw [if_pos tp, if_pos (congrArg nI tp)]; rfl
        · rw [if_neg tp, if_neg (fun e => tp ((nI_eq (by omega) (by omega)).mp e))]; rfl
