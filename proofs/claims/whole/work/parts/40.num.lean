/-! NUMBERS and bits, small sets -/
theorem gF {i N : Nat} (h : i < N) (hN : N < 2 ^ 31) : ¬ (nI i < 0 ∨ N ≤ (nI i).toNatClampNeg) := vp_in_nI h hN
theorem gP {i N : Nat} (h : i < N) (hN : N < 2 ^ 31) : (nI i < 0 ∨ N ≤ i) = False := eq_false (fun q => q.elim (nI_pos (by omega)) (fun z => absurd z (by omega)))
theorem cN {i : Nat} (h : i < 2 ^ 31) : (nI i).toNatClampNeg = i := nI_clamp h
theorem leT {a b : Nat} (h : a ≤ b) (hb : b < 2 ^ 31) : (nI a ≤ nI b) = True := eq_true (nI_le h hb)
theorem leF {a b : Nat} (h : b < a) (ha : a < 2 ^ 31) : (nI a ≤ nI b) = False := eq_false (nI_ge h ha)
theorem ltT {a b : Nat} (h : a < b) (hb : b < 2 ^ 31) : (nI a < nI b) = True := eq_true (nI_lt h hb)
theorem ltF {a b : Nat} (h : b ≤ a) (ha : a < 2 ^ 31) : (nI a < nI b) = False := eq_false (nI_nlt h ha)
theorem eqT {a b : Nat} (h : a = b) : (nI a = nI b) = True := eq_true (congrArg nI h)
theorem eqF {a b : Nat} (h : a ≠ b) (ha : a < 2 ^ 31) (hb : b < 2 ^ 31) : (nI a = nI b) = False := eq_false (fun q => h ((nI_eq ha hb).mp q))
theorem i10 : ((1 : Int32) = 0) = False := by decide
theorem i01 : ((0 : Int32) = 1) = False := by decide
theorem i20 : ((2 : Int32) = 0) = False := by decide
theorem i21 : ((2 : Int32) = 1) = False := by decide
theorem i12 : ((1 : Int32) = 2) = False := by decide
theorem i02 : ((0 : Int32) = 2) = False := by decide
theorem n0 : nI 0 = 0 := rfl
theorem n1 : nI 1 = 1 := rfl
theorem bt5 : ∀ w, w < 32 → ∀ p, p < 5 → (nI w >>> (nI p &&& 31)) &&& 1 = nI (w / 2 ^ p % 2) := by decide +kernel
theorem pw5 : ∀ p, p < 10 → (1 : Int32) <<< (nI p &&& 31) = nI (2 ^ p) := by decide +kernel
theorem sh0 {w p : Nat} (hw : w < 32) (hp : p < 5) (h : w / 2 ^ p % 2 = 0) : (nI w >>> (nI p &&& 31)) &&& 1 = 0 := by rw [bt5 w hw p hp, h]; rfl
theorem sh1 {w p : Nat} (hw : w < 32) (hp : p < 5) (h : w / 2 ^ p % 2 = 1) : (nI w >>> (nI p &&& 31)) &&& 1 = 1 := by rw [bt5 w hw p hp, h]; rfl
theorem of0 {w p : Nat} (hw : w < 32) (hp : p < 5) (h : w / 2 ^ p % 2 = 0) : fX4_isOf (nI w) (nI p) = some 0 := by rw [fX4_isOf, sh0 hw hp h]; rfl
theorem of1 {w p : Nat} (hw : w < 32) (hp : p < 5) (h : w / 2 ^ p % 2 = 1) : fX4_isOf (nI w) (nI p) = some 1 := by rw [fX4_isOf, sh1 hw hp h]; rfl
theorem b01 (w p : Nat) : w / 2 ^ p % 2 = 0 ∨ w / 2 ^ p % 2 = 1 := by omega
-- how many there are of a set
def pc : Nat → Nat → Nat
  | 0, _ => 0
  | k + 1, v => v % 2 + pc k (v / 2)
theorem bitc : ∀ v, v < 32 → fJ6_bitCount (nI v) = some (nI (pc 5 v)) := by decide +kernel
theorem szA : ∀ v, v < 32 → nI v &&& 1 = nI (v % 2) := by decide +kernel
theorem szB : ∀ v, v < 32 → nI v >>> ((1 : Int32) &&& 31) = nI (v / 2) := by decide +kernel
theorem size_L : ∀ (k v a n : Nat), v < 2 ^ k → k ≤ 5 → k < n → fX4_size_L4 n (nI a) (nI v) = some (nI (a + pc k v))
  | 0, v, a, n, hv, _, hn => by
    obtain ⟨m, rfl⟩ : ∃ m, n = m + 1 := ⟨n - 1, by omega⟩
    have : v = 0 := by simpa using hv
    subst this
    rw [fX4_size_L4, if_pos (by decide)]
    rfl
  | k + 1, v, a, n, hv, hk, hn => by
    obtain ⟨m, rfl⟩ : ∃ m, n = m + 1 := ⟨n - 1, by omega⟩
    have hv32 : v < 32 := Nat.lt_of_lt_of_le hv (Nat.le_trans (Nat.pow_le_pow_right (by omega) hk) (by decide))
    have e2 : v < 2 * 2 ^ k := by rw [Nat.pow_succ] at hv; omega
    rw [fX4_size_L4]
    by_cases hz : v = 0
    · subst hz
      rw [if_pos (by decide)]
      have : ∀ j, pc j 0 = 0 := by
        intro j
        induction j with
        | zero => rfl
        | succ j ih => rw [pc, ih]
      rw [this]; rfl
    · rw [if_neg (by rw [← n0]; exact nI_ge (by omega) (by omega)), szA v hv32, szB v hv32, nI_add, size_L k (v / 2) (a + v % 2) m (by omega) (by omega) (by omega), pc, Nat.add_assoc]
theorem sizeN {v n : Nat} (hv : v < 32) (hn : 6 ≤ n) : fX4_size n (nI v) = some (nI (pc 5 v)) := by
  rw [fX4_size, ← n0, size_L 5 v 0 n hv (by omega) (by omega), Nat.zero_add]
theorem pcle : ∀ v, v < 32 → pc 5 v ≤ 5 := by decide +kernel
theorem ors : ∀ s, s < 32 → ∀ p, p < 5 → s < 2 ^ p → (nI s ||| nI (2 ^ p)) = nI (s + 2 ^ p) := by decide +kernel
theorem or0 (x : Int32) : x ||| 0 = x := by
  apply Int32.toBitVec_inj.mp
  rw [Int32.toBitVec_or]
  simp
theorem zor (x : Int32) : (0 : Int32) ||| x = x := by
  apply Int32.toBitVec_inj.mp
  rw [Int32.toBitVec_or]
  simp
theorem add0 (x : Int32) : x + 0 = x := by
  apply Int32.toBitVec_inj.mp
  rw [Int32.toBitVec_add]
  simp
theorem mul0 (x : Int32) : x * 0 = 0 := by
  apply Int32.toBitVec_inj.mp
  rw [Int32.toBitVec_mul]
  simp
