/-! bits (this family began as the kit's text to paste) -/
def bt (x : Int32) (i : Nat) : Bool := x.toBitVec.getLsbD i
theorem b_ext {x y : Int32} (h : ∀ i, i < 32 → bt x i = bt y i) : x = y := Int32.toBitVec_inj.mp (BitVec.eq_of_getLsbD_eq (fun i hi => h i hi))
theorem b_or (x y : Int32) (i : Nat) : bt (x ||| y) i = (bt x i || bt y i) := by unfold bt; rw [Int32.toBitVec_or, BitVec.getLsbD_or]
theorem b_and (x y : Int32) (i : Nat) : bt (x &&& y) i = (bt x i && bt y i) := by unfold bt; rw [Int32.toBitVec_and, BitVec.getLsbD_and]
theorem s_l : ∀ n, n < 32 → ((nI n &&& 31).toBitVec.smod 32).toNat = n := by decide +kernel
theorem s_u : ∀ n, n < 32 → (((nI n).toUInt32 &&& Int32.toUInt32 31).toBitVec % 32).toNat = n := by decide +kernel
theorem b_ushr (n : Nat) (hn : n < 32) (x : Int32) (i : Nat) : bt ((x.toUInt32 >>> ((nI n).toUInt32 &&& Int32.toUInt32 31)).toInt32) i = bt x (n + i) := by
  show (x.toUInt32 >>> ((nI n).toUInt32 &&& Int32.toUInt32 31)).toBitVec.getLsbD i = x.toUInt32.toBitVec.getLsbD (n + i)
  rw [UInt32.toBitVec_shiftRight]
  show (x.toUInt32.toBitVec >>> (((nI n).toUInt32 &&& Int32.toUInt32 31).toBitVec % 32).toNat).getLsbD i = _
  rw [s_u n hn, BitVec.getLsbD_ushiftRight]
theorem b_sshr (n : Nat) (hn : n < 32) (x : Int32) {i : Nat} (hi : i < 32) : bt (x >>> (nI n &&& 31)) i = if n + i < 32 then bt x (n + i) else bt x 31 := by
  unfold bt
  rw [Int32.toBitVec_shiftRight]
  show (x.toBitVec.sshiftRight ((nI n &&& 31).toBitVec.smod 32).toNat).getLsbD i = _
  rw [s_l n hn, BitVec.getLsbD_sshiftRight, BitVec.msb_eq_getLsbD_last]
  simp [hi]
theorem b_1 : ∀ i, i < 32 → bt 1 i = decide (i = 0) := by decide +kernel
theorem b_0 (i : Nat) : bt 0 i = false := BitVec.getLsbD_zero
/-- bit i of the int z -/
def bitZ (z : Int) (i : Nat) : Bool := bt (Int32.ofInt z) i
theorem nI_of_nat (i : Nat) : Int32.ofInt (i : Int) = nI i := Int32.ofInt_eq_ofNat
theorem b_mask1 (x : Int32) : x &&& 1 = if bt x 0 then 1 else 0 := by
  apply b_ext
  intro i hi
  rw [b_and, b_1 i hi]
  by_cases h0 : i = 0
  · subst h0
    by_cases h : bt x 0 = true
    · rw [if_pos h, b_1 0 hi, h]; rfl
    · rw [if_neg h, b_0]; simp [h]
  · by_cases h : bt x 0 = true
    · rw [if_pos h, b_1 i hi]; simp [h0]
    · rw [if_neg h, b_0]; simp [h0]
def ushZ (a b : Int) : Int := ((Int32.ofInt a).toUInt32 >>> ((Int32.ofInt b).toUInt32 &&& Int32.toUInt32 31)).toInt32.toInt
theorem ushZ_ok (a b : Int) : ((Int32.ofInt a).toUInt32 >>> ((Int32.ofInt b).toUInt32 &&& Int32.toUInt32 31)).toInt32 = Int32.ofInt (ushZ a b) := (iT _).symm
theorem bit_u (z : Int) {i : Nat} (hi : i < 32) : (Int32.ofInt (ushZ z i) &&& Int32.ofInt 1).toInt = if bitZ z i then 1 else 0 := by
  rw [← ushZ_ok, nI_of_nat, show Int32.ofInt 1 = 1 from rfl, b_mask1, b_ushr i hi]
  show (if bitZ z i = true then (1 : Int32) else 0).toInt = _
  by_cases h : bitZ z i = true
  · rw [if_pos h, if_pos h]; rfl
  · rw [if_neg h, if_neg h]; rfl
theorem bit_s (z : Int) {i : Nat} (hi : i < 32) : (Int32.ofInt ((Int32.ofInt z >>> (Int32.ofInt (i : Int) &&& 31)).toInt) &&& Int32.ofInt 1).toInt = if bitZ z i then 1 else 0 := by
  rw [iT, nI_of_nat, show Int32.ofInt 1 = 1 from rfl, b_mask1, b_sshr i hi _ (i := 0) (by decide), if_pos (show i + 0 < 32 by omega)]
  show (if bitZ z i = true then (1 : Int32) else 0).toInt = _
  by_cases h : bitZ z i = true
  · rw [if_pos h, if_pos h]; rfl
  · rw [if_neg h, if_neg h]; rfl
/-! the state, as the cells of the reference m hold it; the sums -/
def cntW (m : Mem) (w : Int) : Nat → Nat
  | 0 => 0
  | k + 1 => cntW m w k + if m 81 k = w then 1 else 0
def heavyK (m : Mem) : Nat → Int
  | 0 => 0
  | k + 1 => heavyK m k + m 79 (m 91 k).toNat
def frontK (m : Mem) : Nat → Int
  | 0 => 0
  | k + 1 => frontK m k + m 79 (m 91 k).toNat * (8 - 2 * (k : Int))
def rearK (m : Mem) : Nat → Int
  | 0 => 0
  | k + 1 => rearK m k + m 79 (m 91 k).toNat * (2 * (k : Int) + 1)
def bedK (m : Mem) (b : Nat) : Nat → Int
  | 0 => -4
  | k + 1 => bedK m b k + (m 77 (m 86 (40 * b + k)).toNat + 4)
def bedlen (m : Mem) (b : Nat) : Int := if m 85 b = 0 then 0 else bedK m b (m 85 b).toNat
/-- a part's field j, as the class holds it: the reference's, of a part not yet there what a new object holds -/
def pvF (m : Mem) (i j : Nat) : Int := if (i : Int) < m 76 0 then m (77 + j) i else if j = 5 then -4 else 0
/-- the class's cells in ν against the reference's in m -/
def RelXM (ν m : Mem) : Prop :=
  (ν 63 6 = m 76 0 ∧ ν 63 7 = m 76 20 ∧ ν 63 8 = m 76 19 ∧ ν 63 9 = m 76 14 ∧ ν 63 10 = m 76 13) ∧
  (∀ i j : Nat, i < 40 → j < 8 → ν i j = pvF m i j) ∧
  (∀ b : Nat, b < 3 → ν (40 + b) 0 = m 85 b ∧ ν (40 + b) 1 = bedlen m b ∧ ν (40 + b) 2 = m 87 b ∧ ν (40 + b) 3 = m 88 b) ∧
  (∀ s : Nat, s < 5 → ν (43 + s) 1 = m 89 s ∧ ∀ k : Nat, (k : Int) < m 89 s → ν (48 + s) k = m 90 (4 * s + k)) ∧
  (ν 67 1 = m 76 17 ∧ ν 67 2 = heavyK m (m 76 17).toNat ∧ ν 67 3 = frontK m (m 76 17).toNat ∧ ν 67 4 = rearK m (m 76 17).toNat ∧ ∀ k : Nat, (k : Int) < m 76 17 → ν 68 k = m 91 k)
/-- what always holds of the reference's cells; c: how many calls there were -/
def IM (c : Nat) (m : Mem) : Prop :=
  (0 ≤ m 76 0 ∧ m 76 0 ≤ 40) ∧
  (∀ i : Nat, (i : Int) < m 76 0 → 1 ≤ m 77 i ∧ m 77 i ≤ 200 ∧ 0 ≤ m 78 i ∧ m 78 i ≤ 7 ∧ 1 ≤ m 79 i ∧ m 79 i ≤ 100 ∧ 0 ≤ m 80 i ∧ m 80 i ≤ 1000 ∧ 0 ≤ m 81 i ∧ m 81 i ≤ 6 ∧ -4 ≤ m 82 i ∧ m 82 i ≤ (c : Int) + 5 ∧ (m 84 i = 0 ∨ m 84 i = 1)) ∧
  (∀ i : Nat, m 76 0 ≤ (i : Int) → i < 40 → m 83 i = 0 ∧ m 84 i = 0) ∧
  (0 ≤ m 76 14 ∧ m 76 14 ≤ 100000 ∧ -20 ≤ m 76 13 ∧ m 76 13 ≤ 60 ∧ 0 ≤ m 76 19 ∧ m 76 19 ≤ (c : Int) ∧ 0 ≤ m 76 20 ∧ m 76 20 ≤ (c : Int)) ∧
  (∀ b : Nat, b < 3 → 0 ≤ m 85 b ∧ m 85 b ≤ 40 ∧ 0 ≤ m 87 b ∧ m 87 b ≤ 70 * m 76 14 ∧ 0 ≤ m 88 b ∧ m 88 b ≤ m 76 14 ∧ (m 85 b = 0 → m 87 b = 0) ∧
    (∀ k : Nat, (k : Int) < m 85 b → 0 ≤ m 86 (40 * b + k) ∧ m 86 (40 * b + k) < m 76 0 ∧ m 81 (m 86 (40 * b + k)).toNat = 1 ∧ m 82 (m 86 (40 * b + k)).toNat = (b : Int)) ∧
    (∀ k : Nat, (k : Int) + 1 < m 85 b → m 86 (40 * b + k) < m 86 (40 * b + (k + 1))) ∧
    (∀ p : Nat, (p : Int) < m 76 0 → m 81 p = 1 → m 82 p = (b : Int) → ∃ k : Nat, (k : Int) < m 85 b ∧ m 86 (40 * b + k) = (p : Int))) ∧
  (∀ s : Nat, s < 5 → 0 ≤ m 89 s ∧ m 89 s ≤ 4 ∧
    (∀ k : Nat, (k : Int) < m 89 s → 0 ≤ m 90 (4 * s + k) ∧ m 90 (4 * s + k) < m 76 0 ∧ m 81 (m 90 (4 * s + k)).toNat = 3 ∧ m 82 (m 90 (4 * s + k)).toNat = (s : Int)) ∧
    (∀ k k' : Nat, (k : Int) < m 89 s → (k' : Int) < m 89 s → m 90 (4 * s + k) = m 90 (4 * s + k') → k = k')) ∧
  ((cntW m 3 (m 76 0).toNat : Int) = m 89 0 + m 89 1 + m 89 2 + m 89 3 + m 89 4) ∧
  (0 ≤ m 76 17 ∧ m 76 17 ≤ 4 ∧ (∀ k : Nat, (k : Int) < m 76 17 → 0 ≤ m 91 k ∧ m 91 k < m 76 0 ∧ m 81 (m 91 k).toNat = 6) ∧ heavyK m (m 76 17).toNat ≤ 120 ∧ frontK m (m 76 17).toNat ≤ 720 ∧ rearK m (m 76 17).toNat ≤ 720) ∧
  m 93 0 = 0
