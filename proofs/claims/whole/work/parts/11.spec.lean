/-! bits (this family began as the kit's text to paste) -/
def bt (x : Int32) (i : Nat) : Bool := x.toBitVec.getLsbD i
theorem b_ext {x y : Int32} (h : ∀ i, i < 32 → bt x i = bt y i) : x = y := Int32.toBitVec_inj.mp (BitVec.eq_of_getLsbD_eq (fun i hi => h i hi))
theorem b_or (x y : Int32) (i : Nat) : bt (x ||| y) i = (bt x i || bt y i) := by unfold bt; rw [Int32.toBitVec_or, BitVec.getLsbD_or]
theorem b_and (x y : Int32) (i : Nat) : bt (x &&& y) i = (bt x i && bt y i) := by unfold bt; rw [Int32.toBitVec_and, BitVec.getLsbD_and]
theorem s_l : ∀ n, n < 32 → ((nI n &&& 31).toBitVec.smod 32).toNat = n := by decide +kernel
theorem s_u : ∀ n, n < 32 → (((nI n).toUInt32 &&& Int32.toUInt32 31).toBitVec % 32).toNat = n := by decide +kernel
theorem b_ushr (n : Nat) (hn : n < 32) (x : Int32) (i : Nat) : bt ((x.toUInt32 >>> ((nI n).toUInt32 &&& Int32.toUInt32 31)).toInt32) i = bt x (n + i) := by
  show (x.toUInt32 >>> ((nI n).toUInt32 &&& Int32.toUInt32 31)).toBitVec.getLsbD i = x.toUInt32.toBitVec.getLsbD (n + i)
  rw [UInt32.toBitVec_shiftRight]
  show (x.toUInt32.toBitVec >>> (((nI n).toUInt32 &&& Int32.toUInt32 31).toBitVec % 32).toNat).getLsbD i = _
  rw [s_u n hn, BitVec.getLsbD_ushiftRight]
theorem b_sshr (n : Nat) (hn : n < 32) (x : Int32) {i : Nat} (hi : i < 32) : bt (x >>> (nI n &&& 31)) i = if n + i < 32 then bt x (n + i) else bt x 31 := by
  unfold bt
  rw [Int32.toBitVec_shiftRight]
  show (x.toBitVec.sshiftRight ((nI n &&& 31).toBitVec.smod 32).toNat).getLsbD i = _
  rw [s_l n hn, BitVec.getLsbD_sshiftRight, BitVec.msb_eq_getLsbD_last]
  simp [hi]
theorem b_1 : ∀ i, i < 32 → bt 1 i = decide (i = 0) := by decide +kernel
theorem b_0 (i : Nat) : bt 0 i = false := BitVec.getLsbD_zero
/-- bit i of the int z -/
def bitZ (z : Int) (i : Nat) : Bool := bt (Int32.ofInt z) i
theorem nI_of_nat (i : Nat) : Int32.ofInt (i : Int) = nI i := Int32.ofInt_eq_ofNat
theorem b_mask1 (x : Int32) : x &&& 1 = if bt x 0 then 1 else 0 := by
  apply b_ext
  intro i hi
  rw [b_and, b_1 i hi]
  by_cases h0 : i = 0
  · subst h0
    by_cases h : bt x 0 = true
    · rw [if_pos h, b_1 0 hi, h]; rfl
    · rw [if_neg h, b_0]; simp [h]
  · by_cases h : bt x 0 = true
    · rw [if_pos h, b_1 i hi]; simp [h0]
    · rw [if_neg h, b_0]; simp [h0]
def ushZ (a b : Int) : Int := ((Int32.ofInt a).toUInt32 >>> ((Int32.ofInt b).toUInt32 &&& Int32.toUInt32 31)).toInt32.toInt
theorem ushZ_ok (a b : Int) : ((Int32.ofInt a).toUInt32 >>> ((Int32.ofInt b).toUInt32 &&& Int32.toUInt32 31)).toInt32 = Int32.ofInt (ushZ a b) := (iT _).symm
theorem bit_u (z : Int) {i : Nat} (hi : i < 32) : (Int32.ofInt (ushZ z i) &&& Int32.ofInt 1).toInt = if bitZ z i then 1 else 0 := by
  rw [← ushZ_ok, nI_of_nat, show Int32.ofInt 1 = 1 from rfl, b_mask1, b_ushr i hi]
  show (if bitZ z i = true then (1 : Int32) else 0).toInt = _
  by_cases h : bitZ z i = true
  · rw [if_pos h, if_pos h]; rfl
  · rw [if_neg h, if_neg h]; rfl
theorem bit_s (z : Int) {i : Nat} (hi : i < 32) : (Int32.ofInt ((Int32.ofInt z >>> (Int32.ofInt (i : Int) &&& 31)).toInt) &&& Int32.ofInt 1).toInt = if bitZ z i then 1 else 0 := by
  rw [iT, nI_of_nat, show Int32.ofInt 1 = 1 from rfl, b_mask1, b_sshr i hi _ (i := 0) (by decide), if_pos (show i + 0 < 32 by omega)]
  show (if bitZ z i = true then (1 : Int32) else 0).toInt = _
  by_cases h : bitZ z i = true
  · rw [if_pos h, if_pos h]; rfl
  · rw [if_neg h, if_neg h]; rfl
/-! the state, as the cells of the reference hold it (its object is cell 0, its rows come behind in the order of its fields); the sums -/
def vw (μ : Mem) : Mem := fun k => μ (76 + k)
theorem vw_in {μ : Mem} {k j : Nat} {v : Int} (h : 76 ≤ k) : vw (mset μ k j v) = mset (vw μ) (k - 76) j v := by
  funext k' j'
  unfold vw mset
  by_cases hk : 76 + k' = k ∧ j' = j
  · rw [if_pos hk, if_pos ⟨by omega, hk.2⟩]
  · rw [if_neg hk, if_neg (fun q => hk ⟨by omega, q.2⟩)]
theorem vw_out {μ : Mem} {k j : Nat} {v : Int} (h : k < 76) : vw (mset μ k j v) = vw μ := by
  funext k' j'
  unfold vw mset
  rw [if_neg (fun q => by omega)]
/-- cells of the class stay, those of the reference may change -/
def KpX (μ μ' : Mem) : Prop := ∀ k, k < 76 → μ' k = μ k
theorem KpX.rf {μ : Mem} : KpX μ μ := fun _ _ => rfl
theorem KpX.tr {μ μ' μ'' : Mem} (h : KpX μ μ') (h' : KpX μ' μ'') : KpX μ μ'' := fun k hk => (h' k hk).trans (h k hk)
theorem KpX.st {μ : Mem} {k j : Nat} {v : Int} (h : 76 ≤ k) : KpX μ (mset μ k j v) := fun k' hk => by
  funext j'
  unfold mset
  rw [if_neg (fun q => by omega)]
def cntW (m : Mem) (w : Int) : Nat → Nat
  | 0 => 0
  | k + 1 => cntW m w k + if m 5 k = w then 1 else 0
def heavyK (m : Mem) : Nat → Int
  | 0 => 0
  | k + 1 => heavyK m k + m 3 (m 15 k).toNat
def frontK (m : Mem) : Nat → Int
  | 0 => 0
  | k + 1 => frontK m k + m 3 (m 15 k).toNat * (8 - 2 * (k : Int))
def rearK (m : Mem) : Nat → Int
  | 0 => 0
  | k + 1 => rearK m k + m 3 (m 15 k).toNat * (2 * (k : Int) + 1)
def bedK (m : Mem) (b : Nat) : Nat → Int
  | 0 => -4
  | k + 1 => bedK m b k + (m 1 (m 10 (40 * b + k)).toNat + 4)
def bedlen (m : Mem) (b : Nat) : Int := if m 9 b = 0 then 0 else bedK m b (m 9 b).toNat
/-- a part's field j, as the class holds it: the reference's, of a part not yet there what a new object holds -/
def pvF (m : Mem) (i j : Nat) : Int := if (i : Int) < m 0 0 then m (1 + j) i else if j = 5 then -4 else 0
/-- the class's cells in ν against the reference's in m -/
def RelXM (ν m : Mem) : Prop :=
  (ν 63 6 = m 0 0 ∧ ν 63 7 = m 0 20 ∧ ν 63 8 = m 0 19 ∧ ν 63 9 = m 0 14 ∧ ν 63 10 = m 0 13) ∧
  (∀ i j : Nat, i < 40 → j < 8 → ν i j = pvF m i j) ∧
  (∀ b : Nat, b < 3 → ν (40 + b) 0 = m 9 b ∧ ν (40 + b) 1 = bedlen m b ∧ ν (40 + b) 2 = m 11 b ∧ ν (40 + b) 3 = m 12 b) ∧
  (∀ s : Nat, s < 5 → ν (43 + s) 1 = m 13 s ∧ ∀ k : Nat, (k : Int) < m 13 s → ν (48 + s) k = m 14 (4 * s + k)) ∧
  (ν 67 1 = m 0 17 ∧ ν 67 2 = heavyK m (m 0 17).toNat ∧ ν 67 3 = frontK m (m 0 17).toNat ∧ ν 67 4 = rearK m (m 0 17).toNat ∧ ∀ k : Nat, (k : Int) < m 0 17 → ν 68 k = m 15 k)
/-- what always holds of the reference's cells; c: how many calls there were -/
def IMp (c : Nat) (m : Mem) : Prop := (0 ≤ m 0 0 ∧ m 0 0 ≤ 40) ∧
  (∀ i : Nat, (i : Int) < m 0 0 → (1 ≤ m 1 i ∧ m 1 i ≤ 200) ∧ (0 ≤ m 2 i ∧ m 2 i ≤ 7) ∧ (1 ≤ m 3 i ∧ m 3 i ≤ 100) ∧ (0 ≤ m 4 i ∧ m 4 i ≤ 1000) ∧ (0 ≤ m 5 i ∧ m 5 i ≤ 6) ∧ (-4 ≤ m 6 i ∧ m 6 i ≤ (c : Int) + 5) ∧ (m 8 i = 0 ∨ m 8 i = 1)) ∧
  (∀ i : Nat, m 0 0 ≤ (i : Int) → i < 40 → m 7 i = 0 ∧ m 8 i = 0)
def IMs (c : Nat) (m : Mem) : Prop := (0 ≤ m 0 14 ∧ m 0 14 ≤ 100000) ∧ (-20 ≤ m 0 13 ∧ m 0 13 ≤ 60) ∧ (0 ≤ m 0 19 ∧ m 0 19 ≤ (c : Int)) ∧ m 17 0 = 0
def IMb (m : Mem) : Prop := ∀ b : Nat, b < 3 → (0 ≤ m 9 b ∧ m 9 b ≤ 40) ∧ (0 ≤ m 11 b ∧ m 11 b ≤ 70 * m 0 14) ∧ (0 ≤ m 12 b ∧ m 12 b ≤ m 0 14) ∧ (m 9 b = 0 → m 11 b = 0) ∧
    (∀ k : Nat, (k : Int) < m 9 b → 0 ≤ m 10 (40 * b + k) ∧ m 10 (40 * b + k) < m 0 0 ∧ m 5 (m 10 (40 * b + k)).toNat = 1 ∧ m 6 (m 10 (40 * b + k)).toNat = (b : Int)) ∧
    (∀ k : Nat, (k : Int) + 1 < m 9 b → m 10 (40 * b + k) < m 10 (40 * b + (k + 1))) ∧
    (∀ p : Nat, (p : Int) < m 0 0 → m 5 p = 1 → m 6 p = (b : Int) → ∃ k : Nat, (k : Int) < m 9 b ∧ m 10 (40 * b + k) = (p : Int))
def IMy (m : Mem) : Prop := (∀ s : Nat, s < 5 → (0 ≤ m 13 s ∧ m 13 s ≤ 4) ∧
    (∀ k : Nat, (k : Int) < m 13 s → 0 ≤ m 14 (4 * s + k) ∧ m 14 (4 * s + k) < m 0 0 ∧ m 5 (m 14 (4 * s + k)).toNat = 3 ∧ m 6 (m 14 (4 * s + k)).toNat = (s : Int)) ∧
    (∀ k k' : Nat, (k : Int) < m 13 s → (k' : Int) < m 13 s → m 14 (4 * s + k) = m 14 (4 * s + k') → k = k')) ∧
  (∀ p : Nat, (p : Int) < m 0 0 → m 5 p = 3 → 0 ≤ m 6 p ∧ m 6 p < 5) ∧
  ((cntW m 3 (m 0 0).toNat : Int) = m 13 0 + m 13 1 + m 13 2 + m 13 3 + m 13 4)
def IMl (m : Mem) : Prop := (0 ≤ m 0 17 ∧ m 0 17 ≤ 4) ∧ (∀ k : Nat, (k : Int) < m 0 17 → 0 ≤ m 15 k ∧ m 15 k < m 0 0 ∧ m 5 (m 15 k).toNat = 6) ∧ heavyK m (m 0 17).toNat ≤ 120 ∧ frontK m (m 0 17).toNat ≤ 720 ∧ rearK m (m 0 17).toNat ≤ 720
def IM (c : Nat) (m : Mem) : Prop := IMp c m ∧ IMs c m ∧ IMb m ∧ IMy m ∧ IMl m
