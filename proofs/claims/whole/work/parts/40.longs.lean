/-! longs -/
section LG
variable {V : VX} {E : EX} {own : String} {cc : ByteArray} {n lvl pc : Nat} {μ : Mem} {L : List (Option Value)} {st : List Value}
theorem g_lushr (hX : OkX V E own cc n lvl) (d : decode cc pc = .ok (.lushr, 1)) {a b c : Int} (hv : ((Int64.ofInt a).toUInt64 >>> ((Int32.ofInt b).toInt64.toUInt64 &&& Int64.toUInt64 63)).toInt64 = Int64.ofInt c) (k : G V E μ (pc + 1) L (vl c :: st)) : G V E μ pc L (vi b :: vl a :: st) := by
  intro H locs ls hP hS hl
  exact lv_lushr hX.1 hX.2.1 d hv (k H locs ls hP hS hl)
theorem g_lshl (hX : OkX V E own cc n lvl) (d : decode cc pc = .ok (.lshl, 1)) {a b c : Int} (hv : Int64.ofInt a <<< ((Int32.ofInt b).toInt64 &&& 63) = Int64.ofInt c) (k : G V E μ (pc + 1) L (vl c :: st)) : G V E μ pc L (vi b :: vl a :: st) := by
  intro H locs ls hP hS hl
  exact lv_lshl hX.1 hX.2.1 d hv (k H locs ls hP hS hl)
theorem g_lshr (hX : OkX V E own cc n lvl) (d : decode cc pc = .ok (.lshr, 1)) {a b c : Int} (hv : Int64.ofInt a >>> ((Int32.ofInt b).toInt64 &&& 63) = Int64.ofInt c) (k : G V E μ (pc + 1) L (vl c :: st)) : G V E μ pc L (vi b :: vl a :: st) := by
  intro H locs ls hP hS hl
  exact lv_lshr hX.1 hX.2.1 d hv (k H locs ls hP hS hl)
theorem g_land (hX : OkX V E own cc n lvl) (d : decode cc pc = .ok (.land, 1)) {a b c : Int} (hv : Int64.ofInt a &&& Int64.ofInt b = Int64.ofInt c) (k : G V E μ (pc + 1) L (vl c :: st)) : G V E μ pc L (vl b :: vl a :: st) := by
  intro H locs ls hP hS hl
  have h := k H locs ls hP hS hl
  unfold vl at h
  rw [← hv] at h
  exact lv_land hX.1 hX.2.1 d h
theorem g_lor (hX : OkX V E own cc n lvl) (d : decode cc pc = .ok (.lor, 1)) {a b c : Int} (hv : Int64.ofInt a ||| Int64.ofInt b = Int64.ofInt c) (k : G V E μ (pc + 1) L (vl c :: st)) : G V E μ pc L (vl b :: vl a :: st) := by
  intro H locs ls hP hS hl
  have h := k H locs ls hP hS hl
  unfold vl at h
  rw [← hv] at h
  exact lv_lor hX.1 hX.2.1 d h
end LG
theorem amt_u : ∀ b : Nat, b < 64 → ((Int32.ofInt (b : Int)).toInt64.toUInt64 &&& Int64.toUInt64 63) = UInt64.ofNat b := by decide +kernel
theorem amt_s : ∀ b : Nat, b < 64 → ((Int32.ofInt (b : Int)).toInt64 &&& 63) = Int64.ofNat b := by decide +kernel
theorem o64_nat (x : Nat) : (Int64.ofInt (x : Int)).toBitVec = BitVec.ofNat 64 x := by
  rw [Int64.toBitVec_ofInt]
  exact BitVec.ofInt_natCast 64 x
theorem b64_eq {x y : Int64} (h : x.toBitVec = y.toBitVec) : x = y := Int64.toBitVec_inj.mp h
theorem ushr_nat {x b : Nat} (hx : x < 2 ^ 64) (hb : b < 64) : ((Int64.ofInt (x : Int)).toUInt64 >>> ((Int32.ofInt (b : Int)).toInt64.toUInt64 &&& Int64.toUInt64 63)).toInt64 = Int64.ofInt ((x / 2 ^ b : Nat) : Int) := by
  rw [amt_u b hb]
  apply b64_eq
  rw [o64_nat]
  show ((Int64.ofInt (x : Int)).toUInt64 >>> UInt64.ofNat b).toBitVec = _
  rw [UInt64.toBitVec_shiftRight]
  show (Int64.ofInt (x : Int)).toBitVec >>> _ = _
  rw [o64_nat]
  apply BitVec.eq_of_toNat_eq
  rw [BitVec.ushiftRight_eq', BitVec.toNat_ushiftRight, BitVec.toNat_ofNat, BitVec.toNat_ofNat, BitVec.toNat_umod]
  show (x % 2 ^ 64) >>> (b % 2 ^ 64 % 64) = _
  rw [Nat.mod_eq_of_lt hx, show b % 2 ^ 64 % 64 = b by omega, Nat.shiftRight_eq_div_pow, Nat.mod_eq_of_lt (Nat.lt_of_le_of_lt (Nat.div_le_self _ _) hx)]
theorem sshr_nat {x b : Nat} (hx : x < 2 ^ 63) (hb : b < 64) : Int64.ofInt (x : Int) >>> ((Int32.ofInt (b : Int)).toInt64 &&& 63) = Int64.ofInt ((x / 2 ^ b : Nat) : Int) := by
  rw [amt_s b hb]
  apply b64_eq
  rw [o64_nat, Int64.toBitVec_shiftRight, o64_nat]
  have h1 : (BitVec.ofNat 64 x).msb = false := by
    rw [BitVec.msb_eq_false_iff_two_mul_lt, BitVec.toNat_ofNat]
    omega
  have h2 : ((Int64.ofNat b).toBitVec.smod 64).toNat = b := by
    have : ∀ b : Nat, b < 64 → ((Int64.ofNat b).toBitVec.smod 64).toNat = b := by decide +kernel
    exact this b hb
  unfold BitVec.sshiftRight'
  rw [h2, BitVec.sshiftRight_eq_of_msb_false h1]
  apply BitVec.eq_of_toNat_eq
  rw [BitVec.toNat_ushiftRight, BitVec.toNat_ofNat, BitVec.toNat_ofNat, Nat.shiftRight_eq_div_pow, Nat.mod_eq_of_lt (show x < 2 ^ 64 by omega), Nat.mod_eq_of_lt (Nat.lt_of_le_of_lt (Nat.div_le_self _ _) (show x < 2 ^ 64 by omega))]
theorem shl_nat {x b : Nat} (hb : b < 64) : Int64.ofInt (x : Int) <<< ((Int32.ofInt (b : Int)).toInt64 &&& 63) = Int64.ofInt ((x * 2 ^ b : Nat) : Int) := by
  rw [amt_s b hb]
  apply b64_eq
  rw [o64_nat, Int64.toBitVec_shiftLeft, o64_nat]
  have h2 : ((Int64.ofNat b).toBitVec.smod 64).toNat = b := by
    have : ∀ b : Nat, b < 64 → ((Int64.ofNat b).toBitVec.smod 64).toNat = b := by decide +kernel
    exact this b hb
  apply BitVec.eq_of_toNat_eq
  rw [BitVec.shiftLeft_eq', h2, BitVec.toNat_shiftLeft, BitVec.toNat_ofNat, BitVec.toNat_ofNat, Nat.shiftLeft_eq, Nat.mod_mul_mod]
theorem land_nat {x y : Nat} : Int64.ofInt (x : Int) &&& Int64.ofInt (y : Int) = Int64.ofInt ((x &&& y : Nat) : Int) := by
  apply b64_eq
  rw [o64_nat, Int64.toBitVec_and, o64_nat, o64_nat]
  exact BitVec.ofNat_and.symm
theorem lor_nat {x y : Nat} : Int64.ofInt (x : Int) ||| Int64.ofInt (y : Int) = Int64.ofInt ((x ||| y : Nat) : Int) := by
  apply b64_eq
  rw [o64_nat, Int64.toBitVec_or, o64_nat, o64_nat]
  exact BitVec.ofNat_or.symm
theorem and_63 (x : Nat) : x &&& 63 = x % 64 := Nat.and_two_pow_sub_one_eq_mod x 6
theorem o64_neg {a : Int} (h : a < 0) (h' : -9223372036854775808 ≤ a) : Int64.ofInt a = Int64.ofInt (((a + 18446744073709551616).toNat : Nat) : Int) := by
  apply b64_eq
  rw [Int64.toBitVec_ofInt, Int64.toBitVec_ofInt]
  apply BitVec.eq_of_toInt_eq
  rw [BitVec.toInt_ofInt, BitVec.toInt_ofInt, Int.toNat_of_nonneg (by omega)]
  exact (Int.add_bmod_right ..).symm
theorem ush_sp {a : Int} (h1 : -9223372036854775808 ≤ a) (h2 : a < 9223372036854775808) {b : Nat} (hb : b ≤ 36) : ∃ c : Int, (-9223372036854775808 ≤ c ∧ c < 9223372036854775808) ∧ ((Int64.ofInt a).toUInt64 >>> ((Int32.ofInt (b : Int)).toInt64.toUInt64 &&& Int64.toUInt64 63)).toInt64 = Int64.ofInt c ∧ (c = 0 ↔ 0 ≤ a ∧ a.toNat < 2 ^ b) ∧ (0 ≤ a → c = ((a.toNat / 2 ^ b : Nat) : Int)) := by
  by_cases h0 : 0 ≤ a
  · obtain ⟨x, rfl⟩ : ∃ x : Nat, a = (x : Int) := ⟨a.toNat, by omega⟩
    have hle := Nat.div_le_self x (2 ^ b)
    have hu := ushr_nat (x := x) (b := b) (by omega) (by omega)
    have := Nat.div_eq_zero_iff (a := x) (b := 2 ^ b)
    rw [show ((x : Int)).toNat = x from rfl]
    generalize x / 2 ^ b = q at hle hu this ⊢
    refine ⟨(q : Int), ⟨by omega, by omega⟩, hu, ?_, fun _ => rfl⟩
    have hp := Nat.two_pow_pos b
    constructor
    · intro h
      have h3 : q = 0 := by omega
      rcases this.mp h3 with h4 | h4
      · omega
      · exact ⟨h0, h4⟩
    · intro h
      have h3 := this.mpr (Or.inr h.2)
      omega
  · have hx : (a + 18446744073709551616).toNat < 2 ^ 64 := by omega
    have hs := ushr_nat (b := b) hx (by omega)
    rw [← o64_neg (by omega) h1] at hs
    by_cases hb0 : b = 0
    · subst hb0
      refine ⟨a, ⟨h1, h2⟩, ?_, by omega, fun h => absurd h h0⟩
      rw [hs, Nat.pow_zero, Nat.div_one, ← o64_neg (by omega) h1]
    · have h3 : (a + 18446744073709551616).toNat / 2 ^ b ≤ (a + 18446744073709551616).toNat / 2 := Nat.div_le_div_left (Nat.le_self_pow hb0 2) (by decide)
      have h4 : (a + 18446744073709551616).toNat / 2 ^ 36 ≤ (a + 18446744073709551616).toNat / 2 ^ b := Nat.div_le_div_left (Nat.pow_le_pow_right (by decide) hb) (Nat.two_pow_pos b)
      exact ⟨(((a + 18446744073709551616).toNat / 2 ^ b : Nat) : Int), ⟨by omega, by omega⟩, hs, by omega, fun h => absurd h h0⟩
