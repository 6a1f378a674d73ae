/-! colours and plans; sets as numbers -/
theorem Lst_ex {l : List Int} (hl : ∀ x ∈ l, 0 ≤ x ∧ x ≤ 304) : ∃ n, Lst l n := by
  have hD := FFn_DD (l := l) (r := fun _ => 0) (c := 0) (fun x hx => (hl x hx).2)
  obtain ⟨k, h1, h2⟩ := pk_least (fun k => DD l k (fun _ => 0)) ⟨_, DD_cg (fun b hb => by rw [cutR_ge (Nat.zero_le b)]) hD⟩
  exact ⟨k, h1, h2⟩
theorem nsum_up {n : Nat → Nat} {p x : Nat} : ∀ K, p < K → nsum (nup n p x) K + n p = nsum n K + x := by
  intro K
  induction K with
  | zero => intro h; omega
  | succ K ih =>
    intro h
    show nsum (nup n p x) K + nup n p x K + n p = nsum n K + n K + x
    by_cases e : p = K
    · have hcg : ∀ k, k ≤ p → nsum (nup n p x) k = nsum n k := by
        intro k
        induction k with
        | zero => intro _; rfl
        | succ k ihk => intro hk; show nsum _ k + _ = nsum n k + n k; rw [ihk (by omega), nup_ne (by omega)]
      rw [← e, hcg p (Nat.le_refl p), nup_eq]; omega
    · have := ih (by omega)
      rw [nup_ne (fun q => e q.symm)]; omega
theorem LIS_none {sz pl : Nat → Int} {S : Nat → Bool} {p : Int} : ∀ n, (∀ i, i < n → S i = false) → LIS sz pl S p n = [] := by
  intro n
  induction n with
  | zero => intro _; rfl
  | succ n ih =>
    intro h
    unfold LIS
    rw [if_neg (by rw [h n (by omega)]; intro q; exact absurd q.1 (by decide))]
    exact ih (fun i hi => h i (by omega))
theorem nsum_0 {n : Nat → Nat} : ∀ K, (∀ p, p < K → n p = 0) → nsum n K = 0 := by
  intro K
  induction K with
  | zero => intro _; rfl
  | succ K ih => intro h; show nsum n K + n K = 0; rw [ih (fun p hp => h p (by omega)), h K (by omega)]
theorem CL_low {n : Nat} {sz pl : Nat → Int} (hsz : ∀ i, i < n → 0 ≤ sz i ∧ sz i ≤ 304) (hpl : ∀ i, i < n → 0 ≤ pl i ∧ pl i ≤ 7) : ∀ (k : Nat) (S : Nat → Bool) (n' : Nat → Nat), CLk n sz pl S k → (∀ p : Nat, p < 8 → Lst (LIS sz pl S (p : Int) n) (n' p)) → nsum n' 8 ≤ k := by
  have empty : ∀ (S : Nat → Bool) (n' : Nat → Nat), (∀ i, i < n → S i = false) → (∀ p : Nat, p < 8 → Lst (LIS sz pl S (p : Int) n) (n' p)) → nsum n' 8 = 0 := fun S n' h hl => nsum_0 8 (fun p hp => by
    have h1 := hl p hp
    rw [LIS_none n h] at h1
    rcases Nat.eq_zero_or_pos (n' p) with h2 | h2
    · exact h2
    · exact absurd trivial (h1.2 0 h2))
  intro k
  induction k with
  | zero =>
    intro S n' hc hl
    obtain ⟨a, h1, -, -⟩ := hc
    rw [empty S n' (fun i hi => by
      cases h : S i
      · rfl
      · have := h1 i hi h; omega) hl]
    exact Nat.le_refl 0
  | succ k ih =>
    intro S n' hc hl
    by_cases hex : ∃ j, j < n ∧ S j = true
    · obtain ⟨j, hj, hS⟩ := hex
      obtain ⟨T, hT, hTj, hf, hk, hc'⟩ := CLk_sub hj hS hc
      rw [show k + 1 - 1 = k by omega] at hc'
      obtain ⟨q, hq⟩ : ∃ q : Nat, pl j = (q : Int) := ⟨(pl j).toNat, by have := hpl j hj; omega⟩
      have hq8 : q < 8 := by have := hpl j hj; omega
      have hmem : ∀ (S' : Nat → Bool) (p : Int), ∀ x ∈ LIS sz pl S' p n, 0 ≤ x ∧ x ≤ 304 := fun S' p x hx => by
        obtain ⟨i, h1, _, _, rfl⟩ := LIS_mem n hx
        exact hsz i h1
      obtain ⟨y, hy⟩ := Lst_ex (hmem (dif S T) (q : Int))
      have h1 := ih (dif S T) (nup n' q y) hc' (fun p hp => by
        by_cases e : p = q
        · rw [e, nup_eq]; exact hy
        · rw [nup_ne e, LIS_cg (S' := S) n (fun i hi hpi => ?_)]
          · exact hl p hp
          · have ht : T i = false := by
              cases h : T i
              · rfl
              · have := hf.1 i j hi hj h hTj
                omega
            unfold dif
            rw [ht]; simp)
      have h2 := nsum_up (n := n') (p := q) (x := y) 8 hq8
      have h3 : n' q ≤ y + 1 := by
        apply Classical.byContradiction
        intro hlt
        refine (hl q hq8).2 (y + 1) (by omega) ?_
        obtain ⟨a, ha, hs⟩ := (DD_LIS n (fun i hi => (hsz i hi).1) (fun _ _ => by decide)).mp hy.1
        refine (DD_LIS n (fun i hi => (hsz i hi).1) (fun _ _ => by decide)).mpr ⟨fun i => if T i = true then y else a i, fun i hi hs' hp => ?_, fun b hb => ?_⟩
        · show (if T i = true then y else a i) < y + 1
          by_cases ht : T i = true
          · rw [if_pos ht]; omega
          · rw [if_neg ht]
            have := ha i hi (dif_t.mpr ⟨hs', by simpa using ht⟩) hp
            omega
        · by_cases eb : b = y
          · have h5 := ssum_mono (sz := sz) (S := inC pl S (q : Int) (fun i => if T i = true then y else a i) b) (S' := T) n (fun i hi => (hsz i hi).1) (fun i hi h => by
              obtain ⟨h6, h7, h8⟩ := inC_t.mp h
              have h8 : (if T i = true then y else a i) = b := h8
              by_cases ht : T i = true
              · exact ht
              · rw [if_neg ht] at h8
                have := ha i hi (dif_t.mpr ⟨h6, by simpa using ht⟩) h7
                omega)
            have := hf.2
            show (0 : Int) + _ ≤ 304
            omega
          · have h5 := ssum_mono (sz := sz) (S := inC pl S (q : Int) (fun i => if T i = true then y else a i) b) (S' := inC pl (dif S T) (q : Int) a b) n (fun i hi => (hsz i hi).1) (fun i hi h => by
              obtain ⟨h6, h7, h8⟩ := inC_t.mp h
              have h8 : (if T i = true then y else a i) = b := h8
              by_cases ht : T i = true
              · rw [if_pos ht] at h8; omega
              · rw [if_neg ht] at h8
                exact inC_t.mpr ⟨dif_t.mpr ⟨h6, by simpa using ht⟩, h7, h8⟩)
            have := hs b (by omega)
            show (0 : Int) + _ ≤ 304
            have h9 : (0 : Int) + ssum sz (inC pl (dif S T) (q : Int) a b) n ≤ 304 := this
            omega
      omega
    · rw [empty S n' (fun i hi => by
        cases h : S i
        · rfl
        · exact absurd ⟨i, hi, h⟩ hex) hl]
      omega
theorem CL_up {n : Nat} {sz pl : Nat → Int} (hsz : ∀ i, i < n → 0 ≤ sz i ∧ sz i ≤ 304) (hpl : ∀ i, i < n → 0 ≤ pl i ∧ pl i ≤ 7) {S : Nat → Bool} {n' : Nat → Nat} (hl : ∀ p : Nat, p < 8 → Lst (LIS sz pl S (p : Int) n) (n' p)) : CLk n sz pl S (nsum n' 8) := by
  have gen : ∀ P : Nat, P ≤ 8 → CLk n sz pl (fun i => S i && decide (pl i < (P : Int))) (nsum n' P) := by
    intro P
    induction P with
    | zero =>
      intro _
      refine ⟨fun _ => 0, fun i hi h => ?_, fun b hb => by exact absurd hb (by show ¬ b < 0; omega), fun i j hi hj h _ _ => ?_⟩
      · have := hpl i hi
        simp only [Bool.and_eq_true, decide_eq_true_eq] at h
        omega
      · have := hpl i hi
        simp only [Bool.and_eq_true, decide_eq_true_eq] at h
        omega
    | succ P ih =>
      intro hP
      obtain ⟨a, h1, h2, h3⟩ := ih (by omega)
      obtain ⟨c, g1, g2⟩ := (DD_LIS n (fun i hi => (hsz i hi).1) (fun _ _ => by decide)).mp (hl P (by omega)).1
      have low : ∀ i, (S i && decide (pl i < ((P + 1 : Nat) : Int))) = true → pl i ≠ (P : Int) → (S i && decide (pl i < (P : Int))) = true := fun i h hne => by
        simp only [Bool.and_eq_true, decide_eq_true_eq] at h ⊢
        exact ⟨h.1, by omega⟩
      refine ⟨fun i => if pl i = (P : Int) then nsum n' P + c i else a i, fun i hi h => ?_, fun b hb => ?_, fun i j hi hj h h' e => ?_⟩
      · show (if pl i = (P : Int) then nsum n' P + c i else a i) < nsum n' P + n' P
        by_cases e : pl i = (P : Int)
        · rw [if_pos e]
          simp only [Bool.and_eq_true, decide_eq_true_eq] at h
          have := g1 i hi h.1 e; omega
        · rw [if_neg e]
          have := h1 i hi (low i h e); omega
      · have hb : b < nsum n' P + n' P := hb
        by_cases eb : b < nsum n' P
        · have h5 := ssum_mono (sz := sz) (S := inA (fun i => S i && decide (pl i < ((P + 1 : Nat) : Int))) (fun i => if pl i = (P : Int) then nsum n' P + c i else a i) b) (S' := inA (fun i => S i && decide (pl i < (P : Int))) a b) n (fun i hi => (hsz i hi).1) (fun i hi h => by
            obtain ⟨h6, h7⟩ := inA_t.mp h
            have h7 : (if pl i = (P : Int) then nsum n' P + c i else a i) = b := h7
            by_cases e : pl i = (P : Int)
            · rw [if_pos e] at h7; omega
            · rw [if_neg e] at h7
              exact inA_t.mpr ⟨low i h6 e, h7⟩)
          have := h2 b eb
          omega
        · have h5 := ssum_mono (sz := sz) (S := inA (fun i => S i && decide (pl i < ((P + 1 : Nat) : Int))) (fun i => if pl i = (P : Int) then nsum n' P + c i else a i) b) (S' := inC pl S (P : Int) c (b - nsum n' P)) n (fun i hi => (hsz i hi).1) (fun i hi h => by
            obtain ⟨h6, h7⟩ := inA_t.mp h
            have h7 : (if pl i = (P : Int) then nsum n' P + c i else a i) = b := h7
            by_cases e : pl i = (P : Int)
            · rw [if_pos e] at h7
              simp only [Bool.and_eq_true, decide_eq_true_eq] at h6
              exact inC_t.mpr ⟨h6.1, e, by omega⟩
            · rw [if_neg e] at h7
              have := h1 i hi (low i h6 e); omega)
          have := g2 (b - nsum n' P) (by omega)
          have h9 : (0 : Int) + ssum sz (inC pl S (P : Int) c (b - nsum n' P)) n ≤ 304 := this
          omega
      · have e : (if pl i = (P : Int) then nsum n' P + c i else a i) = (if pl j = (P : Int) then nsum n' P + c j else a j) := e
        by_cases ei : pl i = (P : Int)
        · by_cases ej : pl j = (P : Int)
          · rw [ei, ej]
          · rw [if_pos ei, if_neg ej] at e
            have := h1 j hj (low j h' ej); omega
        · by_cases ej : pl j = (P : Int)
          · rw [if_neg ei, if_pos ej] at e
            have := h1 i hi (low i h ei); omega
          · rw [if_neg ei, if_neg ej] at e
            exact h3 i j hi hj (low i h ei) (low j h' ej) e
  refine CLk_cg (fun i hi => ?_) (gen 8 (Nat.le_refl 8))
  have := hpl i hi
  rw [decide_eq_true (by omega), Bool.and_true]
theorem LC_sum {n : Nat} {sz pl : Nat → Int} (hsz : ∀ i, i < n → 0 ≤ sz i ∧ sz i ≤ 304) (hpl : ∀ i, i < n → 0 ≤ pl i ∧ pl i ≤ 7) {S : Nat → Bool} {n' : Nat → Nat} {k : Nat} (hl : ∀ p : Nat, p < 8 → Lst (LIS sz pl S (p : Int) n) (n' p)) (hc : LCk n sz pl S k) : k = nsum n' 8 := by
  have h1 := CL_low hsz hpl k S n' hc.1 hl
  apply Classical.byContradiction
  intro h
  exact hc.2 (nsum n' 8) (by omega) (CL_up hsz hpl hl)
/-! sets as numbers -/
theorem sub_step : ∀ (N sub s T : Nat), sub < N → sub &&& s = sub → T &&& s = T → T < sub → T ≤ (sub - 1) &&& s := by
  intro N
  induction N with
  | zero => intro sub s T h; omega
  | succ N ih =>
    intro sub s T hN hs hT hlt
    have d1 : sub / 2 &&& s / 2 = sub / 2 := by rw [← Nat.and_div_two, hs]
    have d2 : T / 2 &&& s / 2 = T / 2 := by rw [← Nat.and_div_two, hT]
    have d3 : ((sub - 1) &&& s) / 2 = (sub - 1) / 2 &&& s / 2 := Nat.and_div_two
    have m1 : T % 2 = 1 → s % 2 = 1 := fun h => by
      have : (T &&& s) % 2 = 1 := by rw [hT]; exact h
      exact (Nat.and_mod_two_eq_one.mp this).2
    have m2 : ((sub - 1) &&& s) % 2 = 1 ↔ (sub - 1) % 2 = 1 ∧ s % 2 = 1 := Nat.and_mod_two_eq_one
    by_cases hb : sub % 2 = 1
    · rw [show (sub - 1) / 2 = sub / 2 by omega, d1] at d3
      omega
    · have e1 : (sub - 1) / 2 = sub / 2 - 1 := by omega
      by_cases he : T / 2 < sub / 2
      · have := ih (sub / 2) (s / 2) (T / 2) (by omega) d1 d2 he
        rw [e1] at d3
        by_cases ht : T % 2 = 1
        · have := m1 ht
          have := m2.mpr ⟨by omega, this⟩
          omega
        · omega
      · omega
theorem sub_next {sub s : Nat} (h0 : 0 < sub) : (sub - 1) &&& s < sub ∧ ((sub - 1) &&& s) &&& s = (sub - 1) &&& s := by
  refine ⟨Nat.lt_of_le_of_lt Nat.and_le_left (by omega), ?_⟩
  rw [Nat.and_assoc, Nat.and_self]
def bS (s : Nat) : Nat → Bool := fun i => s.testBit i
theorem sub_bits {T s : Nat} (h : T &&& s = T) : ∀ i, bS T i = true → bS s i = true := fun i hi => by
  unfold bS at *
  rw [← h, Nat.testBit_and, Bool.and_eq_true] at hi
  exact hi.2
theorem bits_sub {T s : Nat} (h : ∀ i, bS T i = true → bS s i = true) : T &&& s = T := by
  apply Nat.eq_of_testBit_eq
  intro i
  rw [Nat.testBit_and]
  have := h i
  unfold bS at this
  cases h1 : T.testBit i
  · rfl
  · rw [this h1]; rfl
theorem dif_xor {T s : Nat} (h : T &&& s = T) (i : Nat) : dif (bS s) (bS T) i = bS (s ^^^ T) i := by
  have := sub_bits h i
  unfold dif bS at *
  rw [Nat.testBit_xor]
  cases h1 : T.testBit i
  · simp
  · rw [this h1]; rfl
theorem xor_lt {T s : Nat} (h : T &&& s = T) (h0 : 0 < T) : s ^^^ T < s := by
  have e : (s ^^^ T) + T = s := by
    have h1 : ∀ N s T : Nat, T < N → T &&& s = T → (s ^^^ T) + T = s := by
      intro N
      induction N with
      | zero => intro s T h; omega
      | succ N ih =>
        intro s T hN h
        rcases Nat.eq_zero_or_pos T with h0 | h0
        · subst h0; rw [Nat.xor_zero]; rfl
        have d1 : T / 2 &&& s / 2 = T / 2 := by rw [← Nat.and_div_two, h]
        have := ih (s / 2) (T / 2) (by omega) d1
        have d2 : (s ^^^ T) / 2 = s / 2 ^^^ T / 2 := Nat.xor_div_two
        have m1 : T % 2 = 1 → s % 2 = 1 := fun hh => by
          have : (T &&& s) % 2 = 1 := by rw [h]; exact hh
          exact (Nat.and_mod_two_eq_one.mp this).2
        have m2 : ((s ^^^ T) % 2 = 1) ↔ ¬ ((s % 2 = 1) ↔ (T % 2 = 1)) := Nat.xor_mod_two_eq_one
        by_cases hT1 : T % 2 = 1
        · have hs1 := m1 hT1
          have : ¬ (s ^^^ T) % 2 = 1 := fun q => m2.mp q ⟨fun _ => hT1, fun _ => hs1⟩
          omega
        · by_cases hs1 : s % 2 = 1
          · have : (s ^^^ T) % 2 = 1 := m2.mpr (fun q => hT1 (q.mp hs1))
            omega
          · have : ¬ (s ^^^ T) % 2 = 1 := fun q => m2.mp q ⟨fun h => absurd h hs1, fun h => absurd h hT1⟩
            omega
    exact h1 (T + 1) s T (by omega) h
  omega
/-- a set of numbers below n is a number below 2 ^ n -/
def setN (T : Nat → Bool) : Nat → Nat
  | 0 => 0
  | n + 1 => setN T n ||| (if T n = true then 2 ^ n else 0)
theorem setN_lt (T : Nat → Bool) : ∀ n, setN T n < 2 ^ n := by
  intro n
  induction n with
  | zero => exact Nat.le_refl 1
  | succ n ih =>
    unfold setN
    refine Nat.or_lt_two_pow (Nat.lt_of_lt_of_le ih (Nat.pow_le_pow_right (by decide) (by omega))) ?_
    split
    · exact Nat.pow_lt_pow_right (by decide) (by omega)
    · exact Nat.two_pow_pos _
theorem setN_bit (T : Nat → Bool) (i : Nat) : ∀ n, (setN T n).testBit i = (decide (i < n) && T i) := by
  intro n
  induction n with
  | zero =>
    show Nat.testBit 0 i = _
    rw [Nat.zero_testBit, decide_eq_false (by omega), Bool.false_and]
  | succ n ih =>
    unfold setN
    rw [Nat.testBit_or, ih]
    by_cases e : n = i
    · subst e
      rw [decide_eq_false (show ¬ n < n by omega), decide_eq_true (show n < n + 1 by omega)]
      by_cases hT : T n = true
      · rw [if_pos hT, Nat.testBit_two_pow_self, hT]; rfl
      · have : T n = false := by simpa using hT
        rw [if_neg hT, Nat.zero_testBit, this]; rfl
    · have h2 : (if T n = true then 2 ^ n else 0).testBit i = false := by
        split
        · exact Nat.testBit_two_pow_of_ne e
        · exact Nat.zero_testBit i
      rw [h2, Bool.or_false]
      by_cases h : i < n
      · rw [decide_eq_true h, decide_eq_true (show i < n + 1 by omega)]
      · rw [decide_eq_false h, decide_eq_false (show ¬ i < n + 1 by omega)]
