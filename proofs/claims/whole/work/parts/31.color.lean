/-! sets of items by their numbers; colours; the least number of colours is the sum of the plans' least numbers -/
def ssum (sz : Nat → Int) (S : Nat → Bool) : Nat → Int
  | 0 => 0
  | n + 1 => ssum sz S n + if S n = true then sz n else 0
theorem ssum_cg {sz : Nat → Int} {S S' : Nat → Bool} : ∀ n, (∀ i, i < n → S i = S' i) → ssum sz S n = ssum sz S' n := by
  intro n
  induction n with
  | zero => intro _; rfl
  | succ n ih => intro h; unfold ssum; rw [ih (fun i hi => h i (by omega)), h n (by omega)]
theorem ssum_nn {sz : Nat → Int} {S : Nat → Bool} : ∀ n, (∀ i, i < n → 0 ≤ sz i) → 0 ≤ ssum sz S n := by
  intro n
  induction n with
  | zero => intro _; exact Int.le_refl 0
  | succ n ih =>
    intro h
    have h1 := ih (fun i hi => h i (by omega))
    have h2 := h n (by omega)
    unfold ssum; split <;> omega
theorem ssum_mono {sz : Nat → Int} {S S' : Nat → Bool} : ∀ n, (∀ i, i < n → 0 ≤ sz i) → (∀ i, i < n → S i = true → S' i = true) → ssum sz S n ≤ ssum sz S' n := by
  intro n
  induction n with
  | zero => intro _ _; exact Int.le_refl 0
  | succ n ih =>
    intro h hs
    have h1 := ih (fun i hi => h i (by omega)) (fun i hi => hs i (by omega))
    have h2 := h n (by omega)
    have h3 := hs n (by omega)
    unfold ssum
    by_cases a : S n = true
    · rw [if_pos a, if_pos (h3 a)]; omega
    · rw [if_neg a]; split <;> omega
theorem ssum_0 {sz : Nat → Int} {S : Nat → Bool} : ∀ n, (∀ i, i < n → S i = false) → ssum sz S n = 0 := by
  intro n
  induction n with
  | zero => intro _; rfl
  | succ n ih => intro h; unfold ssum; rw [ih (fun i hi => h i (by omega)), h n (by omega)]; rfl
theorem ssum_one {sz : Nat → Int} {S : Nat → Bool} {j : Nat} : ∀ n, j < n → (∀ i, i < n → S i = true → i = j) → (∀ i, i < n → 0 ≤ sz i) → ssum sz S n ≤ sz j := by
  intro n
  induction n with
  | zero => intro h; omega
  | succ n ih =>
    intro hj hs hn
    unfold ssum
    have hnn := hn n (by omega)
    have hjj := hn j hj
    by_cases a : S n = true
    · have e := hs n (by omega) a
      rw [if_pos a, ssum_0 n (fun i hi => by
        cases h : S i
        · rfl
        · have := hs i (by omega) h; omega), e]; omega
    · rw [if_neg a]
      by_cases e : j = n
      · rw [ssum_0 n (fun i hi => by
          cases h : S i
          · rfl
          · have := hs i (by omega) h; omega)]; omega
      · have := ih (by omega) (fun i hi => hs i (by omega)) (fun i hi => hn i (by omega)); omega
/-- the items of plan p in the set S, as a list -/
def LIS (sz pl : Nat → Int) (S : Nat → Bool) (p : Int) : Nat → List Int
  | 0 => []
  | n + 1 => if S n = true ∧ pl n = p then sz n :: LIS sz pl S p n else LIS sz pl S p n
theorem LIS_cg {sz pl : Nat → Int} {S S' : Nat → Bool} {p : Int} : ∀ n, (∀ i, i < n → pl i = p → S i = S' i) → LIS sz pl S p n = LIS sz pl S' p n := by
  intro n
  induction n with
  | zero => intro _; rfl
  | succ n ih =>
    intro h
    unfold LIS
    rw [ih (fun i hi => h i (by omega))]
    by_cases e : pl n = p
    · rw [h n (by omega) e]
    · rw [if_neg (fun q => e q.2), if_neg (fun q => e q.2)]
theorem LIS_mem {sz pl : Nat → Int} {S : Nat → Bool} {p x : Int} : ∀ n, x ∈ LIS sz pl S p n → ∃ i, i < n ∧ S i = true ∧ pl i = p ∧ x = sz i := by
  intro n
  induction n with
  | zero => intro h; cases h
  | succ n ih =>
    intro h
    unfold LIS at h
    by_cases e : S n = true ∧ pl n = p
    · rw [if_pos e] at h
      rcases List.mem_cons.mp h with h | h
      · exact ⟨n, by omega, e.1, e.2, h⟩
      · obtain ⟨i, h1, h2⟩ := ih h; exact ⟨i, by omega, h2⟩
    · rw [if_neg e] at h
      obtain ⟨i, h1, h2⟩ := ih h; exact ⟨i, by omega, h2⟩
def inC (pl : Nat → Int) (S : Nat → Bool) (p : Int) (a : Nat → Nat) (b : Nat) : Nat → Bool := fun i => S i && decide (pl i = p) && decide (a i = b)
theorem inC_t {pl : Nat → Int} {S : Nat → Bool} {p : Int} {a : Nat → Nat} {b i : Nat} : inC pl S p a b i = true ↔ S i = true ∧ pl i = p ∧ a i = b := by
  unfold inC; simp only [Bool.and_eq_true, decide_eq_true_eq, and_assoc]
theorem DD_LIS {sz pl : Nat → Int} {S : Nat → Bool} {p : Int} : ∀ (n : Nat) {k : Nat} {r : Nat → Int}, (∀ i, i < n → 0 ≤ sz i) → (∀ b, b < k → r b ≤ 304) →
    (DD (LIS sz pl S p n) k r ↔ ∃ a : Nat → Nat, (∀ i, i < n → S i = true → pl i = p → a i < k) ∧ ∀ b, b < k → r b + ssum sz (inC pl S p a b) n ≤ 304) := by
  intro n
  induction n with
  | zero =>
    intro k r _ hr
    exact ⟨fun _ => ⟨fun _ => 0, fun i hi => by omega, fun b hb => by show r b + 0 ≤ 304; have := hr b hb; omega⟩, fun _ => trivial⟩
  | succ n ih =>
    intro k r hsz hr
    have hsz' : ∀ i, i < n → 0 ≤ sz i := fun i hi => hsz i (by omega)
    have hn0 := hsz n (by omega)
    by_cases e : S n = true ∧ pl n = p
    · have e1 : LIS sz pl S p (n + 1) = sz n :: LIS sz pl S p n := by
        show (if S n = true ∧ pl n = p then _ else _) = _
        rw [if_pos e]
      rw [e1]
      constructor
      · rintro ⟨b0, hb0, hx, hd⟩
        have hr' : ∀ c, c < k → rup r b0 (sz n) c ≤ 304 := fun c hc => by
          unfold rup; split
          · exact hx
          · exact hr c hc
        obtain ⟨a, ha, hs⟩ := (ih hsz' hr').mp hd
        refine ⟨nup a n b0, fun i hi h1 h2 => ?_, fun b hb => ?_⟩
        · by_cases ei : i = n
          · rw [ei, nup_eq]; exact hb0
          · rw [nup_ne ei]; exact ha i (by omega) h1 h2
        · have h1 := hs b hb
          have hcg : ssum sz (inC pl S p (nup a n b0) b) n = ssum sz (inC pl S p a b) n := ssum_cg n (fun i hi => by unfold inC; rw [nup_ne (by omega)])
          unfold ssum
          rw [hcg]
          by_cases eb : b = b0
          · rw [if_pos (inC_t.mpr ⟨e.1, e.2, by rw [nup_eq, eb]⟩)]
            rw [eb, rup_eq] at h1
            rw [eb]; omega
          · rw [if_neg (fun h => eb (by have := (inC_t.mp h).2.2; rw [nup_eq] at this; exact this.symm))]
            rw [rup_ne eb] at h1
            omega
      · rintro ⟨a, ha, hs⟩
        have hb0 := ha n (by omega) e.1 e.2
        have h0 := hs (a n) hb0
        unfold ssum at h0
        rw [if_pos (inC_t.mpr ⟨e.1, e.2, rfl⟩)] at h0
        have hnn := ssum_nn (S := inC pl S p a (a n)) n hsz'
        refine ⟨a n, hb0, by omega, (ih hsz' (fun c hc => ?_)).mpr ⟨a, fun i hi => ha i (by omega), fun b hb => ?_⟩⟩
        · unfold rup; split
          · omega
          · exact hr c hc
        · have h1 := hs b hb
          unfold ssum at h1
          by_cases eb : b = a n
          · rw [if_pos (inC_t.mpr ⟨e.1, e.2, eb.symm⟩)] at h1
            rw [eb, rup_eq]
            rw [eb] at h1; omega
          · rw [rup_ne eb]
            have : ¬ inC pl S p a b n = true := fun h => eb (inC_t.mp h).2.2.symm
            rw [if_neg this] at h1
            omega
    · have e1 : LIS sz pl S p (n + 1) = LIS sz pl S p n := by
        show (if S n = true ∧ pl n = p then _ else _) = _
        rw [if_neg e]
      have e2 : ∀ (a : Nat → Nat) (b : Nat), ssum sz (inC pl S p a b) (n + 1) = ssum sz (inC pl S p a b) n := fun a b => by
        show _ + (if _ then _ else _) = _
        rw [if_neg (fun h => e ⟨(inC_t.mp h).1, (inC_t.mp h).2.1⟩)]; omega
      rw [e1, ih hsz' hr]
      constructor
      · rintro ⟨a, ha, hs⟩
        refine ⟨a, fun i hi h1 h2 => ?_, fun b hb => by rw [e2]; exact hs b hb⟩
        by_cases ei : i = n
        · rw [ei] at h1 h2; exact absurd ⟨h1, h2⟩ e
        · exact ha i (by omega) h1 h2
      · rintro ⟨a, ha, hs⟩
        exact ⟨a, fun i hi => ha i (by omega), fun b hb => by rw [← e2]; exact hs b hb⟩
def inA (S : Nat → Bool) (a : Nat → Nat) (b : Nat) : Nat → Bool := fun i => S i && decide (a i = b)
theorem inA_t {S : Nat → Bool} {a : Nat → Nat} {b i : Nat} : inA S a b i = true ↔ S i = true ∧ a i = b := by
  unfold inA; simp only [Bool.and_eq_true, decide_eq_true_eq]
/-- the items of S go on k casts -/
def CLk (n : Nat) (sz pl : Nat → Int) (S : Nat → Bool) (k : Nat) : Prop :=
  ∃ a : Nat → Nat, (∀ i, i < n → S i = true → a i < k) ∧ (∀ b, b < k → ssum sz (inA S a b) n ≤ 304) ∧ ∀ i j, i < n → j < n → S i = true → S j = true → a i = a j → pl i = pl j
def LCk (n : Nat) (sz pl : Nat → Int) (S : Nat → Bool) (k : Nat) : Prop := CLk n sz pl S k ∧ ∀ j, j < k → ¬ CLk n sz pl S j
theorem LCk_u {n : Nat} {sz pl : Nat → Int} {S : Nat → Bool} {k k' : Nat} (h : LCk n sz pl S k) (h' : LCk n sz pl S k') : k = k' := by
  rcases Nat.lt_trichotomy k k' with h1 | h1 | h1
  · exact absurd h.1 (h'.2 k h1)
  · exact h1
  · exact absurd h'.1 (h.2 k' h1)
theorem CLk_cg {n : Nat} {sz pl : Nat → Int} {S S' : Nat → Bool} {k : Nat} (h : ∀ i, i < n → S i = S' i) (hc : CLk n sz pl S k) : CLk n sz pl S' k := by
  obtain ⟨a, h1, h2, h3⟩ := hc
  refine ⟨a, fun i hi hs => h1 i hi (by rw [h i hi]; exact hs), fun b hb => ?_, fun i j hi hj hs hs' e => h3 i j hi hj (by rw [h i hi]; exact hs) (by rw [h j hj]; exact hs') e⟩
  rw [← ssum_cg n (S := inA S a b) (fun i hi => by unfold inA; rw [h i hi])]
  exact h2 b hb
theorem LCk_cg {n : Nat} {sz pl : Nat → Int} {S S' : Nat → Bool} {k : Nat} (h : ∀ i, i < n → S i = S' i) (hc : LCk n sz pl S k) : LCk n sz pl S' k :=
  ⟨CLk_cg h hc.1, fun j hj hd => hc.2 j hj (CLk_cg (fun i hi => (h i hi).symm) hd)⟩
theorem CLk_n {n : Nat} {sz pl : Nat → Int} {S : Nat → Bool} (hsz : ∀ i, i < n → 0 ≤ sz i ∧ sz i ≤ 304) : CLk n sz pl S n := by
  refine ⟨fun i => i, fun i hi _ => hi, fun b hb => ?_, fun i j _ _ _ _ e => by have e : i = j := e; rw [e]⟩
  have := ssum_one (S := inA S (fun i => i) b) n hb (fun i _ h => (inA_t.mp h).2) (fun i hi => (hsz i hi).1)
  have := (hsz b hb).2
  omega
theorem LCk_ex {n : Nat} {sz pl : Nat → Int} {S : Nat → Bool} (hsz : ∀ i, i < n → 0 ≤ sz i ∧ sz i ≤ 304) : ∃ k, LCk n sz pl S k ∧ k ≤ n := by
  obtain ⟨k, h1, h2⟩ := pk_least (fun k => CLk n sz pl S k) ⟨n, CLk_n hsz⟩
  refine ⟨k, ⟨h1, h2⟩, ?_⟩
  apply Classical.byContradiction
  intro h
  exact h2 n (by omega) (CLk_n hsz)
def fitS (n : Nat) (sz pl : Nat → Int) (T : Nat → Bool) : Prop := (∀ i j, i < n → j < n → T i = true → T j = true → pl i = pl j) ∧ ssum sz T n ≤ 304
def dif (S T : Nat → Bool) : Nat → Bool := fun i => S i && !T i
theorem dif_t {S T : Nat → Bool} {i : Nat} : dif S T i = true ↔ S i = true ∧ T i = false := by
  unfold dif; simp only [Bool.and_eq_true, Bool.not_eq_true']
/-- one cast more -/
theorem CLk_add {n : Nat} {sz pl : Nat → Int} {S T : Nat → Bool} {k : Nat} (hT : ∀ i, i < n → T i = true → S i = true) (hf : fitS n sz pl T) (hc : CLk n sz pl (dif S T) k) : CLk n sz pl S (k + 1) := by
  obtain ⟨a, h1, h2, h3⟩ := hc
  have hT' : ∀ i, S i = true → ¬ T i = true → dif S T i = true := fun i hs ht => dif_t.mpr ⟨hs, by simpa using ht⟩
  refine ⟨fun i => if T i = true then k else a i, fun i hi hs => ?_, fun b hb => ?_, fun i j hi hj hs hs' e => ?_⟩
  · show (if T i = true then k else a i) < k + 1
    by_cases ht : T i = true
    · rw [if_pos ht]; omega
    · rw [if_neg ht]; have := h1 i hi (hT' i hs ht); omega
  · by_cases eb : b = k
    · have := hf.2
      rw [ssum_cg (S' := T) n (fun i hi => ?_)]
      · exact this
      · apply Bool.eq_iff_iff.mpr
        rw [inA_t]
        constructor
        · rintro ⟨hs, he⟩
          have he : (if T i = true then k else a i) = b := he
          by_cases ht : T i = true
          · exact ht
          · rw [if_neg ht] at he
            have := h1 i hi (hT' i hs ht); omega
        · intro ht
          exact ⟨hT i hi ht, by show (if T i = true then k else a i) = b; rw [if_pos ht, eb]⟩
    · rw [ssum_cg (S' := inA (dif S T) a b) n (fun i hi => ?_)]
      · exact h2 b (by omega)
      · apply Bool.eq_iff_iff.mpr
        rw [inA_t, inA_t]
        constructor
        · rintro ⟨hs, he⟩
          have he : (if T i = true then k else a i) = b := he
          by_cases ht : T i = true
          · rw [if_pos ht] at he; omega
          · rw [if_neg ht] at he; exact ⟨hT' i hs ht, he⟩
        · rintro ⟨hs, he⟩
          have hd := dif_t.mp hs
          refine ⟨hd.1, ?_⟩
          show (if T i = true then k else a i) = b
          rw [if_neg (by rw [hd.2]; decide)]; exact he
  · have e : (if T i = true then k else a i) = (if T j = true then k else a j) := e
    by_cases ht : T i = true
    · by_cases ht' : T j = true
      · exact hf.1 i j hi hj ht ht'
      · rw [if_pos ht, if_neg ht'] at e
        have := h1 j hj (hT' j hs' ht'); omega
    · by_cases ht' : T j = true
      · rw [if_neg ht, if_pos ht'] at e
        have := h1 i hi (hT' i hs ht); omega
      · rw [if_neg ht, if_neg ht'] at e
        exact h3 i j hi hj (hT' i hs ht) (hT' j hs' ht') e
/-- the cast of one of them taken away -/
theorem CLk_sub {n : Nat} {sz pl : Nat → Int} {S : Nat → Bool} {k j : Nat} (hj : j < n) (hS : S j = true) (hc : CLk n sz pl S k) : ∃ T : Nat → Bool, (∀ i, T i = true → S i = true) ∧ T j = true ∧ fitS n sz pl T ∧ 0 < k ∧ CLk n sz pl (dif S T) (k - 1) := by
  obtain ⟨a, h1, h2, h3⟩ := hc
  have hk := h1 j hj hS
  refine ⟨inA S a (a j), fun i h => (inA_t.mp h).1, inA_t.mpr ⟨hS, rfl⟩, ⟨fun i i' hi hi' ht ht' => ?_, h2 _ hk⟩, by omega, ?_⟩
  · have t1 := inA_t.mp ht
    have t2 := inA_t.mp ht'
    exact h3 i i' hi hi' t1.1 t2.1 (by rw [t1.2, t2.2])
  · have hd : ∀ i, dif S (inA S a (a j)) i = true → S i = true ∧ a i ≠ a j := fun i h => by
      have := dif_t.mp h
      refine ⟨this.1, fun e => ?_⟩
      rw [inA_t.mpr ⟨this.1, e⟩] at this
      exact absurd this.2 (by decide)
    refine ⟨fun i => if a j < a i then a i - 1 else a i, fun i hi h => ?_, fun b hb => ?_, fun i i' hi hi' h h' e => ?_⟩
    · obtain ⟨hs, hne⟩ := hd i h
      have := h1 i hi hs
      show (if a j < a i then a i - 1 else a i) < k - 1
      split <;> omega
    · have key : ∀ i, i < n → inA (dif S (inA S a (a j))) (fun i => if a j < a i then a i - 1 else a i) b i = true → inA S a (if b < a j then b else b + 1) i = true := fun i hi h => by
        obtain ⟨h4, h5⟩ := inA_t.mp h
        have h5 : (if a j < a i then a i - 1 else a i) = b := h5
        obtain ⟨hs, hne⟩ := hd i h4
        refine inA_t.mpr ⟨hs, ?_⟩
        by_cases e1 : a j < a i
        · rw [if_pos e1] at h5; rw [if_neg (by omega)]; omega
        · rw [if_neg e1] at h5; rw [if_pos (by omega)]; omega
      have hb2 : (if b < a j then b else b + 1) < k := by split <;> omega
      have hs2 := h2 _ hb2
      -- sums of nonnegative numbers are not needed: the sets are the same
      rw [ssum_cg (S' := inA S a (if b < a j then b else b + 1)) n (fun i hi => Bool.eq_iff_iff.mpr ⟨key i hi, fun h => ?_⟩)]
      · exact hs2
      · obtain ⟨h4, h5⟩ := inA_t.mp h
        have hne : a i ≠ a j := by rw [h5]; split <;> omega
        refine inA_t.mpr ⟨dif_t.mpr ⟨h4, ?_⟩, ?_⟩
        · cases hh : inA S a (a j) i
          · rfl
          · exact absurd (inA_t.mp hh).2 hne
        · show (if a j < a i then a i - 1 else a i) = b
          rw [h5]
          by_cases e1 : b < a j
          · rw [if_pos e1, if_neg (by omega)]
          · rw [if_neg e1, if_pos (by omega)]; omega
    · obtain ⟨hs, hne⟩ := hd i h
      obtain ⟨hs', hne'⟩ := hd i' h'
      have e : (if a j < a i then a i - 1 else a i) = (if a j < a i' then a i' - 1 else a i') := e
      refine h3 i i' hi hi' hs hs' ?_
      split at e <;> split at e <;> omega
