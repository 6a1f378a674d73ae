/-! the yard of an order -/
def tnK (o : Nat → Int) : Nat → Int → Int
  | 0, _ => 6
  | i + 1, p => if o i = p then (i : Int) else tnK o i p
theorem tnK_sp (o : Nat → Int) (p : Int) : ∀ n, (∃ t : Nat, t < n ∧ tnK o n p = (t : Int) ∧ o t = p) ∨ (tnK o n p = 6 ∧ ∀ t, t < n → o t ≠ p) := by
  intro n
  induction n with
  | zero => exact Or.inr ⟨rfl, fun t ht => absurd ht (by omega)⟩
  | succ n ih =>
    unfold tnK
    by_cases e : o n = p
    · rw [if_pos e]; exact Or.inl ⟨n, by omega, rfl, e⟩
    · rw [if_neg e]
      rcases ih with ⟨t, h1, h2, h3⟩ | ⟨h1, h2⟩
      · exact Or.inl ⟨t, by omega, h2, h3⟩
      · refine Or.inr ⟨h1, fun t ht => ?_⟩
        by_cases e2 : t = n
        · rw [e2]; exact e
        · exact h2 t (by omega)
theorem tnK_iff {o : Nat → Int} {n q : Nat} {p : Int} (hd : ∀ i j, i < j → j < n → o i ≠ o j) (hn : n ≤ 6) (hq : q < n) : tnK o n p = (q : Int) ↔ p = o q := by
  rcases tnK_sp o p n with ⟨t, h1, h2, h3⟩ | ⟨h1, h2⟩
  · constructor
    · intro h
      rw [h2] at h
      rw [← h3, show t = q by omega]
    · intro h
      rw [h2]
      rcases Nat.lt_trichotomy t q with h4 | h4 | h4
      · exact absurd (h3.trans h) (hd t q h4 hq)
      · rw [h4]
      · exact absurd (h.symm.trans h3.symm) (hd q t h4 h1)
  · constructor
    · intro h; rw [h1] at h; omega
    · intro h; exact absurd h.symm (h2 q hq)
theorem map_cnt {o : Nat → Int} {n q : Nat} (hd : ∀ i j, i < j → j < n → o i ≠ o j) (hn : n ≤ 6) (hq : q < n) : ∀ l : List Int, (l.map (tnK o n)).count (q : Int) = l.count (o q) := by
  intro l
  induction l with
  | nil => rfl
  | cons x l ih =>
    rw [List.map_cons, List.count_cons, List.count_cons, ih]
    have := tnK_iff (p := x) hd hn hq
    by_cases e : x = o q
    · rw [show (tnK o n x == (q : Int)) = true from beq_iff_eq.mpr (this.mpr e), show (x == o q) = true from beq_iff_eq.mpr e]
    · rw [show (tnK o n x == (q : Int)) = false from beq_eq_false_iff_ne.mpr (fun h => e (this.mp h)), show (x == o q) = false from beq_eq_false_iff_ne.mpr e]
def idsM (m : Mem) (s : Nat) : List Int := stkL (fun k => m 14 (4 * s + k)) (m 13 s).toNat
def Y0 (m : Mem) (o : Nat → Int) (n : Nat) : Nat → List Int := fun s => (idsM m s).map (tnK o n)
theorem nsum_add (f g : Nat → Nat) : ∀ N, nsum (fun p => f p + g p) N = nsum f N + nsum g N := by
  intro N
  induction N with
  | zero => rfl
  | succ N ih => show nsum (fun p => f p + g p) N + (f N + g N) = nsum f N + f N + (nsum g N + g N); rw [ih]; omega
theorem nsum_one (x : Int) : ∀ N : Nat, nsum (fun p => if x = (p : Int) then 1 else 0) N = if 0 ≤ x ∧ x < (N : Int) then 1 else 0 := by
  intro N
  induction N with
  | zero => rw [if_neg (by omega)]; rfl
  | succ N ih =>
    show nsum (fun p : Nat => if x = (p : Int) then 1 else 0) N + (if x = (N : Int) then 1 else 0) = _
    rw [ih]
    by_cases e : x = (N : Int)
    · rw [if_pos e, if_neg (by omega), if_pos (by omega)]
    · rw [if_neg e]
      by_cases e2 : 0 ≤ x ∧ x < (N : Int)
      · rw [if_pos e2, if_pos (by omega)]
      · rw [if_neg e2, if_neg (by omega)]
theorem nsum_count (N : Nat) : ∀ l : List Int, (∀ x ∈ l, 0 ≤ x ∧ x < (N : Int)) → nsum (fun p => l.count (p : Int)) N = l.length := by
  intro l
  induction l with
  | nil =>
    intro _
    have : ∀ N, nsum (fun p : Nat => ([] : List Int).count (p : Int)) N = 0 := by
      intro N
      induction N with
      | zero => rfl
      | succ N ih => show nsum _ N + 0 = 0; rw [ih]
    exact this N
  | cons x l ih =>
    intro h
    have h1 := ih (fun y hy => h y (List.mem_cons_of_mem _ hy))
    have h2 := nsum_one x N
    rw [if_pos (h x List.mem_cons_self)] at h2
    have h3 := nsum_add (fun p : Nat => l.count (p : Int)) (fun p : Nat => if x = (p : Int) then 1 else 0) N
    rw [h1, h2] at h3
    rw [List.length_cons, ← h3]
    refine nsum_cg N (fun p _ => ?_)
    rw [List.count_cons]
    by_cases e : x = (p : Int)
    · rw [if_pos e, if_pos (beq_iff_eq.mpr e)]
    · rw [if_neg e, if_neg (fun q => e (beq_iff_eq.mp q))]
theorem nsum_tight {f g : Nat → Nat} : ∀ N, (∀ p, p < N → f p ≤ g p) → nsum f N = nsum g N → ∀ p, p < N → f p = g p := by
  have le : ∀ N, (∀ p, p < N → f p ≤ g p) → nsum f N ≤ nsum g N := by
    intro N
    induction N with
    | zero => intro _; exact Nat.le_refl 0
    | succ N ih =>
      intro h
      have h1 := ih (fun p hp => h p (by omega))
      have h2 := h N (by omega)
      show nsum f N + f N ≤ nsum g N + g N
      omega
  intro N
  induction N with
  | zero => intro _ _ p hp; omega
  | succ N ih =>
    intro h he p hp
    have h1 := le N (fun p hp => h p (by omega))
    have h2 := h N (by omega)
    replace he : nsum f N + f N = nsum g N + g N := he
    by_cases e : p = N
    · rw [e]; omega
    · exact ih (fun p hp => h p (by omega)) (by omega) p (by omega)
theorem cntW_sum (m : Mem) (w : Int) : ∀ N, cntW m w N = nsum (fun p => if m 5 p = w then 1 else 0) N := by
  intro N
  induction N with
  | zero => rfl
  | succ N ih => show cntW m w N + _ = nsum _ N + _; rw [ih]
theorem stkL_one {row : Nat → Int} {x : Int} : ∀ h, (∀ j j', j < h → j' < h → row j = row j' → j = j') → (stkL row h).count x ≤ 1 := by
  intro h
  induction h with
  | zero => intro _; exact Nat.zero_le 1
  | succ h ih =>
    intro hj
    have h1 := ih (fun j j' h1 h2 h3 => hj j j' (by omega) (by omega) h3)
    show (row h :: stkL row h).count x ≤ 1
    by_cases e : row h = x
    · have h2 : (stkL row h).count x = 0 := List.count_eq_zero.mpr (fun hm => by
        obtain ⟨j, h3, h4⟩ := stkL_in _ hm
        have := hj j h (by omega) (by omega) (by rw [h4, e])
        omega)
      rw [e, List.count_cons_self, h2]
      exact Nat.le_refl 1
    · rw [List.count_cons_of_ne e]; exact h1
theorem ids_in {c : Nat} {m : Mem} (hM : IM c m) {s : Nat} (hs : s < 5) {x : Int} (hx : x ∈ idsM m s) : 0 ≤ x ∧ x < m 0 0 ∧ m 5 x.toNat = 3 ∧ m 6 x.toNat = (s : Int) := by
  obtain ⟨h1, h2, -⟩ := hM.2.2.2.1.1 s hs
  obtain ⟨j, h3, h4⟩ := stkL_in _ hx
  have := h2 j (by omega)
  rw [h4] at this
  exact this
/-- each part that lies in the yard lies there once -/
theorem ids_once {c : Nat} {m : Mem} (hM : IM c m) {p : Nat} (hp : (p : Int) < m 0 0) (h3 : m 5 p = 3) : cnt5 (idsM m) (p : Int) = 1 := by
  have h00 := hM.1.1
  obtain ⟨N, hN⟩ : ∃ N : Nat, m 0 0 = (N : Int) := ⟨(m 0 0).toNat, by omega⟩
  obtain ⟨hy1, hy2, hy3⟩ := hM.2.2.2.1
  have hz : ∀ q : Nat, ∀ s, s < 5 → (idsM m s).count (q : Int) ≤ 1 ∧ (1 ≤ (idsM m s).count (q : Int) → m 5 q = 3 ∧ m 6 q = (s : Int)) := fun q s hs => by
    obtain ⟨h1, h2, h4⟩ := hy1 s hs
    refine ⟨stkL_one _ (fun j j' a b e => h4 j j' (by omega) (by omega) e), fun h => ?_⟩
    have := ids_in hM hs (List.count_pos_iff.mp h)
    exact ⟨this.2.2.1, this.2.2.2⟩
  have hle : ∀ q : Nat, q < N → cnt5 (idsM m) (q : Int) ≤ (if m 5 q = 3 then 1 else 0) := fun q hq => by
    have a0 := hz q 0 (by decide)
    have a1 := hz q 1 (by decide)
    have a2 := hz q 2 (by decide)
    have a3 := hz q 3 (by decide)
    have a4 := hz q 4 (by decide)
    unfold cnt5
    by_cases e : m 5 q = 3
    · rw [if_pos e]; omega
    · rw [if_neg e]; omega
  have hsum : nsum (fun q => cnt5 (idsM m) (q : Int)) N = nsum (fun q => if m 5 q = 3 then 1 else 0) N := by
    rw [← cntW_sum]
    have hc : ∀ s, s < 5 → nsum (fun q : Nat => (idsM m s).count (q : Int)) N = (m 13 s).toNat := fun s hs => by
      rw [nsum_count N _ (fun x hx => by have := ids_in hM hs hx; omega)]
      exact stkL_len _ _
    have e : nsum (fun q => cnt5 (idsM m) (q : Int)) N = (m 13 0).toNat + (m 13 1).toNat + (m 13 2).toNat + (m 13 3).toNat + (m 13 4).toNat := by
      rw [← hc 0 (by decide), ← hc 1 (by decide), ← hc 2 (by decide), ← hc 3 (by decide), ← hc 4 (by decide), ← nsum_add, ← nsum_add, ← nsum_add, ← nsum_add]
      rfl
    have b0 := (hy1 0 (by decide)).1
    have b1 := (hy1 1 (by decide)).1
    have b2 := (hy1 2 (by decide)).1
    have b3 := (hy1 3 (by decide)).1
    have b4 := (hy1 4 (by decide)).1
    rw [hN, show ((N : Int)).toNat = N from rfl] at hy3
    rw [e]
    omega
  have := nsum_tight N hle hsum p (by omega)
  rw [if_pos h3] at this
  exact this
def okO (m : Mem) (n o : Int) : Prop := (0 ≤ n ∧ n ≤ 6) ∧ (0 ≤ o ∧ o.toNat < 2 ^ (n.toNat * 6)) ∧ (∀ i, i < n.toNat → (digN o i : Int) < m 0 0) ∧ ∀ i j, i < j → j < n.toNat → (digN o i : Int) ≠ digN o j
def inY (m : Mem) (n o : Int) : Prop := m 13 0 + m 13 1 + m 13 2 + m 13 3 + m 13 4 ≤ 10 ∧ ∀ i, i < n.toNat → m 5 (digN o i) = 3
def ansD (m : Mem) (n o z : Int) : Prop := (¬ okO m n o ∧ z = -1) ∨ (okO m n o ∧ ¬ inY m n o ∧ z = -2) ∨ (okO m n o ∧ inY m n o ∧ ∃ k : Nat, z = (k : Int) ∧ LDg n.toNat 0 (Y0 m (fun i => (digN o i : Int)) n.toNat) k)
theorem ansD_u {m : Mem} {n o z z' : Int} (h : ansD m n o z) (h' : ansD m n o z') : z = z' := by
  rcases h with ⟨h1, h2⟩ | ⟨h1, h2, h3⟩ | ⟨h1, h2, k, h3, h4⟩ <;> rcases h' with ⟨h1', h2'⟩ | ⟨h1', h2', h3'⟩ | ⟨h1', h2', k', h3', h4'⟩
  · rw [h2, h2']
  · exact absurd h1' h1
  · exact absurd h1' h1
  · exact absurd h1 h1'
  · rw [h3, h3']
  · exact absurd h2' h2
  · exact absurd h1 h1'
  · exact absurd h2 h2'
  · rw [h3, h3', LDg_u h4 h4']
theorem Y0_ok {c : Nat} {m : Mem} (hM : IM c m) {n o : Int} (hO : okO m n o) (hY : inY m n o) : OY n.toNat 0 (Y0 m (fun i => (digN o i : Int)) n.toNat) ∧ tot5 (Y0 m (fun i => (digN o i : Int)) n.toNat) ≤ 10 ∧ ∀ s, s < 5 → (Y0 m (fun i => (digN o i : Int)) n.toNat s).length = (m 13 s).toNat := by
  obtain ⟨⟨n1, n2⟩, o1, o2, o3⟩ := hO
  obtain ⟨y1, y2⟩ := hY
  have hlen : ∀ s, (Y0 m (fun i => (digN o i : Int)) n.toNat s).length = (m 13 s).toNat := fun s => by
    show ((idsM m s).map _).length = _
    rw [List.length_map]
    exact stkL_len _ _
  have hb : ∀ s, s < 5 → 0 ≤ m 13 s ∧ m 13 s ≤ 4 := fun s hs => (hM.2.2.2.1.1 s hs).1
  refine ⟨⟨by omega, Nat.zero_le _, fun s hs => by rw [hlen]; have := hb s hs; omega, fun s hs x hx => ?_, fun q _ hq => ?_⟩, ?_, fun s _ => hlen s⟩
  · obtain ⟨p, h1, h2⟩ := List.mem_map.mp hx
    rcases tnK_sp (fun i => (digN o i : Int)) p n.toNat with ⟨t, h3, h4, h5⟩ | ⟨h3, h4⟩
    · rw [h2] at h4
      exact Or.inl ⟨by omega, by omega⟩
    · rw [h2] at h3
      exact Or.inr h3
  · have hmc := map_cnt (o := fun i => (digN o i : Int)) (n := n.toNat) (q := q) o3 (by omega) hq
    have h1 := ids_once hM (p := digN o q) (o2 q hq) (y2 q hq)
    rw [← h1]
    unfold cnt5 Y0
    rw [hmc, hmc, hmc, hmc, hmc]
  · unfold tot5
    rw [hlen, hlen, hlen, hlen, hlen]
    have b0 := hb 0 (by decide)
    have b1 := hb 1 (by decide)
    have b2 := hb 2 (by decide)
    have b3 := hb 3 (by decide)
    have b4 := hb 4 (by decide)
    omega
