/-! how the relation goes on under one write on each side -/
theorem heavyK_cg {m m' : Mem} {K : Nat} (h : ∀ k, k < K → m' 15 k = m 15 k ∧ m' 3 (m 15 k).toNat = m 3 (m 15 k).toNat) : heavyK m' K = heavyK m K := by
  induction K with
  | zero => rfl
  | succ K ih =>
    unfold heavyK
    rw [ih (fun k hk => h k (by omega)), (h K (by omega)).1, (h K (by omega)).2]
theorem frontK_cg {m m' : Mem} {K : Nat} (h : ∀ k, k < K → m' 15 k = m 15 k ∧ m' 3 (m 15 k).toNat = m 3 (m 15 k).toNat) : frontK m' K = frontK m K := by
  induction K with
  | zero => rfl
  | succ K ih =>
    unfold frontK
    rw [ih (fun k hk => h k (by omega)), (h K (by omega)).1, (h K (by omega)).2]
theorem rearK_cg {m m' : Mem} {K : Nat} (h : ∀ k, k < K → m' 15 k = m 15 k ∧ m' 3 (m 15 k).toNat = m 3 (m 15 k).toNat) : rearK m' K = rearK m K := by
  induction K with
  | zero => rfl
  | succ K ih =>
    unfold rearK
    rw [ih (fun k hk => h k (by omega)), (h K (by omega)).1, (h K (by omega)).2]
theorem bedK_cg {m m' : Mem} {b K : Nat} (h : ∀ k, k < K → m' 10 (40 * b + k) = m 10 (40 * b + k) ∧ m' 1 (m 10 (40 * b + k)).toNat = m 1 (m 10 (40 * b + k)).toNat) : bedK m' b K = bedK m b K := by
  induction K with
  | zero => rfl
  | succ K ih =>
    unfold bedK
    rw [ih (fun k hk => h k (by omega)), (h K (by omega)).1, (h K (by omega)).2]
theorem bedlen_cg {m m' : Mem} {b : Nat} (h9 : m' 9 b = m 9 b) (h : ∀ k : Nat, (k : Int) < m 9 b → m' 10 (40 * b + k) = m 10 (40 * b + k) ∧ m' 1 (m 10 (40 * b + k)).toNat = m 1 (m 10 (40 * b + k)).toNat) : bedlen m' b = bedlen m b := by
  unfold bedlen
  rw [h9]
  split
  · rfl
  · exact bedK_cg (fun k hk => h k (by omega))
theorem R_pf {ν m : Mem} {p j : Nat} {v : Int} (h : RelXM ν m) (hp : (p : Int) < m 0 0) (hp40 : p < 40) (hj : j < 8)
    (hb : j = 0 → ∀ b k : Nat, b < 3 → (k : Int) < m 9 b → (m 10 (40 * b + k)).toNat ≠ p) (hl : j = 2 → ∀ k : Nat, (k : Int) < m 0 17 → (m 15 k).toNat ≠ p) : RelXM (mset ν p j v) (mset m (1 + j) p v) := by
  obtain ⟨hA, hB, hC, hD, hE⟩ := h
  have e3 : ∀ k : Nat, (k : Int) < m 0 17 → mset m (1 + j) p v 15 k = m 15 k ∧ mset m (1 + j) p v 3 (m 15 k).toNat = m 3 (m 15 k).toNat := fun k hk => by
    refine ⟨mset_ne (Or.inl (by omega)), ?_⟩
    by_cases h2 : j = 2
    · exact mset_ne (Or.inr (hl h2 k hk))
    · exact mset_ne (Or.inl (by omega))
  refine ⟨?_, fun i j' hi hj' => ?_, fun b hb3 => ?_, fun s hs => ?_, ?_⟩
  · simp (disch := omega) only [mset_ne]; exact hA
  · unfold pvF
    rw [mset_ne (k' := 0) (Or.inl (by omega))]
    by_cases e : i = p ∧ j' = j
    · obtain ⟨rfl, rfl⟩ := e
      rw [mset_same, mset_same, if_pos hp]
    · rw [mset_ne (by omega), mset_ne (k' := 1 + j') (by omega)]
      exact hB i j' hi hj'
  · have hc : bedlen (mset m (1 + j) p v) b = bedlen m b := bedlen_cg (mset_ne (Or.inl (by omega))) (fun k hk => by
      refine ⟨mset_ne (Or.inl (by omega)), ?_⟩
      by_cases h0 : j = 0
      · exact mset_ne (Or.inr (hb h0 b k hb3 hk))
      · exact mset_ne (Or.inl (by omega)))
    rw [hc]
    simp (disch := omega) only [mset_ne]
    exact hC b hb3
  · simp (disch := omega) only [mset_ne]; exact hD s hs
  · obtain ⟨h1, h2, h3, h4, h5⟩ := hE
    rw [show (mset m (1 + j) p v 0 17) = m 0 17 from mset_ne (Or.inl (by omega)), heavyK_cg (fun k hk => e3 k (by omega)), frontK_cg (fun k hk => e3 k (by omega)), rearK_cg (fun k hk => e3 k (by omega))]
    simp (disch := omega) only [mset_ne]
    exact ⟨h1, h2, h3, h4, h5⟩
/-- a new part, on both sides -/
def newX (ν : Mem) (n : Nat) (l p w nd : Int) : Mem := mset (mset (mset (mset (mset ν 63 6 ((n : Int) + 1)) n 0 l) n 1 p) n 2 w) n 3 nd
def newM (m : Mem) (n : Nat) (l p w nd : Int) : Mem := mset (mset (mset (mset (mset (mset (mset m 1 n l) 2 n p) 3 n w) 4 n nd) 5 n 0) 6 n (-4)) 0 0 ((n : Int) + 1)
theorem R_new {ν m : Mem} {c n : Nat} {l p w nd : Int} (h : RelXM ν m) (hI : IM c m) (hn : m 0 0 = (n : Int)) (hn40 : n < 40) : RelXM (newX ν n l p w nd) (newM m n l p w nd) := by
  obtain ⟨hA, hB, hC, hD, hE⟩ := h
  obtain ⟨⟨-, -, hf⟩, -, hbd, -, hlo⟩ := hI
  have e3 : ∀ k : Nat, (k : Int) < m 0 17 → newM m n l p w nd 15 k = m 15 k ∧ newM m n l p w nd 3 (m 15 k).toNat = m 3 (m 15 k).toNat := fun k hk => by
    have := hlo.2.1 k hk
    have hne : (m 15 k).toNat ≠ n := by omega
    unfold newM
    simp (disch := omega) only [mset_ne, and_self]
  refine ⟨?_, fun i j' hi hj' => ?_, fun b hb3 => ?_, fun s hs => ?_, ?_⟩
  · unfold newX newM
    simp (disch := omega) only [mset_ne, mset_same]
    exact ⟨trivial, hA.2⟩
  · have hBi := hB i j' hi hj'
    unfold pvF at hBi ⊢
    have e0 : newM m n l p w nd 0 0 = (n : Int) + 1 := by unfold newM; rw [mset_same]
    rw [e0]
    rw [hn] at hBi
    by_cases hin : i = n
    · subst hin
      rw [if_pos (by omega)]
      rw [if_neg (by omega)] at hBi
      have hf := hf i (by omega) hi
      have hj : j' = 0 ∨ j' = 1 ∨ j' = 2 ∨ j' = 3 ∨ j' = 4 ∨ j' = 5 ∨ j' = 6 ∨ j' = 7 := by omega
      unfold newX newM
      rcases hj with rfl | rfl | rfl | rfl | rfl | rfl | rfl | rfl <;> simp (disch := omega) only [mset_ne, mset_same, Nat.reduceAdd] <;> (try rw [hBi]) <;> first | rfl | exact hf.1.symm | exact hf.2.symm
    · have e1 : newX ν n l p w nd i j' = ν i j' := by unfold newX; simp (disch := omega) only [mset_ne]
      rw [e1, hBi]
      by_cases hlt : (i : Int) < n
      · rw [if_pos hlt, if_pos (show (i : Int) < (n : Int) + 1 by omega)]
        unfold newM
        simp (disch := omega) only [mset_ne]
      · rw [if_neg hlt, if_neg (show ¬ (i : Int) < (n : Int) + 1 by omega)]
  · have hc : bedlen (newM m n l p w nd) b = bedlen m b := bedlen_cg (by unfold newM; simp (disch := omega) only [mset_ne]) (fun k hk => by
      have := (hbd b hb3).2.2.2.2.1 k hk
      have hne : (m 10 (40 * b + k)).toNat ≠ n := by omega
      unfold newM
      simp (disch := omega) only [mset_ne, and_self])
    rw [hc]
    unfold newX newM
    simp (disch := omega) only [mset_ne]
    exact hC b hb3
  · unfold newX newM
    simp (disch := omega) only [mset_ne]; exact hD s hs
  · obtain ⟨h1, h2, h3, h4, h5⟩ := hE
    have e0 : newM m n l p w nd 0 17 = m 0 17 := by unfold newM; simp (disch := omega) only [mset_ne]
    rw [e0, heavyK_cg (fun k hk => e3 k (by omega)), frontK_cg (fun k hk => e3 k (by omega)), rearK_cg (fun k hk => e3 k (by omega))]
    unfold newX newM
    simp (disch := omega) only [mset_ne]
    exact ⟨h1, h2, h3, h4, h5⟩
/-- scalars -/
theorem R_sc {ν m : Mem} {jx jm : Nat} {v : Int} (h : RelXM ν m) (hj : (jx = 7 ∧ jm = 20) ∨ (jx = 8 ∧ jm = 19) ∨ (jx = 9 ∧ jm = 14) ∨ (jx = 10 ∧ jm = 13)) : RelXM (mset ν 63 jx v) (mset m 0 jm v) := by
  obtain ⟨hA, hB, hC, hD, hE⟩ := h
  have e3 : ∀ k : Nat, (k : Int) < m 0 17 → mset m 0 jm v 15 k = m 15 k ∧ mset m 0 jm v 3 (m 15 k).toNat = m 3 (m 15 k).toNat := fun k hk => ⟨mset_ne (Or.inl (by omega)), mset_ne (Or.inl (by omega))⟩
  refine ⟨?_, fun i j' hi hj' => ?_, fun b hb3 => ?_, fun s hs => ?_, ?_⟩
  · obtain ⟨a1, a2, a3, a4, a5⟩ := hA
    rcases hj with ⟨rfl, rfl⟩ | ⟨rfl, rfl⟩ | ⟨rfl, rfl⟩ | ⟨rfl, rfl⟩ <;> simp (disch := omega) only [mset_ne, mset_same] <;> simp only [a1, a2, a3, a4, a5, and_self, true_and]
  · have hBi := hB i j' hi hj'
    unfold pvF at hBi ⊢
    rw [mset_ne (k' := 0) (Or.inr (by omega)), mset_ne (k' := 1 + j') (Or.inl (by omega)), mset_ne (Or.inl (by omega))]
    exact hBi
  · rw [bedlen_cg (m := m) (mset_ne (Or.inl (by omega))) (fun k hk => ⟨mset_ne (Or.inl (by omega)), mset_ne (Or.inl (by omega))⟩)]
    simp (disch := omega) only [mset_ne]
    exact hC b hb3
  · simp (disch := omega) only [mset_ne]; exact hD s hs
  · obtain ⟨h1, h2, h3, h4, h5⟩ := hE
    have e0 : mset m 0 jm v 0 17 = m 0 17 := mset_ne (Or.inr (by omega))
    rw [e0, heavyK_cg (fun k hk => e3 k (by omega)), frontK_cg (fun k hk => e3 k (by omega)), rearK_cg (fun k hk => e3 k (by omega))]
    simp (disch := omega) only [mset_ne]
    exact ⟨h1, h2, h3, h4, h5⟩
/-- a stack: one more on it, one less -/
theorem R_push {ν m : Mem} {s h : Nat} {v : Int} (hR : RelXM ν m) (hs : s < 5) (hh : m 13 s = (h : Int)) (h4 : h < 4) (hb4 : ∀ t : Nat, t < 5 → m 13 t ≤ 4) : RelXM (mset (mset ν (48 + s) h v) (43 + s) 1 ((h : Int) + 1)) (mset (mset m 14 (4 * s + h) v) 13 s ((h : Int) + 1)) := by
  obtain ⟨hA, hB, hC, hD, hE⟩ := hR
  refine ⟨?_, fun i j' hi hj' => ?_, fun b hb3 => ?_, fun t ht => ?_, ?_⟩
  · simp (disch := omega) only [mset_ne]; exact hA
  · have hBi := hB i j' hi hj'
    unfold pvF at hBi ⊢
    simp (disch := omega) only [mset_ne]
    exact hBi
  · rw [bedlen_cg (m := m) (by simp (disch := omega) only [mset_ne]) (fun k hk => ⟨by simp (disch := omega) only [mset_ne], by simp (disch := omega) only [mset_ne]⟩)]
    simp (disch := omega) only [mset_ne]
    exact hC b hb3
  · obtain ⟨d1, d2⟩ := hD t ht
    have hb4 := hb4 t ht
    by_cases hts : t = s
    · subst hts
      rw [mset_same, mset_same]
      refine ⟨rfl, fun k hk => ?_⟩
      rw [mset_ne (Or.inl (by omega)), mset_ne (k' := 14) (Or.inl (by omega))]
      by_cases hkh : k = h
      · subst hkh; rw [mset_same, mset_same]
      · rw [mset_ne (Or.inr hkh), mset_ne (Or.inr (by omega))]
        exact d2 k (by omega)
    · simp (disch := omega) only [mset_ne]
      refine ⟨d1, fun k hk => ?_⟩
      have := d2 k hk
      rw [mset_ne (k' := 14) (Or.inr (by omega))]
      exact this
  · obtain ⟨h1, h2, h3, h4, h5⟩ := hE
    rw [heavyK_cg (m := m) (fun k hk => ⟨by simp (disch := omega) only [mset_ne], by simp (disch := omega) only [mset_ne]⟩), frontK_cg (m := m) (fun k hk => ⟨by simp (disch := omega) only [mset_ne], by simp (disch := omega) only [mset_ne]⟩), rearK_cg (m := m) (fun k hk => ⟨by simp (disch := omega) only [mset_ne], by simp (disch := omega) only [mset_ne]⟩)]
    simp (disch := omega) only [mset_ne]
    exact ⟨h1, h2, h3, h4, h5⟩
theorem R_hgt {ν m : Mem} {s : Nat} {v : Int} (hR : RelXM ν m) (hs : s < 5) (hv : v ≤ m 13 s) : RelXM (mset ν (43 + s) 1 v) (mset m 13 s v) := by
  obtain ⟨hA, hB, hC, hD, hE⟩ := hR
  refine ⟨?_, fun i j' hi hj' => ?_, fun b hb3 => ?_, fun t ht => ?_, ?_⟩
  · simp (disch := omega) only [mset_ne]; exact hA
  · have hBi := hB i j' hi hj'
    unfold pvF at hBi ⊢
    simp (disch := omega) only [mset_ne]
    exact hBi
  · rw [bedlen_cg (m := m) (by simp (disch := omega) only [mset_ne]) (fun k hk => ⟨by simp (disch := omega) only [mset_ne], by simp (disch := omega) only [mset_ne]⟩)]
    simp (disch := omega) only [mset_ne]
    exact hC b hb3
  · obtain ⟨d1, d2⟩ := hD t ht
    by_cases hts : t = s
    · subst hts
      rw [mset_same, mset_same]
      refine ⟨rfl, fun k hk => ?_⟩
      rw [mset_ne (Or.inl (by omega)), mset_ne (k' := 14) (Or.inl (by omega))]
      exact d2 k (by omega)
    · simp (disch := omega) only [mset_ne]
      exact ⟨d1, d2⟩
  · obtain ⟨h1, h2, h3, h4, h5⟩ := hE
    rw [heavyK_cg (m := m) (fun k hk => ⟨by simp (disch := omega) only [mset_ne], by simp (disch := omega) only [mset_ne]⟩), frontK_cg (m := m) (fun k hk => ⟨by simp (disch := omega) only [mset_ne], by simp (disch := omega) only [mset_ne]⟩), rearK_cg (m := m) (fun k hk => ⟨by simp (disch := omega) only [mset_ne], by simp (disch := omega) only [mset_ne]⟩)]
    simp (disch := omega) only [mset_ne]
    exact ⟨h1, h2, h3, h4, h5⟩
/-- the lorry: one more on it; empty -/
def ltkX (ν : Mem) (h : Nat) (p w : Int) : Mem := mset (mset (mset (mset (mset ν 67 3 (ν 67 3 + w * (8 - 2 * (h : Int)))) 67 4 (ν 67 4 + w * (2 * (h : Int) + 1))) 67 2 (ν 67 2 + w)) 68 h p) 67 1 ((h : Int) + 1)
def ltkM (m : Mem) (h : Nat) (p : Int) : Mem := mset (mset m 15 h p) 0 17 ((h : Int) + 1)
theorem R_ltk {ν m : Mem} {h : Nat} {p w : Int} (hR : RelXM ν m) (hh : m 0 17 = (h : Int)) (hw : w = m 3 p.toNat) : RelXM (ltkX ν h p w) (ltkM m h p) := by
  obtain ⟨hA, hB, hC, hD, hE⟩ := hR
  have e3 : ∀ k : Nat, k < h → ltkM m h p 15 k = m 15 k ∧ ltkM m h p 3 (m 15 k).toNat = m 3 (m 15 k).toNat := fun k hk => by
    unfold ltkM
    simp (disch := omega) only [mset_ne, and_self]
  refine ⟨?_, fun i j' hi hj' => ?_, fun b hb3 => ?_, fun t ht => ?_, ?_⟩
  · unfold ltkX ltkM; simp (disch := omega) only [mset_ne]; exact hA
  · have hBi := hB i j' hi hj'
    unfold pvF at hBi ⊢
    unfold ltkX ltkM
    simp (disch := omega) only [mset_ne]
    exact hBi
  · rw [bedlen_cg (m := m) (by unfold ltkM; simp (disch := omega) only [mset_ne]) (fun k hk => by unfold ltkM; exact ⟨by simp (disch := omega) only [mset_ne], by simp (disch := omega) only [mset_ne]⟩)]
    unfold ltkX ltkM
    simp (disch := omega) only [mset_ne]
    exact hC b hb3
  · unfold ltkX ltkM; simp (disch := omega) only [mset_ne]; exact hD t ht
  · obtain ⟨h1, h2, h3, h4, h5⟩ := hE
    have e0 : ltkM m h p 0 17 = (h : Int) + 1 := by unfold ltkM; rw [mset_same]
    have e15 : ltkM m h p 15 h = p := by unfold ltkM; rw [mset_ne (Or.inl (by omega)), mset_same]
    have e33 : ltkM m h p 3 p.toNat = m 3 p.toNat := by unfold ltkM; simp (disch := omega) only [mset_ne]
    rw [hh] at h1 h2 h3 h4 h5
    have ht : ((h : Int)).toNat = h := rfl
    rw [ht] at h2 h3 h4
    rw [e0, show ((h : Int) + 1).toNat = h + 1 by omega]
    unfold heavyK frontK rearK
    rw [heavyK_cg e3, frontK_cg e3, rearK_cg e3, e15, e33, ← hw]
    unfold ltkX
    simp (disch := omega) only [mset_ne, mset_same]
    refine ⟨trivial, by rw [h2], by rw [h3], by rw [h4], fun k hk => ?_⟩
    by_cases hk2 : k = h
    · subst hk2; rw [mset_same, e15]
    · rw [mset_ne (Or.inr hk2), (e3 k (by omega)).1]
      exact h5 k (by omega)
theorem R_lcl {ν m : Mem} (hR : RelXM ν m) : RelXM (mset (mset (mset (mset ν 67 1 0) 67 2 0) 67 3 0) 67 4 0) (mset m 0 17 0) := by
  obtain ⟨hA, hB, hC, hD, hE⟩ := hR
  refine ⟨?_, fun i j' hi hj' => ?_, fun b hb3 => ?_, fun t ht => ?_, ?_⟩
  · simp (disch := omega) only [mset_ne]; exact hA
  · have hBi := hB i j' hi hj'
    unfold pvF at hBi ⊢
    simp (disch := omega) only [mset_ne]
    exact hBi
  · rw [bedlen_cg (m := m) (by simp (disch := omega) only [mset_ne]) (fun k hk => ⟨by simp (disch := omega) only [mset_ne], by simp (disch := omega) only [mset_ne]⟩)]
    simp (disch := omega) only [mset_ne]
    exact hC b hb3
  · simp (disch := omega) only [mset_ne]; exact hD t ht
  · simp (disch := omega) only [mset_ne, mset_same]
    exact ⟨trivial, rfl, rfl, rfl, fun k hk => absurd hk (by omega)⟩
