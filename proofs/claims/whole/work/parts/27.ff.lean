/-! first fit; the least number; lists out of rows -/
def sfx (f : Nat → Int) (i : Nat) : Nat → List Int
  | 0 => []
  | d + 1 => f i :: sfx f (i + 1) d
theorem sfx_mem {f : Nat → Int} {x : Int} : ∀ (d i : Nat), x ∈ sfx f i d → ∃ j, i ≤ j ∧ j < i + d ∧ x = f j := by
  intro d
  induction d with
  | zero => intro i h; cases h
  | succ d ih =>
    intro i h
    rcases List.mem_cons.mp h with h | h
    · exact ⟨i, by omega, by omega, h⟩
    · obtain ⟨j, h1, h2, h3⟩ := ih (i + 1) h
      exact ⟨j, by omega, by omega, h3⟩
theorem sfx_cg {f f' : Nat → Int} : ∀ (d i : Nat), (∀ j, i ≤ j → j < i + d → f j = f' j) → sfx f i d = sfx f' i d := by
  intro d
  induction d with
  | zero => intro i _; rfl
  | succ d ih =>
    intro i h
    show f i :: _ = f' i :: _
    rw [h i (by omega) (by omega), ih (i + 1) (fun j h1 h2 => h j (by omega) (by omega))]
theorem sfx_split (f : Nat → Int) : ∀ (q i d : Nat), sfx f i (q + d) = sfx f i q ++ sfx f (i + q) d := by
  intro q
  induction q with
  | zero => intro i d; simp [sfx]
  | succ q ih =>
    intro i d
    rw [show q + 1 + d = (q + d) + 1 by omega]
    show f i :: sfx f (i + 1) (q + d) = f i :: (sfx f (i + 1) q ++ _)
    rw [ih, show i + 1 + q = i + (q + 1) by omega]
theorem sfx_shift (f f' : Nat → Int) : ∀ (d i : Nat), (∀ j, i ≤ j → j < i + d → f' (j + 1) = f j) → sfx f' (i + 1) d = sfx f i d := by
  intro d
  induction d with
  | zero => intro i _; rfl
  | succ d ih =>
    intro i h
    show f' (i + 1) :: _ = f i :: _
    rw [h i (by omega) (by omega), ih (i + 1) (fun j h1 h2 => h j (by omega) (by omega))]
theorem sfx_len (f : Nat → Int) : ∀ d i, (sfx f i d).length = d := by
  intro d
  induction d with
  | zero => intro i; rfl
  | succ d ih => intro i; show (sfx f (i + 1) d).length + 1 = _; rw [ih]
theorem lsum_app (a b : List Int) : lsum (a ++ b) = lsum a + lsum b := by
  induction a with
  | nil => show lsum b = 0 + lsum b; omega
  | cons x a ih => show x + lsum (a ++ b) = x + lsum a + lsum b; omega
theorem lsum_perm {l l' : List Int} (h : l.Perm l') : lsum l = lsum l' := by
  induction h with
  | nil => rfl
  | cons x _ ih => show x + _ = x + _; rw [ih]
  | swap x y l => show y + (x + lsum l) = x + (y + lsum l); omega
  | trans _ _ h1 h2 => exact h1.trans h2
theorem lsum_nn {l : List Int} (h : ∀ x ∈ l, 0 ≤ x) : 0 ≤ lsum l := by
  induction l with
  | nil => exact Int.le_refl 0
  | cons x l ih =>
    have h1 := h x List.mem_cons_self
    have h2 := ih (fun y hy => h y (List.mem_cons_of_mem _ hy))
    show 0 ≤ x + lsum l
    omega
theorem DD_cg {l : List Int} : ∀ {k : Nat} {r r' : Nat → Int}, (∀ b, b < k → r b = r' b) → DD l k r → DD l k r' := by
  induction l with
  | nil => intros; trivial
  | cons x l ih =>
    intro k r r' hr h
    obtain ⟨b, hb, hx, hd⟩ := h
    refine ⟨b, hb, by rw [← hr b hb]; exact hx, ih (fun c hc => ?_) hd⟩
    unfold rup
    rw [hr b hb]
    split
    · rfl
    · exact hr c hc
/-- where x comes by first fit -/
def ffp (r : Nat → Int) (x : Int) (c : Nat) : Nat → Nat → Nat
  | 0, _ => c
  | d + 1, b => if r b + x ≤ 304 then b else ffp r x c d (b + 1)
def ffr (r : Nat → Int) (x : Int) (c b : Nat) : Nat → Int := fun i => if i = b then (if b = c then x else r b + x) else r i
def FFn : List Int → (Nat → Int) → Nat → Nat
  | [], _, c => c
  | x :: l, r, c => FFn l (ffr r x c (ffp r x c c 0)) (if ffp r x c c 0 = c then c + 1 else c)
theorem ffp_in (r : Nat → Int) (x : Int) (c : Nat) : ∀ d b, b + d = c → (ffp r x c d b = c ∧ ∀ i, b ≤ i → i < c → ¬ r i + x ≤ 304) ∨ (ffp r x c d b < c ∧ r (ffp r x c d b) + x ≤ 304) := by
  intro d
  induction d with
  | zero => intro b hb; exact Or.inl ⟨rfl, fun i h1 h2 => by omega⟩
  | succ d ih =>
    intro b hb
    unfold ffp
    by_cases h : r b + x ≤ 304
    · rw [if_pos h]; exact Or.inr ⟨by omega, h⟩
    · rw [if_neg h]
      rcases ih (b + 1) (by omega) with ⟨h1, h2⟩ | h1
      · refine Or.inl ⟨h1, fun i h3 h4 => ?_⟩
        by_cases e : i = b
        · subst e; exact h
        · exact h2 i (by omega) h4
      · exact Or.inr h1
theorem ffp_cg {r r' : Nat → Int} {x : Int} {c : Nat} : ∀ d b, b + d = c → (∀ i, i < c → r i = r' i) → ffp r x c d b = ffp r' x c d b := by
  intro d
  induction d with
  | zero => intro b _ _; rfl
  | succ d ih =>
    intro b hb h
    unfold ffp
    rw [h b (by omega), ih (b + 1) (by omega) h]
theorem FFn_cg {l : List Int} : ∀ {r r' : Nat → Int} {c : Nat}, (∀ i, i < c → r i = r' i) → FFn l r c = FFn l r' c := by
  induction l with
  | nil => intros; rfl
  | cons x l ih =>
    intro r r' c h
    have hp := ffp_cg (x := x) c 0 (by omega) h
    unfold FFn
    rw [← hp]
    refine ih (fun i hi => ?_)
    unfold ffr
    by_cases e : i = ffp r x c c 0
    · rw [if_pos e, if_pos e]
      by_cases e2 : ffp r x c c 0 = c
      · rw [if_pos e2, if_pos e2]
      · rw [if_neg e2, if_neg e2]
        rcases ffp_in r x c c 0 (by omega) with h1 | h1
        · exact absurd h1.1 e2
        · rw [h _ h1.1]
    · rw [if_neg e, if_neg e]
      have : i < c := by
        split at hi
        · next e2 => omega
        · exact hi
      exact h i this
theorem FFn_ge {l : List Int} : ∀ {r : Nat → Int} {c : Nat}, c ≤ FFn l r c := by
  induction l with
  | nil => intros; exact Nat.le_refl _
  | cons x l ih =>
    intro r c
    unfold FFn
    have := ih (r := ffr r x c (ffp r x c c 0)) (c := if ffp r x c c 0 = c then c + 1 else c)
    by_cases e : ffp r x c c 0 = c
    · rw [if_pos e] at this ⊢; omega
    · rw [if_neg e] at this ⊢; omega
theorem FFn_le {l : List Int} : ∀ {r : Nat → Int} {c : Nat}, FFn l r c ≤ c + l.length := by
  induction l with
  | nil => intros; exact Nat.le_refl _
  | cons x l ih =>
    intro r c
    unfold FFn
    have := ih (r := ffr r x c (ffp r x c c 0)) (c := if ffp r x c c 0 = c then c + 1 else c)
    simp only [List.length_cons]
    by_cases e : ffp r x c c 0 = c
    · rw [if_pos e] at this ⊢; omega
    · rw [if_neg e] at this ⊢; omega
def cutR (r : Nat → Int) (c : Nat) : Nat → Int := fun b => if b < c then r b else 0
theorem cutR_lt {r : Nat → Int} {c b : Nat} (h : b < c) : cutR r c b = r b := by unfold cutR; rw [if_pos h]
theorem cutR_ge {r : Nat → Int} {c b : Nat} (h : c ≤ b) : cutR r c b = 0 := by unfold cutR; rw [if_neg (by omega)]
theorem rup_eq {r : Nat → Int} {b : Nat} {x : Int} : rup r b x b = r b + x := by unfold rup; rw [if_pos rfl]
theorem rup_ne {r : Nat → Int} {b c : Nat} {x : Int} (h : c ≠ b) : rup r b x c = r c := by unfold rup; rw [if_neg h]
theorem FFn_DD {l : List Int} : ∀ {r : Nat → Int} {c : Nat}, (∀ x ∈ l, x ≤ 304) → DD l (FFn l r c) (cutR r c) := by
  induction l with
  | nil => intros; trivial
  | cons x l ih =>
    intro r c hl
    have h1 := ih (r := ffr r x c (ffp r x c c 0)) (c := if ffp r x c c 0 = c then c + 1 else c) (fun y hy => hl y (List.mem_cons_of_mem _ hy))
    have hx := hl x List.mem_cons_self
    have hge := FFn_ge (l := l) (r := ffr r x c (ffp r x c c 0)) (c := if ffp r x c c 0 = c then c + 1 else c)
    show DD (x :: l) (FFn l (ffr r x c (ffp r x c c 0)) (if ffp r x c c 0 = c then c + 1 else c)) _
    rcases ffp_in r x c c 0 (by omega) with ⟨h2, h3⟩ | ⟨h2, h3⟩
    · rw [h2, if_pos rfl] at h1 hge
      rw [h2, if_pos rfl]
      refine ⟨c, by omega, by rw [cutR_ge (Nat.le_refl c)]; omega, DD_cg (fun b hb => ?_) h1⟩
      by_cases e : b = c
      · rw [e, rup_eq, cutR_ge (Nat.le_refl c), cutR_lt (by omega)]
        unfold ffr
        rw [if_pos rfl, if_pos rfl]; omega
      · rw [rup_ne e]
        by_cases e2 : b < c
        · rw [cutR_lt e2, cutR_lt (by omega)]
          unfold ffr
          rw [if_neg e]
        · rw [cutR_ge (by omega), cutR_ge (by omega)]
    · have hne : ffp r x c c 0 ≠ c := by omega
      rw [if_neg hne] at h1 hge
      rw [if_neg hne]
      refine ⟨ffp r x c c 0, by omega, by rw [cutR_lt h2]; exact h3, DD_cg (fun b hb => ?_) h1⟩
      by_cases e : b = ffp r x c c 0
      · rw [e, rup_eq, cutR_lt h2, cutR_lt h2]
        unfold ffr
        rw [if_pos rfl, if_neg hne]
      · rw [rup_ne e]
        by_cases e2 : b < c
        · rw [cutR_lt e2, cutR_lt e2]
          unfold ffr
          rw [if_neg e]
        · rw [cutR_ge (by omega), cutR_ge (by omega)]
/-- the least number of bins -/
def Lst (l : List Int) (n : Nat) : Prop := DD l n (fun _ => 0) ∧ ∀ k, k < n → ¬ DD l k (fun _ => 0)
theorem Lst_u {l : List Int} {n n' : Nat} (h : Lst l n) (h' : Lst l n') : n = n' := by
  rcases Nat.lt_trichotomy n n' with h1 | h1 | h1
  · exact absurd h.1 (h'.2 n h1)
  · exact h1
  · exact absurd h'.1 (h.2 n' h1)
theorem Lst_perm {l l' : List Int} {n : Nat} (hp : l.Perm l') (hl : ∀ x ∈ l, 0 ≤ x) (h : Lst l n) : Lst l' n :=
  ⟨(DD_iff_perm hp hl).mp h.1, fun k hk hd => h.2 k hk ((DD_iff_perm hp hl).mpr hd)⟩
theorem openR_0 {w : Int} (hw : w ≤ 304) : ∀ k : Nat, openR w (fun _ => 0) k = 304 * (k : Int) := by
  intro k
  induction k with
  | zero => rfl
  | succ k ih => unfold openR; rw [ih, if_neg (by omega)]; omega
theorem DD_sum {l : List Int} {k : Nat} (hl : ∀ x ∈ l, 0 ≤ x) (h : DD l k (fun _ => 0)) : lsum l ≤ 304 * (k : Int) := by
  have := DD_open (w := 0) (by decide) hl h
  rw [openR_0 (by decide)] at this
  exact this
/-- sorted, the greatest first -/
def Srt : List Int → Prop
  | [] => True
  | x :: l => (∀ y ∈ l, y ≤ x) ∧ Srt l
theorem Srt_sfx {f : Nat → Int} : ∀ (d i : Nat), (∀ a b, i ≤ a → a < b → b < i + d → f b ≤ f a) → Srt (sfx f i d) := by
  intro d
  induction d with
  | zero => intro i _; trivial
  | succ d ih =>
    intro i h
    refine ⟨fun y hy => ?_, ih (i + 1) (fun a b h1 h2 h3 => h a b (by omega) h2 (by omega))⟩
    obtain ⟨j, h1, h2, rfl⟩ := sfx_mem d (i + 1) hy
    exact h i j (by omega) (by omega) (by omega)
theorem Srt_perm {l : List Int} : ∀ {l' : List Int}, l.Perm l' → Srt l → Srt l' → l = l' := by
  induction l with
  | nil => intro l' h _ _; exact (List.nil_perm.mp h).symm ▸ rfl
  | cons x l ih =>
    intro l' h hs hs'
    match l', h, hs' with
    | [], h, _ => exact absurd h.length_eq (by simp)
    | y :: l', h, hs' =>
      have h1 : y ≤ x := by
        rcases List.mem_cons.mp (h.mem_iff.mpr List.mem_cons_self) with e | e
        · omega
        · exact hs.1 y e
      have h2 : x ≤ y := by
        rcases List.mem_cons.mp (h.mem_iff.mp List.mem_cons_self) with e | e
        · omega
        · exact hs'.1 x e
      have e : x = y := by omega
      subst e
      rw [ih (List.Perm.cons_inv h) hs.2 hs'.2]
