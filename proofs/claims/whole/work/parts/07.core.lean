/-! the flat memory: cell k, place j; the world of all cells of both objects -/
abbrev Mem : Type := Nat → Nat → Int
def mset (μ : Mem) (k j : Nat) (v : Int) : Mem := fun k' j' => if k' = k ∧ j' = j then v else μ k' j'
abbrev in32 (z : Int) : Prop := -2147483648 ≤ z ∧ z ≤ 2147483647
def vi (z : Int) : Value := .int (Int32.ofInt z)
def vl (z : Int) : Value := .long (Int64.ofInt z)
abbrev VX : Type := va_G × (Nat → Nat) × (Nat → ClassId)
def vr (V : VX) (k : Nat) : Value := .ref (V.2.1 k)
def vrf (V : VX) (r : Option Nat) : Value := match r with
  | none => .null
  | some k => vr V k
def arI (V : VX) (n : Nat) (r : Nat → Int) : va_E := .inl (V.2.2 0, n, .inl (fun j => Int32.ofInt (r j)))
def arZ (V : VX) (n : Nat) (r : Nat → Int) : va_E := .inl (V.2.2 1, n, .inl (fun j => Int32.ofInt (r j)))
def arR (V : VX) (t n o : Nat) : va_E := .inl (V.2.2 t, n, .inr (.inr (.inr (.inr (fun j => some (V.2.1 (o + j)))))))
/-- lengths of the rows of ints, by their cells (0: no such row) -/
def alen (k : Nat) : Nat :=
  if 48 ≤ k ∧ k < 53 then 4 else if 58 ≤ k ∧ k < 63 then 4 else if k = 68 then 4 else if k = 70 then 12 else if k = 71 then 12 else if k = 74 then 40 else if k = 75 then 6 else
  if 77 ≤ k ∧ k < 84 then 40 else if k = 85 then 3 else if k = 86 then 120 else if k = 87 then 3 else if k = 88 then 3 else if k = 89 then 5 else if k = 90 then 20 else if k = 91 then 4 else
  if k = 92 then 12 else if k = 93 then 4096 else if k = 94 then 12 else if k = 95 then 6 else if k = 96 then 5 else if k = 97 then 20 else if k = 98 then 32 else if k = 99 then 32 else
  if k = 100 then 192 else if k = 101 then 32 else if k = 102 then 32 else 0
/-- the kinds of the objects, by their cells (9: no object) -/
def okd (k : Nat) : Nat :=
  if k < 40 then 4 else if k < 43 then 0 else if k < 48 then 5 else if 53 ≤ k ∧ k < 58 then 5 else if k = 63 then 6 else if k = 67 then 2 else if k = 69 then 3 else if k = 72 then 1 else if k = 76 then 7 else 9
def obF (V : VX) (c k : Nat) (r : Nat → Int) : List Value := match c with
  | 0 => [vi (r 0), vi (r 1), vi (r 2), vi (r 3)]
  | 1 => [vr V 73, vr V 74, vr V 75, vi (r 3)]
  | 2 => [vr V 68, vi (r 1), vi (r 2), vi (r 3), vi (r 4)]
  | 3 => [vr V 70, vr V 71, vi (r 2), vi (r 3)]
  | 4 => [vi (r 0), vi (r 1), vi (r 2), vi (r 3), vi (r 4), vi (r 5), vi (r 6), vi (r 7)]
  | 5 => [vr V (k + 5), vi (r 1)]
  | 6 => [vr V 64, vr V 65, vr V 66, vr V 67, vr V 69, vr V 72, vi (r 6), vi (r 7), vi (r 8), vi (r 9), vi (r 10)]
  | _ => [vi (r 0), vr V 77, vr V 78, vr V 79, vr V 80, vr V 81, vr V 82, vr V 83, vr V 84, vr V 85, vr V 86, vr V 87, vr V 88, vi (r 13), vi (r 14), vr V 89, vr V 90, vi (r 17), vr V 91, vi (r 19), vi (r 20), vi (r 21), vr V 92, vr V 93, vr V 94, vr V 95, vi (r 26), vr V 96, vr V 97, vr V 98, vr V 99, vr V 100, vr V 101, vr V 102]
def celR (V : VX) (k : Nat) (r : Nat → Int) : va_E :=
  if 0 < alen k then arI V (alen k) r else if k = 84 then arZ V 40 r else if k = 64 then arR V 2 40 0 else if k = 65 then arR V 3 3 40 else if k = 66 then arR V 4 5 43 else if k = 73 then arR V 4 5 53 else
  .inr (okd k, obF V (okd k) k r)
def wld (V : VX) (μ : Mem) : va_W := (List.range 103).map (fun k => (V.2.1 k, celR V k (μ k)))
def AadV (V : VX) : Nat → Prop := fun q => ∃ k, k < 103 ∧ q = V.2.1 k
def InjV (V : VX) : Prop := ∀ i j, i < 103 → j < 103 → V.2.1 i = V.2.1 j → i = j
def tysV (V : VX) : List (ClassId × FieldType) := [(V.2.2 0, .int), (V.2.2 1, .boolean), (V.2.2 2, .object RX4), (V.2.2 3, .object RX0), (V.2.2 4, .object RX5)]
theorem wld_at {V : VX} {μ : Mem} {k : Nat} (hk : k < 103) : (wld V μ)[k]? = some (V.2.1 k, celR V k (μ k)) := by simp [wld, List.getElem?_map, List.getElem?_range hk]
theorem wld_of {V : VX} {μ : Mem} {k : Nat} {q : Nat × va_E} (h : (wld V μ)[k]? = some q) : k < 103 ∧ q = (V.2.1 k, celR V k (μ k)) := by
  have hk : k < 103 := by
    rcases Nat.lt_or_ge k 103 with hk | hk
    · exact hk
    · rw [List.getElem?_eq_none (by simp [wld]; omega)] at h; cases h
  rw [wld_at hk] at h
  exact ⟨hk, (Option.some.inj h).symm⟩
theorem wld_set {V : VX} {μ : Mem} {k : Nat} (r : Nat → Int) (e : va_E) (he : e = celR V k r) : (wld V μ).set k (V.2.1 k, e) = wld V (fun k' => if k' = k then r else μ k') := by
  subst he
  apply List.ext_getElem
  · simp [wld]
  · intro i h1 h2
    simp only [wld, List.getElem_set, List.getElem_map, List.getElem_range]
    by_cases hi : k = i
    · subst hi; simp
    · simp [hi, Ne.symm hi]
theorem mset_row (μ : Mem) (k j : Nat) (v : Int) : (fun k' => if k' = k then (fun j' => if j' = j then v else μ k j') else μ k') = mset μ k j v := by
  funext k' j'
  unfold mset
  by_cases hk : k' = k
  · subst hk; by_cases hj : j' = j <;> simp [hj]
  · simp [hk]
theorem wld_D {V : VX} {A : Nat → Prop} (h : InjV V) (hA : ∀ k, k < 103 → A (V.2.1 k)) (μ : Mem) : va_D A (wld V μ) := by
  refine ⟨fun i j p q hp hq e => ?_, fun k q hq => ?_⟩
  · obtain ⟨h1, rfl⟩ := wld_of hp
    obtain ⟨h2, rfl⟩ := wld_of hq
    exact h i j h1 h2 e
  · obtain ⟨h1, rfl⟩ := wld_of hq
    exact hA k h1
theorem cel_arr {V : VX} {k : Nat} {r : Nat → Int} {n : Nat} (h : alen k = n) (hn : 0 < n) : celR V k r = arI V n r := by
  subst h; unfold celR; rw [if_pos hn]
theorem alen_lt {k : Nat} (h : 0 < alen k) : k < 103 := by
  unfold alen at h
  rcases Nat.lt_or_ge k 103 with hk | hk
  · exact hk
  · rw [if_neg (by omega), if_neg (by omega), if_neg (by omega), if_neg (by omega), if_neg (by omega), if_neg (by omega), if_neg (by omega), if_neg (by omega), if_neg (by omega), if_neg (by omega), if_neg (by omega), if_neg (by omega), if_neg (by omega), if_neg (by omega), if_neg (by omega), if_neg (by omega), if_neg (by omega), if_neg (by omega), if_neg (by omega), if_neg (by omega), if_neg (by omega), if_neg (by omega), if_neg (by omega), if_neg (by omega), if_neg (by omega), if_neg (by omega)] at h
    exact absurd h (by decide)
theorem okd_alen {k : Nat} (h : okd k < 9) : k < 103 ∧ ¬ 0 < alen k ∧ ¬ k = 84 ∧ ¬ k = 64 ∧ ¬ k = 65 ∧ ¬ k = 66 ∧ ¬ k = 73 := by
  have hk : k < 40 ∨ (40 ≤ k ∧ k < 48) ∨ (53 ≤ k ∧ k < 58) ∨ k = 63 ∨ k = 67 ∨ k = 69 ∨ k = 72 ∨ k = 76 := by
    unfold okd at h
    apply Classical.byContradiction
    intro hc
    rw [if_neg (by omega), if_neg (by omega), if_neg (by omega), if_neg (by omega), if_neg (by omega), if_neg (by omega), if_neg (by omega), if_neg (by omega), if_neg (by omega)] at h
    omega
  refine ⟨by omega, ?_, by omega, by omega, by omega, by omega, by omega⟩
  unfold alen
  rw [if_neg (by omega), if_neg (by omega), if_neg (by omega), if_neg (by omega), if_neg (by omega), if_neg (by omega), if_neg (by omega), if_neg (by omega), if_neg (by omega), if_neg (by omega), if_neg (by omega), if_neg (by omega), if_neg (by omega), if_neg (by omega), if_neg (by omega), if_neg (by omega), if_neg (by omega), if_neg (by omega), if_neg (by omega), if_neg (by omega), if_neg (by omega), if_neg (by omega), if_neg (by omega), if_neg (by omega), if_neg (by omega), if_neg (by omega)]
  decide
theorem cel_obj {V : VX} {k : Nat} {r : Nat → Int} {c : Nat} (h : okd k = c) (hc : c < 9) : celR V k r = .inr (c, obF V c k r) := by
  subst h
  obtain ⟨-, h1, h2, h3, h4, h5, h6⟩ := okd_alen hc
  unfold celR
  rw [if_neg h1, if_neg h2, if_neg h3, if_neg h4, if_neg h5, if_neg h6]
theorem okd_part {k : Nat} (h : k < 40) : okd k = 4 := by unfold okd; rw [if_pos h]
theorem okd_bed {k : Nat} (h : k < 3) : okd (40 + k) = 0 := by unfold okd; rw [if_neg (by omega), if_pos (by omega)]
theorem okd_pile {k : Nat} (h : k < 5) : okd (43 + k) = 5 := by unfold okd; rw [if_neg (by omega), if_neg (by omega), if_pos (by omega)]
theorem okd_dpile {k : Nat} (h : k < 5) : okd (53 + k) = 5 := by unfold okd; rw [if_neg (by omega), if_neg (by omega), if_neg (by omega), if_pos (by omega)]
theorem alen_pile {k : Nat} (h : k < 5) : alen (43 + k + 5) = 4 := by unfold alen; rw [if_pos (by omega)]
theorem alen_dpile {k : Nat} (h : k < 5) : alen (53 + k + 5) = 4 := by unfold alen; rw [if_neg (by omega), if_pos (by omega)]
/-! the ints -/
theorem tI {z : Int} (h : in32 z) : (Int32.ofInt z).toInt = z := Int32.toInt_ofInt_of_le h.1 (by have := h.2; omega)
theorem iT (x : Int32) : Int32.ofInt x.toInt = x := Int32.ofInt_toInt x
theorem iR (x : Int32) : in32 x.toInt := ⟨Int32.minValue_le_toInt x, Int32.toInt_le x⟩
theorem i_le {a b : Int} (ha : in32 a) (hb : in32 b) : Int32.ofInt a ≤ Int32.ofInt b ↔ a ≤ b := by rw [Int32.le_iff_toInt_le, tI ha, tI hb]
theorem i_lt {a b : Int} (ha : in32 a) (hb : in32 b) : Int32.ofInt a < Int32.ofInt b ↔ a < b := by rw [Int32.lt_iff_toInt_lt, tI ha, tI hb]
theorem i_eq {a b : Int} (ha : in32 a) (hb : in32 b) : Int32.ofInt a = Int32.ofInt b ↔ a = b := ⟨fun h => by have := congrArg Int32.toInt h; rwa [tI ha, tI hb] at this, fun h => by rw [h]⟩
theorem i_0 : (0 : Int32) = Int32.ofInt 0 := rfl
theorem in0 : in32 0 := by constructor <;> decide
theorem i_cl {a : Int} (ha : in32 a) (h0 : 0 ≤ a) : (Int32.ofInt a).toNatClampNeg = a.toNat := by
  show (Int32.ofInt a).toInt.toNat = a.toNat
  rw [tI ha]
theorem i_in {a : Int} {n : Nat} (h0 : 0 ≤ a) (h : a < (n : Int)) (hn : n ≤ 4096) : vp_in (Int32.ofInt a) n := by
  have ha : in32 a := ⟨by omega, by omega⟩
  refine vp_in_iff.mpr ?_
  rw [tI ha]
  exact ⟨h0, h⟩

/-! the frame's variables, by place; none: nothing is known -/
def LAs (L : List (Option Value)) : List (Nat × Value) := (List.range L.length).filterMap (fun j => (L.getD j none).map (fun v => (j, v)))
def LV (ls : Array Slot) (L : List (Option Value)) : Prop := lv_has ls L.length (LAs L)
theorem LAs_mem {L : List (Option Value)} {j : Nat} {v : Value} : (j, v) ∈ LAs L ↔ L[j]? = some (some v) := by
  unfold LAs
  simp only [List.mem_filterMap, List.mem_range, Option.map_eq_some_iff, Prod.mk.injEq]
  constructor
  · rintro ⟨a, ha, w, hw, rfl, rfl⟩
    rw [List.getD_eq_getElem?_getD, List.getElem?_eq_getElem ha] at hw
    rw [List.getElem?_eq_getElem ha]
    simpa using hw
  · intro h
    obtain ⟨hj, he⟩ := List.getElem?_eq_some_iff.mp h
    refine ⟨j, hj, v, ?_, rfl, rfl⟩
    rw [List.getD_eq_getElem?_getD, h]
    rfl
theorem LV.at {ls : Array Slot} {L : List (Option Value)} (h : LV ls L) {i : Nat} {v : Value} (hi : L[i]? = some (some v)) : ls[i]? = some (.val v) := h.2.2 (i, v) (LAs_mem.mpr hi)
theorem LV.size {ls : Array Slot} {L : List (Option Value)} (h : LV ls L) : ls.size = L.length := h.1
def ckV (o : Option Value) : Prop := ∀ v, o = some v → v.category ≠ 2
theorem ck_n : ckV none := fun v h => by cases h
theorem ck_i (z : Int) : ckV (some (vi z)) := fun v h => by cases h; show (1 : Nat) ≠ 2; decide
theorem ck_r (V : VX) (k : Nat) : ckV (some (vr V k)) := fun v h => by cases h; show (1 : Nat) ≠ 2; decide
theorem ck_rf (V : VX) (k : Option Nat) : ckV (some (vrf V k)) := fun v h => by cases h; cases k <;> (show (1 : Nat) ≠ 2; decide)
theorem ck_0 : ckV (some .null) := fun v h => by cases h; decide
theorem LV.set {ls' : Array Slot} {L : List (Option Value)} {i : Nat} {x : Value} (hi : i < L.length) (h : lv_has ls' L.length ((i, x) :: (LAs L).filter (fun q => !(q.1 == i) && !(q.1 + 1 == i && q.2.category == 2)))) (hc : ∀ j v, L[j]? = some (some v) → j + 1 = i → v.category ≠ 2) : LV ls' (L.set i (some x)) := by
  refine ⟨by rw [List.length_set]; exact h.1, h.2.1, fun q hq => ?_⟩
  obtain ⟨j, v⟩ := q
  have hj := LAs_mem.mp hq
  by_cases hji : j = i
  · subst hji
    rw [List.getElem?_set_self hi] at hj
    cases hj
    exact h.2.2 _ List.mem_cons_self
  · rw [List.getElem?_set_ne (fun e => hji e.symm)] at hj
    refine h.2.2 _ (List.mem_cons_of_mem _ (List.mem_filter.mpr ⟨LAs_mem.mpr hj, ?_⟩))
    simp only [Bool.and_eq_true, Bool.not_eq_true', beq_eq_false_iff_ne, ne_eq, Bool.and_eq_false_iff]
    refine ⟨hji, ?_⟩
    by_cases hj1 : j + 1 = i
    · exact Or.inr (hc j v hj hj1)
    · exact Or.inl hj1
/-! where a walk stands -/
abbrev EX : Type := (Program × Launch × Env × Room) × (State × MethodId × Array Value) × (List Frame × Method × Code) × (Nat × Nat) × (Nat → Prop) × (State → Prop)
def rmL (k : Nat) : Room := { frames := k, cells := 0, slots := 0, locals := 40 * k }
def G (V : VX) (E : EX) (μ : Mem) (pc : Nat) (L : List (Option Value)) (st : List Value) : Prop :=
  ∀ (H : Heap) (locs : List Loc) (ls : Array Slot), va_P V.1 vwCl (wld V μ) H → va_S E.2.2.2.2.1 E.2.1.1.heap H locs → LV ls L →
    W E.1.1 E.1.2.1 E.1.2.2.1 E.1.2.2.2 E.2.1.1 E.2.1.2.1 E.2.1.2.2 E.2.2.1.1 E.2.2.1.2.1 E.2.2.1.2.2 H locs E.2.2.2.1.1 E.2.2.2.1.2 E.2.2.2.2.2 (F0 E.2.1.2.1 pc ls st)
def OkX (V : VX) (E : EX) (own : String) (cc : ByteArray) (n lvl : Nat) : Prop :=
  E.1.1.tables.exec = Jvm.exec ∧ E.2.2.1.2.2.code = cc ∧ E.2.2.1.2.2.maxLocals = n ∧ E.2.1.1.vm.findClass own = some E.2.1.2.1.cls ∧
  (∀ w ∈ tbl, w.before E.2.1.2.2 E.2.1.1 = true) ∧ (∀ w ∈ nws, va_Nw w E.2.1.1) ∧ va_K V.1 vwCl (tysV V) E.2.1.1 ∧ InjV V ∧ (∀ k, k < 103 → E.2.2.2.2.1 (V.2.1 k)) ∧
  lvl ≤ E.1.2.2.2.frames ∧ 40 * lvl ≤ E.1.2.2.2.locals ∧ E.2.2.2.1.1 ≤ E.1.2.2.2.cells ∧ E.2.2.2.1.2 ≤ E.1.2.2.2.slots
def PUw (V : VX) (μ : Mem) (U : State) : Prop := va_P V.1 vwCl (wld V μ) U.heap ∧ va_K V.1 vwCl (tysV V) U ∧ ∀ w ∈ nws, va_Nw w U
def QUw (V : VX) (post : Option Value → Mem → Prop) : Array Value → State → Outcome → State → Prop := fun _ st oc t =>
  (∃ (r : Option Value) (μ' : Mem), oc = .returned r ∧ post r μ' ∧ va_P V.1 vwCl (wld V μ') t.heap) ∧ va_F (AadV V) st t
def RtX (V : VX) (E : EX) (ret : Option FieldType) (post : Option Value → Mem → Prop) : Prop :=
  E.2.2.1.2.1.sig.returnType = ret ∧ E.2.2.1.2.1.locks = false ∧ E.2.2.2.1.1 = 0 ∧ E.2.2.2.1.2 = 0 ∧ E.2.2.2.2.1 = AadV V ∧ E.2.2.2.2.2 = MQ E.2.2.1.1 (QUw V post) E.2.1.2.2 E.2.1.1 0 0 (AadV V)
/-- a method's contract: from the memory μ, with these arguments, it returns, and what post says holds -/
def Ct (l : Launch) (y : MethodName) (cc : ByteArray) (n : Nat) (ret : Option FieldType) (lvl : Nat) (V : VX) (as : List Value) (μ : Mem) (post : Option Value → Mem → Prop) : Prop :=
  Met l y (Cond.code y cc n ret :: tbl) (rmL lvl) (va_Pc as (PUw V μ)) (QUw V post) 0 0 (AadV V)
def entL : List Value → List (Option Value)
  | [] => []
  | v :: vs => if v.category = 2 then some v :: none :: entL vs else some v :: entL vs
def entN (n : Nat) (as : List Value) : List (Option Value) := entL as ++ List.replicate (n - (entL as).length) none
theorem entL_len (as : List Value) : (entL as).length = (lg_sl as).length := by
  induction as with
  | nil => rfl
  | cons v vs ih =>
    unfold entL lg_sl
    rw [List.flatMap_cons, List.length_append]
    by_cases hc : v.category = 2
    · rw [if_pos hc, if_pos hc]; simp only [List.length_cons, List.length_nil]; unfold lg_sl at ih; omega
    · rw [if_neg hc, if_neg hc]; simp only [List.length_cons, List.length_nil]; unfold lg_sl at ih; omega
theorem entL_at (as : List Value) : ∀ (b j : Nat) (v : Value), (entL as)[j]? = some (some v) → (b + j, v) ∈ lv_args b as := by
  induction as with
  | nil => intro b j v h; simp [entL] at h
  | cons w ws ih =>
    intro b j v h
    unfold entL at h
    unfold lv_args
    by_cases hc : w.category = 2
    · rw [if_pos hc] at h ⊢
      match j, h with
      | 0, h => simp at h; subst h; exact List.mem_cons_self
      | 1, h => simp at h
      | j + 2, h =>
        have := ih (b + 2) j v (by simpa using h)
        rw [show b + (j + 2) = b + 2 + j by omega]
        exact List.mem_cons_of_mem _ this
    · rw [if_neg hc] at h ⊢
      match j, h with
      | 0, h => simp at h; subst h; exact List.mem_cons_self
      | j + 1, h =>
        have := ih (b + 1) j v (by simpa using h)
        rw [show b + (j + 1) = b + 1 + j by omega]
        exact List.mem_cons_of_mem _ this
theorem LV_entry (as : List Value) (n : Nat) (h : (entL as).length ≤ n) : LV ((lg_sl as ++ List.replicate (n - (lg_sl as).length) Slot.unset).toArray) (entN n as) := by
  have hlen : (entN n as).length = n := by unfold entN; rw [List.length_append, List.length_replicate]; omega
  have h0 := lv_entry as (n := n) (by rw [← entL_len]; exact h)
  refine ⟨by rw [hlen]; exact h0.1, h0.2.1, fun q hq => ?_⟩
  obtain ⟨j, v⟩ := q
  have hj := LAs_mem.mp hq
  refine h0.2.2 _ ?_
  unfold entN at hj
  by_cases hlt : j < (entL as).length
  · rw [List.getElem?_append_left hlt] at hj
    have := entL_at as 0 j v hj
    simpa using this
  · rw [List.getElem?_append_right (by omega)] at hj
    have := List.eq_of_mem_replicate (List.mem_of_getElem? hj)
    cases this
theorem vi_cat (z : Int) : (vi z).category = 1 := rfl
theorem vr_cat (V : VX) (k : Nat) : (vr V k).category = 1 := rfl

set_option maxHeartbeats 2000000 in
/-- a contract out of a walk from the method's entry -/
theorem Ct_of {l : Launch} {y : MethodName} {cc : ByteArray} {n : Nat} {ret : Option FieldType} {lvl : Nat} {V : VX} {as : List Value} {μ : Mem} {post : Option Value → Mem → Prop} (hy : plainName y.cls = true) (hI : InjV V) (hn : (entL as).length ≤ n)
    (body : ∀ E : EX, E.1.2.1 = l → OkX V E y.cls cc n lvl → RtX V E ret post → G V E μ 0 (entN n as) []) : Ct l y cc n ret lvl V as μ post := by
  refine Met.ofW (cc := cc) (maxL := n) (ret := ret) hy rfl ?_
  intro p e s m args below meth c s₁ B hml hv
  obtain ⟨rfl, hP, hK, hN⟩ := hv
  have hts := atoms_spec (ws := Cond.code y cc n ret :: tbl) B.pre
  have hown : s.vm.findClass y.cls = some m.cls := findClass_of_methodNamed B.named
  rw [lg_entry_eq]
  have h := body ((p, l, e, rmL lvl), (s, m, as.toArray), (below, meth, c), (0, 0), AadV V, MQ below (QUw V post) as.toArray s 0 0 (AadV V)) rfl
    ⟨B.exec, B.bytes, hml, hown, fun w hw => hts w (List.mem_cons_of_mem _ hw), hN, hK, hI, fun k hk => ⟨k, hk, rfl⟩, Nat.le_refl _, Nat.le_refl _, Nat.le_refl _, Nat.le_refl _⟩
    ⟨B.returns, B.notSynchronized, rfl, rfl, rfl, rfl⟩
  exact h s.heap [] _ hP va_S.rf (LV_entry as n hn)
section GR
variable {V : VX} {E : EX} {own : String} {cc : ByteArray} {n lvl pc : Nat} {μ : Mem} {L : List (Option Value)} {st : List Value}
theorem g_eq {pc' : Nat} {L' : List (Option Value)} {st' : List Value} {μ' : Mem} (h1 : μ = μ') (h2 : pc = pc') (h3 : L = L') (h4 : st = st') (k : G V E μ' pc' L' st') : G V E μ pc L st := by subst h1; subst h2; subst h3; subst h4; exact k
theorem g_iadd (hX : OkX V E own cc n lvl) (d : decode cc pc = .ok (.iadd, 1)) {a b : Int} (k : G V E μ (pc + 1) L (vi (a + b) :: st)) : G V E μ pc L (vi b :: vi a :: st) := by
  intro H locs ls hP hS hl
  have h := k H locs ls hP hS hl
  refine lv_iadd hX.1 hX.2.1 d ?_
  rw [← Int32.ofInt_add]; exact h
theorem g_isub (hX : OkX V E own cc n lvl) (d : decode cc pc = .ok (.isub, 1)) {a b : Int} (k : G V E μ (pc + 1) L (vi (a - b) :: st)) : G V E μ pc L (vi b :: vi a :: st) := by
  intro H locs ls hP hS hl
  have h := k H locs ls hP hS hl
  refine lv_isub hX.1 hX.2.1 d ?_
  rw [← Int32.ofInt_sub]; exact h
theorem g_imul (hX : OkX V E own cc n lvl) (d : decode cc pc = .ok (.imul, 1)) {a b : Int} (k : G V E μ (pc + 1) L (vi (a * b) :: st)) : G V E μ pc L (vi b :: vi a :: st) := by
  intro H locs ls hP hS hl
  have h := k H locs ls hP hS hl
  refine lv_imul hX.1 hX.2.1 d ?_
  rw [← Int32.ofInt_mul]; exact h
theorem g_iand (hX : OkX V E own cc n lvl) (d : decode cc pc = .ok (.iand, 1)) {a b : Int} (k : G V E μ (pc + 1) L (vi ((Int32.ofInt a &&& Int32.ofInt b).toInt) :: st)) : G V E μ pc L (vi b :: vi a :: st) := by
  intro H locs ls hP hS hl
  have h := k H locs ls hP hS hl
  refine lv_iand hX.1 hX.2.1 d ?_
  rw [← iT (Int32.ofInt a &&& Int32.ofInt b)]; exact h
theorem g_ior (hX : OkX V E own cc n lvl) (d : decode cc pc = .ok (.ior, 1)) {a b : Int} (k : G V E μ (pc + 1) L (vi ((Int32.ofInt a ||| Int32.ofInt b).toInt) :: st)) : G V E μ pc L (vi b :: vi a :: st) := by
  intro H locs ls hP hS hl
  have h := k H locs ls hP hS hl
  refine lv_ior hX.1 hX.2.1 d ?_
  rw [← iT (Int32.ofInt a ||| Int32.ofInt b)]; exact h
theorem g_ixor (hX : OkX V E own cc n lvl) (d : decode cc pc = .ok (.ixor, 1)) {a b : Int} (k : G V E μ (pc + 1) L (vi ((Int32.ofInt a ^^^ Int32.ofInt b).toInt) :: st)) : G V E μ pc L (vi b :: vi a :: st) := by
  intro H locs ls hP hS hl
  have h := k H locs ls hP hS hl
  refine lv_ixor hX.1 hX.2.1 d ?_
  rw [← iT (Int32.ofInt a ^^^ Int32.ofInt b)]; exact h
theorem g_ishl (hX : OkX V E own cc n lvl) (d : decode cc pc = .ok (.ishl, 1)) {a b : Int} (k : G V E μ (pc + 1) L (vi ((Int32.ofInt a <<< (Int32.ofInt b &&& 31)).toInt) :: st)) : G V E μ pc L (vi b :: vi a :: st) := by
  intro H locs ls hP hS hl
  have h := k H locs ls hP hS hl
  refine lv_ishl hX.1 hX.2.1 d ?_
  rw [← iT (Int32.ofInt a <<< (Int32.ofInt b &&& 31))]; exact h
theorem g_ishr (hX : OkX V E own cc n lvl) (d : decode cc pc = .ok (.ishr, 1)) {a b : Int} (k : G V E μ (pc + 1) L (vi ((Int32.ofInt a >>> (Int32.ofInt b &&& 31)).toInt) :: st)) : G V E μ pc L (vi b :: vi a :: st) := by
  intro H locs ls hP hS hl
  have h := k H locs ls hP hS hl
  refine lv_ishr hX.1 hX.2.1 d ?_
  rw [← iT (Int32.ofInt a >>> (Int32.ofInt b &&& 31))]; exact h
theorem g_iushr (hX : OkX V E own cc n lvl) (d : decode cc pc = .ok (.iushr, 1)) {a b c : Int} (hv : ((Int32.ofInt a).toUInt32 >>> ((Int32.ofInt b).toUInt32 &&& Int32.toUInt32 31)).toInt32 = Int32.ofInt c) (k : G V E μ (pc + 1) L (vi c :: st)) : G V E μ pc L (vi b :: vi a :: st) := by
  intro H locs ls hP hS hl
  exact lv_iushr hX.1 hX.2.1 d hv (k H locs ls hP hS hl)
theorem g_ineg (hX : OkX V E own cc n lvl) (d : decode cc pc = .ok (.ineg, 1)) {a : Int} (k : G V E μ (pc + 1) L (vi (-a) :: st)) : G V E μ pc L (vi a :: st) := by
  intro H locs ls hP hS hl
  have h := k H locs ls hP hS hl
  refine lv_ineg hX.1 hX.2.1 d ?_
  rw [← Int32.ofInt_neg]; exact h
theorem g_idiv (hX : OkX V E own cc n lvl) (d : decode cc pc = .ok (.idiv, 1)) {a b : Int} (ha : in32 a) (hb : in32 b) (ha0 : 0 ≤ a) (hb0 : 0 < b) (k : G V E μ (pc + 1) L (vi (a / b) :: st)) : G V E μ pc L (vi b :: vi a :: st) := by
  intro H locs ls hP hS hl
  have h := k H locs ls hP hS hl
  refine lv_idiv hX.1 hX.2.1 d (fun e => ?_) ?_
  · have := congrArg Int32.toInt e
    rw [tI hb] at this
    have h0 : (0 : Int32).toInt = 0 := rfl
    omega
  · have e : Int32.ofInt a / Int32.ofInt b = Int32.ofInt (a / b) := by
      apply Int32.toInt_inj.mp
      have hq1 : 0 ≤ a / b := Int.ediv_nonneg ha0 (by omega)
      have hq2 : a / b ≤ a := Int.ediv_le_self b ha0
      have hq : in32 (a / b) := ⟨by have := ha.1; omega, by have := ha.2; omega⟩
      rw [Int32.toInt_div, tI ha, tI hb, tI hq, Int.tdiv_eq_ediv_of_nonneg ha0]
      exact Int.bmod_eq_of_le (by have := hq.1; omega) (by have := hq.2; omega)
    rw [e]; exact h
theorem g_iconst (hX : OkX V E own cc n lvl) {z : Int} (d : decode cc pc = .ok (.iconst z, 1))  (k : G V E μ (pc + 1) L (vi z :: st)) : G V E μ pc L st := by
  intro H locs ls hP hS hl
  exact lv_iconst hX.1 hX.2.1 d rfl (k H locs ls hP hS hl)
theorem g_bipush (hX : OkX V E own cc n lvl) {z : Int} (d : decode cc pc = .ok (.bipush z, 2)) (hv : (Int8.ofInt z).toInt32 = Int32.ofInt z) (k : G V E μ (pc + 2) L (vi z :: st)) : G V E μ pc L st := by
  intro H locs ls hP hS hl
  exact lv_bipush hX.1 hX.2.1 d hv (k H locs ls hP hS hl)
theorem g_sipush (hX : OkX V E own cc n lvl) {z : Int} (d : decode cc pc = .ok (.sipush z, 3)) (hv : (Int16.ofInt z).toInt32 = Int32.ofInt z) (k : G V E μ (pc + 3) L (vi z :: st)) : G V E μ pc L st := by
  intro H locs ls hP hS hl
  exact lv_sipush hX.1 hX.2.1 d hv (k H locs ls hP hS hl)
theorem g_ldc (hX : OkX V E own cc n lvl) {z : Int} {ix : Nat} (d : decode cc pc = .ok (.ldc ix, 2)) (hw : Jvm.Cond.constant own ix (Int32.ofInt z) ∈ tbl) (k : G V E μ (pc + 2) L (vi z :: st)) : G V E μ pc L st := by
  intro H locs ls hP hS hl
  exact lv_ldc hX.1 hX.2.1 hX.2.2.2.1 (hX.2.2.2.2.1 _ hw) d (k H locs ls hP hS hl)
theorem g_ldc2 (hX : OkX V E own cc n lvl) {z : Int} {ix : Nat} (d : decode cc pc = .ok (.ldc2_w ix, 3)) (hw : Jvm.Cond.constantLong own ix (Int64.ofInt z) ∈ tbl) (k : G V E μ (pc + 3) L (vl z :: st)) : G V E μ pc L st := by
  intro H locs ls hP hS hl
  exact lv_ldc2 hX.1 hX.2.1 hX.2.2.2.1 (hX.2.2.2.2.1 _ hw) d (k H locs ls hP hS hl)
theorem g_lconst (hX : OkX V E own cc n lvl) {j : Fin 2} (d : decode cc pc = .ok (.lconst j, 1)) {z : Int} (hz : (j : Nat) = z) (k : G V E μ (pc + 1) L (vl z :: st)) : G V E μ pc L st := by
  intro H locs ls hP hS hl
  refine lv_lconst hX.1 hX.2.1 d (v := Int64.ofInt z) ?_ (k H locs ls hP hS hl)
  rw [← hz, Int64.ofInt_eq_ofNat]
theorem g_null (hX : OkX V E own cc n lvl) (d : decode cc pc = .ok (.aconst_null, 1))  (k : G V E μ (pc + 1) L (.null :: st)) : G V E μ pc L st := by
  intro H locs ls hP hS hl
  exact lv_null hX.1 hX.2.1 d (k H locs ls hP hS hl)
theorem g_iload (hX : OkX V E own cc n lvl) {i : Nat} (d : decode cc pc = .ok (.iload i, 2)) {a : Int} (hi : L[i]? = some (some (vi a))) (k : G V E μ (pc + 2) L (vi a :: st)) : G V E μ pc L st := by
  intro H locs ls hP hS hl
  exact lv_iload hX.1 hX.2.1 d (hl.at hi) (k H locs ls hP hS hl)
theorem g_iload_n (hX : OkX V E own cc n lvl) {i : Fin 4} (d : decode cc pc = .ok (.iload_n i, 1)) {a : Int} (hi : L[(i : Nat)]? = some (some (vi a))) (k : G V E μ (pc + 1) L (vi a :: st)) : G V E μ pc L st := by
  intro H locs ls hP hS hl
  exact lv_iload_n hX.1 hX.2.1 d rfl (hl.at hi) (k H locs ls hP hS hl)
theorem g_lload (hX : OkX V E own cc n lvl) {i : Nat} (d : decode cc pc = .ok (.lload i, 2)) {a : Int} (hi : L[i]? = some (some (vl a))) (k : G V E μ (pc + 2) L (vl a :: st)) : G V E μ pc L st := by
  intro H locs ls hP hS hl
  exact lv_lload hX.1 hX.2.1 d (hl.at hi) (k H locs ls hP hS hl)
theorem g_lload_n (hX : OkX V E own cc n lvl) {i : Fin 4} (d : decode cc pc = .ok (.lload_n i, 1)) {a : Int} (hi : L[(i : Nat)]? = some (some (vl a))) (k : G V E μ (pc + 1) L (vl a :: st)) : G V E μ pc L st := by
  intro H locs ls hP hS hl
  exact lv_lload_n hX.1 hX.2.1 d rfl (hl.at hi) (k H locs ls hP hS hl)
theorem g_aload (hX : OkX V E own cc n lvl) {i : Nat} (d : decode cc pc = .ok (.aload i, 2)) {a : Nat} (hi : L[i]? = some (some (vr V a))) (k : G V E μ (pc + 2) L (vr V a :: st)) : G V E μ pc L st := by
  intro H locs ls hP hS hl
  exact lv_aload hX.1 hX.2.1 d (hl.at hi) (k H locs ls hP hS hl)
theorem g_aload_n (hX : OkX V E own cc n lvl) {i : Fin 4} (d : decode cc pc = .ok (.aload_n i, 1)) {a : Nat} (hi : L[(i : Nat)]? = some (some (vr V a))) (k : G V E μ (pc + 1) L (vr V a :: st)) : G V E μ pc L st := by
  intro H locs ls hP hS hl
  exact lv_aload_n hX.1 hX.2.1 d rfl (hl.at hi) (k H locs ls hP hS hl)
theorem g_aloadN (hX : OkX V E own cc n lvl) {i : Nat} (d : decode cc pc = .ok (.aload i, 2)) (hi : L[i]? = some (some .null)) (k : G V E μ (pc + 2) L (.null :: st)) : G V E μ pc L st := by
  intro H locs ls hP hS hl
  exact lv_aloadN hX.1 hX.2.1 d (hl.at hi) (k H locs ls hP hS hl)
theorem g_aload_nN (hX : OkX V E own cc n lvl) {i : Fin 4} (d : decode cc pc = .ok (.aload_n i, 1)) (hi : L[(i : Nat)]? = some (some .null)) (k : G V E μ (pc + 1) L (.null :: st)) : G V E μ pc L st := by
  intro H locs ls hP hS hl
  exact lv_aload_nN hX.1 hX.2.1 d rfl (hl.at hi) (k H locs ls hP hS hl)
theorem g_istore (hX : OkX V E own cc n lvl) {i : Nat} (d : decode cc pc = .ok (.istore i, 2)) {a : Int} {L' : List (Option Value)} (hn : i < L.length) (hL : L.set i (some (vi a)) = L') (hc : ∀ j v, L[j]? = some (some v) → j + 1 = i → v.category ≠ 2) (k : G V E μ (pc + 2) L' st) : G V E μ pc L ((vi a) :: st) := by
  intro H locs ls hP hS hl
  subst hL
  exact lv_istore hX.1 hX.2.1 d hl hn rfl (fun ls' hl' => k H locs ls' hP hS (LV.set hn hl' hc))
theorem g_istore_n (hX : OkX V E own cc n lvl) {i : Fin 4} (d : decode cc pc = .ok (.istore_n i, 1)) {a : Int} {L' : List (Option Value)} (hn : (i : Nat) < L.length) (hL : L.set (i : Nat) (some (vi a)) = L') (hc : ∀ j v, L[j]? = some (some v) → j + 1 = (i : Nat) → v.category ≠ 2) (k : G V E μ (pc + 1) L' st) : G V E μ pc L ((vi a) :: st) := by
  intro H locs ls hP hS hl
  subst hL
  exact lv_istore_n hX.1 hX.2.1 d rfl hl hn rfl (fun ls' hl' => k H locs ls' hP hS (LV.set hn hl' hc))
theorem g_astore (hX : OkX V E own cc n lvl) {i : Nat} (d : decode cc pc = .ok (.astore i, 2)) {a : Nat} {L' : List (Option Value)} (hn : i < L.length) (hL : L.set i (some (vr V a)) = L') (hc : ∀ j v, L[j]? = some (some v) → j + 1 = i → v.category ≠ 2) (k : G V E μ (pc + 2) L' st) : G V E μ pc L ((vr V a) :: st) := by
  intro H locs ls hP hS hl
  subst hL
  exact lv_astore hX.1 hX.2.1 d hl hn rfl (fun ls' hl' => k H locs ls' hP hS (LV.set hn hl' hc))
theorem g_astore_n (hX : OkX V E own cc n lvl) {i : Fin 4} (d : decode cc pc = .ok (.astore_n i, 1)) {a : Nat} {L' : List (Option Value)} (hn : (i : Nat) < L.length) (hL : L.set (i : Nat) (some (vr V a)) = L') (hc : ∀ j v, L[j]? = some (some v) → j + 1 = (i : Nat) → v.category ≠ 2) (k : G V E μ (pc + 1) L' st) : G V E μ pc L ((vr V a) :: st) := by
  intro H locs ls hP hS hl
  subst hL
  exact lv_astore_n hX.1 hX.2.1 d rfl hl hn rfl (fun ls' hl' => k H locs ls' hP hS (LV.set hn hl' hc))
theorem g_astoreN (hX : OkX V E own cc n lvl) {i : Nat} (d : decode cc pc = .ok (.astore i, 2))  {L' : List (Option Value)} (hn : i < L.length) (hL : L.set i (some .null) = L') (hc : ∀ j v, L[j]? = some (some v) → j + 1 = i → v.category ≠ 2) (k : G V E μ (pc + 2) L' st) : G V E μ pc L (.null :: st) := by
  intro H locs ls hP hS hl
  subst hL
  exact lv_astoreN hX.1 hX.2.1 d hl hn rfl (fun ls' hl' => k H locs ls' hP hS (LV.set hn hl' hc))
theorem g_astore_nN (hX : OkX V E own cc n lvl) {i : Fin 4} (d : decode cc pc = .ok (.astore_n i, 1))  {L' : List (Option Value)} (hn : (i : Nat) < L.length) (hL : L.set (i : Nat) (some .null) = L') (hc : ∀ j v, L[j]? = some (some v) → j + 1 = (i : Nat) → v.category ≠ 2) (k : G V E μ (pc + 1) L' st) : G V E μ pc L (.null :: st) := by
  intro H locs ls hP hS hl
  subst hL
  exact lv_astore_nN hX.1 hX.2.1 d rfl hl hn rfl (fun ls' hl' => k H locs ls' hP hS (LV.set hn hl' hc))
theorem g_iinc (hX : OkX V E own cc n lvl) {i : Nat} {z : Int} (d : decode cc pc = .ok (.iinc i z, 3)) {a : Int} {L' : List (Option Value)} (hi : L[i]? = some (some (vi a))) (hL : L.set i (some (vi (a + z))) = L') (hc : ∀ j v, L[j]? = some (some v) → j + 1 = i → v.category ≠ 2) (k : G V E μ (pc + 3) L' st) : G V E μ pc L st := by
  intro H locs ls hP hS hl
  subst hL
  have hn : i < L.length := (List.getElem?_eq_some_iff.mp hi).1
  obtain ⟨q, hq⟩ := List.getElem?_of_mem (LAs_mem.mpr hi)
  exact lv_iinc (v := Int32.ofInt (a + z)) hX.1 hX.2.1 d hl hq (by rw [← Int32.ofInt_add]) hn rfl (fun ls' hl' => k H locs ls' hP hS (LV.set hn hl' hc))
theorem g_dup (hX : OkX V E own cc n lvl) (d : decode cc pc = .ok (.dup, 1)) {v : Value} (hv : v.category = 1) (k : G V E μ (pc + 1) L (v :: v :: st)) : G V E μ pc L (v :: st) := by
  intro H locs ls hP hS hl
  exact lv_dup hX.1 hX.2.1 d hv (k H locs ls hP hS hl)
theorem g_dup2 (hX : OkX V E own cc n lvl) (d : decode cc pc = .ok (.dup2, 1)) {v w : Value} (hv : v.category = 1) (hw : w.category = 1) (k : G V E μ (pc + 1) L (v :: w :: v :: w :: st)) : G V E μ pc L (v :: w :: st) := by
  intro H locs ls hP hS hl
  exact lv_dup2_11 hX.1 hX.2.1 d hv hw (k H locs ls hP hS hl)
theorem g_pop (hX : OkX V E own cc n lvl) (d : decode cc pc = .ok (.pop, 1)) {v : Value} (hv : v.category = 1) (k : G V E μ (pc + 1) L st) : G V E μ pc L (v :: st) := by
  intro H locs ls hP hS hl
  exact lv_pop hX.1 hX.2.1 d hv (k H locs ls hP hS hl)
theorem g_goto (hX : OkX V E own cc n lvl) {off : Int} {tgt : Nat} (d : decode cc pc = .ok (.goto off, 3)) (ht : (pc : Int) + off = (tgt : Int)) (k : G V E μ tgt L st) : G V E μ pc L st := by
  intro H locs ls hP hS hl
  exact lv_goto hX.1 hX.2.1 d ht (k H locs ls hP hS hl)
theorem g_icmp_lt (hX : OkX V E own cc n lvl) {off : Int} {tgt : Nat} (d : decode cc pc = .ok (.if_icmp .lt off, 3)) (ht : (pc : Int) + off = (tgt : Int)) {a b : Int} (ha : in32 a) (hb : in32 b) (kt : a < b → G V E μ tgt L st) (kf : ¬ a < b → G V E μ (pc + 3) L st) : G V E μ pc L (vi b :: vi a :: st) := by
  intro H locs ls hP hS hl
  exact lv_icmp_lt hX.1 hX.2.1 d ht (fun h => kt ((i_lt ha hb).mp h) H locs ls hP hS hl) (fun h => kf (fun q => h ((i_lt ha hb).mpr q)) H locs ls hP hS hl)
theorem g_icmp_le (hX : OkX V E own cc n lvl) {off : Int} {tgt : Nat} (d : decode cc pc = .ok (.if_icmp .le off, 3)) (ht : (pc : Int) + off = (tgt : Int)) {a b : Int} (ha : in32 a) (hb : in32 b) (kt : a ≤ b → G V E μ tgt L st) (kf : ¬ a ≤ b → G V E μ (pc + 3) L st) : G V E μ pc L (vi b :: vi a :: st) := by
  intro H locs ls hP hS hl
  exact lv_icmp_le hX.1 hX.2.1 d ht (fun h => kt ((i_le ha hb).mp h) H locs ls hP hS hl) (fun h => kf (fun q => h ((i_le ha hb).mpr q)) H locs ls hP hS hl)
theorem g_icmp_ge (hX : OkX V E own cc n lvl) {off : Int} {tgt : Nat} (d : decode cc pc = .ok (.if_icmp .ge off, 3)) (ht : (pc : Int) + off = (tgt : Int)) {a b : Int} (ha : in32 a) (hb : in32 b) (kt : b ≤ a → G V E μ tgt L st) (kf : ¬ b ≤ a → G V E μ (pc + 3) L st) : G V E μ pc L (vi b :: vi a :: st) := by
  intro H locs ls hP hS hl
  exact lv_icmp_ge hX.1 hX.2.1 d ht (fun h => kt ((i_le hb ha).mp h) H locs ls hP hS hl) (fun h => kf (fun q => h ((i_le hb ha).mpr q)) H locs ls hP hS hl)
theorem g_icmp_gt (hX : OkX V E own cc n lvl) {off : Int} {tgt : Nat} (d : decode cc pc = .ok (.if_icmp .gt off, 3)) (ht : (pc : Int) + off = (tgt : Int)) {a b : Int} (ha : in32 a) (hb : in32 b) (kt : b < a → G V E μ tgt L st) (kf : ¬ b < a → G V E μ (pc + 3) L st) : G V E μ pc L (vi b :: vi a :: st) := by
  intro H locs ls hP hS hl
  exact lv_icmp_gt hX.1 hX.2.1 d ht (fun h => kt ((i_lt hb ha).mp h) H locs ls hP hS hl) (fun h => kf (fun q => h ((i_lt hb ha).mpr q)) H locs ls hP hS hl)
theorem g_icmp_eq (hX : OkX V E own cc n lvl) {off : Int} {tgt : Nat} (d : decode cc pc = .ok (.if_icmp .eq off, 3)) (ht : (pc : Int) + off = (tgt : Int)) {a b : Int} (ha : in32 a) (hb : in32 b) (kt : a = b → G V E μ tgt L st) (kf : ¬ a = b → G V E μ (pc + 3) L st) : G V E μ pc L (vi b :: vi a :: st) := by
  intro H locs ls hP hS hl
  exact lv_icmp_eq hX.1 hX.2.1 d ht (fun h => kt ((i_eq ha hb).mp h) H locs ls hP hS hl) (fun h => kf (fun q => h ((i_eq ha hb).mpr q)) H locs ls hP hS hl)
theorem g_icmp_ne (hX : OkX V E own cc n lvl) {off : Int} {tgt : Nat} (d : decode cc pc = .ok (.if_icmp .ne off, 3)) (ht : (pc : Int) + off = (tgt : Int)) {a b : Int} (ha : in32 a) (hb : in32 b) (kt : ¬ a = b → G V E μ tgt L st) (kf : a = b → G V E μ (pc + 3) L st) : G V E μ pc L (vi b :: vi a :: st) := by
  intro H locs ls hP hS hl
  exact lv_icmp_ne hX.1 hX.2.1 d ht (fun h => kt (fun q => h ((i_eq ha hb).mpr q)) H locs ls hP hS hl) (fun h => kf ((i_eq ha hb).mp h) H locs ls hP hS hl)
theorem g_if_lt (hX : OkX V E own cc n lvl) {off : Int} {tgt : Nat} (d : decode cc pc = .ok (.ifCond .lt off, 3)) (ht : (pc : Int) + off = (tgt : Int)) {a : Int} (ha : in32 a) (kt : a < 0 → G V E μ tgt L st) (kf : ¬ a < 0 → G V E μ (pc + 3) L st) : G V E μ pc L (vi a :: st) := by
  intro H locs ls hP hS hl
  exact lv_if_lt hX.1 hX.2.1 d ht (fun h => kt ((i_lt ha in0).mp h) H locs ls hP hS hl) (fun h => kf (fun q => h ((i_lt ha in0).mpr q)) H locs ls hP hS hl)
theorem g_if_le (hX : OkX V E own cc n lvl) {off : Int} {tgt : Nat} (d : decode cc pc = .ok (.ifCond .le off, 3)) (ht : (pc : Int) + off = (tgt : Int)) {a : Int} (ha : in32 a) (kt : a ≤ 0 → G V E μ tgt L st) (kf : ¬ a ≤ 0 → G V E μ (pc + 3) L st) : G V E μ pc L (vi a :: st) := by
  intro H locs ls hP hS hl
  exact lv_if_le hX.1 hX.2.1 d ht (fun h => kt ((i_le ha in0).mp h) H locs ls hP hS hl) (fun h => kf (fun q => h ((i_le ha in0).mpr q)) H locs ls hP hS hl)
theorem g_if_ge (hX : OkX V E own cc n lvl) {off : Int} {tgt : Nat} (d : decode cc pc = .ok (.ifCond .ge off, 3)) (ht : (pc : Int) + off = (tgt : Int)) {a : Int} (ha : in32 a) (kt : 0 ≤ a → G V E μ tgt L st) (kf : ¬ 0 ≤ a → G V E μ (pc + 3) L st) : G V E μ pc L (vi a :: st) := by
  intro H locs ls hP hS hl
  exact lv_if_ge hX.1 hX.2.1 d ht (fun h => kt ((i_le in0 ha).mp h) H locs ls hP hS hl) (fun h => kf (fun q => h ((i_le in0 ha).mpr q)) H locs ls hP hS hl)
theorem g_if_gt (hX : OkX V E own cc n lvl) {off : Int} {tgt : Nat} (d : decode cc pc = .ok (.ifCond .gt off, 3)) (ht : (pc : Int) + off = (tgt : Int)) {a : Int} (ha : in32 a) (kt : 0 < a → G V E μ tgt L st) (kf : ¬ 0 < a → G V E μ (pc + 3) L st) : G V E μ pc L (vi a :: st) := by
  intro H locs ls hP hS hl
  exact lv_if_gt hX.1 hX.2.1 d ht (fun h => kt ((i_lt in0 ha).mp h) H locs ls hP hS hl) (fun h => kf (fun q => h ((i_lt in0 ha).mpr q)) H locs ls hP hS hl)
theorem g_if_eq (hX : OkX V E own cc n lvl) {off : Int} {tgt : Nat} (d : decode cc pc = .ok (.ifCond .eq off, 3)) (ht : (pc : Int) + off = (tgt : Int)) {a : Int} (ha : in32 a) (kt : a = 0 → G V E μ tgt L st) (kf : ¬ a = 0 → G V E μ (pc + 3) L st) : G V E μ pc L (vi a :: st) := by
  intro H locs ls hP hS hl
  exact lv_if_eq hX.1 hX.2.1 d ht (fun h => kt ((i_eq ha in0).mp h) H locs ls hP hS hl) (fun h => kf (fun q => h ((i_eq ha in0).mpr q)) H locs ls hP hS hl)
theorem g_if_ne (hX : OkX V E own cc n lvl) {off : Int} {tgt : Nat} (d : decode cc pc = .ok (.ifCond .ne off, 3)) (ht : (pc : Int) + off = (tgt : Int)) {a : Int} (ha : in32 a) (kt : ¬ a = 0 → G V E μ tgt L st) (kf : a = 0 → G V E μ (pc + 3) L st) : G V E μ pc L (vi a :: st) := by
  intro H locs ls hP hS hl
  exact lv_if_ne hX.1 hX.2.1 d ht (fun h => kt (fun q => h ((i_eq ha in0).mpr q)) H locs ls hP hS hl) (fun h => kf ((i_eq ha in0).mp h) H locs ls hP hS hl)
theorem g_ifnull (hX : OkX V E own cc n lvl) {off : Int} (d : decode cc pc = .ok (.ifnull off, 3)) {a : Nat} (k : G V E μ (pc + 3) L st) : G V E μ pc L (vr V a :: st) := by
  intro H locs ls hP hS hl
  exact lv_ifnull hX.1 hX.2.1 d (k H locs ls hP hS hl)
theorem g_ifnonnull (hX : OkX V E own cc n lvl) {off : Int} {tgt : Nat} (d : decode cc pc = .ok (.ifnonnull off, 3)) (ht : (pc : Int) + off = (tgt : Int)) {a : Nat} (k : G V E μ tgt L st) : G V E μ pc L (vr V a :: st) := by
  intro H locs ls hP hS hl
  exact lv_ifnonnull hX.1 hX.2.1 d ht (k H locs ls hP hS hl)
theorem g_ifnullN (hX : OkX V E own cc n lvl) {off : Int} {tgt : Nat} (d : decode cc pc = .ok (.ifnull off, 3)) (ht : (pc : Int) + off = (tgt : Int)) (k : G V E μ tgt L st) : G V E μ pc L (.null :: st) := by
  intro H locs ls hP hS hl
  exact lv_ifnullN hX.1 hX.2.1 d ht (k H locs ls hP hS hl)
theorem g_ifnonnullN (hX : OkX V E own cc n lvl) {off : Int} (d : decode cc pc = .ok (.ifnonnull off, 3))  (k : G V E μ (pc + 3) L st) : G V E μ pc L (.null :: st) := by
  intro H locs ls hP hS hl
  exact lv_ifnonnullN hX.1 hX.2.1 d (k H locs ls hP hS hl)
theorem g_acmp_ne (hX : OkX V E own cc n lvl) {off : Int} {tgt : Nat} (d : decode cc pc = .ok (.if_acmp .ne off, 3)) (ht : (pc : Int) + off = (tgt : Int)) {a b : Nat} (ha : a < 103) (hb : b < 103) (kt : ¬ a = b → G V E μ tgt L st) (kf : a = b → G V E μ (pc + 3) L st) : G V E μ pc L (vr V b :: vr V a :: st) := by
  intro H locs ls hP hS hl
  exact lv_acmp_ne (rx := some (V.2.1 a)) (ry := some (V.2.1 b)) hX.1 hX.2.1 d ht (fun h => kt (fun q => h (by rw [q])) H locs ls hP hS hl) (fun h => kf (hX.2.2.2.2.2.2.2.1 a b ha hb (Option.some.inj h)) H locs ls hP hS hl)
theorem g_acmp_eq (hX : OkX V E own cc n lvl) {off : Int} {tgt : Nat} (d : decode cc pc = .ok (.if_acmp .eq off, 3)) (ht : (pc : Int) + off = (tgt : Int)) {a b : Nat} (ha : a < 103) (hb : b < 103) (kt : a = b → G V E μ tgt L st) (kf : ¬ a = b → G V E μ (pc + 3) L st) : G V E μ pc L (vr V b :: vr V a :: st) := by
  intro H locs ls hP hS hl
  exact lv_acmp_eq (rx := some (V.2.1 a)) (ry := some (V.2.1 b)) hX.1 hX.2.1 d ht (fun h => kt (hX.2.2.2.2.2.2.2.1 a b ha hb (Option.some.inj h)) H locs ls hP hS hl) (fun h => kf (fun q => h (by rw [q])) H locs ls hP hS hl)
theorem g_iald (hX : OkX V E own cc n lvl) (d : decode cc pc = .ok (.iaload, 1)) {k0 N : Nat} {a : Int} (hk : alen k0 = N) (h0 : 0 ≤ a) (h1 : a < (N : Int)) (hN : N ≤ 4096) (k : G V E μ (pc + 1) L (vi (μ k0 a.toNat) :: st)) : G V E μ pc L (vi a :: vr V k0 :: st) := by
  intro H locs ls hP hS hl
  have hp : 0 < alen k0 := by omega
  have ha : in32 a := ⟨by omega, by omega⟩
  have h := k H locs ls hP hS hl
  refine va_iald hX.1 hX.2.1 hX.2.2.2.2.2.2.1 hP k0 0 (n := N) (f := fun j => Int32.ofInt (μ k0 j)) (cA := V.2.2 0) ?_ rfl (i_in h0 h1 hN) d ?_
  · rw [wld_at (alen_lt hp), cel_arr hk (by omega)]; rfl
  · rw [i_cl ha h0]; exact h
theorem g_iast (hX : OkX V E own cc n lvl) (d : decode cc pc = .ok (.iastore, 1)) {k0 N : Nat} {a z : Int} (hk : alen k0 = N) (h0 : 0 ≤ a) (h1 : a < (N : Int)) (hN : N ≤ 4096) (k : G V E (mset μ k0 a.toNat z) (pc + 1) L st) : G V E μ pc L (vi z :: vi a :: vr V k0 :: st) := by
  intro H locs ls hP hS hl
  have hp : 0 < alen k0 := by omega
  have ha : in32 a := ⟨by omega, by omega⟩
  refine va_iast hX.1 hX.2.1 hX.2.2.2.2.2.2.1 hP (wld_D hX.2.2.2.2.2.2.2.1 hX.2.2.2.2.2.2.2.2.1 μ) hS k0 0 (n := N) (f := fun j => Int32.ofInt (μ k0 j)) (cA := V.2.2 0) ?_ rfl (i_in h0 h1 hN) d (fun H1 locs1 hP1 _ hS1 => ?_)
  · rw [wld_at (alen_lt hp), cel_arr hk (by omega)]; rfl
  · rw [i_cl ha h0, wld_set (fun j' => if j' = a.toNat then z else μ k0 j') _ (by
      rw [cel_arr hk (by omega)]
      unfold arI
      congr 3
      congr 1
      funext j
      unfold upd
      by_cases hj : j = a.toNat <;> simp [hj]), mset_row] at hP1
    exact k H1 locs1 ls hP1 hS1 hl
theorem g_alen (hX : OkX V E own cc n lvl) (d : decode cc pc = .ok (.arraylength, 1)) {k0 : Nat} {N : Nat} (hk : (alen k0 = N ∧ 0 < N) ∨ (k0 = 64 ∧ N = 40) ∨ (k0 = 65 ∧ N = 3) ∨ (k0 = 66 ∧ N = 5) ∨ (k0 = 73 ∧ N = 5)) (k : G V E μ (pc + 1) L (vi (N : Int) :: st)) : G V E μ pc L (vr V k0 :: st) := by
  intro H locs ls hP hS hl
  have h := k H locs ls hP hS hl
  have hv : Int32.ofNat N = Int32.ofInt (N : Int) := (Int32.ofInt_eq_ofNat).symm
  rcases hk with ⟨hk, hN⟩ | ⟨rfl, rfl⟩ | ⟨rfl, rfl⟩ | ⟨rfl, rfl⟩ | ⟨rfl, rfl⟩
  · refine va_alen hX.1 hX.2.1 hX.2.2.2.2.2.2.1 hP k0 0 (cA := V.2.2 0) (x := (N, .inl (fun j => Int32.ofInt (μ k0 j)))) ?_ rfl hv d h
    rw [wld_at (alen_lt (by omega)), cel_arr hk hN]; rfl
  · exact va_alen hX.1 hX.2.1 hX.2.2.2.2.2.2.1 hP 64 2 (cA := V.2.2 2) (x := (40, .inr (.inr (.inr (.inr (fun j => some (V.2.1 (0 + j)))))))) (by rw [wld_at (by decide)]; rfl) rfl hv d h
  · exact va_alen hX.1 hX.2.1 hX.2.2.2.2.2.2.1 hP 65 3 (cA := V.2.2 3) (x := (3, .inr (.inr (.inr (.inr (fun j => some (V.2.1 (40 + j)))))))) (by rw [wld_at (by decide)]; rfl) rfl hv d h
  · exact va_alen hX.1 hX.2.1 hX.2.2.2.2.2.2.1 hP 66 4 (cA := V.2.2 4) (x := (5, .inr (.inr (.inr (.inr (fun j => some (V.2.1 (43 + j)))))))) (by rw [wld_at (by decide)]; rfl) rfl hv d h
  · exact va_alen hX.1 hX.2.1 hX.2.2.2.2.2.2.1 hP 73 4 (cA := V.2.2 4) (x := (5, .inr (.inr (.inr (.inr (fun j => some (V.2.1 (53 + j)))))))) (by rw [wld_at (by decide)]; rfl) rfl hv d h
theorem g_aald (hX : OkX V E own cc n lvl) (d : decode cc pc = .ok (.aaload, 1)) {k0 N o : Nat} {a : Int} (hk : (k0 = 64 ∧ N = 40 ∧ o = 0) ∨ (k0 = 65 ∧ N = 3 ∧ o = 40) ∨ (k0 = 66 ∧ N = 5 ∧ o = 43) ∨ (k0 = 73 ∧ N = 5 ∧ o = 53)) (h0 : 0 ≤ a) (h1 : a < (N : Int)) (k : G V E μ (pc + 1) L (vr V (o + a.toNat) :: st)) : G V E μ pc L (vi a :: vr V k0 :: st) := by
  intro H locs ls hP hS hl
  have ha : in32 a := ⟨by omega, by omega⟩
  have h := k H locs ls hP hS hl
  rcases hk with ⟨rfl, rfl, rfl⟩ | ⟨rfl, rfl, rfl⟩ | ⟨rfl, rfl, rfl⟩ | ⟨rfl, rfl, rfl⟩
  · refine va_aldq hX.1 hX.2.1 hX.2.2.2.2.2.2.1 hP 64 2 (n := 40) (f := fun j => some (V.2.1 (0 + j))) (cA := V.2.2 2) (by rw [wld_at (by decide)]; rfl) rfl (i_in h0 h1 (by decide)) d ?_
    rw [i_cl ha h0]; exact h
  · refine va_aldq hX.1 hX.2.1 hX.2.2.2.2.2.2.1 hP 65 3 (n := 3) (f := fun j => some (V.2.1 (40 + j))) (cA := V.2.2 3) (by rw [wld_at (by decide)]; rfl) rfl (i_in h0 h1 (by decide)) d ?_
    rw [i_cl ha h0]; exact h
  · refine va_aldq hX.1 hX.2.1 hX.2.2.2.2.2.2.1 hP 66 4 (n := 5) (f := fun j => some (V.2.1 (43 + j))) (cA := V.2.2 4) (by rw [wld_at (by decide)]; rfl) rfl (i_in h0 h1 (by decide)) d ?_
    rw [i_cl ha h0]; exact h
  · refine va_aldq hX.1 hX.2.1 hX.2.2.2.2.2.2.1 hP 73 4 (n := 5) (f := fun j => some (V.2.1 (53 + j))) (cA := V.2.2 4) (by rw [wld_at (by decide)]; rfl) rfl (i_in h0 h1 (by decide)) d ?_
    rw [i_cl ha h0]; exact h
theorem g_zald (hX : OkX V E own cc n lvl) (d : decode cc pc = .ok (.baload, 1)) {a : Int} (h0 : 0 ≤ a) (h1 : a < 40) (k : G V E μ (pc + 1) L (vi (μ 84 a.toNat) :: st)) : G V E μ pc L (vi a :: vr V 84 :: st) := by
  intro H locs ls hP hS hl
  have ha : in32 a := ⟨by omega, by omega⟩
  have h := k H locs ls hP hS hl
  refine va_zald hX.1 hX.2.1 hX.2.2.2.2.2.2.1 hP 84 1 (n := 40) (f := fun j => Int32.ofInt (μ 84 j)) (cA := V.2.2 1) (by rw [wld_at (by decide)]; rfl) rfl (i_in h0 h1 (by decide)) d ?_
  rw [i_cl ha h0]; exact h
theorem g_zast (hX : OkX V E own cc n lvl) (d : decode cc pc = .ok (.bastore, 1)) {a z : Int} (hz : z = 0 ∨ z = 1) (h0 : 0 ≤ a) (h1 : a < 40) (k : G V E (mset μ 84 a.toNat z) (pc + 1) L st) : G V E μ pc L (vi z :: vi a :: vr V 84 :: st) := by
  intro H locs ls hP hS hl
  have ha : in32 a := ⟨by omega, by omega⟩
  refine va_zast hX.1 hX.2.1 hX.2.2.2.2.2.2.1 hP (wld_D hX.2.2.2.2.2.2.2.1 hX.2.2.2.2.2.2.2.2.1 μ) hS 84 1 (n := 40) (f := fun j => Int32.ofInt (μ 84 j)) (cA := V.2.2 1) (by rw [wld_at (by decide)]; rfl) rfl (i_in h0 h1 (by decide)) d (fun H1 locs1 hP1 _ hS1 => ?_)
  have hz' : vp_nar .boolean (Int32.ofInt z) = Int32.ofInt z := by rcases hz with rfl | rfl <;> rfl
  rw [hz', i_cl ha h0, wld_set (fun j' => if j' = a.toNat then z else μ 84 j') _ (by
      show _ = arZ V 40 _
      unfold arZ
      congr 3
      congr 1
      funext j
      unfold upd
      by_cases hj : j = a.toNat <;> simp [hj]), mset_row] at hP1
  exact k H1 locs1 ls hP1 hS1 hl
theorem g_weak {i : Nat} (k : G V E μ pc (L.set i none) st) : G V E μ pc L st := by
  intro H locs ls hP hS hl
  refine k H locs ls hP hS ⟨by rw [List.length_set]; exact hl.1, hl.2.1, fun q hq => ?_⟩
  obtain ⟨j, v⟩ := q
  have hj := LAs_mem.mp hq
  refine hl.2.2 _ (LAs_mem.mpr ?_)
  rw [List.getElem?_set] at hj
  split at hj
  · split at hj <;> cases hj
  · exact hj
theorem g_tin (hX : OkX V E own cc n lvl) {dflt lo hi : Int} {offs : Array Int} {len : Nat} (d : decode cc pc = .ok (.tableswitch dflt lo hi offs, len)) {a : Int} {off : Int} {tgt : Nat} (ha : in32 a) (h1 : lo ≤ a) (h2 : a ≤ hi) (ho : offs[(a - lo).toNat]? = some off) (ht : (pc : Int) + off = (tgt : Int)) (k : G V E μ tgt L st) : G V E μ pc L (vi a :: st) := by
  intro H locs ls hP hS hl
  refine lv_tableIn hX.1 hX.2.1 d (off := off) ?_ ?_ ?_ ht (k H locs ls hP hS hl)
  · rw [tI ha]; omega
  · rw [tI ha]; omega
  · rw [tI ha]; exact ho
theorem g_tout (hX : OkX V E own cc n lvl) {dflt lo hi : Int} {offs : Array Int} {len : Nat} (d : decode cc pc = .ok (.tableswitch dflt lo hi offs, len)) {a : Int} {tgt : Nat} (ha : in32 a) (h : a < lo ∨ hi < a) (ht : (pc : Int) + dflt = (tgt : Int)) (k : G V E μ tgt L st) : G V E μ pc L (vi a :: st) := by
  intro H locs ls hP hS hl
  exact lv_tableOut hX.1 hX.2.1 d (by rw [tI ha]; exact h) ht (k H locs ls hP hS hl)
end GR