/-! the reference's plain casts, and its call casts -/
theorem ins_ex {l : List Int} (hs : Srt l) (x : Int) : ∃ S : List Int, S.Perm (x :: l) ∧ Srt S := by
  induction l with
  | nil => exact ⟨[x], List.Perm.refl _, fun y hy => (by cases hy), trivial⟩
  | cons y l ih =>
    by_cases h : y ≤ x
    · refine ⟨x :: y :: l, List.Perm.refl _, fun z hz => ?_, hs⟩
      rcases List.mem_cons.mp hz with e | e
      · omega
      · have := hs.1 z e; omega
    · obtain ⟨S, h1, h2⟩ := ih hs.2
      refine ⟨y :: S, ?_, fun z hz => ?_, h2⟩
      · exact (List.Perm.cons y h1).trans (List.Perm.swap x y l)
      · rcases List.mem_cons.mp (h1.mem_iff.mp hz) with e | e
        · omega
        · exact hs.1 z e
theorem srt_ex : ∀ l : List Int, ∃ S : List Int, S.Perm l ∧ Srt S := by
  intro l
  induction l with
  | nil => exact ⟨[], List.Perm.refl _, trivial⟩
  | cons x l ih =>
    obtain ⟨S, h1, h2⟩ := ih
    obtain ⟨S', h3, h4⟩ := ins_ex h2 x
    exact ⟨S', h3.trans (List.Perm.cons x h1), h4⟩
theorem LIS_take {sz pl : Nat → Int} {R R' : Nat → Bool} {p : Int} {j : Nat} (hR : R j = true) (hp : pl j = p) (hR' : ∀ i, R' i = (R i && decide (i ≠ j))) : ∀ n, j < n → (LIS sz pl R p n).Perm (sz j :: LIS sz pl R' p n) := by
  intro n
  induction n with
  | zero => intro h; omega
  | succ n ih =>
    intro h
    by_cases e : j = n
    · subst e
      have e1 : LIS sz pl R p (j + 1) = sz j :: LIS sz pl R p j := by
        show (if _ then _ else _) = _
        rw [if_pos ⟨hR, hp⟩]
      have e2 : LIS sz pl R' p (j + 1) = LIS sz pl R p j := by
        show (if _ then _ else _) = _
        rw [if_neg (by rw [hR']; simp)]
        exact LIS_cg j (fun i hi _ => by rw [hR', decide_eq_true (by omega), Bool.and_true])
      rw [e1, e2]
    · have := ih (by omega)
      have er : R' n = R n := by rw [hR', decide_eq_true (by omega), Bool.and_true]
      unfold LIS
      rw [er]
      by_cases h2 : R n = true ∧ pl n = p
      · rw [if_pos h2, if_pos h2]
        exact (List.Perm.cons _ this).trans (List.Perm.swap _ _ _)
      · rw [if_neg h2, if_neg h2]; exact this
theorem LIS_len {sz pl : Nat → Int} {R : Nat → Bool} {p : Int} : ∀ n, (LIS sz pl R p n).length ≤ n := by
  intro n
  induction n with
  | zero => exact Nat.le_refl 0
  | succ n ih =>
    unfold LIS
    split
    · simp only [List.length_cons]; omega
    · omega
theorem LIS_cg2 {sz pl sz' pl' : Nat → Int} {R : Nat → Bool} {p : Int} : ∀ n, (∀ i, i < n → sz i = sz' i ∧ pl i = pl' i) → LIS sz pl R p n = LIS sz' pl' R p n := by
  intro n
  induction n with
  | zero => intro _; rfl
  | succ n ih => intro h; unfold LIS; rw [ih (fun i hi => h i (by omega)), (h n (by omega)).1, (h n (by omega)).2]
theorem LIS_in {sz pl : Nat → Int} {R : Nat → Bool} {p : Int} : ∀ n j, j < n → R j = true → pl j = p → sz j ∈ LIS sz pl R p n := by
  intro n
  induction n with
  | zero => intro j h; omega
  | succ n ih =>
    intro j h h1 h2
    unfold LIS
    by_cases e : j = n
    · subst e; rw [if_pos ⟨h1, h2⟩]; exact List.mem_cons_self
    · have := ih j (by omega) h1 h2
      split
      · exact List.mem_cons_of_mem _ this
      · exact this
theorem or_nat {x y : Nat} (hx : x < 4096) (hy : y < 4096) : (Int32.ofInt (x : Int) ||| Int32.ofInt (y : Int)).toInt = ((x ||| y : Nat) : Int) := by
  rw [nI_of_nat, nI_of_nat]
  have e : nI x ||| nI y = nI (x ||| y) := b_ext (fun i hi => by rw [b_or, bt_nI x hi, bt_nI y hi, bt_nI _ hi, Nat.testBit_or])
  rw [e]
  exact nI_toInt (Nat.lt_trans (Nat.or_lt_two_pow (n := 12) hx hy) (by decide))
def K94 (μ μ' : Mem) : Prop := ∀ k, k ≠ 94 → μ' k = μ k
theorem K94.sz {μ μ' : Mem} (h : K94 μ μ') : szM μ' = szM μ := by funext k; unfold szM; rw [h 77 (by decide), h 92 (by decide)]
theorem K94.pl {μ μ' : Mem} (h : K94 μ μ') : plM μ' = plM μ := by funext k; unfold plM; rw [h 78 (by decide), h 92 (by decide)]
theorem K94.ak {μ μ' : Mem} {A : Nat} (h : K94 μ μ') (ha : AK μ A) : AK μ' A := by
  unfold AK at *
  rw [h.sz, h.pl, h 92 (by decide), h 76 (by decide)]
  exact ha
def rmB (dn : Nat) : Nat → Bool := fun i => !dn.testBit i
def roomR (μ : Mem) : Nat → Int := fun b => 304 - μ 94 b
set_option maxHeartbeats 4000000 in
theorem c_mplain {lnch : Launch} {V : VX} (hI : InjV V) {μ : Mem} {A : Nat} (ha : AK μ A) : Ct lnch yX7_plainCasts cX7_plainCasts 9 (some .int) 1 V [vr V 76] μ (pI (fun z μ' => (∃ n : Nat → Nat, (∀ p : Nat, p < 8 → ∃ S : List Int, S.Perm (LIS (szM μ) (plM μ) (fun _ => true) (p : Int) A) ∧ Srt S ∧ n p = FFn S (fun _ => 0) 0) ∧ z = (nsum n 8 : Int)) ∧ K94 μ μ')) := by
  refine Ct_of (by decide) hI (Nat.le_of_ble_eq_true rfl) (fun E hE hX hR => ?_)
  have hX : OkX V E RX7 cX7_plainCasts 9 1 := hX
  show G V E μ 0 [some (vr V 76), none, none, none, none, none, none, none, none] []
  obtain ⟨hA, h12, hk⟩ := id ha
  have plans : ∀ (e p : Nat) (ν : Mem) (n : Nat → Nat) (x3 x4 x5 x6 x7 x8 : Option Value), p + e = 8 → K94 μ ν →
      (∀ q, q < p → ∃ S : List Int, S.Perm (LIS (szM μ) (plM μ) (fun _ => true) (q : Int) A) ∧ Srt S ∧ n q = FFn S (fun _ => 0) 0) → (∀ q, q < p → n q ≤ 12) → nsum n p ≤ 12 * p → ckV x3 →
      G V E ν 4 [some (vr V 76), some (vi (nsum n p : Int)), some (vi (p : Int)), x3, x4, x5, x6, x7, x8] [] := by
    intro e
    induction e with
    | zero =>
      intro p ν n x3 x4 x5 x6 x7 x8 hp hkp hn hn12 hns hck
      obtain rfl : p = 8 := by omega
      refine g_iload_n hX dX7_plainCasts_4 rfl ?_
      refine g_bipush hX dX7_plainCasts_5 rfl ?_
      refine g_icmp_ge (tgt := 269) hX dX7_plainCasts_7 (by decide) ⟨by omega, by omega⟩ ⟨by omega, by omega⟩ (fun _ => ?_) (fun hc => absurd hc (by omega))
      refine g_iload_n hX dX7_plainCasts_269 rfl ?_
      refine g_iret hX hR dX7_plainCasts_270 ⟨_, rfl, ⟨n, hn, rfl⟩, hkp⟩
    | succ e ih =>
      intro p ν n x3 x4 x5 x6 x7 x8 hp hkp hn hn12 hns hck
      obtain ⟨S0, hS1, hS2⟩ := srt_ex (LIS (szM μ) (plM μ) (fun _ => true) (p : Int) A)
      have hS0len : S0.length ≤ 12 := by rw [hS1.length_eq]; exact Nat.le_trans (LIS_len A) h12
      have fin : ∀ (ξ : Mem) (y4 y5 y6 y7 y8 : Option Value), K94 μ ξ → G V E ξ 259 [some (vr V 76), some (vi (nsum n p : Int)), some (vi (p : Int)), some (vi (FFn S0 (fun _ => 0) 0 : Int)), y4, y5, y6, y7, y8] [] := fun ξ y4 y5 y6 y7 y8 hkx => by
        have hle := FFn_le (l := S0) (r := fun _ => 0) (c := 0)
        have hnsum : nsum (nup n p (FFn S0 (fun _ => 0) 0)) (p + 1) = nsum n p + FFn S0 (fun _ => 0) 0 := by
          have hcg : ∀ k, k ≤ p → nsum (nup n p (FFn S0 (fun _ => 0) 0)) k = nsum n k := by
            intro k
            induction k with
            | zero => intro _; rfl
            | succ k ihk => intro hk4; show nsum _ k + _ = nsum n k + n k; rw [ihk (by omega), nup_ne (by omega)]
          show nsum _ p + _ = _
          rw [hcg p (Nat.le_refl p), nup_eq]
        refine g_iload_n hX dX7_plainCasts_259 rfl ?_
        refine g_iload_n hX dX7_plainCasts_260 rfl ?_
        refine g_iadd hX dX7_plainCasts_261 ?_
        refine st_istore_n_9_1 hX dX7_plainCasts_262 (by first | exact ck_i _ | exact ck_r _ _ | exact ck_n | exact ck_0) ?_
        refine st_iinc_9_2 hX dX7_plainCasts_263 (by first | exact ck_i _ | exact ck_r _ _ | exact ck_n | exact ck_0) ?_
        refine g_goto (tgt := 4) hX dX7_plainCasts_266 (by decide) ?_
        have := ih (p + 1) ξ (nup n p (FFn S0 (fun _ => 0) 0)) (some (vi (FFn S0 (fun _ => 0) 0 : Int))) y4 y5 y6 y7 y8 (by omega) hkx (fun q hq => ?_) (fun q hq => ?_) (by rw [hnsum]; omega) (ck_i _)
        · rw [hnsum] at this
          exact this
        · by_cases eq : q = p
          · rw [eq, nup_eq]; exact ⟨S0, hS1, hS2, rfl⟩
          · rw [nup_ne eq]; exact hn q (by omega)
        · by_cases eq : q = p
          · rw [eq, nup_eq]; omega
          · rw [nup_ne eq]; exact hn12 q (by omega)
      have wl : ∀ (f : Nat) (T : List Int) (dn c : Nat) (ξ : Mem) (y6 y7 y8 : Option Value), T.length = f → dn < 4096 → c + f ≤ 12 → K94 μ ξ → (∀ b, b < c → 0 ≤ ξ 94 b ∧ ξ 94 b ≤ 304) → T.Perm (LIS (szM μ) (plM μ) (rmB dn) (p : Int) A) → Srt T → FFn T (roomR ξ) c = FFn S0 (fun _ => 0) 0 →
          G V E ξ 18 [some (vr V 76), some (vi (nsum n p : Int)), some (vi (p : Int)), some (vi (c : Int)), some (vi (dn : Int)), some (vi 1), y6, y7, y8] [] := by
        intro f
        induction f with
        | zero =>
          intro T dn c ξ y6 y7 y8 hT hdn hc hkx hrm hperm hsrt hF
          obtain rfl : T = [] := List.eq_nil_of_length_eq_zero hT
          have e21 : ξ 76 21 = (A : Int) := by rw [hkx 76 (by decide)]; exact hA
          have hem : LIS (szM μ) (plM μ) (rmB dn) (p : Int) A = [] := (List.nil_perm.mp hperm)
          have none : ∀ i, i < A → ¬ (rmB dn i = true ∧ plM μ i = (p : Int)) := fun i hi h => by
            have := LIS_in (sz := szM μ) A i hi h.1 h.2
            rw [hem] at this; cases this
          have arg : ∀ (d k : Nat) (z8 : Option Value), k + d = A → G V E ξ 29 [some (vr V 76), some (vi (nsum n p : Int)), some (vi (p : Int)), some (vi (c : Int)), some (vi (dn : Int)), some (vi 1), some (vi (-1)), some (vi (k : Int)), z8] [] := by
            intro d
            induction d with
            | zero =>
              intro k z8 hkd
              refine g_iload hX dX7_plainCasts_29 rfl ?_
              refine g_aload_n hX dX7_plainCasts_31 rfl ?_
              refine gf_X7_120 hX dX7_plainCasts_32 ?_
              refine g_icmp_ge (tgt := 123) hX dX7_plainCasts_35 (by decide) ⟨by omega, by omega⟩ ⟨by omega, by omega⟩ (fun _ => ?_) (fun hc => absurd hc (by omega))
              refine g_iload hX dX7_plainCasts_123 rfl ?_
              refine g_if_lt (tgt := 132) hX dX7_plainCasts_125 (by decide) ⟨by omega, by omega⟩ (fun _ => ?_) (fun hc => absurd hc (by omega))
              refine g_iconst hX dX7_plainCasts_132 ?_
              refine st_istore_9_5 hX dX7_plainCasts_133 (by first | exact ck_i _ | exact ck_r _ _ | exact ck_n | exact ck_0) ?_
              refine g_iload hX dX7_plainCasts_135 rfl ?_
              refine g_if_eq (tgt := 256) hX dX7_plainCasts_137 (by decide) ⟨by omega, by omega⟩ (fun _ => ?_) (fun hc => absurd hc (by omega))
              refine g_goto (tgt := 18) hX dX7_plainCasts_256 (by decide) ?_
              refine g_iload hX dX7_plainCasts_18 rfl ?_
              refine g_if_eq (tgt := 259) hX dX7_plainCasts_20 (by decide) ⟨by omega, by omega⟩ (fun _ => ?_) (fun hc => absurd hc (by omega))
              have hf := fin ξ (some (vi (dn : Int))) (some (vi 0)) (some (vi (-1))) (some (vi (k : Int))) z8 hkx
              rw [← hF] at hf
              exact hf
            | succ d ihd =>
              intro k z8 hkd
              have hkk := hk k (by omega)
              have e92 : ξ 92 = μ 92 := hkx 92 (by decide)
              have e78 : ξ 78 = μ 78 := hkx 78 (by decide)
              have hno := none k (by omega)
              have z0 : G V E ξ 68 [some (vr V 76), some (vi (nsum n p : Int)), some (vi (p : Int)), some (vi (c : Int)), some (vi (dn : Int)), some (vi 1), some (vi (-1)), some (vi (k : Int)), z8] [] := by
                refine g_iconst hX dX7_plainCasts_68 ?_
                refine st_istore_9_8 hX dX7_plainCasts_69 (by first | exact ck_i _ | exact ck_r _ _ | exact ck_n | exact ck_0) ?_
                refine g_iload hX dX7_plainCasts_71 rfl ?_
                refine g_if_eq (tgt := 113) hX dX7_plainCasts_73 (by decide) ⟨by omega, by omega⟩ (fun _ => ?_) (fun hc => absurd hc (by omega))
                refine g_iload hX dX7_plainCasts_113 rfl ?_
                refine st_istore_9_6 hX dX7_plainCasts_115 (by first | exact ck_i _ | exact ck_r _ _ | exact ck_n | exact ck_0) ?_
                refine st_iinc_9_7 hX dX7_plainCasts_117 (by first | exact ck_i _ | exact ck_r _ _ | exact ck_n | exact ck_0) ?_
                refine g_goto (tgt := 29) hX dX7_plainCasts_120 (by decide) ?_
                exact ihd (k + 1) _ (by omega)
              refine g_iload hX dX7_plainCasts_29 rfl ?_
              refine g_aload_n hX dX7_plainCasts_31 rfl ?_
              refine gf_X7_120 hX dX7_plainCasts_32 ?_
              refine g_icmp_ge (tgt := 123) hX dX7_plainCasts_35 (by decide) ⟨by omega, by omega⟩ ⟨by omega, by omega⟩ (fun hc => absurd hc (by omega)) (fun _ => ?_)
              refine g_aload_n hX dX7_plainCasts_38 rfl ?_
              refine gf_X7_13 hX dX7_plainCasts_39 ?_
              refine g_aload_n hX dX7_plainCasts_42 rfl ?_
              refine gf_X7_60 hX dX7_plainCasts_43 ?_
              refine g_iload hX dX7_plainCasts_46 rfl ?_
              refine g_ialdN hX dX7_plainCasts_48 (N := 12) rfl rfl (by omega) (by decide) ?_
              rw [e92]
              refine g_ialdN (i := (μ 92 k).toNat) hX dX7_plainCasts_49 (N := 40) rfl (by omega) (by omega) (by decide) ?_
              refine g_iload_n hX dX7_plainCasts_50 rfl ?_
              rw [e78]
              show G V E ξ 51 _ (vi (p : Int) :: vi (plM μ k) :: [])
              refine g_icmp_ne (tgt := 68) hX dX7_plainCasts_51 (by decide) ⟨by omega, by omega⟩ ⟨by omega, by omega⟩ (fun h1 => ?_) (fun h1 => ?_)
              · exact z0
              refine g_iload hX dX7_plainCasts_54 rfl ?_
              refine g_iload hX dX7_plainCasts_56 rfl ?_
              refine g_ishr hX dX7_plainCasts_58 ?_
              refine g_iconst hX dX7_plainCasts_59 ?_
              refine g_iand hX dX7_plainCasts_60 ?_
              rw [bit_s (dn : Int) (by omega), bitZ_nat dn (by omega)]
              by_cases hb : dn.testBit k = true
              · rw [if_pos hb]
                refine g_if_ne (tgt := 68) hX dX7_plainCasts_61 (by decide) ⟨by omega, by omega⟩ (fun _ => ?_) (fun hc => absurd hc (by omega))
                exact z0
              · exact absurd ⟨by unfold rmB; simpa using hb, h1⟩ hno
          refine g_iload hX dX7_plainCasts_18 rfl ?_
          refine g_if_eq (tgt := 259) hX dX7_plainCasts_20 (by decide) ⟨by omega, by omega⟩ (fun hc => absurd hc (by omega)) (fun _ => ?_)
          refine g_iconst hX dX7_plainCasts_23 ?_
          refine st_istore_9_6 hX dX7_plainCasts_24 (by first | exact ck_i _ | exact ck_r _ _ | exact ck_n | exact ck_0) ?_
          refine g_iconst hX dX7_plainCasts_26 ?_
          refine st_istore_9_7 hX dX7_plainCasts_27 (by first | exact ck_i _ | exact ck_r _ _ | exact ck_n | exact ck_0) ?_
          exact arg A 0 _ (by omega)
        | succ f ihf =>
          intro T dn c ξ y6 y7 y8 hT hdn hc hkx hrm hperm hsrt hF
          match T, hT, hperm, hsrt, hF with
          | x :: T', hT, hperm, hsrt, hF =>
          have hTl : T'.length = f := by simpa using hT
          have e21 : ξ 76 21 = (A : Int) := by rw [hkx 76 (by decide)]; exact hA
          have e92 : ξ 92 = μ 92 := hkx 92 (by decide)
          have e78 : ξ 78 = μ 78 := hkx 78 (by decide)
          have e77 : ξ 77 = μ 77 := hkx 77 (by decide)
          -- what follows once the greatest is known
          have place : ∀ (j : Nat) (z7 z8 : Option Value), j < A → rmB dn j = true → plM μ j = (p : Int) → szM μ j = x → G V E ξ 123 [some (vr V 76), some (vi (nsum n p : Int)), some (vi (p : Int)), some (vi (c : Int)), some (vi (dn : Int)), some (vi 1), some (vi (j : Int)), z7, z8] [] := fun j z7 z8 hj hrj hpj hx => by
            have hkj := hk j hj
            have hpw := pow_12 j (by omega)
            have h2j : 2 ^ j < 4096 := (Nat.pow_lt_pow_right (by decide) (show j < 12 by omega) : 2 ^ j < 2 ^ 12)
            have hor : dn ||| 2 ^ j < 4096 := Nat.or_lt_two_pow (n := 12) hdn h2j
            have hlen : μ 77 (μ 92 j).toNat = x - 4 := by rw [← hx]; unfold szM; omega
            have hx5 : 5 ≤ x ∧ x ≤ 204 := by rw [← hx]; exact hkj.2.1
            have hR' : ∀ i, rmB (dn ||| 2 ^ j) i = (rmB dn i && decide (i ≠ j)) := fun i => by
              unfold rmB
              rw [Nat.testBit_or, Nat.testBit_two_pow]
              by_cases e : j = i
              · subst e; simp
              · rw [decide_eq_false e, decide_eq_true (show i ≠ j by omega)]; simp
            have hperm' : T'.Perm (LIS (szM μ) (plM μ) (rmB (dn ||| 2 ^ j)) (p : Int) A) := by
              have h1 := LIS_take (sz := szM μ) hrj hpj hR' A hj
              rw [hx] at h1
              exact List.Perm.cons_inv (hperm.trans h1)
            have hpp := ffp_in (roomR ξ) x c c 0 (by omega)
            have hFs : FFn T' (ffr (roomR ξ) x c (ffp (roomR ξ) x c c 0)) (if ffp (roomR ξ) x c c 0 = c then c + 1 else c) = FFn S0 (fun _ => 0) 0 := hF
            have put : ∀ (b : Nat) (z8 : Option Value), b = ffp (roomR ξ) x c c 0 → G V E ξ 188 [some (vr V 76), some (vi (nsum n p : Int)), some (vi (p : Int)), some (vi (c : Int)), some (vi ((dn ||| 2 ^ j : Nat) : Int)), some (vi 1), some (vi (j : Int)), some (vi (b : Int)), z8] [] := fun b z8 hb => by
              rw [← hb] at hpp hFs
              have hb12 : b < 12 := by rcases hpp with h | h <;> omega
              refine g_aload_n hX dX7_plainCasts_188 rfl ?_
              refine gf_X7_66 hX dX7_plainCasts_189 ?_
              refine g_iload hX dX7_plainCasts_192 rfl ?_
              refine g_iload hX dX7_plainCasts_194 rfl ?_
              refine g_iload_n hX dX7_plainCasts_196 rfl ?_
              refine g_icmp_ne (tgt := 219) hX dX7_plainCasts_197 (by decide) ⟨by omega, by omega⟩ ⟨by omega, by omega⟩ (fun h1 => ?_) (fun h1 => ?_)
              · have hbc : b ≠ c := fun h => h1 (by rw [h])
                rcases hpp with h2 | ⟨h2, h3⟩
                · exact absurd h2.1 hbc
                rw [if_neg hbc] at hFs
                have hrb := hrm b h2
                have h3 : 304 - ξ 94 b + x ≤ 304 := h3
                refine g_aload_n hX dX7_plainCasts_219 rfl ?_
                refine gf_X7_66 hX dX7_plainCasts_220 ?_
                refine g_iload hX dX7_plainCasts_223 rfl ?_
                refine g_ialdN hX dX7_plainCasts_225 (N := 12) rfl rfl (by omega) (by decide) ?_
                refine g_aload_n hX dX7_plainCasts_226 rfl ?_
                refine gf_X7_7 hX dX7_plainCasts_227 ?_
                refine g_aload_n hX dX7_plainCasts_230 rfl ?_
                refine gf_X7_60 hX dX7_plainCasts_231 ?_
                refine g_iload hX dX7_plainCasts_234 rfl ?_
                refine g_ialdN hX dX7_plainCasts_236 (N := 12) rfl rfl (by omega) (by decide) ?_
                rw [e92]
                refine g_ialdN (i := (μ 92 j).toNat) hX dX7_plainCasts_237 (N := 40) rfl (by omega) (by omega) (by decide) ?_
                rw [e77, hlen]
                refine g_isub hX dX7_plainCasts_238 ?_
                refine g_iconst hX dX7_plainCasts_239 ?_
                refine g_isub hX dX7_plainCasts_240 ?_
                refine g_iastN hX dX7_plainCasts_241 (N := 12) rfl rfl (by omega) (by decide) ?_
                refine g_iload hX dX7_plainCasts_242 rfl ?_
                refine g_iload_n hX dX7_plainCasts_244 rfl ?_
                refine g_icmp_ne (tgt := 254) hX dX7_plainCasts_245 (by decide) ⟨by omega, by omega⟩ ⟨by omega, by omega⟩ (fun _ => ?_) (fun hc => absurd hc (by omega))
                refine g_iload_n hX dX7_plainCasts_254 rfl ?_
                refine st_istore_n_9_3 hX dX7_plainCasts_255 (by first | exact ck_i _ | exact ck_r _ _ | exact ck_n | exact ck_0) ?_
                refine g_goto (tgt := 18) hX dX7_plainCasts_256 (by decide) ?_
                refine ihf T' (dn ||| 2 ^ j) c _ _ _ _ hTl hor (by omega) (fun k hk2 => by rw [mset_cell (fun q => hk2 q.symm)]; exact hkx k hk2) (fun b' hb' => ?_) hperm' hsrt.2 ?_
                · by_cases e : b' = b
                  · rw [e, mset_same]; omega
                  · rw [mset_ne (Or.inr e)]; exact hrm b' hb'
                · rw [← hFs]
                  refine FFn_cg (fun b' hb' => ?_)
                  unfold ffr roomR
                  by_cases e : b' = b
                  · rw [e, mset_same, if_pos rfl, if_neg hbc]; omega
                  · rw [mset_ne (Or.inr e), if_neg e]
              · have hbc : b = c := by omega
                subst hbc
                rw [if_pos rfl] at hFs
                refine g_sipush hX dX7_plainCasts_200 rfl ?_
                refine g_aload_n hX dX7_plainCasts_203 rfl ?_
                refine gf_X7_7 hX dX7_plainCasts_204 ?_
                refine g_aload_n hX dX7_plainCasts_207 rfl ?_
                refine gf_X7_60 hX dX7_plainCasts_208 ?_
                refine g_iload hX dX7_plainCasts_211 rfl ?_
                refine g_ialdN hX dX7_plainCasts_213 (N := 12) rfl rfl (by omega) (by decide) ?_
                rw [e92]
                refine g_ialdN (i := (μ 92 j).toNat) hX dX7_plainCasts_214 (N := 40) rfl (by omega) (by omega) (by decide) ?_
                rw [e77, hlen]
                refine g_isub hX dX7_plainCasts_215 ?_
                refine g_goto (tgt := 241) hX dX7_plainCasts_216 (by decide) ?_
                refine g_iastN hX dX7_plainCasts_241 (N := 12) rfl rfl (by omega) (by decide) ?_
                refine g_iload hX dX7_plainCasts_242 rfl ?_
                refine g_iload_n hX dX7_plainCasts_244 rfl ?_
                refine g_icmp_ne (tgt := 254) hX dX7_plainCasts_245 (by decide) ⟨by omega, by omega⟩ ⟨by omega, by omega⟩ (fun hc => absurd hc (by omega)) (fun _ => ?_)
                refine g_iload_n hX dX7_plainCasts_248 rfl ?_
                refine g_iconst hX dX7_plainCasts_249 ?_
                refine g_iadd hX dX7_plainCasts_250 ?_
                refine g_goto (tgt := 255) hX dX7_plainCasts_251 (by decide) ?_
                refine st_istore_n_9_3 hX dX7_plainCasts_255 (by first | exact ck_i _ | exact ck_r _ _ | exact ck_n | exact ck_0) ?_
                refine g_goto (tgt := 18) hX dX7_plainCasts_256 (by decide) ?_
                have := ihf T' (dn ||| 2 ^ j) (b + 1) (mset ξ 94 b (300 - (x - 4))) (some (vi (j : Int))) (some (vi (b : Int))) z8 hTl hor (by omega) (fun k hk2 => by rw [mset_cell (fun q => hk2 q.symm)]; exact hkx k hk2) (fun b' hb' => ?_) hperm' hsrt.2 ?_
                · exact this
                · by_cases e : b' = b
                  · rw [e, mset_same]; omega
                  · rw [mset_ne (Or.inr e)]; exact hrm b' (by omega)
                · rw [← hFs]
                  refine FFn_cg (fun b' hb' => ?_)
                  unfold ffr roomR
                  by_cases e : b' = b
                  · rw [e, mset_same, if_pos rfl, if_pos rfl]; omega
                  · rw [mset_ne (Or.inr e), if_neg e]
            have seek : ∀ (d b : Nat) (z8 : Option Value), b + d = c → ffp (roomR ξ) x c d b = ffp (roomR ξ) x c c 0 → G V E ξ 152 [some (vr V 76), some (vi (nsum n p : Int)), some (vi (p : Int)), some (vi (c : Int)), some (vi ((dn ||| 2 ^ j : Nat) : Int)), some (vi 1), some (vi (j : Int)), some (vi (b : Int)), z8] [] := by
              intro d
              induction d with
              | zero =>
                intro b z8 hb hf
                refine g_iload hX dX7_plainCasts_152 rfl ?_
                refine g_iload_n hX dX7_plainCasts_154 rfl ?_
                refine g_icmp_ge (tgt := 188) hX dX7_plainCasts_155 (by decide) ⟨by omega, by omega⟩ ⟨by omega, by omega⟩ (fun _ => ?_) (fun hc => absurd hc (by omega))
                exact put b z8 (by rw [← hf]; show b = c; omega)
              | succ d ihd =>
                intro b z8 hb hf
                replace hf : (if roomR ξ b + x ≤ 304 then b else ffp (roomR ξ) x c d (b + 1)) = ffp (roomR ξ) x c c 0 := hf
                have hrb := hrm b (by omega)
                have hroom : roomR ξ b = 304 - ξ 94 b := rfl
                refine g_iload hX dX7_plainCasts_152 rfl ?_
                refine g_iload_n hX dX7_plainCasts_154 rfl ?_
                refine g_icmp_ge (tgt := 188) hX dX7_plainCasts_155 (by decide) ⟨by omega, by omega⟩ ⟨by omega, by omega⟩ (fun hc => absurd hc (by omega)) (fun _ => ?_)
                refine g_aload_n hX dX7_plainCasts_158 rfl ?_
                refine gf_X7_66 hX dX7_plainCasts_159 ?_
                refine g_iload hX dX7_plainCasts_162 rfl ?_
                refine g_ialdN hX dX7_plainCasts_164 (N := 12) rfl rfl (by omega) (by decide) ?_
                refine g_aload_n hX dX7_plainCasts_165 rfl ?_
                refine gf_X7_7 hX dX7_plainCasts_166 ?_
                refine g_aload_n hX dX7_plainCasts_169 rfl ?_
                refine gf_X7_60 hX dX7_plainCasts_170 ?_
                refine g_iload hX dX7_plainCasts_173 rfl ?_
                refine g_ialdN hX dX7_plainCasts_175 (N := 12) rfl rfl (by omega) (by decide) ?_
                rw [e92]
                refine g_ialdN (i := (μ 92 j).toNat) hX dX7_plainCasts_176 (N := 40) rfl (by omega) (by omega) (by decide) ?_
                rw [e77, hlen]
                refine g_iconst hX dX7_plainCasts_177 ?_
                refine g_iadd hX dX7_plainCasts_178 ?_
                refine g_icmp_ge (tgt := 188) hX dX7_plainCasts_179 (by decide) ⟨by omega, by omega⟩ ⟨by omega, by omega⟩ (fun h1 => ?_) (fun h1 => ?_)
                · rw [if_pos (by omega)] at hf
                  exact put b z8 hf
                · rw [if_neg (by omega)] at hf
                  refine st_iinc_9_7 hX dX7_plainCasts_182 (by first | exact ck_i _ | exact ck_r _ _ | exact ck_n | exact ck_0) ?_
                  refine g_goto (tgt := 152) hX dX7_plainCasts_185 (by decide) ?_
                  exact ihd (b + 1) z8 (by omega) hf
            refine g_iload hX dX7_plainCasts_123 rfl ?_
            refine g_if_lt (tgt := 132) hX dX7_plainCasts_125 (by decide) ⟨by omega, by omega⟩ (fun hc => absurd hc (by omega)) (fun _ => ?_)
            refine g_iconst hX dX7_plainCasts_128 ?_
            refine g_goto (tgt := 133) hX dX7_plainCasts_129 (by decide) ?_
            refine st_istore_9_5 hX dX7_plainCasts_133 (by first | exact ck_i _ | exact ck_r _ _ | exact ck_n | exact ck_0) ?_
            refine g_iload hX dX7_plainCasts_135 rfl ?_
            refine g_if_eq (tgt := 256) hX dX7_plainCasts_137 (by decide) ⟨by omega, by omega⟩ (fun hc => absurd hc (by omega)) (fun _ => ?_)
            refine g_iload hX dX7_plainCasts_140 rfl ?_
            refine g_iconst hX dX7_plainCasts_142 ?_
            refine g_iload hX dX7_plainCasts_143 rfl ?_
            refine g_ishl hX dX7_plainCasts_145 ?_
            rw [shl_1 j (by omega)]
            refine g_ior hX dX7_plainCasts_146 ?_
            rw [or_nat hdn h2j]
            refine st_istore_9_4 hX dX7_plainCasts_147 (by first | exact ck_i _ | exact ck_r _ _ | exact ck_n | exact ck_0) ?_
            refine g_iconst hX dX7_plainCasts_149 ?_
            refine st_istore_9_7 hX dX7_plainCasts_150 (by first | exact ck_i _ | exact ck_r _ _ | exact ck_n | exact ck_0) ?_
            exact seek c 0 z8 (by omega) rfl
          have arg : ∀ (d k : Nat) (bt : Int) (z8 : Option Value), k + d = A → ((bt = -1 ∧ ∀ i, i < k → ¬ (rmB dn i = true ∧ plM μ i = (p : Int))) ∨ ∃ j : Nat, bt = (j : Int) ∧ j < k ∧ rmB dn j = true ∧ plM μ j = (p : Int) ∧ ∀ i, i < k → rmB dn i = true → plM μ i = (p : Int) → szM μ i ≤ szM μ j) →
              G V E ξ 29 [some (vr V 76), some (vi (nsum n p : Int)), some (vi (p : Int)), some (vi (c : Int)), some (vi (dn : Int)), some (vi 1), some (vi bt), some (vi (k : Int)), z8] [] := by
            intro d
            induction d with
            | zero =>
              intro k bt z8 hkd hb
              obtain rfl : k = A := by omega
              refine g_iload hX dX7_plainCasts_29 rfl ?_
              refine g_aload_n hX dX7_plainCasts_31 rfl ?_
              refine gf_X7_120 hX dX7_plainCasts_32 ?_
              refine g_icmp_ge (tgt := 123) hX dX7_plainCasts_35 (by decide) ⟨by omega, by omega⟩ ⟨by omega, by omega⟩ (fun _ => ?_) (fun hc => absurd hc (by omega))
              rcases hb with ⟨-, hno⟩ | ⟨j, rfl, hj, hrj, hpj, hmax⟩
              · exfalso
                obtain ⟨i, h1, h2, h3, -⟩ := LIS_mem k (hperm.mem_iff.mp List.mem_cons_self)
                exact hno i h1 ⟨h2, h3⟩
              · refine place j _ z8 hj hrj hpj ?_
                have h1 : szM μ j ≤ x := by
                  rcases List.mem_cons.mp (hperm.mem_iff.mpr (LIS_in (sz := szM μ) k j hj hrj hpj)) with e | e
                  · omega
                  · exact hsrt.1 _ e
                obtain ⟨i, h2, h3, h4, h5⟩ := LIS_mem k (hperm.mem_iff.mp (List.mem_cons_self (a := x) (l := T')))
                have := hmax i h2 h3 h4
                omega
            | succ d ihd =>
              intro k bt z8 hkd hb
              have hkk := hk k (by omega)
              have keep : ∀ z8, (rmB dn k = true → plM μ k = (p : Int) → ∃ j : Nat, bt = (j : Int) ∧ szM μ k ≤ szM μ j) → G V E ξ 113 [some (vr V 76), some (vi (nsum n p : Int)), some (vi (p : Int)), some (vi (c : Int)), some (vi (dn : Int)), some (vi 1), some (vi bt), some (vi (k : Int)), z8] [] := fun z8 hkeep => by
                refine g_iload hX dX7_plainCasts_113 rfl ?_
                refine st_istore_9_6 hX dX7_plainCasts_115 (by first | exact ck_i _ | exact ck_r _ _ | exact ck_n | exact ck_0) ?_
                refine st_iinc_9_7 hX dX7_plainCasts_117 (by first | exact ck_i _ | exact ck_r _ _ | exact ck_n | exact ck_0) ?_
                refine g_goto (tgt := 29) hX dX7_plainCasts_120 (by decide) ?_
                refine ihd (k + 1) bt _ (by omega) ?_
                rcases hb with ⟨h1, hno⟩ | ⟨j, h1, hj, hrj, hpj, hmax⟩
                · refine Or.inl ⟨h1, fun i hi h => ?_⟩
                  by_cases e : i = k
                  · rw [e] at h
                    obtain ⟨j, h2, -⟩ := hkeep h.1 h.2
                    omega
                  · exact hno i (by omega) h
                · refine Or.inr ⟨j, h1, by omega, hrj, hpj, fun i hi h2 h3 => ?_⟩
                  by_cases e : i = k
                  · rw [e] at h2 h3 ⊢
                    obtain ⟨j', h4, h5⟩ := hkeep h2 h3
                    rw [show j' = j by omega] at h5
                    exact h5
                  · exact hmax i (by omega) h2 h3
              have take : ∀ z8, rmB dn k = true → plM μ k = (p : Int) → (∀ i, i < k → rmB dn i = true → plM μ i = (p : Int) → szM μ i ≤ szM μ k) → G V E ξ 108 [some (vr V 76), some (vi (nsum n p : Int)), some (vi (p : Int)), some (vi (c : Int)), some (vi (dn : Int)), some (vi 1), some (vi bt), some (vi (k : Int)), z8] [] := fun z8 h1 h2 h3 => by
                refine g_iload hX dX7_plainCasts_108 rfl ?_
                refine g_goto (tgt := 115) hX dX7_plainCasts_110 (by decide) ?_
                refine st_istore_9_6 hX dX7_plainCasts_115 (by first | exact ck_i _ | exact ck_r _ _ | exact ck_n | exact ck_0) ?_
                refine st_iinc_9_7 hX dX7_plainCasts_117 (by first | exact ck_i _ | exact ck_r _ _ | exact ck_n | exact ck_0) ?_
                refine g_goto (tgt := 29) hX dX7_plainCasts_120 (by decide) ?_
                refine ihd (k + 1) (k : Int) _ (by omega) (Or.inr ⟨k, rfl, by omega, h1, h2, fun i hi h4 h5 => ?_⟩)
                by_cases e : i = k
                · rw [e]; exact Int.le_refl _
                · exact h3 i (by omega) h4 h5
              have z0 : (¬ (rmB dn k = true ∧ plM μ k = (p : Int))) → G V E ξ 68 [some (vr V 76), some (vi (nsum n p : Int)), some (vi (p : Int)), some (vi (c : Int)), some (vi (dn : Int)), some (vi 1), some (vi bt), some (vi (k : Int)), z8] [] := fun h => by
                refine g_iconst hX dX7_plainCasts_68 ?_
                refine st_istore_9_8 hX dX7_plainCasts_69 (by first | exact ck_i _ | exact ck_r _ _ | exact ck_n | exact ck_0) ?_
                refine g_iload hX dX7_plainCasts_71 rfl ?_
                refine g_if_eq (tgt := 113) hX dX7_plainCasts_73 (by decide) ⟨by omega, by omega⟩ (fun _ => ?_) (fun hc => absurd hc (by omega))
                exact keep _ (fun h1 h2 => absurd ⟨h1, h2⟩ h)
              refine g_iload hX dX7_plainCasts_29 rfl ?_
              refine g_aload_n hX dX7_plainCasts_31 rfl ?_
              refine gf_X7_120 hX dX7_plainCasts_32 ?_
              refine g_icmp_ge (tgt := 123) hX dX7_plainCasts_35 (by decide) ⟨by omega, by omega⟩ ⟨by omega, by omega⟩ (fun hc => absurd hc (by omega)) (fun _ => ?_)
              refine g_aload_n hX dX7_plainCasts_38 rfl ?_
              refine gf_X7_13 hX dX7_plainCasts_39 ?_
              refine g_aload_n hX dX7_plainCasts_42 rfl ?_
              refine gf_X7_60 hX dX7_plainCasts_43 ?_
              refine g_iload hX dX7_plainCasts_46 rfl ?_
              refine g_ialdN hX dX7_plainCasts_48 (N := 12) rfl rfl (by omega) (by decide) ?_
              rw [e92]
              refine g_ialdN (i := (μ 92 k).toNat) hX dX7_plainCasts_49 (N := 40) rfl (by omega) (by omega) (by decide) ?_
              refine g_iload_n hX dX7_plainCasts_50 rfl ?_
              rw [e78]
              show G V E ξ 51 _ (vi (p : Int) :: vi (plM μ k) :: [])
              refine g_icmp_ne (tgt := 68) hX dX7_plainCasts_51 (by decide) ⟨by omega, by omega⟩ ⟨by omega, by omega⟩ (fun h1 => ?_) (fun h1 => ?_)
              · exact z0 (fun h => h1 h.2)
              refine g_iload hX dX7_plainCasts_54 rfl ?_
              refine g_iload hX dX7_plainCasts_56 rfl ?_
              refine g_ishr hX dX7_plainCasts_58 ?_
              refine g_iconst hX dX7_plainCasts_59 ?_
              refine g_iand hX dX7_plainCasts_60 ?_
              rw [bit_s (dn : Int) (by omega), bitZ_nat dn (by omega)]
              by_cases hbit : dn.testBit k = true
              · rw [if_pos hbit]
                refine g_if_ne (tgt := 68) hX dX7_plainCasts_61 (by decide) ⟨by omega, by omega⟩ (fun _ => ?_) (fun hc => absurd hc (by omega))
                exact z0 (fun h => by have := h.1; unfold rmB at this; rw [hbit] at this; exact absurd this (by decide))
              have hrk : rmB dn k = true := by unfold rmB; simpa using hbit
              rw [if_neg hbit]
              refine g_if_ne (tgt := 68) hX dX7_plainCasts_61 (by decide) ⟨by omega, by omega⟩ (fun hc => absurd hc (by omega)) (fun _ => ?_)
              refine g_iconst hX dX7_plainCasts_64 ?_
              refine g_goto (tgt := 69) hX dX7_plainCasts_65 (by decide) ?_
              refine st_istore_9_8 hX dX7_plainCasts_69 (by first | exact ck_i _ | exact ck_r _ _ | exact ck_n | exact ck_0) ?_
              refine g_iload hX dX7_plainCasts_71 rfl ?_
              refine g_if_eq (tgt := 113) hX dX7_plainCasts_73 (by decide) ⟨by omega, by omega⟩ (fun hc => absurd hc (by omega)) (fun _ => ?_)
              refine g_iload hX dX7_plainCasts_76 rfl ?_
              rcases hb with ⟨rfl, hno⟩ | ⟨j, rfl, hj, hrj, hpj, hmax⟩
              · refine g_if_lt (tgt := 108) hX dX7_plainCasts_78 (by decide) ⟨by omega, by omega⟩ (fun _ => ?_) (fun hc => absurd hc (by omega))
                exact take _ hrk h1 (fun i hi h2 h3 => absurd ⟨h2, h3⟩ (hno i hi))
              · have hkj := hk j (by omega)
                have hsj : szM μ j = μ 77 (μ 92 j).toNat + 4 := rfl
                have hsk : szM μ k = μ 77 (μ 92 k).toNat + 4 := rfl
                refine g_if_lt (tgt := 108) hX dX7_plainCasts_78 (by decide) ⟨by omega, by omega⟩ (fun hc => absurd hc (by omega)) (fun _ => ?_)
                refine g_aload_n hX dX7_plainCasts_81 rfl ?_
                refine gf_X7_7 hX dX7_plainCasts_82 ?_
                refine g_aload_n hX dX7_plainCasts_85 rfl ?_
                refine gf_X7_60 hX dX7_plainCasts_86 ?_
                refine g_iload hX dX7_plainCasts_89 rfl ?_
                refine g_ialdN hX dX7_plainCasts_91 (N := 12) rfl rfl (by omega) (by decide) ?_
                rw [e92]
                refine g_ialdN (i := (μ 92 k).toNat) hX dX7_plainCasts_92 (N := 40) rfl (by omega) (by omega) (by decide) ?_
                rw [e77]
                refine g_aload_n hX dX7_plainCasts_93 rfl ?_
                refine gf_X7_7 hX dX7_plainCasts_94 ?_
                refine g_aload_n hX dX7_plainCasts_97 rfl ?_
                refine gf_X7_60 hX dX7_plainCasts_98 ?_
                refine g_iload hX dX7_plainCasts_101 rfl ?_
                refine g_ialdN hX dX7_plainCasts_103 (N := 12) rfl rfl (by omega) (by decide) ?_
                rw [e92]
                refine g_ialdN (i := (μ 92 j).toNat) hX dX7_plainCasts_104 (N := 40) rfl (by omega) (by omega) (by decide) ?_
                rw [e77]
                refine g_icmp_le (tgt := 113) hX dX7_plainCasts_105 (by decide) ⟨by omega, by omega⟩ ⟨by omega, by omega⟩ (fun h2 => ?_) (fun h2 => ?_)
                · exact keep _ (fun _ _ => ⟨j, rfl, by omega⟩)
                · exact take _ hrk h1 (fun i hi h3 h4 => by have := hmax i hi h3 h4; omega)
          refine g_iload hX dX7_plainCasts_18 rfl ?_
          refine g_if_eq (tgt := 259) hX dX7_plainCasts_20 (by decide) ⟨by omega, by omega⟩ (fun hc => absurd hc (by omega)) (fun _ => ?_)
          refine g_iconst hX dX7_plainCasts_23 ?_
          refine st_istore_9_6 hX dX7_plainCasts_24 (by first | exact ck_i _ | exact ck_r _ _ | exact ck_n | exact ck_0) ?_
          refine g_iconst hX dX7_plainCasts_26 ?_
          refine st_istore_9_7 hX dX7_plainCasts_27 (by first | exact ck_i _ | exact ck_r _ _ | exact ck_n | exact ck_0) ?_
          exact arg A 0 (-1) _ (by omega) (Or.inl ⟨rfl, fun i hi => absurd hi (by omega)⟩)
      refine g_iload_n hX dX7_plainCasts_4 rfl ?_
      refine g_bipush hX dX7_plainCasts_5 rfl ?_
      refine g_icmp_ge (tgt := 269) hX dX7_plainCasts_7 (by decide) ⟨by omega, by omega⟩ ⟨by omega, by omega⟩ (fun hc => absurd hc (by omega)) (fun _ => ?_)
      refine g_iconst hX dX7_plainCasts_10 ?_
      refine st_istore_n_9_3 hX dX7_plainCasts_11 (by first | exact ck_i _ | exact ck_r _ _ | exact ck_n | exact ck_0) ?_
      refine g_iconst hX dX7_plainCasts_12 ?_
      refine st_istore_9_4 hX dX7_plainCasts_13 (by first | exact ck_i _ | exact ck_r _ _ | exact ck_n | exact ck_0) ?_
      refine g_iconst hX dX7_plainCasts_15 ?_
      refine st_istore_9_5 hX dX7_plainCasts_16 (by first | exact ck_i _ | exact ck_r _ _ | exact ck_n | exact ck_0) ?_
      refine wl S0.length S0 0 0 ν _ _ _ rfl (by decide) (by omega) hkp (fun b hb => absurd hb (by omega)) ?_ hS2 (FFn_cg (fun b hb => absurd hb (by omega)))
      rw [LIS_cg (S := rmB 0) (S' := fun _ => true) A (fun i _ _ => by unfold rmB; rw [Nat.zero_testBit]; rfl)]
      exact hS1
  refine g_iconst hX dX7_plainCasts_0 ?_
  refine st_istore_n_9_1 hX dX7_plainCasts_1 (by first | exact ck_i _ | exact ck_r _ _ | exact ck_n | exact ck_0) ?_
  refine g_iconst hX dX7_plainCasts_2 ?_
  refine st_istore_n_9_2 hX dX7_plainCasts_3 (by first | exact ck_i _ | exact ck_r _ _ | exact ck_n | exact ck_0) ?_
  exact plans 8 0 μ (fun _ => 0) none none none none none none (by omega) (fun _ _ => rfl) (fun q hq => absurd hq (by omega)) (fun q hq => absurd hq (by omega)) (by decide) ck_n
