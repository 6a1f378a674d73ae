/-! the law from its entry: both are made; what holds of them new -/
section NS
variable {V : VX} {E : EX} {own : String} {cc : ByteArray} {n lvl pc h cs sl : Nat} {C : CM} {L : List (Option Value)} {st : List Value}
theorem n_astore_n (hX : OkX V E own cc n lvl) {i : Fin 4} (d : decode cc pc = .ok (.astore_n i, 1)) {a : Nat} {L' : List (Option Value)} (hi : (i : Nat) < L.length) (hL : L.set (i : Nat) (some (vr V a)) = L') (hc : ∀ j v, L[j]? = some (some v) → j + 1 = (i : Nat) → v.category ≠ 2) (k : GN V E C h cs sl (pc + 1) L' st) : GN V E C h cs sl pc L (vr V a :: st) := by
  intro H locs ls hz hP hS hl
  subst hL
  exact lv_astore_n hX.1 hX.2.1 d rfl hl hi rfl (fun ls' hl' => k H locs ls' hz hP hS (LV.set hi hl' hc))
theorem n_toG {μ : Mem} (hC : ∀ H, HC V C H → va_P V.1 vwCl (wld V μ) H) (h1 : cs = E.2.2.2.1.1) (h2 : sl = E.2.2.2.1.2) (k : G V E μ pc L st) : GN V E C h cs sl pc L st := by
  subst h1; subst h2
  exact fun H locs ls hz hP hS hl => k H locs ls (hC H hP) hS hl
end NS
def perm (k : Nat) : Nat := if k < 40 then 23 + k else if k < 43 then 23 + k else if k < 48 then 66 + 2 * (k - 43) else if k < 53 then 67 + 2 * (k - 48) else if k < 58 then 13 + 2 * (k - 53) else if k < 63 then 14 + 2 * (k - 58) else if k = 63 then 0 else if k < 76 then k - 63 else k
def permI (k : Nat) : Nat := if k = 0 then 63 else if k < 13 then k + 63 else if k < 23 then (if (k - 13) % 2 = 0 then 53 + (k - 13) / 2 else 58 + (k - 13) / 2) else if k < 66 then k - 23 else if k < 76 then (if (k - 66) % 2 = 0 then 43 + (k - 66) / 2 else 48 + (k - 66) / 2) else k
theorem permI_ok : ∀ k, k < 103 → permI (perm k) = k := by decide +kernel
def mu0 : Mem := fun q j => if q < 76 then mu6 q j else mu7 q j
theorem vw_mu0 (k j : Nat) : vw mu0 k j = if k = 0 ∧ j = 13 then 15 else 0 := by
  unfold vw mu0 mu7
  rw [if_neg (by omega)]
  by_cases e : k = 0 ∧ j = 13
  · rw [if_pos e, if_pos ⟨by omega, e.2⟩]
  · rw [if_neg e, if_neg (fun x => e ⟨by omega, x.2⟩)]
theorem vw_z {k j : Nat} (h : k ≠ 0 ∨ j ≠ 13) : vw mu0 k j = 0 := by
  rw [vw_mu0, if_neg (by omega)]
theorem vw_15 : vw mu0 0 13 = 15 := rfl
theorem hz0 {m : Mem} (h : m 0 17 = 0) : heavyK m (m 0 17).toNat = 0 ∧ frontK m (m 0 17).toNat = 0 ∧ rearK m (m 0 17).toNat = 0 := by
  rw [h]; exact ⟨rfl, rfl, rfl⟩
theorem mu0_lo {q j : Nat} (h : 40 ≤ q) (h2 : q < 76) (h3 : q ≠ 63) : mu0 q j = 0 := by
  unfold mu0
  rw [if_pos h2, mu6_0 h h3]
theorem mu0_63 {j : Nat} (h : j ≠ 10) : mu0 63 j = 0 := by
  unfold mu0 mu6
  rw [if_pos (by decide), if_neg (fun x => by omega), if_neg (fun x => h x.2)]
theorem rel_0 : RelXM mu0 (vw mu0) := by
  refine ⟨⟨?_, ?_, ?_, ?_, rfl⟩, fun i j hi hj => ?_, fun b hb => ?_, fun s hs => ⟨?_, fun k hk => ?_⟩, ?_⟩
  · rw [mu0_63 (by decide), vw_z (by decide)]
  · rw [mu0_63 (by decide), vw_z (by decide)]
  · rw [mu0_63 (by decide), vw_z (by decide)]
  · rw [mu0_63 (by decide), vw_z (by decide)]
  · unfold pvF
    rw [vw_z (by decide), if_neg (by omega)]
    unfold mu0
    rw [if_pos (by omega), mu6_p hi]
  · unfold bedlen
    rw [mu0_lo (by omega) (by omega) (by omega), mu0_lo (by omega) (by omega) (by omega), mu0_lo (by omega) (by omega) (by omega), mu0_lo (by omega) (by omega) (by omega), vw_z (by omega), vw_z (by omega), vw_z (by omega), if_pos rfl]
    exact ⟨rfl, rfl, rfl, rfl⟩
  · rw [mu0_lo (by omega) (by omega) (by omega), vw_z (by omega)]
  · rw [vw_z (by omega)] at hk
    omega
  · obtain ⟨h1, h2, h3⟩ := hz0 (m := vw mu0) (vw_z (by decide))
    rw [h1, h2, h3]
    refine ⟨?_, ?_, ?_, ?_, fun k hk => ?_⟩
    · rw [mu0_lo (by omega) (by omega) (by omega), vw_z (by decide)]
    · exact mu0_lo (by omega) (by omega) (by omega)
    · exact mu0_lo (by omega) (by omega) (by omega)
    · exact mu0_lo (by omega) (by omega) (by omega)
    · rw [vw_z (by decide)] at hk
      omega
theorem im_0 : IM 0 (vw mu0) := by
  obtain ⟨h1, h2, h3⟩ := hz0 (m := vw mu0) (vw_z (by decide))
  have z00 : vw mu0 0 0 = 0 := vw_z (by decide)
  have z014 : vw mu0 0 14 = 0 := vw_z (by decide)
  have z019 : vw mu0 0 19 = 0 := vw_z (by decide)
  have z017 : vw mu0 0 17 = 0 := vw_z (by decide)
  have z9 : ∀ b, vw mu0 9 b = 0 := fun b => vw_z (by omega)
  have z13 : ∀ b, vw mu0 13 b = 0 := fun b => vw_z (by omega)
  refine ⟨⟨?_, fun i hi => ?_, fun i hi hi4 => ⟨vw_z (by omega), vw_z (by omega)⟩⟩, ⟨?_, ?_, ?_, vw_z (by omega)⟩, fun b hb => ⟨?_, ?_, ?_, fun _ => vw_z (by omega), fun k hk => ?_, fun k hk => ?_, fun p hp => ?_⟩, ⟨fun s hs => ⟨?_, fun k hk => ?_, fun k k' hk => ?_⟩, fun p hp => ?_, ?_⟩, ?_, fun k hk => ?_, ?_, ?_, ?_⟩
  · rw [z00]; decide
  · rw [z00] at hi; omega
  · rw [z014]; decide
  · rw [vw_15]; decide
  · rw [z019]; decide
  · rw [z9]; decide
  · rw [z014, vw_z (by omega)]; decide
  · rw [z014, vw_z (by omega)]; decide
  · rw [z9] at hk; omega
  · rw [z9] at hk; omega
  · rw [z00] at hp; omega
  · rw [z13]; decide
  · rw [z13] at hk; omega
  · rw [z13] at hk; omega
  · rw [z00] at hp; omega
  · rw [z00, z13, z13, z13, z13, z13]; rfl
  · rw [z017]; decide
  · rw [z017] at hk; omega
  · rw [h1]; decide
  · rw [h2]; decide
  · rw [h3]; decide
theorem ck_ref {V : VX} {b : Nat} {x y z : Option Value} : ∀ (j : Nat) (v : Value), [some (.ref b), x, y, z][j]? = some (some v) → j + 1 = 1 → v.category ≠ 2 := fun j v hh e => by
  obtain rfl : j = 0 := by omega
  have : Value.ref b = v := Option.some.inj (Option.some.inj hh)
  rw [← this]
  show (1 : Nat) ≠ 2
  decide
theorem ck_ref2 {V : VX} {b a : Nat} {y z : Option Value} : ∀ (j : Nat) (v : Value), [some (.ref b), some (vr V a), y, z][j]? = some (some v) → j + 1 = 2 → v.category ≠ 2 := fun j v hh e => by
  obtain rfl : j = 1 := by omega
  have : vr V a = v := Option.some.inj (Option.some.inj hh)
  rw [← this, vr_cat]
  decide
theorem ck_ref3 {V : VX} {b a c : Nat} {z : Option Value} : ∀ (j : Nat) (v : Value), [some (.ref b), some (vr V a), some (vr V c), z][j]? = some (some v) → j + 1 = 3 → v.category ≠ 2 := fun j v hh e => by
  obtain rfl : j = 2 := by omega
  have : vr V c = v := Option.some.inj (Option.some.inj hh)
  rw [← this, vr_cat]
  decide
theorem cm_end {V : VX} {C : CM} {x y : va_E} (H : Heap) (hP : HC V (MGc V (cup (BGc V (cup C 63 x)) 76 y)) H) : va_P V.1 vwCl (wld V mu0) H := by
  intro k q hq
  obtain ⟨hk, rfl⟩ := wld_of hq
  refine (hP k _ ?_).2
  unfold MGc
  by_cases h : k < 76
  · rw [if_neg (by omega), cup_ne (by omega)]
    unfold BGc
    rw [if_pos h]
    have : mu0 k = mu6 k := by
      funext j
      unfold mu0
      rw [if_pos h]
    rw [this]
  · rw [if_pos (by omega)]
    have : mu0 k = mu7 k := by
      funext j
      unfold mu0
      rw [if_neg h]
    rw [this]
theorem perm_adr {V : VX} {h : Nat} (ha : ∀ k, k < 103 → V.2.1 k = h + perm k) : adrX V (h + 1) := by
  have hp : ∀ k, k < 103 → ∀ x, perm k = x → V.2.1 k = h + x := fun k hk x hx => by rw [ha k hk, hx]
  refine ⟨fun j hj => ?_, fun i hi => ⟨?_, ?_⟩, fun i hi => ?_, fun i hi => ?_, fun i hi => ⟨?_, ?_⟩⟩
  · rw [hp (64 + j) (by omega) (1 + j) (by unfold perm; rw [if_neg (by omega), if_neg (by omega), if_neg (by omega), if_neg (by omega), if_neg (by omega), if_neg (by omega), if_neg (by omega), if_pos (by omega)]; omega)]; omega
  · rw [hp (53 + i) (by omega) (13 + 2 * i) (by unfold perm; rw [if_neg (by omega), if_neg (by omega), if_neg (by omega), if_neg (by omega), if_pos (by omega)]; omega)]; omega
  · rw [hp (58 + i) (by omega) (14 + 2 * i) (by unfold perm; rw [if_neg (by omega), if_neg (by omega), if_neg (by omega), if_neg (by omega), if_neg (by omega), if_pos (by omega)]; omega)]; omega
  · rw [hp i (by omega) (23 + i) (by unfold perm; rw [if_pos (by omega)])]; omega
  · rw [hp (40 + i) (by omega) (63 + i) (by unfold perm; rw [if_neg (by omega), if_pos (by omega)]; omega)]; omega
  · rw [hp (43 + i) (by omega) (66 + 2 * i) (by unfold perm; rw [if_neg (by omega), if_neg (by omega), if_pos (by omega)]; omega)]; omega
  · rw [hp (48 + i) (by omega) (67 + 2 * i) (by unfold perm; rw [if_neg (by omega), if_neg (by omega), if_neg (by omega), if_pos (by omega)]; omega)]; omega
set_option maxHeartbeats 2000000 in
theorem law_init {V : VX} {E : EX} {lvl h b : Nat} (hX : OkX V E RL cL_law 4 lvl) (hI : InjV V) (hlv : 51 < lvl) (hKN : KN V E.2.1.1) (hcl : 103 ≤ E.1.2.2.2.cells) (hsl : 5526 ≤ E.1.2.2.2.slots) (ha : ∀ k, k < 103 → V.2.1 k = h + perm k) (h1 : E.2.2.2.1.1 = 103) (h2 : E.2.2.2.1.2 = 5526)
    (k : G V E mu0 18 [some (.ref b), some (vr V 63), some (vr V 76), some (vi 0)] []) : GN V E (fun _ => none) h 0 0 0 [some (.ref b), none, none, none] [] := by
  have a63 : V.2.1 63 = h := ha 63 (by decide)
  have a76 : V.2.1 76 = h + 76 := ha 76 (by decide)
  have aj : ∀ j, j < 26 → V.2.1 (77 + j) = h + 77 + j := fun j hj => by
    rw [ha (77 + j) (by omega)]
    unfold perm
    rw [if_neg (by omega), if_neg (by omega), if_neg (by omega), if_neg (by omega), if_neg (by omega), if_neg (by omega), if_neg (by omega), if_neg (by omega)]
    omega
  refine n_new (k := 63) (ci := 6) (N := 11) (T := TX6) (ty := tyX6) (fs := blkF6) hX dL_law_0 rfl inX6 tyX6_ok tw_10 tw_11 tw_1 blk6_ok (by omega) (by omega) (by omega) (by omega) ?_
  refine n_dup hX dL_law_3 rfl ?_
  refine n_init hX hKN tw_12 tw_13 tw_1 tw_14 rfl (by decide +kernel) dL_law_4 (i_beds hI cup_eq (perm_adr ha)) (by omega) (by decide) rfl (Nat.le_of_ble_eq_true rfl) (by omega) (by omega) ?_
  refine n_astore_n hX dL_law_7 (Nat.le_of_ble_eq_true rfl) rfl (ck_ref (V := V)) ?_
  refine n_new (k := 76) (ci := 7) (N := 34) (T := TX7) (ty := tyX7) (fs := blkF7) hX dL_law_8 rfl inX7 tyX7_ok tw_504 tw_505 tw_8 blk7_ok (by omega) (by omega) (by omega) (by omega) ?_
  refine n_dup hX dL_law_11 rfl ?_
  refine n_init hX hKN tw_506 tw_507 tw_8 tw_508 rfl (by decide +kernel) dL_law_12 (i_model hI cup_eq (fun j hj => by rw [aj j hj])) (by omega) (by decide) rfl (Nat.le_of_ble_eq_true rfl) (by omega) (by omega) ?_
  refine n_astore_n hX dL_law_15 (Nat.le_of_ble_eq_true rfl) rfl (ck_ref2 (V := V)) ?_
  refine n_iconst hX dL_law_16 ?_
  refine n_istore_n hX dL_law_17 (Nat.le_of_ble_eq_true rfl) (ck_ref3 (V := V)) ?_
  refine n_toG (μ := mu0) cm_end (by omega) (by omega) ?_
  exact k
