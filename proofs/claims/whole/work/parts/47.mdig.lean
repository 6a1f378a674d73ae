/-! the reference's call diggings -/
def F95 (μ ν : Mem) : Prop := (∀ k, k ≠ 76 → k < 95 ∨ 102 < k → ν k = μ k) ∧ ∀ j, j ≠ 26 → ν 76 j = μ 76 j
theorem F95.rf {μ : Mem} : F95 μ μ := ⟨fun _ _ _ => rfl, fun _ _ => rfl⟩
theorem F95.kx {μ ν : Mem} (h : F95 μ ν) : KpX μ ν := fun k hk => h.1 k (by omega) (by omega)
theorem F95.sc {μ ν : Mem} (h : F95 μ ν) : ScM μ ν := ⟨fun k h1 h2 => h.1 k (by omega) (by omega), fun j _ h2 => h.2 j h2, by rw [h.1 93 (by decide) (by decide)]⟩
theorem F95.o {μ ν : Mem} {j : Nat} {v : Int} (h : F95 μ ν) : F95 μ (mset ν 95 j v) := ⟨fun k h1 h2 => by rw [mset_cell (by omega)]; exact h.1 k h1 h2, fun j' hj => by rw [mset_cell (by decide)]; exact h.2 j' hj⟩
theorem F95.km {a b c : Mem} (h : F95 a b) (hk : KM b c) : F95 a c := ⟨fun k h1 h2 => by rw [hk k (by omega)]; exact h.1 k h1 h2, fun j hj => by rw [hk 76 (by omega)]; exact h.2 j hj⟩
theorem K967.km {a b : Mem} (h : K967 a b) : KM a b := fun k hk => h k (by omega) (by omega)
def dupZ (o : Nat → Nat) (i j : Nat) : Int := if ∃ a, a < j ∧ o a = o i then 1 else 0
theorem dup_01 {o : Nat → Nat} {i j : Nat} : dupZ o i j = 0 ∨ dupZ o i j = 1 := by unfold dupZ; split; exact Or.inr rfl; exact Or.inl rfl
set_option maxHeartbeats 4000000 in
theorem m_diggings {lnch : Launch} {V : VX} (hI : InjV V) {μ : Mem} {c : Nat} {n q : Int} (hM : IM c (vw μ)) (hn : in32 n) (hq : in64 q) : Ct lnch yX7_diggings cX7_diggings 7 (some .int) 4 V [vr V 76, vi n, vl q] μ (pI (MPc μ (ansD (vw μ) n q))) := by
  refine Ct_of (by decide) hI (Nat.le_of_ble_eq_true rfl) (fun E hE hX hR => ?_)
  have hX : OkX V E RX7 cX7_diggings 7 4 := hX
  show G V E μ 0 [some (vr V 76), some (vi n), some (vl q), none, none, none, none] []
  obtain ⟨N, hN40, hN, hmN⟩ := vw_n hM
  have hnn := hn
  have hqq := hq
  obtain ⟨hn1, hn2⟩ := hnn
  obtain ⟨hq1, hq2⟩ := hqq
  have bad : ¬ okO (vw μ) n q → ∀ (z4 z5 z6 : Option Value), G V E μ 29 [some (vr V 76), some (vi n), some (vl q), none, z4, z5, z6] [] := fun h z4 z5 z6 => by
    refine g_iconst hX dX7_diggings_29 ?_
    refine g_iret hX hR dX7_diggings_30 ⟨_, rfl, Or.inl ⟨h, rfl⟩, KpX.rf, F95.rf.sc⟩
  refine g_iload_n hX dX7_diggings_0 rfl ?_
  refine g_i2l hX dX7_diggings_1 ⟨by omega, by omega⟩ ?_
  refine g_lconst hX dX7_diggings_2 (z := 0) rfl ?_
  refine g_ldc2 (z := 6) hX dX7_diggings_3 tw_700 ?_
  refine g_s3I hX lk_X7_96 dX7_diggings_6 (c_in hI ⟨by omega, by omega⟩ ⟨by decide, by decide⟩ ⟨by decide, by decide⟩) (by decide) (by decide) rfl (Nat.le_of_ble_eq_true rfl) (fun z μ' hp => ?_)
  obtain ⟨rfl, hm⟩ := hp
  rw [hm]
  clear hm μ'
  by_cases h1 : 0 ≤ n ∧ n ≤ 6
  rotate_left
  · rw [if_neg h1]
    refine g_if_eq (tgt := 29) hX dX7_diggings_9 (by decide) ⟨by omega, by omega⟩ (fun _ => ?_) (fun hc => absurd hc (by omega))
    exact bad (fun h => h1 h.1) _ _ _
  rw [if_pos h1]
  refine g_if_eq (tgt := 29) hX dX7_diggings_9 (by decide) ⟨by omega, by omega⟩ (fun hc => absurd hc (by omega)) (fun _ => ?_)
  obtain ⟨r, rfl⟩ : ∃ r : Nat, n = (r : Int) := ⟨n.toNat, by omega⟩
  have hr6 : r ≤ 6 := by omega
  refine g_lload_n hX dX7_diggings_12 rfl ?_
  refine g_lconst hX dX7_diggings_13 (z := 0) rfl ?_
  refine g_lcmp hX dX7_diggings_14 ⟨by omega, by omega⟩ ⟨by omega, by omega⟩ ?_
  by_cases h2 : q < 0
  · rw [if_neg (by omega), if_neg (by omega)]
    refine g_if_lt (tgt := 29) hX dX7_diggings_15 (by decide) ⟨by omega, by omega⟩ (fun _ => ?_) (fun hc => absurd hc (by omega))
    exact bad (fun h => absurd h.2.1.1 (by omega)) _ _ _
  have h3 : (if (0 : Int) < q then 1 else if q = 0 then 0 else -1 : Int) = 1 ∨ (if (0 : Int) < q then 1 else if q = 0 then 0 else -1 : Int) = 0 := by
    by_cases e : 0 < q
    · rw [if_pos e]; exact Or.inl rfl
    · rw [if_neg e, if_pos (by omega)]; exact Or.inr rfl
  refine g_if_lt (tgt := 29) hX dX7_diggings_15 (by decide) lcz_in (fun h => absurd h (by omega)) (fun _ => ?_)
  clear h3
  obtain ⟨x, rfl⟩ : ∃ x : Nat, q = (x : Int) := ⟨q.toNat, by omega⟩
  obtain ⟨c0, hc1, hc2, hc3, hc4⟩ := ush_sp (a := (x : Int)) (by omega) (by omega) (b := r * 6) (by omega)
  refine g_lload_n hX dX7_diggings_18 rfl ?_
  refine g_bipush hX dX7_diggings_19 rfl ?_
  refine g_iload_n hX dX7_diggings_21 rfl ?_
  refine g_imul hX dX7_diggings_22 ?_
  rw [show (6 : Int) * (r : Int) = ((r * 6 : Nat) : Int) by omega]
  refine g_lushr hX dX7_diggings_23 hc2 ?_
  refine g_lconst hX dX7_diggings_24 (z := 0) rfl ?_
  refine g_lcmp hX dX7_diggings_25 ⟨by omega, by omega⟩ ⟨by decide, by decide⟩ ?_
  have hz := lcz (c := c0)
  have hzi := lcz_in (c := c0)
  refine g_if_eq (tgt := 31) hX dX7_diggings_26 (by decide) hzi (fun h3 => ?_) (fun h3 => ?_)
  rotate_left
  · exact bad (fun h => h3 (hz.mpr (hc3.mpr h.2.1))) _ _ _
  have hrange := hc3.mp (hz.mp h3)
  rw [show ((x : Int)).toNat = x from rfl] at hrange
  clear hz hzi hc1 hc2 hc3 hc4 h3 c0
  have hd64 : ∀ i, digN (x : Int) i < 64 := fun i => Nat.mod_lt _ (by decide)
  have w5 : ∀ p, vw μ 5 p = μ 81 p := fun _ => rfl
  -- the least number
  have last : okO (vw μ) (r : Int) (x : Int) → inY (vw μ) (r : Int) (x : Int) → ∀ (ν : Mem) (z6 : Option Value), F95 μ ν → ν 76 26 = (r : Int) → (∀ j, j < r → ν 95 j = (digN (x : Int) j : Int)) → G V E ν 236 [some (vr V 76), some (vi (r : Int)), some (vl (x : Int)), none, some (vi 1), some (vi (r : Int)), z6] [] := by
    intro hok hiy ν z6 hF h26 h95
    obtain ⟨y1, y2, y3⟩ := Y0_ok hM hok hiy
    rw [show ((r : Int)).toNat = r from rfl] at y1 y2 y3
    have hOrd : OrdM (fun i => (digN (x : Int) i : Int)) r ν := ⟨hr6, h26, fun i hi => ⟨h95 i hi, by have := hok.2.2.1 i hi; show 0 ≤ (digN (x : Int) i : Int) ∧ (digN (x : Int) i : Int) < 40; omega⟩, hok.2.2.2⟩
    have h18 : Dg r 18 0 (Y0 (vw μ) (fun i => (digN (x : Int) i : Int)) r) := by
      have := Dg_up (Dg_all r 0 _ (by omega) y1 y2) (18 - 3 * r)
      rw [show 3 * r + (18 - 3 * r) = 18 by omega] at this
      exact this
    have laid : ∀ (ξ ξ' : Mem), KM ν ξ → K967 ξ ξ' → (∀ s, s < 5 → ξ' 96 s = ξ 89 s) → (∀ k, k < 20 → ξ' 97 k = ξ 90 k) → DgM (fun i => (digN (x : Int) i : Int)) r ξ' (Y0 (vw μ) (fun i => (digN (x : Int) i : Int)) r) := fun ξ ξ' hk _ ha hb s hs => by
      obtain ⟨⟨b1, b2⟩, b3, -⟩ := hM.2.2.2.1.1 s hs
      have e13 : ξ' 96 s = vw μ 13 s := by rw [ha s hs, hk 89 (by omega), hF.1 89 (by decide) (by omega)]; rfl
      have e14 : ∀ k, k < 20 → ξ' 97 k = vw μ 14 k := fun k hk' => by rw [hb k hk', hk 90 (by omega), hF.1 90 (by decide) (by omega)]; rfl
      rw [y3 s hs]
      refine ⟨by omega, by rw [e13]; omega, ?_, fun k hk' => ?_⟩
      · show List.map _ _ = List.map _ (stkL (fun k => vw μ 14 (4 * s + k)) (vw μ 13 s).toNat)
        rw [stkL_cg (row' := fun k => vw μ 14 (4 * s + k)) _ (fun j hj => e14 (4 * s + j) (by omega))]
      · have := b3 k (by omega)
        rw [e14 (4 * s + k) (by omega)]
        omega
    have loop : ∀ (f j : Nat) (ξ : Mem) (z6 : Option Value), j + f = 18 → KM ν ξ → DgM (fun i => (digN (x : Int) i : Int)) r ξ (Y0 (vw μ) (fun i => (digN (x : Int) i : Int)) r) → (∀ k, k < j → ¬ Dg r k 0 (Y0 (vw μ) (fun i => (digN (x : Int) i : Int)) r)) → G V E ξ 243 [some (vr V 76), some (vi (r : Int)), some (vl (x : Int)), none, some (vi 1), some (vi (j : Int)), z6] [] := by
      intro f
      induction f with
      | zero =>
        intro j ξ z6 hj hk hDξ hno
        refine g_aload_n hX dX7_diggings_243 rfl ?_
        refine g_iload hX dX7_diggings_244 rfl ?_
        refine g_v1I hX lk_X7_182 dX7_diggings_246 (c0 := 7) ok76 ⟨_, rfl, rfl⟩ (c_does hI hDξ (hOrd.cg (hk 76 (by omega)) (hk 95 (by omega))) y1 (by omega)) (by first | decide | omega) (by decide) rfl (Nat.le_of_ble_eq_true rfl) (fun z μ' hp => ?_)
        obtain ⟨hp1, hp2⟩ := hp
        rcases hp1 with ⟨rfl, hg⟩ | ⟨rfl, hg⟩
        · refine g_if_ne (tgt := 262) hX dX7_diggings_249 (by decide) ⟨by omega, by omega⟩ (fun _ => ?_) (fun hc => absurd hc (by omega))
          have hF2 := (hF.km hk).km hp2
          refine g_iload hX dX7_diggings_262 rfl ?_
          refine g_iret hX hR dX7_diggings_264 ⟨_, rfl, Or.inr (Or.inr ⟨hok, hiy, j, rfl, hg, hno⟩), hF2.kx, hF2.sc⟩
        · exact absurd (by rw [show j = 18 by omega]; exact h18) hg
      | succ f ih =>
        intro j ξ z6 hj hk hDξ hno
        refine g_aload_n hX dX7_diggings_243 rfl ?_
        refine g_iload hX dX7_diggings_244 rfl ?_
        refine g_v1I hX lk_X7_182 dX7_diggings_246 (c0 := 7) ok76 ⟨_, rfl, rfl⟩ (c_does hI hDξ (hOrd.cg (hk 76 (by omega)) (hk 95 (by omega))) y1 (by omega)) (by first | decide | omega) (by decide) rfl (Nat.le_of_ble_eq_true rfl) (fun z μ' hp => ?_)
        obtain ⟨hp1, hp2⟩ := hp
        rcases hp1 with ⟨rfl, hg⟩ | ⟨rfl, hg⟩
        · refine g_if_ne (tgt := 262) hX dX7_diggings_249 (by decide) ⟨by omega, by omega⟩ (fun _ => ?_) (fun hc => absurd hc (by omega))
          have hF2 := (hF.km hk).km hp2
          refine g_iload hX dX7_diggings_262 rfl ?_
          refine g_iret hX hR dX7_diggings_264 ⟨_, rfl, Or.inr (Or.inr ⟨hok, hiy, j, rfl, hg, hno⟩), hF2.kx, hF2.sc⟩
        · refine g_if_ne (tgt := 262) hX dX7_diggings_249 (by decide) ⟨by omega, by omega⟩ (fun hc => absurd hc (by omega)) (fun _ => ?_)
          have hk2 : KM ν μ' := fun k hk' => (hp2 k hk').trans (hk k hk')
          refine st_iinc_7_5 hX dX7_diggings_252 (by first | exact ck_i _ | exact ck_r _ _ | exact ck_n | exact ck_0) ?_
          refine g_aload_n hX dX7_diggings_255 rfl ?_
          refine g_v0V hX lk_X7_179 dX7_diggings_256 (c0 := 7) ok76 ⟨_, rfl, rfl⟩ (c_lies hI) (by first | decide | omega) (by decide) rfl (Nat.le_of_ble_eq_true rfl) (fun ξ' hp => ?_)
          obtain ⟨l1, l2, l3⟩ := hp
          refine g_goto (tgt := 243) hX dX7_diggings_259 (by decide) ?_
          refine ih (j + 1) ξ' _ (by omega) (fun k hk' => (l1.km k hk').trans (hk2 k hk')) (laid μ' ξ' hk2 l1 l2 l3) (fun k hk' => ?_)
          by_cases e : k = j
          · rw [e]; exact hg
          · exact hno k (by omega)
    refine g_iconst hX dX7_diggings_236 ?_
    refine st_istore_7_5 hX dX7_diggings_237 (by first | exact ck_i _ | exact ck_r _ _ | exact ck_n | exact ck_0) ?_
    refine g_aload_n hX dX7_diggings_239 rfl ?_
    refine g_v0V hX lk_X7_179 dX7_diggings_240 (c0 := 7) ok76 ⟨_, rfl, rfl⟩ (c_lies hI) (by first | decide | omega) (by decide) rfl (Nat.le_of_ble_eq_true rfl) (fun ξ' hp => ?_)
    obtain ⟨l1, l2, l3⟩ := hp
    exact loop 18 0 ξ' _ (by omega) l1.km (laid ν ξ' (fun _ _ => rfl) l1 l2 l3) (fun k hk => absurd hk (by omega))
  -- each lies in the yard
  have two : okO (vw μ) (r : Int) (x : Int) → ∀ (ν : Mem), F95 μ ν → ν 76 26 = (r : Int) → (∀ j, j < r → ν 95 j = (digN (x : Int) j : Int)) → ∀ (e i : Nat) (ok : Int) (z6 : Option Value), i + e = r →
      ((ok = 1 ∧ vw μ 13 0 + vw μ 13 1 + vw μ 13 2 + vw μ 13 3 + vw μ 13 4 ≤ 10 ∧ ∀ j, j < i → vw μ 5 (digN (x : Int) j) = 3) ∨ (ok = 0 ∧ ¬ inY (vw μ) (r : Int) (x : Int))) →
      G V E ν 188 [some (vr V 76), some (vi (r : Int)), some (vl (x : Int)), none, some (vi ok), some (vi (i : Int)), z6] [] := by
    intro hok ν hF h26 h95 e
    induction e with
    | zero =>
      intro i ok z6 hi hz
      obtain rfl : i = r := by omega
      refine g_iload hX dX7_diggings_188 rfl ?_
      refine g_iload_n hX dX7_diggings_190 rfl ?_
      refine g_icmp_ge (tgt := 228) hX dX7_diggings_191 (by decide) ⟨by omega, by omega⟩ ⟨by omega, by omega⟩ (fun _ => ?_) (fun hc => absurd hc (by omega))
      rcases hz with ⟨rfl, h10, hall⟩ | ⟨rfl, hny⟩
      · refine g_iload hX dX7_diggings_228 rfl ?_
        refine g_if_ne (tgt := 236) hX dX7_diggings_230 (by decide) ⟨by omega, by omega⟩ (fun _ => ?_) (fun hc => absurd hc (by omega))
        exact last hok ⟨h10, hall⟩ ν _ hF h26 h95
      · refine g_iload hX dX7_diggings_228 rfl ?_
        refine g_if_ne (tgt := 236) hX dX7_diggings_230 (by decide) ⟨by omega, by omega⟩ (fun hc => absurd hc (by omega)) (fun _ => ?_)
        refine g_bipush hX dX7_diggings_233 rfl ?_
        refine g_iret hX hR dX7_diggings_235 ⟨_, rfl, Or.inr (Or.inl ⟨hok, hny, rfl⟩), hF.kx, hF.sc⟩
    | succ e ih =>
      intro i ok z6 hi hz
      have hdN := hok.2.2.1 i (by rw [show ((r : Int)).toNat = r from rfl]; omega)
      have hmp := IM_p hM hdN
      have h95i := h95 i (by omega)
      have e81 : ν 81 (digN (x : Int) i) = vw μ 5 (digN (x : Int) i) := by rw [hF.1 81 (by decide) (by omega)]; rfl
      refine g_iload hX dX7_diggings_188 rfl ?_
      refine g_iload_n hX dX7_diggings_190 rfl ?_
      refine g_icmp_ge (tgt := 228) hX dX7_diggings_191 (by decide) ⟨by omega, by omega⟩ ⟨by omega, by omega⟩ (fun hc => absurd hc (by omega)) (fun _ => ?_)
      refine g_iload hX dX7_diggings_194 rfl ?_
      rcases hz with ⟨rfl, h10, hall⟩ | ⟨rfl, hny⟩
      · refine g_if_eq (tgt := 219) hX dX7_diggings_196 (by decide) ⟨by omega, by omega⟩ (fun hc => absurd hc (by omega)) (fun _ => ?_)
        refine g_aload_n hX dX7_diggings_199 rfl ?_
        refine gf_X7_22 hX dX7_diggings_200 ?_
        refine g_aload_n hX dX7_diggings_203 rfl ?_
        refine gf_X7_69 hX dX7_diggings_204 ?_
        refine g_iload hX dX7_diggings_207 rfl ?_
        refine g_ialdN (i := i) hX dX7_diggings_209 (N := 6) rfl (by omega) (by omega) (by decide) ?_
        rw [h95i]
        refine g_ialdN (i := digN (x : Int) i) hX dX7_diggings_210 (N := 40) rfl (by omega) (by omega) (by decide) ?_
        refine g_iconst hX dX7_diggings_211 ?_
        rw [e81]
        refine g_icmp_ne (tgt := 219) hX dX7_diggings_212 (by decide) ⟨by omega, by omega⟩ ⟨by omega, by omega⟩ (fun h5 => ?_) (fun h5 => ?_)
        · refine g_iconst hX dX7_diggings_219 ?_
          refine st_istore_7_4 hX dX7_diggings_220 (by first | exact ck_i _ | exact ck_r _ _ | exact ck_n | exact ck_0) ?_
          refine st_iinc_7_5 hX dX7_diggings_222 (by first | exact ck_i _ | exact ck_r _ _ | exact ck_n | exact ck_0) ?_
          refine g_goto (tgt := 188) hX dX7_diggings_225 (by decide) ?_
          exact ih (i + 1) 0 _ (by omega) (Or.inr ⟨rfl, fun h => h5 (h.2 i (by rw [show ((r : Int)).toNat = r from rfl]; omega))⟩)
        · refine g_iconst hX dX7_diggings_215 ?_
          refine g_goto (tgt := 220) hX dX7_diggings_216 (by decide) ?_
          refine st_istore_7_4 hX dX7_diggings_220 (by first | exact ck_i _ | exact ck_r _ _ | exact ck_n | exact ck_0) ?_
          refine st_iinc_7_5 hX dX7_diggings_222 (by first | exact ck_i _ | exact ck_r _ _ | exact ck_n | exact ck_0) ?_
          refine g_goto (tgt := 188) hX dX7_diggings_225 (by decide) ?_
          refine ih (i + 1) 1 _ (by omega) (Or.inl ⟨rfl, h10, fun j hj => ?_⟩)
          by_cases e1 : j = i
          · rw [e1]; exact h5
          · exact hall j (by omega)
      · refine g_if_eq (tgt := 219) hX dX7_diggings_196 (by decide) ⟨by omega, by omega⟩ (fun _ => ?_) (fun hc => absurd hc (by omega))
        refine g_iconst hX dX7_diggings_219 ?_
        refine st_istore_7_4 hX dX7_diggings_220 (by first | exact ck_i _ | exact ck_r _ _ | exact ck_n | exact ck_0) ?_
        refine st_iinc_7_5 hX dX7_diggings_222 (by first | exact ck_i _ | exact ck_r _ _ | exact ck_n | exact ck_0) ?_
        refine g_goto (tgt := 188) hX dX7_diggings_225 (by decide) ?_
        exact ih (i + 1) 0 _ (by omega) (Or.inr ⟨rfl, hny⟩)
  -- each is a part, and none twice
  have one : ∀ (e i : Nat) (ν : Mem) (z5 z6 : Option Value), i + e = r → ckV z5 → F95 μ ν → ν 76 26 = (r : Int) → (∀ j, j < i → ν 95 j = (digN (x : Int) j : Int)) → (∀ j, j < i → (digN (x : Int) j : Int) < vw μ 0 0) → (∀ j k, j < k → k < i → (digN (x : Int) j : Int) ≠ digN (x : Int) k) →
      G V E ν 39 [some (vr V 76), some (vi (r : Int)), some (vl (x : Int)), none, some (vi (i : Int)), z5, z6] [] := by
    intro e
    induction e with
    | zero =>
      intro i ν z5 z6 hi hck hF h26 h95 ha hb
      obtain rfl : i = r := by omega
      have hok : okO (vw μ) (i : Int) (x : Int) := ⟨⟨by omega, by omega⟩, hrange, ha, hb⟩
      have b0 := (hM.2.2.2.1.1 0 (by decide)).1
      have b1 := (hM.2.2.2.1.1 1 (by decide)).1
      have b2 := (hM.2.2.2.1.1 2 (by decide)).1
      have b3 := (hM.2.2.2.1.1 3 (by decide)).1
      have b4 := (hM.2.2.2.1.1 4 (by decide)).1
      have e89 : ν 89 = vw μ 13 := by rw [hF.1 89 (by decide) (by omega)]; rfl
      refine g_iload hX dX7_diggings_39 rfl ?_
      refine g_iload_n hX dX7_diggings_41 rfl ?_
      refine g_icmp_ge (tgt := 139) hX dX7_diggings_42 (by decide) ⟨by omega, by omega⟩ ⟨by omega, by omega⟩ (fun _ => ?_) (fun hc => absurd hc (by omega))
      refine g_aload_n hX dX7_diggings_139 rfl ?_
      refine gf_X7_51 hX dX7_diggings_140 ?_
      refine g_iconst hX dX7_diggings_143 ?_
      refine g_ialdN (i := 0) hX dX7_diggings_144 (N := 5) rfl (by omega) (by omega) (by decide) ?_
      refine g_aload_n hX dX7_diggings_145 rfl ?_
      refine gf_X7_51 hX dX7_diggings_146 ?_
      refine g_iconst hX dX7_diggings_149 ?_
      refine g_ialdN (i := 1) hX dX7_diggings_150 (N := 5) rfl (by omega) (by omega) (by decide) ?_
      refine g_iadd hX dX7_diggings_151 ?_
      refine g_aload_n hX dX7_diggings_152 rfl ?_
      refine gf_X7_51 hX dX7_diggings_153 ?_
      refine g_iconst hX dX7_diggings_156 ?_
      refine g_ialdN (i := 2) hX dX7_diggings_157 (N := 5) rfl (by omega) (by omega) (by decide) ?_
      refine g_iadd hX dX7_diggings_158 ?_
      refine g_aload_n hX dX7_diggings_159 rfl ?_
      refine gf_X7_51 hX dX7_diggings_160 ?_
      refine g_iconst hX dX7_diggings_163 ?_
      refine g_ialdN (i := 3) hX dX7_diggings_164 (N := 5) rfl (by omega) (by omega) (by decide) ?_
      refine g_iadd hX dX7_diggings_165 ?_
      refine g_aload_n hX dX7_diggings_166 rfl ?_
      refine gf_X7_51 hX dX7_diggings_167 ?_
      refine g_iconst hX dX7_diggings_170 ?_
      refine g_ialdN (i := 4) hX dX7_diggings_171 (N := 5) rfl (by omega) (by omega) (by decide) ?_
      refine g_iadd hX dX7_diggings_172 ?_
      refine g_bipush hX dX7_diggings_173 rfl ?_
      rw [e89]
      refine g_icmp_gt (tgt := 182) hX dX7_diggings_175 (by decide) ⟨by omega, by omega⟩ ⟨by omega, by omega⟩ (fun h5 => ?_) (fun h5 => ?_)
      · refine g_iconst hX dX7_diggings_182 ?_
        refine st_istore_7_4 hX dX7_diggings_183 (by first | exact ck_i _ | exact ck_r _ _ | exact ck_n | exact ck_0) ?_
        refine g_iconst hX dX7_diggings_185 ?_
        refine st_istore_7_5 hX dX7_diggings_186 (by first | exact ck_i _ | exact ck_r _ _ | exact ck_n | exact ck_0) ?_
        exact two hok ν hF h26 h95 i 0 0 _ (by omega) (Or.inr ⟨rfl, fun h => absurd h.1 (by omega)⟩)
      · refine g_iconst hX dX7_diggings_178 ?_
        refine g_goto (tgt := 183) hX dX7_diggings_179 (by decide) ?_
        refine st_istore_7_4 hX dX7_diggings_183 (by first | exact ck_i _ | exact ck_r _ _ | exact ck_n | exact ck_0) ?_
        refine g_iconst hX dX7_diggings_185 ?_
        refine st_istore_7_5 hX dX7_diggings_186 (by first | exact ck_i _ | exact ck_r _ _ | exact ck_n | exact ck_0) ?_
        exact two hok ν hF h26 h95 i 0 1 _ (by omega) (Or.inl ⟨rfl, by omega, fun j hj => absurd hj (by omega)⟩)
    | succ e ih =>
      intro i ν z5 z6 hi hck hF h26 h95 ha hb
      have hd := hd64 i
      have hpl : x / 2 ^ (i * 6) ≤ x := Nat.div_le_self _ _
      refine g_iload hX dX7_diggings_39 rfl ?_
      refine g_iload_n hX dX7_diggings_41 rfl ?_
      refine g_icmp_ge (tgt := 139) hX dX7_diggings_42 (by decide) ⟨by omega, by omega⟩ ⟨by omega, by omega⟩ (fun hc => absurd hc (by omega)) (fun _ => ?_)
      refine g_aload_n hX dX7_diggings_45 rfl ?_
      refine gf_X7_69 hX dX7_diggings_46 ?_
      refine g_iload hX dX7_diggings_49 rfl ?_
      refine g_lload_n hX dX7_diggings_51 rfl ?_
      refine g_bipush hX dX7_diggings_52 rfl ?_
      refine g_iload hX dX7_diggings_54 rfl ?_
      refine g_imul hX dX7_diggings_56 ?_
      rw [show (6 : Int) * (i : Int) = ((i * 6 : Nat) : Int) by omega]
      refine g_lshr hX dX7_diggings_57 (sshr_nat (by omega) (by omega)) ?_
      refine g_ldc2 (z := 63) hX dX7_diggings_58 tw_701 ?_
      refine g_land hX dX7_diggings_61 (land_nat (y := 63)) ?_
      refine g_l2i hX dX7_diggings_62 ?_
      rw [and_63, show x / 2 ^ (i * 6) % 64 = digN (x : Int) i from rfl]
      have hF1 : F95 μ (mset ν 95 i (digN (x : Int) i : Int)) := hF.o
      have h95' : ∀ j, j < i + 1 → mset ν 95 i (digN (x : Int) i : Int) 95 j = (digN (x : Int) j : Int) := fun j hj => by
        by_cases e1 : j = i
        · rw [e1, mset_same]
        · rw [mset_ne (Or.inr e1)]; exact h95 j (by omega)
      have h26' : mset ν 95 i (digN (x : Int) i : Int) 76 26 = (r : Int) := by rw [mset_cell (by decide)]; exact h26
      have h0' : mset ν 95 i (digN (x : Int) i : Int) 76 0 = (N : Int) := by rw [hF1.2 0 (by decide)]; exact hN
      refine g_iastN (i := i) hX dX7_diggings_63 (N := 6) rfl (by omega) (by omega) (by decide) ?_
      refine g_iconst hX dX7_diggings_64 ?_
      refine st_istore_7_5 hX dX7_diggings_65 (by first | exact ck_i _ | exact ck_r _ _ | exact ck_n | exact ck_0) ?_
      refine g_iconst hX dX7_diggings_67 ?_
      refine st_istore_7_6 hX dX7_diggings_68 (by first | exact ck_i _ | exact ck_r _ _ | exact ck_n | exact ck_0) ?_
      have fin : G V E (mset ν 95 i (digN (x : Int) i : Int)) 112 [some (vr V 76), some (vi (r : Int)), some (vl (x : Int)), none, some (vi (i : Int)), some (vi (dupZ (digN (x : Int)) i i)), some (vi (i : Int))] [] := by
        have hdz := dup_01 (o := digN (x : Int)) (i := i) (j := i)
        refine g_aload_n hX dX7_diggings_112 rfl ?_
        refine g_aload_n hX dX7_diggings_113 rfl ?_
        refine gf_X7_69 hX dX7_diggings_114 ?_
        refine g_iload hX dX7_diggings_117 rfl ?_
        refine g_ialdN (i := i) hX dX7_diggings_119 (N := 6) rfl (by omega) (by omega) (by decide) ?_
        rw [h95' i (by omega)]
        refine g_v1I hX lk_X7_114 dX7_diggings_120 (c0 := 7) ok76 ⟨_, rfl, rfl⟩ (c_isPart hI h0' hN40 ⟨by omega, by omega⟩) (by first | decide | omega) (by decide) rfl (Nat.le_of_ble_eq_true rfl) (fun z μ' hp => ?_)
        obtain ⟨rfl, hm⟩ := hp
        rw [hm]
        clear hm μ'
        have bad3 : ¬ okO (vw μ) (r : Int) (x : Int) → G V E (mset ν 95 i (digN (x : Int) i : Int)) 131 [some (vr V 76), some (vi (r : Int)), some (vl (x : Int)), none, some (vi (i : Int)), some (vi (dupZ (digN (x : Int)) i i)), some (vi (i : Int))] [] := fun h => by
          refine g_iconst hX dX7_diggings_131 ?_
          refine g_iret hX hR dX7_diggings_132 ⟨_, rfl, Or.inl ⟨h, rfl⟩, hF1.kx, hF1.sc⟩
        by_cases h5 : 0 ≤ (digN (x : Int) i : Int) ∧ (digN (x : Int) i : Int) < (N : Int)
        rotate_left
        · rw [if_neg h5]
          refine g_if_eq (tgt := 131) hX dX7_diggings_123 (by decide) ⟨by omega, by omega⟩ (fun _ => ?_) (fun hc => absurd hc (by omega))
          exact bad3 (fun h => by have := h.2.2.1 i (by rw [show ((r : Int)).toNat = r from rfl]; omega); omega)
        rw [if_pos h5]
        refine g_if_eq (tgt := 131) hX dX7_diggings_123 (by decide) ⟨by omega, by omega⟩ (fun hc => absurd hc (by omega)) (fun _ => ?_)
        refine g_iload hX dX7_diggings_126 rfl ?_
        refine g_if_eq (tgt := 133) hX dX7_diggings_128 (by decide) ⟨by omega, by omega⟩ (fun h6 => ?_) (fun h6 => ?_)
        · refine st_iinc_7_4 hX dX7_diggings_133 (by first | exact ck_i _ | exact ck_r _ _ | exact ck_n | exact ck_0) ?_
          refine g_goto (tgt := 39) hX dX7_diggings_136 (by decide) ?_
          have hno : ¬ ∃ a, a < i ∧ digN (x : Int) a = digN (x : Int) i := fun hc => by unfold dupZ at h6; rw [if_pos hc] at h6; exact absurd h6 (by decide)
          refine ih (i + 1) _ _ _ (by omega) (ck_i _) hF1 h26' h95' (fun j hj => ?_) (fun j k hjk hk => ?_)
          · by_cases e1 : j = i
            · rw [e1]; omega
            · exact ha j (by omega)
          · by_cases e1 : k = i
            · rw [e1]; exact fun q => hno ⟨j, by omega, by omega⟩
            · exact hb j k hjk (by omega)
        · refine bad3 (fun h => h6 ?_)
          unfold dupZ
          rw [if_neg]
          rintro ⟨a, q1, q2⟩
          exact h.2.2.2 a i q1 (by rw [show ((r : Int)).toNat = r from rfl]; omega) (by rw [q2])
      have dl : ∀ (f j : Nat), j + f = i → G V E (mset ν 95 i (digN (x : Int) i : Int)) 70 [some (vr V 76), some (vi (r : Int)), some (vl (x : Int)), none, some (vi (i : Int)), some (vi (dupZ (digN (x : Int)) i j)), some (vi (j : Int))] [] := by
        intro f
        induction f with
        | zero =>
          intro j hj
          obtain rfl : j = i := by omega
          refine g_iload hX dX7_diggings_70 rfl ?_
          refine g_iload hX dX7_diggings_72 rfl ?_
          refine g_icmp_ge (tgt := 112) hX dX7_diggings_74 (by decide) ⟨by omega, by omega⟩ ⟨by omega, by omega⟩ (fun _ => ?_) (fun hc => absurd hc (by omega))
          exact fin
        | succ f ihf =>
          intro j hj
          have hdz := dup_01 (o := digN (x : Int)) (i := i) (j := j)
          have hdj := hd64 j
          have to1 : dupZ (digN (x : Int)) i (j + 1) = 1 → G V E (mset ν 95 i (digN (x : Int) i : Int)) 99 [some (vr V 76), some (vi (r : Int)), some (vl (x : Int)), none, some (vi (i : Int)), some (vi (dupZ (digN (x : Int)) i j)), some (vi (j : Int))] [] := fun h => by
            refine g_iconst hX dX7_diggings_99 ?_
            refine g_goto (tgt := 104) hX dX7_diggings_100 (by decide) ?_
            refine st_istore_7_5 hX dX7_diggings_104 (by first | exact ck_i _ | exact ck_r _ _ | exact ck_n | exact ck_0) ?_
            refine st_iinc_7_6 hX dX7_diggings_106 (by first | exact ck_i _ | exact ck_r _ _ | exact ck_n | exact ck_0) ?_
            refine g_goto (tgt := 70) hX dX7_diggings_109 (by decide) ?_
            have := ihf (j + 1) (by omega)
            rw [h] at this
            exact this
          refine g_iload hX dX7_diggings_70 rfl ?_
          refine g_iload hX dX7_diggings_72 rfl ?_
          refine g_icmp_ge (tgt := 112) hX dX7_diggings_74 (by decide) ⟨by omega, by omega⟩ ⟨by omega, by omega⟩ (fun hc => absurd hc (by omega)) (fun _ => ?_)
          refine g_iload hX dX7_diggings_77 rfl ?_
          refine g_if_ne (tgt := 99) hX dX7_diggings_79 (by decide) ⟨by omega, by omega⟩ (fun h5 => ?_) (fun h5 => ?_)
          · refine to1 ?_
            have h1' : dupZ (digN (x : Int)) i j = 1 := by omega
            unfold dupZ at h1' ⊢
            by_cases hc : ∃ a, a < j ∧ digN (x : Int) a = digN (x : Int) i
            · obtain ⟨a, q1, q2⟩ := hc
              rw [if_pos ⟨a, by omega, q2⟩]
            · rw [if_neg hc] at h1'; exact absurd h1' (by decide)
          refine g_aload_n hX dX7_diggings_82 rfl ?_
          refine gf_X7_69 hX dX7_diggings_83 ?_
          refine g_iload hX dX7_diggings_86 rfl ?_
          refine g_ialdN (i := j) hX dX7_diggings_88 (N := 6) rfl (by omega) (by omega) (by decide) ?_
          rw [h95' j (by omega)]
          refine g_aload_n hX dX7_diggings_89 rfl ?_
          refine gf_X7_69 hX dX7_diggings_90 ?_
          refine g_iload hX dX7_diggings_93 rfl ?_
          refine g_ialdN (i := i) hX dX7_diggings_95 (N := 6) rfl (by omega) (by omega) (by decide) ?_
          rw [h95' i (by omega)]
          refine g_icmp_ne (tgt := 103) hX dX7_diggings_96 (by decide) ⟨by omega, by omega⟩ ⟨by omega, by omega⟩ (fun h6 => ?_) (fun h6 => ?_)
          · refine g_iconst hX dX7_diggings_103 ?_
            refine st_istore_7_5 hX dX7_diggings_104 (by first | exact ck_i _ | exact ck_r _ _ | exact ck_n | exact ck_0) ?_
            refine st_iinc_7_6 hX dX7_diggings_106 (by first | exact ck_i _ | exact ck_r _ _ | exact ck_n | exact ck_0) ?_
            refine g_goto (tgt := 70) hX dX7_diggings_109 (by decide) ?_
            have := ihf (j + 1) (by omega)
            rw [show dupZ (digN (x : Int)) i (j + 1) = 0 by
              unfold dupZ at h5 ⊢
              rw [if_neg]
              rintro ⟨a, q1, q2⟩
              by_cases e1 : a = j
              · rw [e1] at q2; exact h6 (by rw [q2])
              · rw [if_pos ⟨a, by omega, q2⟩] at h5; exact absurd h5 (by decide)] at this
            exact this
          · refine to1 ?_
            unfold dupZ
            rw [if_pos ⟨j, by omega, by omega⟩]
      have hd0 : dupZ (digN (x : Int)) i 0 = 0 := by unfold dupZ; rw [if_neg (fun ⟨a, q1, _⟩ => absurd q1 (by omega))]
      have := dl i 0 (by omega)
      rw [hd0] at this
      exact this
  refine g_aload_n hX dX7_diggings_31 rfl ?_
  refine g_iload_n hX dX7_diggings_32 rfl ?_
  refine pf_X7_159 hX dX7_diggings_33 ?_
  refine g_iconst hX dX7_diggings_36 ?_
  refine st_istore_7_4 hX dX7_diggings_37 (by first | exact ck_i _ | exact ck_r _ _ | exact ck_n | exact ck_0) ?_
  exact one r 0 _ _ _ (by omega) ck_n ⟨fun k h1 _ => mset_cell (fun q => h1 q.symm), fun j hj => mset_ne (Or.inr hj)⟩ mset_same (fun j hj => absurd hj (by omega)) (fun j hj => absurd hj (by omega)) (fun j k _ hk => absurd hk (by omega))
