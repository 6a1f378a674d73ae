/-! the reference's cast -/
theorem bitZ_31 {z : Int} (h : in32 z) : bitZ z 31 = decide (z < 0) := by
  unfold bitZ bt
  have h1 : (Int32.ofInt z).toBitVec.msb = (Int32.ofInt z).toBitVec.getLsbD 31 := BitVec.msb_eq_getLsbD_last _
  rw [← h1, BitVec.msb_eq_toInt]
  show decide ((Int32.ofInt z).toInt < 0) = _
  rw [tI h]
def cK (μ : Mem) (t g : Nat) (bits : Int) : Nat → Mem
  | 0 => μ
  | k + 1 => if bitZ bits k = true then mset (mset (mset (cK μ t g bits k) 81 (g + k) 1) 82 (g + k) (t : Int)) 86 (40 * t + cntB bits k) ((g + k : Nat) : Int) else cK μ t g bits k
def cV (m : Mem) (t g : Nat) (bits : Int) : Nat → Mem
  | 0 => m
  | k + 1 => if bitZ bits k = true then mset (mset (mset (cV m t g bits k) 5 (g + k) 1) 6 (g + k) (t : Int)) 10 (40 * t + cntB bits k) ((g + k : Nat) : Int) else cV m t g bits k
theorem vw_cK (μ : Mem) (t g : Nat) (bits : Int) : ∀ k, vw (cK μ t g bits k) = cV (vw μ) t g bits k := by
  intro k
  induction k with
  | zero => rfl
  | succ k ih =>
    unfold cK cV
    split
    · rw [vw_in (by omega), vw_in (by omega), vw_in (by omega), ih]
    · exact ih
theorem kp_cK (μ : Mem) (t g : Nat) (bits : Int) : ∀ k, KpX μ (cK μ t g bits k) := by
  intro k
  induction k with
  | zero => exact KpX.rf
  | succ k ih =>
    unfold cK
    split
    · exact KpX_m (KpX_m (KpX_m ih (by omega)) (by omega)) (by omega)
    · exact ih
theorem cK_ne (μ : Mem) (t g : Nat) (bits : Int) {c j : Nat} (h : c ≠ 81 ∧ c ≠ 82 ∧ c ≠ 86) : ∀ k, cK μ t g bits k c j = μ c j := by
  intro k
  induction k with
  | zero => rfl
  | succ k ih =>
    unfold cK
    split
    · rw [mset_ne (Or.inl h.2.2), mset_ne (Or.inl h.2.1), mset_ne (Or.inl h.1)]; exact ih
    · exact ih
theorem cV_ne (m : Mem) (t g : Nat) (bits : Int) {c j : Nat} (h : c ≠ 5 ∧ c ≠ 6 ∧ c ≠ 10) : ∀ k, cV m t g bits k c j = m c j := by
  intro k
  induction k with
  | zero => rfl
  | succ k ih =>
    unfold cV
    split
    · rw [mset_ne (Or.inl h.2.2), mset_ne (Or.inl h.2.1), mset_ne (Or.inl h.1)]; exact ih
    · exact ih
theorem cstR_V (m : Mem) (t g : Nat) (bits : Int) (h0 : m 9 t = 0) : ∀ k, cstR m t g bits k = mset (mset (cV m t g bits k) 9 t (cntB bits k : Int)) 12 t (if cntB bits k = 0 then m 12 t else m 0 14) := by
  intro k
  induction k with
  | zero =>
    rw [if_pos (show cntB bits 0 = 0 from rfl), mset_id (m := cV m t g bits 0) (a := 9) (b := t) (v := ((cntB bits 0 : Nat) : Int)) h0, mset_id (m := cV m t g bits 0) (a := 12) (b := t) (v := m 12 t) rfl]
    rfl
  | succ k ih =>
    have h9 := cstR_9 m t g bits h0 k
    have h14 : cstR m t g bits k 0 14 = m 0 14 := cstR_ne m t g bits (by decide) k
    by_cases hb : bitZ bits k = true
    · have e1 : cstR m t g bits (k + 1) = addB (cstR m t g bits k) t (g + k) := by
        show (if bitZ bits k = true then _ else _) = _
        rw [if_pos hb]
      have e2 : cV m t g bits (k + 1) = mset (mset (mset (cV m t g bits k) 5 (g + k) 1) 6 (g + k) (t : Int)) 10 (40 * t + cntB bits k) ((g + k : Nat) : Int) := by
        show (if bitZ bits k = true then _ else _) = _
        rw [if_pos hb]
      have e3 : cntB bits (k + 1) = cntB bits k + 1 := by
        show (if bitZ bits k = true then _ else _) = _
        rw [if_pos hb]
      rw [e1, e2, e3, if_neg (by omega)]
      unfold addB
      rw [h9, h14, show ((cntB bits k : Nat) : Int).toNat = cntB bits k from rfl, ih]
      rw [mset_comm (a := 12) (c := 5) (by omega), mset_comm (a := 9) (c := 5) (by omega), mset_comm (a := 12) (c := 6) (by omega), mset_comm (a := 9) (c := 6) (by omega), mset_comm (a := 12) (c := 10) (by omega), mset_comm (a := 9) (c := 10) (by omega),
        mset_comm (a := 12) (c := 9) (by omega), mset_over, mset_over]
      rfl
    · have e1 : cstR m t g bits (k + 1) = cstR m t g bits k := by
        show (if bitZ bits k = true then _ else _) = _
        rw [if_neg hb]
      have e2 : cV m t g bits (k + 1) = cV m t g bits k := by
        show (if bitZ bits k = true then _ else _) = _
        rw [if_neg hb]
      have e3 : cntB bits (k + 1) = cntB bits k := by
        show (if bitZ bits k = true then _ else _) = _
        rw [if_neg hb]
      rw [e1, e2, e3, ih]
theorem cntB_0 {bits : Int} : ∀ k, cntB bits k = 0 → ∀ j, j < k → ¬ bitZ bits j = true := by
  intro k
  induction k with
  | zero => intro _ j hj; omega
  | succ k ih =>
    intro h j hj hb
    unfold cntB at h
    by_cases hk : bitZ bits k = true
    · rw [if_pos hk] at h; omega
    · rw [if_neg hk] at h
      by_cases e : j = k
      · rw [e] at hb; exact hk hb
      · exact ih h j (by omega) hb
theorem bits_0 {z : Int} (h : in32 z) (hb : ∀ j, j < 32 → ¬ bitZ z j = true) : z = 0 := by
  have : Int32.ofInt z = 0 := b_ext (fun i hi => by
    rw [b_0]
    have := hb i hi
    unfold bitZ at this
    cases hh : bt (Int32.ofInt z) i
    · rfl
    · exact absurd hh this)
  have h2 := congrArg Int32.toInt this
  rw [tI h] at h2
  exact h2
set_option maxHeartbeats 4000000 in
theorem m_cast {lnch : Launch} {V : VX} (hI : InjV V) {μ : Mem} {c : Nat} {b f bits : Int} (hM : IM c (vw μ)) (hb : in32 b) (hf : in32 f) (hbits : in32 bits) : Ct lnch yX7_cast cX7_cast 10 (some .int) 3 V [vr V 76, vi b, vi f, vi bits] μ (pI (MP μ (spCast (vw μ) b f bits))) := by
  refine Ct_of (by decide) hI (Nat.le_of_ble_eq_true rfl) (fun E hE hX hR => ?_)
  have hX : OkX V E RX7 cX7_cast 10 3 := hX
  show G V E μ 0 [some (vr V 76), some (vi b), some (vi f), some (vi bits), none, none, none, none, none, none] []
  obtain ⟨N, hN40, hN, hmN⟩ := vw_n hM
  unfold spCast at hR
  have hbits0 := hbits
  obtain ⟨hbt1, hbt2⟩ := hbits0
  obtain ⟨hb1, hb2⟩ := hb
  have no1 : ¬ ((0 ≤ b ∧ b < 3) ∧ (0 ≤ f ∧ f < vw μ 0 0) ∧ bits ≠ 0 ∧ inBb (vw μ) f.toNat bits = true) → G V E μ 39 [some (vr V 76), some (vi b), some (vi f), some (vi bits), none, none, none, none, none, none] [] := fun h => by
    rw [if_neg h] at hR
    refine g_iconst hX dX7_cast_39 ?_
    refine g_iret hX hR dX7_cast_40 ⟨_, rfl, rfl, rfl, KpX.rf⟩
  refine g_iload_n hX dX7_cast_0 rfl ?_
  refine g_i2l hX dX7_cast_1 ⟨by omega, by omega⟩ ?_
  refine g_lconst hX dX7_cast_2 (z := 0) rfl ?_
  refine g_ldc2 (z := 2) hX dX7_cast_3 tw_660 ?_
  refine g_s3I hX lk_X7_96 dX7_cast_6 (c_in hI ⟨by omega, by omega⟩ ⟨by decide, by decide⟩ ⟨by decide, by decide⟩) (by decide) (by decide) rfl (Nat.le_of_ble_eq_true rfl) (fun z μ' hp => ?_)
  obtain ⟨rfl, hm⟩ := hp
  rw [hm]
  clear hm μ'
  by_cases h1 : 0 ≤ b ∧ b ≤ 2
  rotate_left
  · rw [if_neg h1]
    refine g_if_eq (tgt := 39) hX dX7_cast_9 (by decide) ⟨by omega, by omega⟩ (fun _ => ?_) (fun hc => absurd hc (by omega))
    exact no1 (fun h => h1 (by omega))
  rw [if_pos h1]
  refine g_if_eq (tgt := 39) hX dX7_cast_9 (by decide) ⟨by omega, by omega⟩ (fun hc => absurd hc (by omega)) (fun _ => ?_)
  refine g_aload_n hX dX7_cast_12 rfl ?_
  refine g_iload_n hX dX7_cast_13 rfl ?_
  refine g_v1I hX lk_X7_114 dX7_cast_14 (c0 := 7) ok76 ⟨_, rfl, rfl⟩ (c_isPart hI hN hN40 hf) (by first | decide | omega) (by decide) rfl (Nat.le_of_ble_eq_true rfl) (fun z μ' hp => ?_)
  obtain ⟨rfl, hm⟩ := hp
  rw [hm]
  clear hm μ'
  by_cases h2 : 0 ≤ f ∧ f < (N : Int)
  rotate_left
  · rw [if_neg h2]
    refine g_if_eq (tgt := 39) hX dX7_cast_17 (by decide) ⟨by omega, by omega⟩ (fun _ => ?_) (fun hc => absurd hc (by omega))
    exact no1 (fun h => h2 (by omega))
  rw [if_pos h2]
  refine g_if_eq (tgt := 39) hX dX7_cast_17 (by decide) ⟨by omega, by omega⟩ (fun hc => absurd hc (by omega)) (fun _ => ?_)
  refine g_iload_n hX dX7_cast_20 rfl ?_
  refine g_if_eq (tgt := 39) hX dX7_cast_21 (by decide) ⟨by omega, by omega⟩ (fun h3 => ?_) (fun h3 => ?_)
  · exact no1 (fun h => h.2.2.1 h3)
  obtain ⟨t, rfl⟩ : ∃ t : Nat, b = (t : Int) := ⟨b.toNat, by omega⟩
  obtain ⟨g, rfl⟩ : ∃ g : Nat, f = (g : Int) := ⟨f.toNat, by omega⟩
  rw [show ((t : Int)).toNat = t from rfl, show ((g : Int)).toNat = g from rfl] at *
  have ht3 : t < 3 := by omega
  have hy := hM.2.2.1 t ht3
  have e9 : vw μ 9 t = μ 85 t := rfl
  have tobad : ∀ j : Nat, j < 32 → bitZ bits j = true → (N : Int) ≤ (g : Int) + (j : Int) → ¬ ((0 ≤ (t : Int) ∧ (t : Int) < 3) ∧ (0 ≤ (g : Int) ∧ (g : Int) < vw μ 0 0) ∧ bits ≠ 0 ∧ inBb (vw μ) g bits = true) := fun j hj hbj hx h => by
    have := (inB_dec (vw μ) g bits).mpr h.2.2.2 j hj hbj
    omega
  have w2 : ∀ (k : Nat), k < 32 → bitZ bits k = true → inB (vw μ) g bits → (g + k < N) := fun k hk hbk hin => by
    have := hin k hk hbk; omega
  have ph3 : okB (vw μ) g bits 32 = true → sumB (vw μ) g bits 32 ≤ 300 → μ 85 t = 0 → inB (vw μ) g bits →
      ∀ (d k : Nat) (x4 x5 x6 x9 : Option Value), k + d = 32 → ckV x6 → G V E (cK μ t g bits k) 225 [some (vr V 76), some (vi (t : Int)), some (vi (g : Int)), some (vi bits), x4, x5, x6, some (vi (cntB bits k : Int)), some (vi (k : Int)), x9] [] := fun hok hsm h0 hin => by
    rw [if_pos ⟨by omega, by omega, h3, (inB_dec (vw μ) g bits).mp hin⟩, if_pos ⟨h0, hok, hsm⟩] at hR
    intro d
    induction d with
    | zero =>
      intro k x4 x5 x6 x9 hk hck
      obtain rfl : k = 32 := by omega
      refine g_iload hX dX7_cast_225 rfl ?_
      refine g_bipush hX dX7_cast_227 rfl ?_
      refine g_icmp_ge (tgt := 287) hX dX7_cast_229 (by decide) ⟨by omega, by omega⟩ ⟨by omega, by omega⟩ (fun _ => ?_) (fun hc => absurd hc (by omega))
      refine g_aload_n hX dX7_cast_287 rfl ?_
      refine gf_X7_35 hX dX7_cast_288 ?_
      refine g_iload_n hX dX7_cast_291 rfl ?_
      refine g_iload hX dX7_cast_292 rfl ?_
      refine g_iastN hX dX7_cast_294 (N := 3) rfl rfl (by omega) (by decide) ?_
      refine g_aload_n hX dX7_cast_295 rfl ?_
      refine gf_X7_41 hX dX7_cast_296 ?_
      refine g_iload_n hX dX7_cast_299 rfl ?_
      refine g_iconst hX dX7_cast_300 ?_
      refine g_iastN hX dX7_cast_301 (N := 3) rfl rfl (by omega) (by decide) ?_
      refine g_aload_n hX dX7_cast_302 rfl ?_
      refine gf_X7_44 hX dX7_cast_303 ?_
      refine g_iload_n hX dX7_cast_306 rfl ?_
      refine g_aload_n hX dX7_cast_307 rfl ?_
      refine gf_X7_135 hX dX7_cast_308 ?_
      simp (disch := omega) only [mset_ne, mset_same]
      rw [cK_ne μ t g bits (by decide)]
      refine g_iastN hX dX7_cast_311 (N := 3) rfl rfl (by omega) (by decide) ?_
      refine g_aload_n hX dX7_cast_312 rfl ?_
      refine g_dup hX dX7_cast_313 rfl ?_
      refine gf_X7_138 hX dX7_cast_314 ?_
      simp (disch := omega) only [mset_ne, mset_same]
      rw [cK_ne μ t g bits (by decide)]
      refine g_iconst hX dX7_cast_317 ?_
      refine g_iadd hX dX7_cast_318 ?_
      refine pf_X7_138 hX dX7_cast_319 ?_
      refine g_iload hX dX7_cast_322 rfl ?_
      refine g_iret hX hR dX7_cast_324 ⟨_, rfl, rfl, ?_, KpX_m (KpX_m (KpX_m (KpX_m (kp_cK μ t g bits 32) (by omega)) (by omega)) (by omega)) (by omega)⟩
      rw [vw_in (by omega), vw_in (by omega), vw_in (by omega), vw_in (by omega), vw_cK]
      show _ = mset (cstR (vw μ) t g bits 32) 0 20 (vw μ 0 20 + 1)
      have hc0 : cntB bits 32 ≠ 0 := fun h => h3 (bits_0 hbits (cntB_0 32 h))
      rw [cstR_V (vw μ) t g bits h0, if_neg hc0]
      rw [mset_id (m := mset (cV (vw μ) t g bits 32) (85 - 76) t (cntB bits 32 : Int)) (a := 87 - 76) (b := t) (v := 0) (by
        rw [mset_ne (Or.inl (by decide)), cV_ne (vw μ) t g bits (by decide)]
        exact hy.2.2.2.1 h0)]
      rfl
    | succ d ih =>
      intro k x4 x5 x6 x9 hk hck
      refine g_iload hX dX7_cast_225 rfl ?_
      refine g_bipush hX dX7_cast_227 rfl ?_
      refine g_icmp_ge (tgt := 287) hX dX7_cast_229 (by decide) ⟨by omega, by omega⟩ ⟨by omega, by omega⟩ (fun hc => absurd hc (by omega)) (fun _ => ?_)
      refine g_iload_n hX dX7_cast_232 rfl ?_
      refine g_iload hX dX7_cast_233 rfl ?_
      refine g_ishr hX dX7_cast_235 ?_
      refine g_iconst hX dX7_cast_236 ?_
      refine g_iand hX dX7_cast_237 ?_
      rw [bit_s bits (by omega)]
      by_cases hbk : bitZ bits k = true
      · have hgk := w2 k (by omega) hbk hin
        have hcl := cntB_le bits k
        rw [if_pos hbk]
        refine g_iconst hX dX7_cast_238 ?_
        refine g_icmp_ne (tgt := 281) hX dX7_cast_239 (by decide) ⟨by omega, by omega⟩ ⟨by omega, by omega⟩ (fun hc => absurd hc (by omega)) (fun _ => ?_)
        refine g_aload_n hX dX7_cast_242 rfl ?_
        refine gf_X7_22 hX dX7_cast_243 ?_
        refine g_iload_n hX dX7_cast_246 rfl ?_
        refine g_iload hX dX7_cast_247 rfl ?_
        refine g_iadd hX dX7_cast_249 ?_
        refine g_iconst hX dX7_cast_250 ?_
        refine g_iastN (i := (g + k)) hX dX7_cast_251 (N := 40) rfl (by omega) (by omega) (by decide) ?_
        refine g_aload_n hX dX7_cast_252 rfl ?_
        refine gf_X7_25 hX dX7_cast_253 ?_
        refine g_iload_n hX dX7_cast_256 rfl ?_
        refine g_iload hX dX7_cast_257 rfl ?_
        refine g_iadd hX dX7_cast_259 ?_
        refine g_iload_n hX dX7_cast_260 rfl ?_
        refine g_iastN (i := (g + k)) hX dX7_cast_261 (N := 40) rfl (by omega) (by omega) (by decide) ?_
        refine g_aload_n hX dX7_cast_262 rfl ?_
        refine gf_X7_38 hX dX7_cast_263 ?_
        refine g_bipush hX dX7_cast_266 rfl ?_
        refine g_iload_n hX dX7_cast_268 rfl ?_
        refine g_imul hX dX7_cast_269 ?_
        refine g_iload hX dX7_cast_270 rfl ?_
        refine g_iadd hX dX7_cast_272 ?_
        refine g_iload_n hX dX7_cast_273 rfl ?_
        refine g_iload hX dX7_cast_274 rfl ?_
        refine g_iadd hX dX7_cast_276 ?_
        refine g_iastN (i := (40 * t + cntB bits k)) hX dX7_cast_277 (N := 120) rfl (by omega) (by omega) (by decide) ?_
        refine st_iinc_10_7 hX dX7_cast_278 hck ?_
        refine st_iinc_10_8 hX dX7_cast_281 (by first | exact ck_i _ | exact ck_r _ _ | exact ck_n | exact ck_0) ?_
        refine g_goto (tgt := 225) hX dX7_cast_284 (by decide) ?_
        have := ih (k + 1) x4 x5 x6 x9 (by omega) hck
        rw [show cK μ t g bits (k + 1) = mset (mset (mset (cK μ t g bits k) 81 (g + k) 1) 82 (g + k) (t : Int)) 86 (40 * t + cntB bits k) ((g + k : Nat) : Int) by
          show (if bitZ bits k = true then _ else _) = _
          rw [if_pos hbk], show cntB bits (k + 1) = cntB bits k + 1 by
          show (if bitZ bits k = true then _ else _) = _
          rw [if_pos hbk]] at this
        exact this
      · rw [if_neg hbk]
        refine g_iconst hX dX7_cast_238 ?_
        refine g_icmp_ne (tgt := 281) hX dX7_cast_239 (by decide) ⟨by omega, by omega⟩ ⟨by omega, by omega⟩ (fun _ => ?_) (fun hc => absurd hc (by omega))
        refine st_iinc_10_8 hX dX7_cast_281 (by first | exact ck_i _ | exact ck_r _ _ | exact ck_n | exact ck_0) ?_
        refine g_goto (tgt := 225) hX dX7_cast_284 (by decide) ?_
        have := ih (k + 1) x4 x5 x6 x9 (by omega) hck
        unfold cK cntB at this
        rw [if_neg hbk, if_neg hbk] at this
        exact this
  have ph2 : inB (vw μ) g bits → ∀ (d k : Nat) (x9 : Option Value), k + d = 32 → G V E μ 109 [some (vr V 76), some (vi (t : Int)), some (vi (g : Int)), some (vi bits), some (vi (sumB (vw μ) g bits k)), some (vi (lastP (vw μ) g bits k)), some (vi (if μ 85 t = 0 ∧ okB (vw μ) g bits k = true then 1 else 0)), some (vi (cntB bits k : Int)), some (vi (k : Int)), x9] [] := fun hin => by
    intro d
    induction d with
    | zero =>
      intro k x9 hk
      obtain rfl : k = 32 := by omega
      have hsr := sumB_r hM hin 32 (by decide)
      refine g_iload hX dX7_cast_109 rfl ?_
      refine g_bipush hX dX7_cast_111 rfl ?_
      refine g_icmp_ge (tgt := 203) hX dX7_cast_113 (by decide) ⟨by omega, by omega⟩ ⟨by omega, by omega⟩ (fun _ => ?_) (fun hc => absurd hc (by omega))
      refine g_iload hX dX7_cast_203 rfl ?_
      by_cases hok : μ 85 t = 0 ∧ okB (vw μ) g bits 32 = true
      · rw [if_pos hok]
        refine g_if_eq (tgt := 216) hX dX7_cast_205 (by decide) ⟨by omega, by omega⟩ (fun hc => absurd hc (by omega)) (fun _ => ?_)
        refine g_iload hX dX7_cast_208 rfl ?_
        refine g_sipush hX dX7_cast_210 rfl ?_
        refine g_icmp_le (tgt := 219) hX dX7_cast_213 (by decide) ⟨by omega, by omega⟩ ⟨by omega, by omega⟩ (fun c1 => ?_) (fun c1 => ?_)
        · refine g_iconst hX dX7_cast_219 ?_
          refine st_istore_10_7 hX dX7_cast_220 (by first | exact ck_i _ | exact ck_r _ _ | exact ck_n | exact ck_0) ?_
          refine g_iconst hX dX7_cast_222 ?_
          refine st_istore_10_8 hX dX7_cast_223 (by first | exact ck_i _ | exact ck_r _ _ | exact ck_n | exact ck_0) ?_
          exact ph3 hok.2 c1 hok.1 hin 32 0 _ _ _ _ (by omega) (ck_i _)
        · rw [if_pos ⟨by omega, by omega, h3, (inB_dec (vw μ) g bits).mp hin⟩, if_neg (fun h => c1 h.2.2)] at hR
          refine g_bipush hX dX7_cast_216 rfl ?_
          refine g_iret hX hR dX7_cast_218 ⟨_, rfl, rfl, rfl, KpX.rf⟩
      · rw [if_neg hok]
        rw [if_pos ⟨by omega, by omega, h3, (inB_dec (vw μ) g bits).mp hin⟩, if_neg (fun h => hok ⟨h.1, h.2.1⟩)] at hR
        refine g_if_eq (tgt := 216) hX dX7_cast_205 (by decide) ⟨by omega, by omega⟩ (fun _ => ?_) (fun hc => absurd hc (by omega))
        refine g_bipush hX dX7_cast_216 rfl ?_
        refine g_iret hX hR dX7_cast_218 ⟨_, rfl, rfl, rfl, KpX.rf⟩
    | succ d ih =>
      intro k x9 hk
      refine g_iload hX dX7_cast_109 rfl ?_
      refine g_bipush hX dX7_cast_111 rfl ?_
      refine g_icmp_ge (tgt := 203) hX dX7_cast_113 (by decide) ⟨by omega, by omega⟩ ⟨by omega, by omega⟩ (fun hc => absurd hc (by omega)) (fun _ => ?_)
      refine g_iload_n hX dX7_cast_116 rfl ?_
      refine g_iload hX dX7_cast_117 rfl ?_
      refine g_ishr hX dX7_cast_119 ?_
      refine g_iconst hX dX7_cast_120 ?_
      refine g_iand hX dX7_cast_121 ?_
      rw [bit_s bits (by omega)]
      by_cases hbk : bitZ bits k = true
      rotate_left
      · rw [if_neg hbk]
        refine g_iconst hX dX7_cast_122 ?_
        refine g_icmp_ne (tgt := 197) hX dX7_cast_123 (by decide) ⟨by omega, by omega⟩ ⟨by omega, by omega⟩ (fun _ => ?_) (fun hc => absurd hc (by omega))
        refine st_iinc_10_8 hX dX7_cast_197 (by first | exact ck_i _ | exact ck_r _ _ | exact ck_n | exact ck_0) ?_
        refine g_goto (tgt := 109) hX dX7_cast_200 (by decide) ?_
        have := ih (k + 1) x9 (by omega)
        have eo : okB (vw μ) g bits (k + 1) = okB (vw μ) g bits k := by
          show (okB (vw μ) g bits k && _) = _
          simp [hbk]
        rw [eo] at this
        unfold sumB lastP cntB at this
        rw [if_neg hbk, if_neg hbk, if_neg hbk] at this
        exact this
      rw [if_pos hbk]
      have hgk := w2 k (by omega) hbk hin
      have hp := IM_p hM (i := g + k) (by omega)
      have hlp := lastP_r hM hin k (by omega)
      have e5 : vw μ 5 (g + k) = μ 81 (g + k) := rfl
      have e2 : vw μ 2 (g + k) = μ 78 (g + k) := rfl
      have next : ∀ z : Int, z = (if μ 85 t = 0 ∧ okB (vw μ) g bits (k + 1) = true then 1 else 0) → ∀ x6 : Option Value, G V E μ 169 [some (vr V 76), some (vi (t : Int)), some (vi (g : Int)), some (vi bits), some (vi (sumB (vw μ) g bits k)), some (vi (lastP (vw μ) g bits k)), x6, some (vi (cntB bits k : Int)), some (vi (k : Int)), some (vi ((g : Int) + (k : Int)))] [vi z] := fun z hz x6 => by
        refine st_istore_10_6 hX dX7_cast_169 (by first | exact ck_i _ | exact ck_r _ _ | exact ck_n | exact ck_0) ?_
        refine g_aload_n hX dX7_cast_171 rfl ?_
        refine gf_X7_13 hX dX7_cast_172 ?_
        refine g_iload hX dX7_cast_175 rfl ?_
        refine g_ialdN (i := (g + k)) hX dX7_cast_177 (N := 40) rfl (by omega) (by omega) (by decide) ?_
        refine st_istore_10_5 hX dX7_cast_178 (by first | exact ck_i _ | exact ck_r _ _ | exact ck_n | exact ck_0) ?_
        refine g_iload hX dX7_cast_180 rfl ?_
        refine g_aload_n hX dX7_cast_182 rfl ?_
        refine gf_X7_7 hX dX7_cast_183 ?_
        refine g_iload hX dX7_cast_186 rfl ?_
        refine g_ialdN (i := (g + k)) hX dX7_cast_188 (N := 40) rfl (by omega) (by omega) (by decide) ?_
        refine g_iconst hX dX7_cast_189 ?_
        refine g_iadd hX dX7_cast_190 ?_
        refine g_iadd hX dX7_cast_191 ?_
        refine st_istore_10_4 hX dX7_cast_192 (by first | exact ck_i _ | exact ck_r _ _ | exact ck_n | exact ck_0) ?_
        refine st_iinc_10_7 hX dX7_cast_194 (by first | exact ck_i _ | exact ck_r _ _ | exact ck_n | exact ck_0) ?_
        refine st_iinc_10_8 hX dX7_cast_197 (by first | exact ck_i _ | exact ck_r _ _ | exact ck_n | exact ck_0) ?_
        refine g_goto (tgt := 109) hX dX7_cast_200 (by decide) ?_
        have := ih (k + 1) (some (vi ((g : Int) + (k : Int)))) (by omega)
        rw [← hz] at this
        unfold sumB lastP cntB at this
        rw [if_pos hbk, if_pos hbk, if_pos hbk] at this
        exact this
      have bad : ¬ (μ 85 t = 0 ∧ okB (vw μ) g bits (k + 1) = true) → G V E μ 168 [some (vr V 76), some (vi (t : Int)), some (vi (g : Int)), some (vi bits), some (vi (sumB (vw μ) g bits k)), some (vi (lastP (vw μ) g bits k)), some (vi (if μ 85 t = 0 ∧ okB (vw μ) g bits k = true then 1 else 0)), some (vi (cntB bits k : Int)), some (vi (k : Int)), some (vi ((g : Int) + (k : Int)))] [] := fun h => by
        refine g_iconst hX dX7_cast_168 ?_
        exact next 0 (by rw [if_neg h]) _
      have good : (μ 85 t = 0 ∧ okB (vw μ) g bits (k + 1) = true) → G V E μ 164 [some (vr V 76), some (vi (t : Int)), some (vi (g : Int)), some (vi bits), some (vi (sumB (vw μ) g bits k)), some (vi (lastP (vw μ) g bits k)), some (vi (if μ 85 t = 0 ∧ okB (vw μ) g bits k = true then 1 else 0)), some (vi (cntB bits k : Int)), some (vi (k : Int)), some (vi ((g : Int) + (k : Int)))] [] := fun h => by
        refine g_iconst hX dX7_cast_164 ?_
        refine g_goto (tgt := 169) hX dX7_cast_165 (by decide) ?_
        exact next 1 (by rw [if_pos h]) _
      have eok : okB (vw μ) g bits (k + 1) = (okB (vw μ) g bits k && (decide (vw μ 5 (g + k) = 0) && (decide (lastP (vw μ) g bits k < 0) || decide (vw μ 2 (g + k) = lastP (vw μ) g bits k)))) := by
        show (okB (vw μ) g bits k && _) = _
        rw [hbk]; rfl
      refine g_iconst hX dX7_cast_122 ?_
      refine g_icmp_ne (tgt := 197) hX dX7_cast_123 (by decide) ⟨by omega, by omega⟩ ⟨by omega, by omega⟩ (fun hc => absurd hc (by omega)) (fun _ => ?_)
      refine g_iload_n hX dX7_cast_126 rfl ?_
      refine g_iload hX dX7_cast_127 rfl ?_
      refine g_iadd hX dX7_cast_129 ?_
      refine st_istore_10_9 hX dX7_cast_130 (by first | exact ck_i _ | exact ck_r _ _ | exact ck_n | exact ck_0) ?_
      refine g_iload hX dX7_cast_132 rfl ?_
      by_cases hok : μ 85 t = 0 ∧ okB (vw μ) g bits k = true
      rotate_left
      · rw [if_neg hok] at bad ⊢
        refine g_if_eq (tgt := 168) hX dX7_cast_134 (by decide) ⟨by omega, by omega⟩ (fun _ => ?_) (fun hc => absurd hc (by omega))
        exact bad (fun h => hok ⟨h.1, by have := h.2; rw [eok, Bool.and_eq_true] at this; exact this.1⟩)
      rw [if_pos hok] at bad good ⊢
      refine g_if_eq (tgt := 168) hX dX7_cast_134 (by decide) ⟨by omega, by omega⟩ (fun hc => absurd hc (by omega)) (fun _ => ?_)
      refine g_aload_n hX dX7_cast_137 rfl ?_
      refine gf_X7_22 hX dX7_cast_138 ?_
      refine g_iload hX dX7_cast_141 rfl ?_
      refine g_ialdN (i := (g + k)) hX dX7_cast_143 (N := 40) rfl (by omega) (by omega) (by decide) ?_
      refine g_if_ne (tgt := 168) hX dX7_cast_144 (by decide) ⟨by omega, by omega⟩ (fun c1 => ?_) (fun c1 => ?_)
      · exact bad (fun h => by have := h.2; rw [eok] at this; simp [e5, c1] at this)
      refine g_iload hX dX7_cast_147 rfl ?_
      refine g_if_lt (tgt := 164) hX dX7_cast_149 (by decide) ⟨by omega, by omega⟩ (fun c2 => ?_) (fun c2 => ?_)
      · exact good ⟨hok.1, by rw [eok, hok.2]; simp [e5, c1, c2]⟩
      refine g_aload_n hX dX7_cast_152 rfl ?_
      refine gf_X7_13 hX dX7_cast_153 ?_
      refine g_iload hX dX7_cast_156 rfl ?_
      refine g_ialdN (i := (g + k)) hX dX7_cast_158 (N := 40) rfl (by omega) (by omega) (by decide) ?_
      refine g_iload hX dX7_cast_159 rfl ?_
      refine g_icmp_ne (tgt := 168) hX dX7_cast_161 (by decide) ⟨by omega, by omega⟩ ⟨by omega, by omega⟩ (fun c3 => ?_) (fun c3 => ?_)
      · exact bad (fun h => by have := h.2; rw [eok] at this; simp [e2, c2, c3] at this)
      · exact good ⟨hok.1, by rw [eok, hok.2]; simp [e5, e2, c1, c3]⟩
  have ph1 : ∀ (d k : Nat), k + d = 32 → (∀ j, j < k → bitZ bits j = true → g + j < N) → G V E μ 44 [some (vr V 76), some (vi (t : Int)), some (vi (g : Int)), some (vi bits), some (vi (k : Int)), none, none, none, none, none] [] := by
    intro d
    induction d with
    | zero =>
      intro k hk hj
      have hin : inB (vw μ) g bits := fun j h1 h2 => by have := hj j (by omega) h2; omega
      refine g_iload hX dX7_cast_44 rfl ?_
      refine g_bipush hX dX7_cast_46 rfl ?_
      refine g_icmp_ge (tgt := 80) hX dX7_cast_48 (by decide) ⟨by omega, by omega⟩ ⟨by omega, by omega⟩ (fun _ => ?_) (fun hc => absurd hc (by omega))
      refine g_bipush hX dX7_cast_80 rfl ?_
      refine st_istore_10_4 hX dX7_cast_82 (by first | exact ck_i _ | exact ck_r _ _ | exact ck_n | exact ck_0) ?_
      refine g_iconst hX dX7_cast_84 ?_
      refine st_istore_10_5 hX dX7_cast_85 (by first | exact ck_i _ | exact ck_r _ _ | exact ck_n | exact ck_0) ?_
      refine g_aload_n hX dX7_cast_87 rfl ?_
      refine gf_X7_35 hX dX7_cast_88 ?_
      refine g_iload_n hX dX7_cast_91 rfl ?_
      refine g_ialdN hX dX7_cast_92 (N := 3) rfl rfl (by omega) (by decide) ?_
      refine g_if_ne (tgt := 100) hX dX7_cast_93 (by decide) ⟨by omega, by omega⟩ (fun c1 => ?_) (fun c1 => ?_)
      · refine g_iconst hX dX7_cast_100 ?_
        refine st_istore_10_6 hX dX7_cast_101 (by first | exact ck_i _ | exact ck_r _ _ | exact ck_n | exact ck_0) ?_
        refine g_iconst hX dX7_cast_103 ?_
        refine st_istore_10_7 hX dX7_cast_104 (by first | exact ck_i _ | exact ck_r _ _ | exact ck_n | exact ck_0) ?_
        refine g_iconst hX dX7_cast_106 ?_
        refine st_istore_10_8 hX dX7_cast_107 (by first | exact ck_i _ | exact ck_r _ _ | exact ck_n | exact ck_0) ?_
        have := ph2 hin 32 0 none (by omega)
        rw [if_neg (fun h => c1 h.1)] at this
        exact this
      · refine g_iconst hX dX7_cast_96 ?_
        refine g_goto (tgt := 101) hX dX7_cast_97 (by decide) ?_
        refine st_istore_10_6 hX dX7_cast_101 (by first | exact ck_i _ | exact ck_r _ _ | exact ck_n | exact ck_0) ?_
        refine g_iconst hX dX7_cast_103 ?_
        refine st_istore_10_7 hX dX7_cast_104 (by first | exact ck_i _ | exact ck_r _ _ | exact ck_n | exact ck_0) ?_
        refine g_iconst hX dX7_cast_106 ?_
        refine st_istore_10_8 hX dX7_cast_107 (by first | exact ck_i _ | exact ck_r _ _ | exact ck_n | exact ck_0) ?_
        have := ph2 hin 32 0 none (by omega)
        rw [if_pos ⟨c1, rfl⟩] at this
        exact this
    | succ d ih =>
      intro k hk hj
      refine g_iload hX dX7_cast_44 rfl ?_
      refine g_bipush hX dX7_cast_46 rfl ?_
      refine g_icmp_ge (tgt := 80) hX dX7_cast_48 (by decide) ⟨by omega, by omega⟩ ⟨by omega, by omega⟩ (fun hc => absurd hc (by omega)) (fun _ => ?_)
      refine g_iload_n hX dX7_cast_51 rfl ?_
      refine g_iload hX dX7_cast_52 rfl ?_
      refine g_ishr hX dX7_cast_54 ?_
      refine g_iconst hX dX7_cast_55 ?_
      refine g_iand hX dX7_cast_56 ?_
      rw [bit_s bits (by omega)]
      by_cases hbk : bitZ bits k = true
      · rw [if_pos hbk]
        refine g_iconst hX dX7_cast_57 ?_
        refine g_icmp_ne (tgt := 74) hX dX7_cast_58 (by decide) ⟨by omega, by omega⟩ ⟨by omega, by omega⟩ (fun hc => absurd hc (by omega)) (fun _ => ?_)
        refine g_iload_n hX dX7_cast_61 rfl ?_
        refine g_iload hX dX7_cast_62 rfl ?_
        refine g_iadd hX dX7_cast_64 ?_
        refine g_aload_n hX dX7_cast_65 rfl ?_
        refine gf_X7_93 hX dX7_cast_66 ?_
        refine g_icmp_lt (tgt := 74) hX dX7_cast_69 (by decide) ⟨by omega, by omega⟩ ⟨by omega, by omega⟩ (fun c1 => ?_) (fun c1 => ?_)
        · refine st_iinc_10_4 hX dX7_cast_74 (by first | exact ck_i _ | exact ck_r _ _ | exact ck_n | exact ck_0) ?_
          refine g_goto (tgt := 44) hX dX7_cast_77 (by decide) ?_
          refine ih (k + 1) (by omega) (fun j h1 h2 => ?_)
          by_cases e : j = k
          · rw [e]; omega
          · exact hj j (by omega) h2
        · rw [if_neg (tobad k (by omega) hbk (by omega))] at hR
          refine g_iconst hX dX7_cast_72 ?_
          refine g_iret hX hR dX7_cast_73 ⟨_, rfl, rfl, rfl, KpX.rf⟩
      · rw [if_neg hbk]
        refine g_iconst hX dX7_cast_57 ?_
        refine g_icmp_ne (tgt := 74) hX dX7_cast_58 (by decide) ⟨by omega, by omega⟩ ⟨by omega, by omega⟩ (fun _ => ?_) (fun hc => absurd hc (by omega))
        refine st_iinc_10_4 hX dX7_cast_74 (by first | exact ck_i _ | exact ck_r _ _ | exact ck_n | exact ck_0) ?_
        refine g_goto (tgt := 44) hX dX7_cast_77 (by decide) ?_
        refine ih (k + 1) (by omega) (fun j h1 h2 => ?_)
        by_cases e : j = k
        · rw [e] at h2; exact absurd h2 hbk
        · exact hj j (by omega) h2
  refine g_iload_n hX dX7_cast_24 rfl ?_
  refine g_if_ge (tgt := 41) hX dX7_cast_25 (by decide) ⟨by omega, by omega⟩ (fun h4 => ?_) (fun h4 => ?_)
  · refine g_iconst hX dX7_cast_41 ?_
    refine st_istore_10_4 hX dX7_cast_42 (by first | exact ck_i _ | exact ck_r _ _ | exact ck_n | exact ck_0) ?_
    exact ph1 32 0 (by omega) (fun j h => absurd h (by omega))
  refine g_iload_n hX dX7_cast_28 rfl ?_
  refine g_bipush hX dX7_cast_29 rfl ?_
  refine g_iadd hX dX7_cast_31 ?_
  refine g_aload_n hX dX7_cast_32 rfl ?_
  refine gf_X7_93 hX dX7_cast_33 ?_
  refine g_icmp_lt (tgt := 41) hX dX7_cast_36 (by decide) ⟨by omega, by omega⟩ ⟨by omega, by omega⟩ (fun h5 => ?_) (fun h5 => ?_)
  · refine g_iconst hX dX7_cast_41 ?_
    refine st_istore_10_4 hX dX7_cast_42 (by first | exact ck_i _ | exact ck_r _ _ | exact ck_n | exact ck_0) ?_
    exact ph1 32 0 (by omega) (fun j h => absurd h (by omega))
  · exact no1 (tobad 31 (by decide) (by rw [bitZ_31 hbits]; simp; omega) (by omega))
