/-! ===== stands, both sides ===== -/
def sta (v hq : Nat) (ty : Nat → Nat) (q : Nat) (p3 p4 : Int32) : Int32 := if hq = 0 then -1 else if p3 = 0 then nI (hq - 1) else if p3 = 1 then (if p4 < 0 then -1 else if nI v ≤ p4 then -1 else nI (ty (12 * q + p4.toNatClampNeg))) else if p3 = 2 then (if p4 < 0 then -1 else if nI (hq - 1) ≤ p4 then -1 else nI (ty (12 * q + (v + p4.toNatClampNeg)))) else -1
section
variable {v hq q i : Nat} {ty : Nat → Nat} {p3 p4 : Int32}
theorem sta_0 (h : hq = 0) : sta v hq ty q p3 p4 = -1 := by unfold sta; rw [if_pos h]
theorem sta_h (h : hq ≠ 0) : sta v hq ty q 0 p4 = nI (hq - 1) := by unfold sta; rw [if_neg h, if_pos rfl]
theorem sta_1n (h : hq ≠ 0) (hp : p4 < 0 ∨ nI v ≤ p4) : sta v hq ty q 1 p4 = -1 := by
  unfold sta
  rw [if_neg h, if_neg (by decide), if_pos rfl]
  rcases hp with c | c
  · rw [if_pos c]
  · by_cases d : p4 < 0
    · rw [if_pos d]
    · rw [if_neg d, if_pos c]
theorem sta_1 (h : hq ≠ 0) (h0 : ¬ nI i < 0) (h1 : ¬ nI v ≤ nI i) (hi : i < 2 ^ 31) : sta v hq ty q 1 (nI i) = nI (ty (12 * q + i)) := by
  unfold sta
  rw [if_neg h, if_neg (by decide), if_pos rfl, if_neg h0, if_neg h1, nI_clamp hi]
theorem sta_2n (h : hq ≠ 0) (hp : p4 < 0 ∨ nI (hq - 1) ≤ p4) : sta v hq ty q 2 p4 = -1 := by
  unfold sta
  rw [if_neg h, if_neg (by decide), if_neg (by decide), if_pos rfl]
  rcases hp with c | c
  · rw [if_pos c]
  · by_cases d : p4 < 0
    · rw [if_pos d]
    · rw [if_neg d, if_pos c]
theorem sta_2 (h : hq ≠ 0) (h0 : ¬ nI i < 0) (h1 : ¬ nI (hq - 1) ≤ nI i) (hi : i < 2 ^ 31) : sta v hq ty q 2 (nI i) = nI (ty (12 * q + (v + i))) := by
  unfold sta
  rw [if_neg h, if_neg (by decide), if_neg (by decide), if_pos rfl, if_neg h0, if_neg h1, nI_clamp hi]
theorem sta_n (h : hq ≠ 0) (h0 : ¬ p3 = 0) (h1 : ¬ p3 = 1) (h2 : ¬ p3 = 2) : sta v hq ty q p3 p4 = -1 := by
  unfold sta
  rw [if_neg h, if_neg h0, if_neg h1, if_neg h2]
end
section
variable {σ μ : sm_S} {T : Nat → Nat → Nat} {b : Nat → Nat}
theorem m_stands {K : jk} {m a hq : Nat} {ty : Nat → Nat} {p3 p4 : Int32} (hw : wf T b) (imm : imM μ T b) (i4 : μ.1 4 = 1) (l21 : μ.2.2.1 21 = 8000) (l22 : μ.2.2.1 22 = 96000) (hm : m < T 0 1) (ha : a < 2 ^ 20) (hb : bgt T m a) (hq16 : hq ≤ T 16 m + 1) (r21 : μ.2.2.2.1 21 (T 17 m + a) = oN hq) (r22 : hq ≠ 0 → ∀ i, i < T 15 m + (hq - 1) → μ.2.2.2.1 22 (12 * (T 17 m + a) + i) = nI (ty (12 * (T 17 m + a) + i))) (hK : K (sta (T 15 m) hq ty (T 17 m + a) p3 p4) μ) : mp_X12_stands μ (nI m) (nI a) p3 p4 K := by
  have n4 : ¬ μ.1 4 = 0 := by rw [i4]; decide
  have e6 : μ.1 6 = nI (T 0 1) := imm.2.2.2.1
  have w64 := hw.2.2.2.1
  have w8 := hw.2.2.2.2.1
  obtain ⟨-, -, -, -, -, -, y7, y8, y9, y10, y11, y12, -⟩ := hw.2.2.2.2.2.2.2.2.1 m hm
  have rr := imm.2.2.2.2.2.2.2 m hm
  have r15 := rr.2.2.2.2.1
  have r17 := rr.2.2.2.2.2.2.1
  have al := hb.1
  unfold mp_X12_stands mp_X12_stands_41 mp_X12_stands_124 mp_X12_stands_165 mp_X12_stands_166
  rw [e6]
  refine ⟨fun z => absurd z n4, fun _ => ⟨fun z => absurd z (nI_neg (by omega)), fun _ => ⟨fun z => absurd ((nI_leI (by omega) (by omega)).mp z) (by omega), fun _ => ⟨fun z => absurd z (nI_neg (by omega)), fun _ => ?_⟩⟩⟩⟩
  refine w_isB imm hw hm ha (fun _ => ⟨fun _ => ?_, fun z => absurd z (by decide)⟩) (fun c => absurd hb c)
  rw [nI_clamp (by omega), r17, nI_add]
  refine ⟨by rw [lm17 imm.2.1]; exact vp_in_nI (by omega) (by decide), ?_⟩
  intro v14 e14
  have inq : vp_in v14 (μ.2.2.1 21) := by rw [e14, l21]; exact vp_in_nI (by omega) (by decide)
  have c14 : v14.toNatClampNeg = T 17 m + a := by rw [e14]; exact nI_clamp (by omega)
  rw [c14, r21]
  refine ⟨inq, fun z => ?_, fun z => ?_⟩
  · have h0 : hq ≠ 0 := fun e => by
      rw [e, oN_0] at z
      exact absurd z (by decide)
    rw [oN_p (by omega)]
    refine ⟨fun z0 => ⟨by rw [lm15 imm.2.1]; exact vp_in_nI (by omega) (by decide), ?_⟩, fun z0 => ⟨inq, by subst z0; rw [sta_h h0] at hK; exact hK⟩⟩
    intro v19 e19
    rw [r15] at e19
    subst e19
    refine ⟨fun z1 => ⟨fun z2 => by rw [sta_n h0 z0 z1 z2] at hK; exact hK, fun z2 => ⟨fun z3 => ?_, fun z3 => ⟨inq, fun z4 => ?_, fun z4 => ?_⟩⟩⟩, fun z1 => ⟨fun z3 => ⟨fun _ => ?_, fun z2 => absurd (z1.symm.trans z2) (by decide)⟩, fun z3 => ⟨fun z4 => ⟨fun _ => ?_, fun z2 => absurd (z1.symm.trans z2) (by decide)⟩, fun z4 => ?_⟩⟩⟩
    · subst z2; rw [sta_2n h0 (Or.inl z3)] at hK; exact hK
    · subst z2; rw [sta_2n h0 (Or.inr z4)] at hK; exact hK
    · subst z2
      obtain ⟨i, i1, i2⟩ := nI_of z3
      subst i2
      have hi : i < hq - 1 := by
        have : ¬ hq - 1 ≤ i := fun c => z4 (nI_le c (by omega))
        omega
      rw [sta_2 h0 z3 z4 i1] at hK
      rw [e14, l_12, pk_mul, nI_add, nI_add, nI_clamp (by omega), show 12 * (T 17 m + a) + T 15 m + i = 12 * (T 17 m + a) + (T 15 m + i) by omega, r22 h0 (T 15 m + i) (by omega)]
      exact ⟨by rw [l22]; exact vp_in_nI (by omega) (by decide), hK⟩
    · subst z1; rw [sta_1n h0 (Or.inl z3)] at hK; exact hK
    · subst z1; rw [sta_1n h0 (Or.inr z4)] at hK; exact hK
    · subst z1
      obtain ⟨i, i1, i2⟩ := nI_of z3
      subst i2
      have hi : i < T 15 m := by
        have : ¬ T 15 m ≤ i := fun c => z4 (nI_le c (by omega))
        omega
      rw [sta_1 h0 z3 z4 i1] at hK
      rw [e14, l_12, pk_mul, nI_add, nI_clamp (by omega), r22 h0 i (by omega)]
      exact ⟨by rw [l22]; exact vp_in_nI (by omega) (by decide), hK⟩
  · have h0 : hq = 0 := Classical.byContradiction (fun c => z (by rw [oN_p (by omega)]; exact nI_le (a := 0) (Nat.zero_le _) (by omega)))
    rw [sta_0 h0] at hK
    exact hK
theorem x_stands {K : jk} {m a hq : Nat} {ty : Nat → Nat} {p3 p4 : Int32} (hw : wf T b) (imx : imX σ T b) (lw : lwX σ (T 0 4)) (hm : m < T 0 1) (ha : a < 2 ^ 20) (hb : bgt T m a) (hq16 : hq ≤ T 16 m + 1) (r32 : σ.2.2.2.1 32 (T 17 m + a) = oN hq) (r33 : hq ≠ 0 → ∀ i, i < T 15 m + (hq - 1) → σ.2.2.2.1 33 (12 * (T 17 m + a) + i) = nI (ty (12 * (T 17 m + a) + i))) (hK : K (sta (T 15 m) hq ty (T 17 m + a) p3 p4) σ) : mp_X8_found σ (nI m) (nI a) p3 p4 K := by
  have e16 : σ.1 16 = nI (T 0 1) := imx.2.2.2.2.1
  have w64 := hw.2.2.2.1
  have w8 := hw.2.2.2.2.1
  obtain ⟨-, -, -, -, -, -, y7, y8, y9, y10, y11, y12, -⟩ := hw.2.2.2.2.2.2.2.2.1 m hm
  have rr := imx.2.2.2.2.2.2.2.2 m hm
  have r24 := rr.2.2.2.2.1
  have r26 := rr.2.2.2.2.2.2.1
  have al := hb.1
  obtain ⟨lw1, lw2, lw3, lw4, -, -⟩ := lw
  unfold mp_X8_found mp_X8_found_27 mp_X8_found_61 mp_X8_found_82 mp_X8_found_103 mp_X8_found_115 mp_X8_found_131 mp_X8_found_132 mp_X8_found_159
  rw [e16]
  refine ⟨fun z => absurd z (nI_neg (by omega)), fun _ => ⟨fun z => absurd ((nI_leI (by omega) (by omega)).mp z) (by omega), fun _ => ?_⟩⟩
  refine w_bAt imx hw hm ha (fun _ => ⟨fun _ => ?_, fun z => absurd z (by decide)⟩) (fun c => absurd hb c)
  rw [nI_clamp (by omega), r26, r24, nI_add]
  refine ⟨by rw [lx26 imx.2.1]; exact vp_in_nI (by omega) (by decide), ?_⟩
  intro v15 e15
  have c15 : v15.toNatClampNeg = T 17 m + a := by rw [e15]; exact nI_clamp (by omega)
  rw [c15, r32]
  refine ⟨by rw [e15]; exact vp_in_nI (by omega) (by omega), ?_⟩
  intro v17 e17
  have in24 : vp_in (nI m) (σ.2.2.1 24) := by rw [lx24 imx.2.1]; exact vp_in_nI (by omega) (by decide)
  refine ⟨fun z => ?_, fun z => ?_⟩
  · have h0 : hq = 0 := (oN_eqm (by omega)).mp (e17.symm.trans z)
    rw [sta_0 h0] at hK
    rw [z]; exact hK
  · have h0 : hq ≠ 0 := fun e => z (by rw [e17, e]; exact oN_0)
    rw [oN_p (by omega)] at e17
    subst e17
    refine ⟨fun z0 => ⟨fun z1 => ⟨in24, fun _ => ⟨fun c => absurd c z1, fun _ => ⟨fun z2 => ⟨fun _ => ?_, fun c => absurd rfl c⟩, fun z2 => ⟨fun z3 => ⟨fun _ => ?_, fun c => absurd rfl c⟩, fun z3 => ⟨fun z4 => ⟨fun _ => ?_, fun c => absurd rfl c⟩, fun z4 => ⟨fun c => absurd c (by decide), fun _ => ?_⟩⟩⟩⟩⟩, fun c => absurd c z1⟩, fun z1 => ⟨fun c => absurd z1 c, fun _ => ⟨in24, fun _ => ⟨fun z3 => ⟨fun _ => ?_, fun c => absurd rfl c⟩, fun z3 => ⟨fun z4 => ⟨fun _ => ?_, fun c => absurd rfl c⟩, fun z4 => ⟨fun c => absurd c (by decide), fun _ => ?_⟩⟩⟩, fun c => absurd z1 c⟩⟩⟩, fun z0 => by subst z0; rw [sta_h h0] at hK; exact hK⟩
    · rw [sta_n h0 z0 z1 z2] at hK; exact hK
    · subst z2; rw [sta_2n h0 (Or.inl z3)] at hK; exact hK
    · subst z2; rw [sta_2n h0 (Or.inr z4)] at hK; exact hK
    · subst z2
      obtain ⟨i, i1, i2⟩ := nI_of z3
      subst i2
      have hi : i < hq - 1 := by
        have : ¬ hq - 1 ≤ i := fun c => z4 (nI_le c (by omega))
        omega
      rw [sta_2 h0 z3 z4 i1] at hK
      rw [e15, l_12, pk_mul, nI_add, nI_add, nI_clamp (by omega), show (T 17 m + a) * 12 + T 15 m + i = 12 * (T 17 m + a) + (T 15 m + i) by omega, r33 h0 (T 15 m + i) (by omega)]
      exact ⟨vp_in_nI (by omega) (by omega), hK⟩
    · subst z1; rw [sta_1n h0 (Or.inl z3)] at hK; exact hK
    · subst z1; rw [sta_1n h0 (Or.inr z4)] at hK; exact hK
    · subst z1
      obtain ⟨i, i1, i2⟩ := nI_of z3
      subst i2
      have hi : i < T 15 m := by
        have : ¬ T 15 m ≤ i := fun c => z4 (nI_le c (by omega))
        omega
      rw [sta_1 h0 z3 z4 i1] at hK
      rw [e15, l_12, pk_mul, Int32.add_zero, nI_add, nI_clamp (by omega), show (T 17 m + a) * 12 + i = 12 * (T 17 m + a) + i by omega, r33 h0 i (by omega)]
      exact ⟨vp_in_nI (by omega) (by omega), hK⟩
theorem j_stands {KK : Int32 → sm_S → Int32 → sm_S → Prop} (p1 p2 p3 p4 : Int32) (hw : wf T b) (hv : vbs σ μ T b) (hf : ∀ m, m < T 0 1 → fin σ μ T b m) (h36 : ¬ σ.1 36 = 0) (hK : ∀ r, KK r σ r μ) : mp_X10_stands σ p1 p2 p3 p4 (fun r σ' => mp_X12_stands μ p1 p2 p3 p4 (fun r' μ' => KK r σ' r' μ')) := by
  have imx := hv.1
  have imm := hv.2.1.1
  have i4 := hv.2.1.2.1
  have n4 : ¬ μ.1 4 = 0 := by rw [i4]; decide
  have e16 : σ.1 16 = nI (T 0 1) := imx.2.2.2.2.1
  have e6 : μ.1 6 = nI (T 0 1) := imm.2.2.2.1
  have w64 := hw.2.2.2.1
  unfold mp_X10_stands mp_X10_stands_23
  refine ⟨fun z => absurd z h36, fun _ => ?_⟩
  have rno : (p1 < 0 ∨ nI (T 0 1) ≤ p1 ∨ p2 < 0) → mp_X12_stands μ p1 p2 p3 p4 (fun r' μ' => KK (-1) σ r' μ') := fun c => by
    unfold mp_X12_stands mp_X12_stands_41
    rw [e6]
    refine ⟨fun z => absurd z n4, fun _ => ⟨fun _ => hK (-1), fun z1 => ⟨fun _ => hK (-1), fun z2 => ⟨fun _ => hK (-1), fun z3 => ?_⟩⟩⟩⟩
    rcases c with c | c | c
    · exact absurd c z1
    · exact absurd c z2
    · exact absurd c z3
  by_cases z1 : p1 < 0
  · unfold mp_X8_found mp_X8_found_27
    exact ⟨fun z => rno (Or.inl z), fun z => absurd z1 z⟩
  by_cases z2 : nI (T 0 1) ≤ p1
  · unfold mp_X8_found mp_X8_found_27
    rw [e16]
    exact ⟨fun z => absurd z z1, fun _ => ⟨fun z => rno (Or.inr (Or.inl z)), fun z => absurd z2 z⟩⟩
  obtain ⟨m, m1, m2⟩ := nI_of z1
  subst m2
  have hm : m < T 0 1 := by
    have : ¬ T 0 1 ≤ m := fun c => z2 (nI_le c m1)
    omega
  by_cases z3 : p2 < 0
  · unfold mp_X8_found mp_X8_found_27 mp_X2_beginsAt mp_X2_beginsAt_40 mp_X2_beginsAt_41
    rw [e16]
    exact ⟨fun z => absurd z z1, fun _ => ⟨fun z => absurd z z2, fun _ => ⟨fun _ => ⟨sm_z0, fun z => absurd rfl z, fun _ => rno (Or.inr (Or.inr z3))⟩, fun z => absurd z3 z⟩⟩⟩
  obtain ⟨a, a1, a2⟩ := nI_of z3
  subst a2
  obtain ⟨-, -, -, -, -, -, y7, y8, y9, y10, y11, y12, -⟩ := hw.2.2.2.2.2.2.2.2.1 m hm
  by_cases bg : bgt T m a
  · have al := bg.1
    obtain ⟨h, ty, mk, ht, -⟩ := hf m hm
    obtain ⟨t1, t2, t3, t4, t5, t6, t7, t8⟩ := ht (T 17 m + a) (by omega) (by omega)
    refine x_stands (ty := ty) hw imx hv.2.2.1 hm (by omega) bg t3 t1 (fun z i hi => (t8 z i hi).1) ?_
    exact m_stands (ty := ty) hw imm i4 hv.2.2.2.1.1 hv.2.2.2.1.2.1 hm (by omega) bg t3 t2 (fun z i hi => (t8 z i hi).2.1) (hK _)
  · have r18 := (imm.2.2.2.2.2.2.2 m hm).2.2.2.2.2.2.2.1
    have r27 := (imx.2.2.2.2.2.2.2.2 m hm).2.2.2.2.2.2.2.1
    have rbg : ∀ K : jk, K 0 μ → mp_X11_isBegin μ (nI m) (nI a) K := fun K k0 => by
      by_cases c : a < 2 ^ 20
      · exact w_isB imm hw hm c (fun c => absurd c bg) (fun _ => k0)
      · unfold mp_X11_isBegin mp_X11_isBegin_30 mp_X11_isBegin_31
        rw [nI_clamp (by omega), r18]
        exact ⟨by rw [lm18 imm.2.1]; exact vp_in_nI (by omega) (by decide), fun _ => ⟨sm_z0, k0⟩, fun z => absurd (nI_le (by omega) (by omega)) z⟩
    have xbg : ∀ K : jk, K 0 σ → mp_X2_beginsAt σ (nI m) (nI a) K := fun K k0 => by
      by_cases c : a < 2 ^ 20
      · exact w_bAt imx hw hm c (fun c => absurd c bg) (fun _ => k0)
      · unfold mp_X2_beginsAt mp_X2_beginsAt_40 mp_X2_beginsAt_41
        rw [nI_clamp (by omega), r27]
        exact ⟨fun z => absurd z z3, fun _ => ⟨by rw [lx27 imx.2.1]; exact vp_in_nI (by omega) (by decide), fun _ => ⟨sm_z0, k0⟩, fun z => absurd (nI_le (by omega) (by omega)) z⟩⟩
    unfold mp_X8_found mp_X8_found_27
    rw [e16]
    refine ⟨fun z => absurd z z1, fun _ => ⟨fun z => absurd z z2, fun _ => xbg _ ⟨fun z => absurd rfl z, fun _ => ?_⟩⟩⟩
    unfold mp_X12_stands mp_X12_stands_41
    rw [e6]
    exact ⟨fun z => absurd z n4, fun _ => ⟨fun z => absurd z z1, fun _ => ⟨fun z => absurd z z2, fun _ => ⟨fun z => absurd z z3, fun _ => rbg _ ⟨fun z => absurd rfl z, fun _ => hK (-1)⟩⟩⟩⟩⟩
end
