/-! ===== the reference's fits: calls ===== -/
theorem oN_lt {j f : Nat} (hj : j < 2 ^ 31) (hf : f < 2 ^ 31) : oN j < nI f ↔ j ≤ f := by
  rcases j with _ | j
  · rw [oN_0, m1_ltN hf]
    exact ⟨fun _ => by omega, fun _ => trivial⟩
  · rw [oN_s, nI_ltI (by omega) hf]
    exact ⟨fun q => by omega, fun q => by omega⟩
theorem eM_seqR {μ : sm_S} {T : Nat → Nat → Nat} {m t t' : Nat} {c c' d : Prop} {w w' : Nat → Nat} {P : jk → Prop} {F G : jk → sm_S → Prop} (h : et P (rM μ T m c t w)) (hF : ∀ (μ1 : sm_S) (K : jk), K 0 μ1 → F K μ1) (hG : ∀ μ1, c → fr IvM AvM μ μ1 → gM μ1 T m t w → et (fun K => G K μ1) (rM μ1 T m d t' w')) (hc : c' ↔ c ∧ d) : et (fun K => P (fun r μ1 => ((¬ r = 0 → G K μ1) ∧ (r = 0 → F K μ1)))) (rM μ T m c' t' w') := by
  obtain ⟨r, μ1, a, f, hcs⟩ := h
  rcases hcs with ⟨h1, e, g⟩ | ⟨h1, e⟩
  · obtain ⟨r2, μ2, a2, f2, h2⟩ := hG μ1 h1 f g
    refine ⟨r2, μ2, fun K hK => a _ ⟨fun _ => a2 K hK, fun q => absurd q (by rw [e]; decide)⟩, f.t f2, ?_⟩
    rcases h2 with ⟨z1, z2, z3⟩ | ⟨z1, z2⟩
    · exact Or.inl ⟨hc.mpr ⟨h1, z1⟩, z2, z3⟩
    · exact Or.inr ⟨fun q => z1 (hc.mp q).2, z2⟩
  · exact ⟨0, μ1, fun K hK => a _ ⟨fun q => absurd e q, fun _ => hF μ1 K hK⟩, f, Or.inr ⟨fun q => h1 (hc.mp q).1, rfl⟩⟩
theorem eM_par {T : Nat → Nat → Nat} {b : Nat → Nat} {m p t fm : Nat} {w : Nat → Nat} {xf : Int32} (hw : wf T b) (hm : m < T 0 1) (hop : b p = 35 ∨ b p = 36) (hok : okc T b p) (hfm : fm ≤ 1) (hxf : xf = nI fm) (hf36 : b p = 36 → fm = 1) (hfn : fm ≤ T 12 (cmt T b p)) : ∀ (d j : Nat) (μ : sm_S), j ≤ d → fm ≤ j → j ≤ T 12 (cmt T b p) → bM μ T b → gM μ T m (t - (T 12 (cmt T b p) - j)) w → cpj T b m p t w j → et (fun K => mp_X12_popParameters_13 K (d + 1) μ (nI m) (nI (cmt T b p)) xf (oN j)) (rM μ T m (cpj T b m p t w fm) (t - (T 12 (cmt T b p) - fm)) w) := by
  have w2 := hw.2.1
  have w4 := hw.2.2.2.1
  obtain ⟨-, q2, -, q4, q5, -⟩ := hw.2.2.2.2.2.2.2.2.1 _ hok.1
  have hC8 : cmt T b p < 64 := by have := hok.1; omega
  intro d
  induction d with
  | zero =>
    intro j μ hd hj hjn hb h hc
    have e : j = fm := by omega
    subst e
    rw [hxf]
    unfold mp_X12_popParameters_13
    refine et_x (P2 := fun K => K 1 μ) (fun K q => ⟨fun _ => q, fun z => absurd ((oN_lt (by omega) (by omega)).mpr (Nat.le_refl j)) z⟩) (et_e ⟨fr_r, Or.inl ⟨hc, rfl, h⟩⟩)
  | succ d ih =>
    intro j μ hd hj hjn hb h hc
    unfold mp_X12_popParameters_13
    by_cases e : j = fm
    · subst e
      rw [hxf]
      refine et_x (P2 := fun K => K 1 μ) (fun K q => ⟨fun _ => q, fun z => absurd ((oN_lt (by omega) (by omega)).mpr (Nat.le_refl j)) z⟩) (et_e ⟨fr_r, Or.inl ⟨hc, rfl, h⟩⟩)
    · obtain ⟨k, ek⟩ : ∃ k, j = k + 1 := ⟨j - 1, by omega⟩
      subst ek
      have hLM := hb.1.2.1
      have r13 := (hb.1.2.2.2.2.2.2.2 _ hok.1).2.2.1 k (by omega)
      have ec : cty T b p k = T 13 (8 * cmt T b p + k) := by
        unfold cty
        rw [if_neg]
        intro z
        have := hf36 z.1
        omega
      have vk := vt_ty (q4 k (by omega))
      have n99 : T 13 (8 * cmt T b p + k) ≠ 99 := by have := q4 k (by omega); unfold ty_ok at this; omega
      have nlt : ¬ nI k < xf := by rw [hxf, nI_ltI (by omega) (by omega)]; omega
      have hcp : cpj T b m p t w k ↔ cpj T b m p t w (k + 1) ∧ (1 ≤ t - (T 12 (cmt T b p) - (k + 1)) ∧ goesT T (w (T 15 m + (t - (T 12 (cmt T b p) - (k + 1))) - 1)) (T 13 (8 * cmt T b p + k))) := by
        unfold cpj
        constructor
        · intro ⟨z1, z2⟩
          refine ⟨⟨by omega, fun k' a1 a2 => z2 k' (by omega) a2⟩, by omega, ?_⟩
          have := z2 k (Nat.le_refl _) (by omega)
          rw [ec] at this
          rw [show T 15 m + (t - (T 12 (cmt T b p) - (k + 1))) - 1 = T 15 m + (t - (T 12 (cmt T b p) - k)) by omega]
          exact this
        · intro ⟨⟨z1, z2⟩, z3, z4⟩
          refine ⟨by omega, fun k' a1 a2 => ?_⟩
          by_cases ek : k' = k
          · rw [ek, ec]
            rw [show T 15 m + (t - (T 12 (cmt T b p) - (k + 1))) - 1 = T 15 m + (t - (T 12 (cmt T b p) - k)) by omega] at z4
            exact z4
          · exact z2 k' (by omega) a2
      have step := eM_seqR (c' := cpj T b m p t w fm) (d := cpj T b m p t w fm) (t' := t - (T 12 (cmt T b p) - fm)) (w' := w) (F := fun K σ => K 0 σ) (G := fun K σ => mp_X12_popParameters_13 K (d + 1) σ (nI m) (nI (cmt T b p)) xf (oN k)) (eM_into (ty := T 13 (8 * cmt T b p + k)) hb hw hm h rfl vk n99) (fun _ _ q => q) (fun μ2 hc2 f2 g2 => ih k μ2 (by omega) (by omega) (by omega) (hb.v f2) (by rw [show t - (T 12 (cmt T b p) - k) = t - (T 12 (cmt T b p) - (k + 1)) - 1 by have := hc2.1; omega]; exact g2) (hcp.mpr ⟨hc, hc2⟩)) ⟨fun z => ⟨(hcp.mp ⟨by have := z.1; have := hc.1; omega, fun k' a1 a2 => z.2 k' (by omega) a2⟩).2, z⟩, fun z => z.2⟩
      rw [oN_s]
      refine et_x (fun K q => ⟨fun z => absurd z nlt, fun _ => ?_⟩) step
      simp (disch := (first | ((try simp (disch := omega) only [va_up_self, va_up_ne, ne_eq, reduceCtorEq, Nat.reduceEqDiff, not_false_eq_true, l_0, l_2, l_3, l_4, l_5, l_6, l_7, l_8, l_9, l_10, l_11, l_12, l_13, l_14, l_15, l_16, l_17, l_18, l_19, l_20, l_21, l_22, l_23, l_24, l_25, l_26, l_27, l_28, l_29, l_30, l_31, l_32, l_33, l_34, l_35, l_36, l_37, l_38, l_39, l_40, l_41, l_42, l_43, l_44, l_45, l_46, l_47, l_48, l_49, l_50, l_51, l_52, l_53, l_54, l_55, l_56, l_57, l_58, l_59, l_60, l_61, l_62, l_63, l_64, l_97, l_98, l_99, l_200, l_225, l_232, l_255, l_256, l_700, l_1000, l_1024, l_3375, l_4095, l_8000, l_20000, l_60000, vp_nIs, zz0, zz1, e10, nI_leI, nI_ltI, nI_eq, nI_1, nI_1a, nI_add, nI_sub, nI_sub1, pk_mul, nI_clamp, nI_le1, nI_le1', nI_lt1, nI_lt1', nI_eq1, nI_eqm, m1_eqN, m1_le, m1_lt, m1_leN, m1_ltN, nI_am, not_true_eq_false, not_false_eq_true, oN_eqm, r13, lm13 hLM, oN_m]) <;> omega) | fail)) only [↓numW, ↓zb_t, ↓zb_f, ↓zb_tt, ↓zb_ff, ↓zb_i, ↓zb_z0, ↓zb_z1, ↓zb_z, ↓zb_l, ↓zb_v, vi32, vi64, true_and, pk_us, Int32.add_zero, Nat.add_sub_cancel, nI_add, nI_1, nI_1a, nI_clamp, k7, k7', k8, k8', k12, k12', k15, k15', k16, k16', nI_sub1, va_up_self, va_up_ne, ne_eq, reduceCtorEq, Nat.reduceEqDiff, not_false_eq_true, r13, lm13 hLM, oN_m]
      exact q
/-- what a method gives, pushed -/
theorem eM_given {μ : sm_S} {T : Nat → Nat → Nat} {b : Nat → Nat} {m t mm : Nat} {w : Nat → Nat} (hb : bM μ T b) (hw : wf T b) (hm : m < T 0 1) (hmm : mm < T 0 1) (h : gM μ T m t w) : et (fun K => mp_X12_pushGiven μ (nI m) (nI mm) K) (rM μ T m (T 14 mm ≠ 255 → t < T 16 m) (t + (if T 14 mm = 255 then 0 else 1)) (if T 14 mm = 255 then w else va_up w (T 15 m + t) (T 14 mm))) := by
  have w2 := hw.2.1
  have w4 := hw.2.2.2.1
  have y5 := (hw.2.2.2.2.2.2.2.2.1 _ hmm).2.2.2.2.1
  have ty := ty_le y5 w2
  have hLM := hb.1.2.1
  have r14 := (hb.1.2.2.2.2.2.2.2 _ hmm).2.2.2.1
  unfold mp_X12_pushGiven
  by_cases c : T 14 mm = 255
  · rw [if_pos c] at r14 ⊢
    rw [if_pos c]
    refine et_x (P2 := fun K => K 1 μ) (fun K q => ?_) (et_e ⟨fr_r, Or.inl ⟨fun z => absurd c z, rfl, h⟩⟩)
    unfold mp_X12_pushGiven_29 mp_X12_pushGiven_34
    simp (disch := (first | ((try simp (disch := omega) only [va_up_self, va_up_ne, ne_eq, reduceCtorEq, Nat.reduceEqDiff, not_false_eq_true, l_0, l_2, l_3, l_4, l_5, l_6, l_7, l_8, l_9, l_10, l_11, l_12, l_13, l_14, l_15, l_16, l_17, l_18, l_19, l_20, l_21, l_22, l_23, l_24, l_25, l_26, l_27, l_28, l_29, l_30, l_31, l_32, l_33, l_34, l_35, l_36, l_37, l_38, l_39, l_40, l_41, l_42, l_43, l_44, l_45, l_46, l_47, l_48, l_49, l_50, l_51, l_52, l_53, l_54, l_55, l_56, l_57, l_58, l_59, l_60, l_61, l_62, l_63, l_64, l_97, l_98, l_99, l_200, l_225, l_232, l_255, l_256, l_700, l_1000, l_1024, l_3375, l_4095, l_8000, l_20000, l_60000, vp_nIs, zz0, zz1, e10, nI_leI, nI_ltI, nI_eq, nI_1, nI_1a, nI_add, nI_sub, nI_sub1, pk_mul, nI_clamp, nI_le1, nI_le1', nI_lt1, nI_lt1', nI_eq1, nI_eqm, m1_eqN, m1_le, m1_lt, m1_leN, m1_ltN, nI_am, not_true_eq_false, not_false_eq_true, oN_eqm, r14, lm14 hLM, ↓zm10]) <;> omega) | fail)) only [↓numW, ↓zb_t, ↓zb_f, ↓zb_tt, ↓zb_ff, ↓zb_i, ↓zb_z0, ↓zb_z1, ↓zb_z, ↓zb_l, ↓zb_v, vi32, vi64, true_and, pk_us, Int32.add_zero, Nat.add_sub_cancel, nI_add, nI_1, nI_1a, nI_clamp, k7, k7', k8, k8', k12, k12', k15, k15', k16, k16', nI_sub1, va_up_self, va_up_ne, ne_eq, reduceCtorEq, Nat.reduceEqDiff, not_false_eq_true, r14, lm14 hLM, ↓zm10]
    exact q
  · rw [if_neg c] at r14 ⊢
    rw [if_neg c]
    have vg := vt_g y5 c
    refine et_x (fun K q => ?_) (et_w (eM_end (F := fun K σ => mp_X12_pushGiven_34 K σ 0) (G := mp_X12_pushGiven_29) (eM_push (v := T 14 mm) hb hw hm h rfl vg) (fun _ _ q => ⟨sm_z0, q⟩) (fun _ _ q => ⟨sm_z1, q⟩)) (fun r μ' q => q.c ⟨fun z _ => z, fun z => z c⟩ (fun _ => rfl) (fun _ _ _ => rfl)))
    simp (disch := (first | ((try simp (disch := omega) only [va_up_self, va_up_ne, ne_eq, reduceCtorEq, Nat.reduceEqDiff, not_false_eq_true, l_0, l_2, l_3, l_4, l_5, l_6, l_7, l_8, l_9, l_10, l_11, l_12, l_13, l_14, l_15, l_16, l_17, l_18, l_19, l_20, l_21, l_22, l_23, l_24, l_25, l_26, l_27, l_28, l_29, l_30, l_31, l_32, l_33, l_34, l_35, l_36, l_37, l_38, l_39, l_40, l_41, l_42, l_43, l_44, l_45, l_46, l_47, l_48, l_49, l_50, l_51, l_52, l_53, l_54, l_55, l_56, l_57, l_58, l_59, l_60, l_61, l_62, l_63, l_64, l_97, l_98, l_99, l_200, l_225, l_232, l_255, l_256, l_700, l_1000, l_1024, l_3375, l_4095, l_8000, l_20000, l_60000, vp_nIs, zz0, zz1, e10, nI_leI, nI_ltI, nI_eq, nI_1, nI_1a, nI_add, nI_sub, nI_sub1, pk_mul, nI_clamp, nI_le1, nI_le1', nI_lt1, nI_lt1', nI_eq1, nI_eqm, m1_eqN, m1_le, m1_lt, m1_leN, m1_ltN, nI_am, not_true_eq_false, not_false_eq_true, oN_eqm, r14, lm14 hLM]) <;> omega) | fail)) only [↓numW, ↓zb_t, ↓zb_f, ↓zb_tt, ↓zb_ff, ↓zb_i, ↓zb_z0, ↓zb_z1, ↓zb_z, ↓zb_l, ↓zb_v, vi32, vi64, true_and, pk_us, Int32.add_zero, Nat.add_sub_cancel, nI_add, nI_1, nI_1a, nI_clamp, k7, k7', k8, k8', k12, k12', k15, k15', k16, k16', nI_sub1, va_up_self, va_up_ne, ne_eq, reduceCtorEq, Nat.reduceEqDiff, not_false_eq_true, r14, lm14 hLM]
    exact q
theorem eM_f {μ : sm_S} {T : Nat → Nat → Nat} {b : Nat → Nat} {m p t : Nat} {w : Nat → Nat} (hb : bM μ T b) (hw : wf T b) (hm : m < T 0 1) (h : gM μ T m t w) (n9 : ∀ i, T 15 m ≤ i → i < T 15 m + t → w i ≠ 99) (ho : opT T b (T 15 m) p) (hop : b p = 35 ∨ b p = 36) (hok : okc T b p) {c : Prop} {t' : Nat} {w' : Nat → Nat} (hav : avS T b m p t w c t' w') : et (fun K => mp_X12_fits μ (nI m) (nI (b p)) (nI (b (p + 1))) (nI (b (p + 2))) K) (rM μ T m c t' w') := by
  have w2 := hw.2.1
  have w4 := hw.2.2.2.1
  obtain ⟨-, -, -, -, y5, y6, h12, y8, y9, y10, y11, y12, -⟩ := hw.2.2.2.2.2.2.2.2.1 m hm
  have hbt : ∀ j, b j < 256 := hb.1.1.2.2.2.1
  have v0 : vt T 0 := Or.inl (by omega)
  have v97 : vt T 97 := Or.inr (Or.inr (Or.inl rfl))
  have hst := h.2.1
  have hv : ∀ i, i < T 15 m + t → w i < 2 ^ 20 ∧ vt T (w i) := fun i hi => by
    have := (h.2.2 i hi).2
    refine ⟨?_, this⟩
    unfold vt at this; omega
  have hb0 := ho.1
  have hb1 := hbt (p + 1)
  have hb2 := hbt (p + 2)
  have hLM := hb.1.2.1
  have e12 : 2 ≤ t → T 15 m + (t - 1) - 1 = T 15 m + t - 2 := fun _ => by omega
  have z0 : ∀ (μ1 : sm_S) (K : jk), K 0 μ1 → sm_z 0 ∧ K 0 μ1 := fun _ _ q => ⟨sm_z0, q⟩
  have z1 : ∀ (μ1 : sm_S) (K : jk), K 1 μ1 → sm_z 1 ∧ K 1 μ1 := fun _ _ q => ⟨sm_z1, q⟩
  obtain ⟨e1, e2, e3⟩ := hav.2.2.2.2.2.2.2.2.2.2.2.2.2.2.2.2.2.2.2.2.2.2.2.1 hop
  have q2 := (hw.2.2.2.2.2.2.2.2.1 _ hok.1).2.1
  have hC8 : cmt T b p < 64 := by have := hok.1; omega
  have r12 := (hb.1.2.2.2.2.2.2.2 _ hok.1).2.1
  have hcp : cpj T b m p t w 0 ↔ T 12 (cmt T b p) ≤ t ∧ ∀ k, k < T 12 (cmt T b p) → goesT T (w (T 15 m + t - T 12 (cmt T b p) + k)) (cty T b p k) := by
    unfold cpj
    rw [Nat.sub_zero]
    exact ⟨fun z => ⟨z.1, fun k hk => by have := z.2 k (by omega) hk; rw [show T 15 m + (t - (T 12 (cmt T b p) - k)) = T 15 m + t - T 12 (cmt T b p) + k by omega] at this; exact this⟩, fun z => ⟨z.1, fun k _ hk => by have := z.2 k hk; rw [show T 15 m + t - T 12 (cmt T b p) + k = T 15 m + (t - (T 12 (cmt T b p) - k)) by omega] at this; exact this⟩⟩
  have par : ∀ (fm : Nat) (xf : Int32), xf = nI fm → fm ≤ 1 → (b p = 36 → fm = 1) → fm ≤ T 12 (cmt T b p) → et (fun K => mp_X12_popParameters μ (nI m) (nI (cmt T b p)) xf K) (rM μ T m (cpj T b m p t w fm) (t - (T 12 (cmt T b p) - fm)) w) := by
    intro fm xf hxf hf1 hf36 hfn
    have := eM_par (T := T) (b := b) (m := m) (p := p) (t := t) (w := w) hw hm hop hok hf1 hxf hf36 hfn (T 12 (cmt T b p)) (T 12 (cmt T b p)) μ (Nat.le_refl _) hfn (Nat.le_refl _) hb (by rw [Nat.sub_self]; exact h) ⟨by omega, fun k a1 a2 => absurd a2 (by omega)⟩
    unfold mp_X12_popParameters
    refine et_x (fun K q => ?_) this
    refine ⟨?_, fun v8 e8 => ⟨T 12 (cmt T b p) + 1, ?_⟩⟩
    · rw [lm12 hLM]; exact vp_in_nI hC8 (by decide)
    · rw [e8, nI_clamp (by omega), r12]
      exact q
  have fin : ∀ μ1, fr IvM AvM μ μ1 → gM μ1 T m (t - T 12 (cmt T b p)) w → et (fun K => mp_X12_pushGiven μ1 (nI m) (nI (cmt T b p)) K) (rM μ1 T m (T 14 (cmt T b p) ≠ 255 → t - T 12 (cmt T b p) < T 16 m) t' w') := fun μ1 f1 g1 => et_w (eM_given (hb.v f1) hw hm hok.1 g1) (fun r μ' q => q.c Iff.rfl (fun _ => e2.symm) (fun _ i _ => by rw [e3]))
  unfold mp_X12_fits mp_X12_fits_19 mp_X12_fits_39
  simp (disch := (first | ((try simp (disch := omega) only [va_up_self, va_up_ne, ne_eq, reduceCtorEq, Nat.reduceEqDiff, not_false_eq_true, l_0, l_2, l_3, l_4, l_5, l_6, l_7, l_8, l_9, l_10, l_11, l_12, l_13, l_14, l_15, l_16, l_17, l_18, l_19, l_20, l_21, l_22, l_23, l_24, l_25, l_26, l_27, l_28, l_29, l_30, l_31, l_32, l_33, l_34, l_35, l_36, l_37, l_38, l_39, l_40, l_41, l_42, l_43, l_44, l_45, l_46, l_47, l_48, l_49, l_50, l_51, l_52, l_53, l_54, l_55, l_56, l_57, l_58, l_59, l_60, l_61, l_62, l_63, l_64, l_97, l_98, l_99, l_200, l_225, l_232, l_255, l_256, l_700, l_1000, l_1024, l_3375, l_4095, l_8000, l_20000, l_60000, vp_nIs, zz0, zz1, e10, nI_leI, nI_ltI, nI_eq, nI_1, nI_1a, nI_add, nI_sub, nI_sub1, pk_mul, nI_clamp, nI_le1, nI_le1', nI_lt1, nI_lt1', nI_eq1, nI_eqm, m1_eqN, m1_le, m1_lt, m1_leN, m1_ltN, nI_am, not_true_eq_false, not_false_eq_true, oN_eqm, hw]) <;> omega) | fail)) only [↓numW, ↓zb_t, ↓zb_f, ↓zb_tt, ↓zb_ff, ↓zb_i, ↓zb_z0, ↓zb_z1, ↓zb_z, ↓zb_l, ↓zb_v, vi32, vi64, true_and, pk_us, Int32.add_zero, Nat.add_sub_cancel, nI_add, nI_1, nI_1a, nI_clamp, k7, k7', k8, k8', k12, k12', k15, k15', k16, k16', nI_sub1, va_up_self, va_up_ne, ne_eq, reduceCtorEq, Nat.reduceEqDiff, not_false_eq_true, hw]
  rcases hop with g | g
  · have ec : cmt T b p = b (p + 1) := by unfold cmt; rw [if_pos g]
    refine et_x (fun K q => sw_ft_35 g q) ?_
    rw [← ec]
    exact eM_seq (par 0 0 rfl (by omega) (fun z => absurd z (by omega)) (by omega)) z0 (fun μ2 _ f2 g2 => eM_end (fin μ2 f2 (by rw [Nat.sub_zero] at g2; exact g2)) z0 z1) (by rw [e1, hcp])
  · have hs := hok.2 g
    have ec : cmt T b p = T 8 (16 * b (p + 1) + b (p + 2)) - 1 := by unfold cmt; rw [if_neg (by omega)]
    have s8 := (hb.1.2.2.2.2.2.2.1.2.1 _ _ hs.1 hs.2.1).1
    rw [oN_p (by have := hs.2.2.2; omega), ← ec] at s8
    have vx : vt T (b (p + 1) + 1) := Or.inl (by have := hs.1; omega)
    have hC32 := hs.1
    refine et_x (fun K q => sw_ft_36 g q) ?_
    simp (disch := (first | ((try simp (disch := omega) only [va_up_self, va_up_ne, ne_eq, reduceCtorEq, Nat.reduceEqDiff, not_false_eq_true, l_0, l_2, l_3, l_4, l_5, l_6, l_7, l_8, l_9, l_10, l_11, l_12, l_13, l_14, l_15, l_16, l_17, l_18, l_19, l_20, l_21, l_22, l_23, l_24, l_25, l_26, l_27, l_28, l_29, l_30, l_31, l_32, l_33, l_34, l_35, l_36, l_37, l_38, l_39, l_40, l_41, l_42, l_43, l_44, l_45, l_46, l_47, l_48, l_49, l_50, l_51, l_52, l_53, l_54, l_55, l_56, l_57, l_58, l_59, l_60, l_61, l_62, l_63, l_64, l_97, l_98, l_99, l_200, l_225, l_232, l_255, l_256, l_700, l_1000, l_1024, l_3375, l_4095, l_8000, l_20000, l_60000, vp_nIs, zz0, zz1, e10, nI_leI, nI_ltI, nI_eq, nI_1, nI_1a, nI_add, nI_sub, nI_sub1, pk_mul, nI_clamp, nI_le1, nI_le1', nI_lt1, nI_lt1', nI_eq1, nI_eqm, m1_eqN, m1_le, m1_lt, m1_leN, m1_ltN, nI_am, not_true_eq_false, not_false_eq_true, oN_eqm, s8, lm8 hLM]) <;> omega) | fail)) only [↓numW, ↓zb_t, ↓zb_f, ↓zb_tt, ↓zb_ff, ↓zb_i, ↓zb_z0, ↓zb_z1, ↓zb_z, ↓zb_l, ↓zb_v, vi32, vi64, true_and, pk_us, Int32.add_zero, Nat.add_sub_cancel, nI_add, nI_1, nI_1a, nI_clamp, k7, k7', k8, k8', k12, k12', k15, k15', k16, k16', nI_sub1, va_up_self, va_up_ne, ne_eq, reduceCtorEq, Nat.reduceEqDiff, not_false_eq_true, s8, lm8 hLM]
    have hc1 : cpj T b m p t w 0 ↔ cpj T b m p t w 1 ∧ (1 ≤ t - (T 12 (cmt T b p) - 1) ∧ goesT T (w (T 15 m + (t - (T 12 (cmt T b p) - 1)) - 1)) (b (p + 1) + 1)) := by
      have ec0 : cty T b p 0 = b (p + 1) + 1 := by unfold cty; rw [if_pos ⟨g, rfl⟩]
      have hn1 := hs.2.2.1
      unfold cpj
      constructor
      · intro ⟨z1, z2⟩
        refine ⟨⟨by omega, fun k' a1 a2 => z2 k' (by omega) a2⟩, by omega, ?_⟩
        have := z2 0 (Nat.le_refl _) (by omega)
        rw [ec0] at this
        rw [show T 15 m + (t - (T 12 (cmt T b p) - 1)) - 1 = T 15 m + (t - (T 12 (cmt T b p) - 0)) by omega]
        exact this
      · intro ⟨⟨z1, z2⟩, z3, z4⟩
        refine ⟨by omega, fun k' a1 a2 => ?_⟩
        by_cases ek : k' = 0
        · rw [ek, ec0]
          rw [show T 15 m + (t - (T 12 (cmt T b p) - 1)) - 1 = T 15 m + (t - (T 12 (cmt T b p) - 0)) by omega] at z4
          exact z4
        · exact z2 k' (by omega) a2
    refine eM_seq (d := (1 ≤ t - (T 12 (cmt T b p) - 1) ∧ goesT T (w (T 15 m + (t - (T 12 (cmt T b p) - 1)) - 1)) (b (p + 1) + 1)) ∧ (T 14 (cmt T b p) ≠ 255 → t - T 12 (cmt T b p) < T 16 m)) (par 1 1 rfl (by omega) (fun _ => rfl) hs.2.2.1) z0 (fun μ2 _ f2 g2 => ?_) ?_
    · refine eM_seq (eM_into (ty := b (p + 1) + 1) (hb.v f2) hw hm g2 (by rw [Nat.add_comm]) vx (by omega)) z0 (fun μ3 hc3 f3 g3 => eM_end (fin μ3 (f2.t f3) ?_) z0 z1) Iff.rfl
      rw [show t - T 12 (cmt T b p) = t - (T 12 (cmt T b p) - 1) - 1 by have := hs.2.2.1; omega]
      exact g3
    · rw [e1, ← hcp, hc1]
      exact ⟨fun z => ⟨z.1.1, z.1.2, z.2⟩, fun z => ⟨⟨z.1, z.2.1⟩, z.2.2⟩⟩
theorem eM_fits {μ : sm_S} {T : Nat → Nat → Nat} {b : Nat → Nat} {m p t : Nat} {w : Nat → Nat} (hb : bM μ T b) (hw : wf T b) (hm : m < T 0 1) (h : gM μ T m t w) (n9 : ∀ i, T 15 m ≤ i → i < T 15 m + t → w i ≠ 99) (ho : opT T b (T 15 m) p) (hok : (b p = 35 ∨ b p = 36) → okc T b p) {c : Prop} {t' : Nat} {w' : Nat → Nat} (hav : avS T b m p t w c t' w') : et (fun K => mp_X12_fits μ (nI m) (nI (b p)) (nI (b (p + 1))) (nI (b (p + 2))) K) (rM μ T m c t' w') := by
  by_cases g1 : b p ≤ 6
  · exact eM_a hb hw hm h n9 ho g1 hav
  by_cases g2 : b p ≤ 25
  · exact eM_b hb hw hm h n9 ho (by omega) g2 hav
  by_cases g3 : b p ≤ 30
  · exact eM_c hb hw hm h n9 ho (by omega) g3 hav
  by_cases g4 : b p ≤ 34
  · exact eM_e hb hw hm h n9 ho (by omega) g4 hav
  by_cases g5 : b p = 35 ∨ b p = 36
  · exact eM_f hb hw hm h n9 ho g5 (hok g5) hav
  · exact eM_d hb hw hm h n9 ho (by omega) hav
