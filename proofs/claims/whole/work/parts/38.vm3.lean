/-! ===== the reference's fits, second half ===== -/
theorem eM_c {μ : sm_S} {T : Nat → Nat → Nat} {b : Nat → Nat} {m p t : Nat} {w : Nat → Nat} (hb : bM μ T b) (hw : wf T b) (hm : m < T 0 1) (h : gM μ T m t w) (n9 : ∀ i, T 15 m ≤ i → i < T 15 m + t → w i ≠ 99) (ho : opT T b (T 15 m) p) (g26 : 26 ≤ b p) (g30 : b p ≤ 30) {c : Prop} {t' : Nat} {w' : Nat → Nat} (hav : avS T b m p t w c t' w') : et (fun K => mp_X12_fits μ (nI m) (nI (b p)) (nI (b (p + 1))) (nI (b (p + 2))) K) (rM μ T m c t' w') := by
  have w2 := hw.2.1
  have w4 := hw.2.2.2.1
  obtain ⟨-, -, -, -, y5, y6, h12, y8, y9, y10, y11, y12, -⟩ := hw.2.2.2.2.2.2.2.2.1 m hm
  have hbt : ∀ j, b j < 256 := hb.1.1.2.2.2.1
  have v0 : vt T 0 := Or.inl (by omega)
  have v97 : vt T 97 := Or.inr (Or.inr (Or.inl rfl))
  have hst := h.2.1
  have hv : ∀ i, i < T 15 m + t → w i < 2 ^ 20 ∧ vt T (w i) := fun i hi => by
    have := (h.2.2 i hi).2
    refine ⟨?_, this⟩
    unfold vt at this; omega
  have hb0 := ho.1
  have hb1 := hbt (p + 1)
  have hb2 := hbt (p + 2)
  have hLM := hb.1.2.1
  have e12 : 2 ≤ t → T 15 m + (t - 1) - 1 = T 15 m + t - 2 := fun _ => by omega
  have z0 : ∀ (μ1 : sm_S) (K : jk), K 0 μ1 → sm_z 0 ∧ K 0 μ1 := fun _ _ q => ⟨sm_z0, q⟩
  have z1 : ∀ (μ1 : sm_S) (K : jk), K 1 μ1 → sm_z 1 ∧ K 1 μ1 := fun _ _ q => ⟨sm_z1, q⟩
  unfold mp_X12_fits mp_X12_fits_19 mp_X12_fits_39
  simp (disch := (first | ((try simp (disch := omega) only [va_up_self, va_up_ne, ne_eq, reduceCtorEq, Nat.reduceEqDiff, not_false_eq_true, l_0, l_2, l_3, l_4, l_5, l_6, l_7, l_8, l_9, l_10, l_11, l_12, l_13, l_14, l_15, l_16, l_17, l_18, l_19, l_20, l_21, l_22, l_23, l_24, l_25, l_26, l_27, l_28, l_29, l_30, l_31, l_32, l_33, l_34, l_35, l_36, l_37, l_38, l_39, l_40, l_41, l_42, l_43, l_44, l_45, l_46, l_47, l_48, l_49, l_50, l_51, l_52, l_53, l_54, l_55, l_56, l_57, l_58, l_59, l_60, l_61, l_62, l_63, l_64, l_97, l_98, l_99, l_200, l_225, l_232, l_255, l_256, l_700, l_1000, l_1024, l_3375, l_4095, l_8000, l_20000, l_60000, vp_nIs, zz0, zz1, e10, nI_leI, nI_ltI, nI_eq, nI_1, nI_1a, nI_add, nI_sub, nI_sub1, pk_mul, nI_clamp, nI_le1, nI_le1', nI_lt1, nI_lt1', nI_eq1, nI_eqm, m1_eqN, m1_le, m1_lt, m1_leN, m1_ltN, nI_am, not_true_eq_false, not_false_eq_true, oN_eqm, hw]) <;> omega) | fail)) only [↓numW, ↓zb_t, ↓zb_f, ↓zb_tt, ↓zb_ff, ↓zb_i, ↓zb_z0, ↓zb_z1, ↓zb_z, ↓zb_l, ↓zb_v, vi32, vi64, true_and, pk_us, Int32.add_zero, Nat.add_sub_cancel, nI_add, nI_1, nI_1a, nI_clamp, k7, k7', k8, k8', k12, k12', k15, k15', k16, k16', nI_sub1, va_up_self, va_up_ne, ne_eq, reduceCtorEq, Nat.reduceEqDiff, not_false_eq_true, hw]
  by_cases c26 : b p = 26
  · obtain ⟨e1, e2, e3⟩ := (hav.2.2.2.2.2.2.2.2.2.2.2.2.2.2.1) c26
    have hx := ho.2.2.2.1 (Or.inl c26)
    have vx : vt T (b (p + 1) + 1) := Or.inl (by omega)
    refine et_x (fun K q => sw_ft_26 c26 q) (eM_z (et_w (eM_push (v := b (p + 1) + 1) hb hw hm h (by rw [nI_1a, Nat.add_comm]) vx) (fun r μ' q => q.c e1.symm (fun _ => e2.symm) (fun _ i _ => by rw [e3]))))
  by_cases c27 : b p = 27
  · obtain ⟨e1, e2, e3⟩ := (hav.2.2.2.2.2.2.2.2.2.2.2.2.2.2.2.1) c27
    obtain ⟨hx, hy⟩ := ho.2.2.2.2.1 (Or.inl c27)
    have vx : vt T (b (p + 1) + 1) := Or.inl (by omega)
    obtain ⟨u1, u2, u3, -⟩ := hw.2.2.2.2.2.2.1 _ hx
    have v7 := vt_ty (u3 _ hy)
    refine et_x (fun K q => sw_ft_27 c27 q) ?_
    refine et_w (eM_seq (c' := (1 ≤ t ∧ goesT T (w (T 15 m + t - 1)) (b (p + 1) + 1)) ∧ t - 1 < T 16 m) (d := t - 1 < T 16 m) (t' := t - 1 + 1) (w' := va_up w (T 15 m + (t - 1)) (T 7 (15 * b (p + 1) + b (p + 2)))) (eM_into (ty := b (p + 1) + 1) hb hw hm h (by rw [nI_1a, Nat.add_comm]) vx (by omega)) z0 (fun μ2 _ f2 g2 => ?_) Iff.rfl) (fun r μ' q => q.c ⟨fun z => e1.mpr z.1, fun z => ⟨e1.mp z, by have := e1.mp z; omega⟩⟩ (fun z => by omega) (fun z i hi => ?_))
    · have hb2' := hb.v f2
      have hL2 := hb2'.1.2.1
      have r7 : μ2.2.2.2.1 7 (15 * b (p + 1) + b (p + 2)) = nI (T 7 (15 * b (p + 1) + b (p + 2))) := (hb2'.1.2.2.2.2.2.2.1.1 _ hx).2.2 _ hy
      refine et_x (fun K q => ?_) (eM_end (F := mp_X12_fits_374) (G := fun K σ => mp_X12_fits_375 K σ 1) (eM_push (v := T 7 (15 * b (p + 1) + b (p + 2))) hb2' hw hm g2 rfl v7) z0 z1)
      simp (disch := (first | ((try simp (disch := omega) only [va_up_self, va_up_ne, ne_eq, reduceCtorEq, Nat.reduceEqDiff, not_false_eq_true, l_0, l_2, l_3, l_4, l_5, l_6, l_7, l_8, l_9, l_10, l_11, l_12, l_13, l_14, l_15, l_16, l_17, l_18, l_19, l_20, l_21, l_22, l_23, l_24, l_25, l_26, l_27, l_28, l_29, l_30, l_31, l_32, l_33, l_34, l_35, l_36, l_37, l_38, l_39, l_40, l_41, l_42, l_43, l_44, l_45, l_46, l_47, l_48, l_49, l_50, l_51, l_52, l_53, l_54, l_55, l_56, l_57, l_58, l_59, l_60, l_61, l_62, l_63, l_64, l_97, l_98, l_99, l_200, l_225, l_232, l_255, l_256, l_700, l_1000, l_1024, l_3375, l_4095, l_8000, l_20000, l_60000, vp_nIs, zz0, zz1, e10, nI_leI, nI_ltI, nI_eq, nI_1, nI_1a, nI_add, nI_sub, nI_sub1, pk_mul, nI_clamp, nI_le1, nI_le1', nI_lt1, nI_lt1', nI_eq1, nI_eqm, m1_eqN, m1_le, m1_lt, m1_leN, m1_ltN, nI_am, not_true_eq_false, not_false_eq_true, oN_eqm, r7, lm7 hL2]) <;> omega) | fail)) only [↓numW, ↓zb_t, ↓zb_f, ↓zb_tt, ↓zb_ff, ↓zb_i, ↓zb_z0, ↓zb_z1, ↓zb_z, ↓zb_l, ↓zb_v, vi32, vi64, true_and, pk_us, Int32.add_zero, Nat.add_sub_cancel, nI_add, nI_1, nI_1a, nI_clamp, k7, k7', k8, k8', k12, k12', k15, k15', k16, k16', nI_sub1, va_up_self, va_up_ne, ne_eq, reduceCtorEq, Nat.reduceEqDiff, not_false_eq_true, r7, lm7 hL2]
      exact q
    · rw [e3, show T 15 m + (t - 1) = T 15 m + t - 1 by omega]
  by_cases c28 : b p = 28
  · obtain ⟨e1, e2, e3⟩ := (hav.2.2.2.2.2.2.2.2.2.2.2.2.2.2.2.2.1) c28
    obtain ⟨hx, hy⟩ := ho.2.2.2.2.1 (Or.inr c28)
    have vx : vt T (b (p + 1) + 1) := Or.inl (by omega)
    obtain ⟨u1, u2, u3, -⟩ := hw.2.2.2.2.2.2.1 _ hx
    have v7 := vt_ty (u3 _ hy)
    have n7 : T 7 (15 * b (p + 1) + b (p + 2)) ≠ 99 := by have := u3 _ hy; unfold ty_ok at this; omega
    have r7 : μ.2.2.2.1 7 (15 * b (p + 1) + b (p + 2)) = nI (T 7 (15 * b (p + 1) + b (p + 2))) := (hb.1.2.2.2.2.2.2.1.1 _ hx).2.2 _ hy
    refine et_x (fun K q => sw_ft_28 c28 q) ?_
    simp (disch := (first | ((try simp (disch := omega) only [va_up_self, va_up_ne, ne_eq, reduceCtorEq, Nat.reduceEqDiff, not_false_eq_true, l_0, l_2, l_3, l_4, l_5, l_6, l_7, l_8, l_9, l_10, l_11, l_12, l_13, l_14, l_15, l_16, l_17, l_18, l_19, l_20, l_21, l_22, l_23, l_24, l_25, l_26, l_27, l_28, l_29, l_30, l_31, l_32, l_33, l_34, l_35, l_36, l_37, l_38, l_39, l_40, l_41, l_42, l_43, l_44, l_45, l_46, l_47, l_48, l_49, l_50, l_51, l_52, l_53, l_54, l_55, l_56, l_57, l_58, l_59, l_60, l_61, l_62, l_63, l_64, l_97, l_98, l_99, l_200, l_225, l_232, l_255, l_256, l_700, l_1000, l_1024, l_3375, l_4095, l_8000, l_20000, l_60000, vp_nIs, zz0, zz1, e10, nI_leI, nI_ltI, nI_eq, nI_1, nI_1a, nI_add, nI_sub, nI_sub1, pk_mul, nI_clamp, nI_le1, nI_le1', nI_lt1, nI_lt1', nI_eq1, nI_eqm, m1_eqN, m1_le, m1_lt, m1_leN, m1_ltN, nI_am, not_true_eq_false, not_false_eq_true, oN_eqm, r7, lm7 hLM]) <;> omega) | fail)) only [↓numW, ↓zb_t, ↓zb_f, ↓zb_tt, ↓zb_ff, ↓zb_i, ↓zb_z0, ↓zb_z1, ↓zb_z, ↓zb_l, ↓zb_v, vi32, vi64, true_and, pk_us, Int32.add_zero, Nat.add_sub_cancel, nI_add, nI_1, nI_1a, nI_clamp, k7, k7', k8, k8', k12, k12', k15, k15', k16, k16', nI_sub1, va_up_self, va_up_ne, ne_eq, reduceCtorEq, Nat.reduceEqDiff, not_false_eq_true, r7, lm7 hLM]
    refine et_w (eM_seq (c' := (1 ≤ t ∧ goesT T (w (T 15 m + t - 1)) (T 7 (15 * b (p + 1) + b (p + 2)))) ∧ (1 ≤ t - 1 ∧ goesT T (w (T 15 m + (t - 1) - 1)) (b (p + 1) + 1))) (eM_into (ty := T 7 (15 * b (p + 1) + b (p + 2))) hb hw hm h rfl v7 n7) z0 (fun μ2 _ f2 g2 => eM_end (eM_into (ty := b (p + 1) + 1) (hb.v f2) hw hm g2 (by rw [Nat.add_comm]) vx (by omega)) z0 z1) Iff.rfl) (fun r μ' q => q.c ⟨fun z => e1.mpr ?_, fun z => ?_⟩ (fun z => by omega) (fun _ i _ => by rw [e3]))
    · have h2 := z.2.2
      rw [e12 (by omega)] at h2
      exact ⟨by omega, z.1.2, h2⟩
    · obtain ⟨h1, h2, h3⟩ := e1.mp z
      rw [← e12 (by omega)] at h3
      exact ⟨⟨by omega, h2⟩, by omega, h3⟩
  by_cases c29 : b p = 29
  · obtain ⟨e1, e2, e3⟩ := (hav.2.2.2.2.2.2.2.2.2.2.2.2.2.2.2.2.2.1) c29
    refine et_x (fun K q => sw_ft_29 c29 q) ?_
    refine et_w (eM_seq (c' := (1 ≤ t ∧ w (T 15 m + t - 1) ≠ 0) ∧ t - 1 < T 16 m) (eM_ref hb hw hm h (fun q => n9 _ (by omega) (by omega))) z0 (fun μ2 _ f2 g2 => eM_end (eM_push (v := 0) (hb.v f2) hw hm g2 rfl v0) z0 z1) Iff.rfl) (fun r μ' q => q.c ⟨fun z => e1.mpr z.1, fun z => ⟨e1.mp z, by have := e1.mp z; omega⟩⟩ (fun z => by omega) (fun z i hi => ?_))
    rw [e3, show T 15 m + (t - 1) = T 15 m + t - 1 by omega]
  have c30 : b p = 30 := by omega
  obtain ⟨e1, e2, e3⟩ := (hav.2.2.2.2.2.2.2.2.2.2.2.2.2.2.2.2.2.2.1) c30
  have hx := ho.2.2.2.1 (by omega)
  have vx : vt T (b (p + 1) + 1) := Or.inl (by omega)
  refine et_x (fun K q => sw_ft_30 c30 q) ?_
  refine et_w (eM_seq (c' := (1 ≤ t ∧ w (T 15 m + t - 1) ≠ 0) ∧ t - 1 < T 16 m) (eM_ref hb hw hm h (fun q => n9 _ (by omega) (by omega))) z0 (fun μ2 _ f2 g2 => eM_end (eM_push (v := b (p + 1) + 1) (hb.v f2) hw hm g2 (by rw [nI_1a, Nat.add_comm]) vx) z0 z1) Iff.rfl) (fun r μ' q => q.c ⟨fun z => e1.mpr z.1, fun z => ⟨e1.mp z, by have := e1.mp z; omega⟩⟩ (fun z => by omega) (fun z i hi => ?_))
  rw [e3, show T 15 m + (t - 1) = T 15 m + t - 1 by omega]
theorem eM_d {μ : sm_S} {T : Nat → Nat → Nat} {b : Nat → Nat} {m p t : Nat} {w : Nat → Nat} (hb : bM μ T b) (hw : wf T b) (hm : m < T 0 1) (h : gM μ T m t w) (n9 : ∀ i, T 15 m ≤ i → i < T 15 m + t → w i ≠ 99) (ho : opT T b (T 15 m) p) (g37 : 37 ≤ b p) {c : Prop} {t' : Nat} {w' : Nat → Nat} (hav : avS T b m p t w c t' w') : et (fun K => mp_X12_fits μ (nI m) (nI (b p)) (nI (b (p + 1))) (nI (b (p + 2))) K) (rM μ T m c t' w') := by
  have w2 := hw.2.1
  have w4 := hw.2.2.2.1
  obtain ⟨-, -, -, -, y5, y6, h12, y8, y9, y10, y11, y12, -⟩ := hw.2.2.2.2.2.2.2.2.1 m hm
  have hbt : ∀ j, b j < 256 := hb.1.1.2.2.2.1
  have v0 : vt T 0 := Or.inl (by omega)
  have v97 : vt T 97 := Or.inr (Or.inr (Or.inl rfl))
  have hst := h.2.1
  have hv : ∀ i, i < T 15 m + t → w i < 2 ^ 20 ∧ vt T (w i) := fun i hi => by
    have := (h.2.2 i hi).2
    refine ⟨?_, this⟩
    unfold vt at this; omega
  have hb0 := ho.1
  have hb1 := hbt (p + 1)
  have hb2 := hbt (p + 2)
  have hLM := hb.1.2.1
  have e12 : 2 ≤ t → T 15 m + (t - 1) - 1 = T 15 m + t - 2 := fun _ => by omega
  have z0 : ∀ (μ1 : sm_S) (K : jk), K 0 μ1 → sm_z 0 ∧ K 0 μ1 := fun _ _ q => ⟨sm_z0, q⟩
  have z1 : ∀ (μ1 : sm_S) (K : jk), K 1 μ1 → sm_z 1 ∧ K 1 μ1 := fun _ _ q => ⟨sm_z1, q⟩
  have r14 := (hb.1.2.2.2.2.2.2.2 m hm).2.2.2.1
  have ty := ty_le y5 w2
  unfold mp_X12_fits mp_X12_fits_19 mp_X12_fits_39
  simp (disch := (first | ((try simp (disch := omega) only [va_up_self, va_up_ne, ne_eq, reduceCtorEq, Nat.reduceEqDiff, not_false_eq_true, l_0, l_2, l_3, l_4, l_5, l_6, l_7, l_8, l_9, l_10, l_11, l_12, l_13, l_14, l_15, l_16, l_17, l_18, l_19, l_20, l_21, l_22, l_23, l_24, l_25, l_26, l_27, l_28, l_29, l_30, l_31, l_32, l_33, l_34, l_35, l_36, l_37, l_38, l_39, l_40, l_41, l_42, l_43, l_44, l_45, l_46, l_47, l_48, l_49, l_50, l_51, l_52, l_53, l_54, l_55, l_56, l_57, l_58, l_59, l_60, l_61, l_62, l_63, l_64, l_97, l_98, l_99, l_200, l_225, l_232, l_255, l_256, l_700, l_1000, l_1024, l_3375, l_4095, l_8000, l_20000, l_60000, vp_nIs, zz0, zz1, e10, nI_leI, nI_ltI, nI_eq, nI_1, nI_1a, nI_add, nI_sub, nI_sub1, pk_mul, nI_clamp, nI_le1, nI_le1', nI_lt1, nI_lt1', nI_eq1, nI_eqm, m1_eqN, m1_le, m1_lt, m1_leN, m1_ltN, nI_am, not_true_eq_false, not_false_eq_true, oN_eqm, hw]) <;> omega) | fail)) only [↓numW, ↓zb_t, ↓zb_f, ↓zb_tt, ↓zb_ff, ↓zb_i, ↓zb_z0, ↓zb_z1, ↓zb_z, ↓zb_l, ↓zb_v, vi32, vi64, true_and, pk_us, Int32.add_zero, Nat.add_sub_cancel, nI_add, nI_1, nI_1a, nI_clamp, k7, k7', k8, k8', k12, k12', k15, k15', k16, k16', nI_sub1, va_up_self, va_up_ne, ne_eq, reduceCtorEq, Nat.reduceEqDiff, not_false_eq_true, hw]
  by_cases c37 : b p = 37
  · obtain ⟨e1, e2, e3⟩ := (hav.2.2.2.2.2.2.2.2.2.2.2.2.2.2.2.2.2.2.2.2.2.2.2.2.1) c37
    refine et_x (fun K q => sw_ft_37 c37 q) ?_
    unfold mp_X12_fits_561
    by_cases c : T 14 m = 255
    · rw [if_pos c] at r14
      refine et_x (P2 := fun K => K 1 μ) (fun K q => ?_) (et_e ⟨fr_r, Or.inl ⟨e1.mpr c, rfl, by rw [e2, e3]; exact h⟩⟩)
      simp (disch := (first | ((try simp (disch := omega) only [va_up_self, va_up_ne, ne_eq, reduceCtorEq, Nat.reduceEqDiff, not_false_eq_true, l_0, l_2, l_3, l_4, l_5, l_6, l_7, l_8, l_9, l_10, l_11, l_12, l_13, l_14, l_15, l_16, l_17, l_18, l_19, l_20, l_21, l_22, l_23, l_24, l_25, l_26, l_27, l_28, l_29, l_30, l_31, l_32, l_33, l_34, l_35, l_36, l_37, l_38, l_39, l_40, l_41, l_42, l_43, l_44, l_45, l_46, l_47, l_48, l_49, l_50, l_51, l_52, l_53, l_54, l_55, l_56, l_57, l_58, l_59, l_60, l_61, l_62, l_63, l_64, l_97, l_98, l_99, l_200, l_225, l_232, l_255, l_256, l_700, l_1000, l_1024, l_3375, l_4095, l_8000, l_20000, l_60000, vp_nIs, zz0, zz1, e10, nI_leI, nI_ltI, nI_eq, nI_1, nI_1a, nI_add, nI_sub, nI_sub1, pk_mul, nI_clamp, nI_le1, nI_le1', nI_lt1, nI_lt1', nI_eq1, nI_eqm, m1_eqN, m1_le, m1_lt, m1_leN, m1_ltN, nI_am, not_true_eq_false, not_false_eq_true, oN_eqm, r14, lm14 hLM]) <;> omega) | fail)) only [↓numW, ↓zb_t, ↓zb_f, ↓zb_tt, ↓zb_ff, ↓zb_i, ↓zb_z0, ↓zb_z1, ↓zb_z, ↓zb_l, ↓zb_v, vi32, vi64, true_and, pk_us, Int32.add_zero, Nat.add_sub_cancel, nI_add, nI_1, nI_1a, nI_clamp, k7, k7', k8, k8', k12, k12', k15, k15', k16, k16', nI_sub1, va_up_self, va_up_ne, ne_eq, reduceCtorEq, Nat.reduceEqDiff, not_false_eq_true, r14, lm14 hLM]
      exact q
    · rw [if_neg c] at r14
      refine et_x (P2 := fun K => K 0 μ) (fun K q => ?_) (et_e ⟨fr_r, Or.inr ⟨fun z => c (e1.mp z), rfl⟩⟩)
      simp (disch := (first | ((try simp (disch := omega) only [va_up_self, va_up_ne, ne_eq, reduceCtorEq, Nat.reduceEqDiff, not_false_eq_true, l_0, l_2, l_3, l_4, l_5, l_6, l_7, l_8, l_9, l_10, l_11, l_12, l_13, l_14, l_15, l_16, l_17, l_18, l_19, l_20, l_21, l_22, l_23, l_24, l_25, l_26, l_27, l_28, l_29, l_30, l_31, l_32, l_33, l_34, l_35, l_36, l_37, l_38, l_39, l_40, l_41, l_42, l_43, l_44, l_45, l_46, l_47, l_48, l_49, l_50, l_51, l_52, l_53, l_54, l_55, l_56, l_57, l_58, l_59, l_60, l_61, l_62, l_63, l_64, l_97, l_98, l_99, l_200, l_225, l_232, l_255, l_256, l_700, l_1000, l_1024, l_3375, l_4095, l_8000, l_20000, l_60000, vp_nIs, zz0, zz1, e10, nI_leI, nI_ltI, nI_eq, nI_1, nI_1a, nI_add, nI_sub, nI_sub1, pk_mul, nI_clamp, nI_le1, nI_le1', nI_lt1, nI_lt1', nI_eq1, nI_eqm, m1_eqN, m1_le, m1_lt, m1_leN, m1_ltN, nI_am, not_true_eq_false, not_false_eq_true, oN_eqm, r14, lm14 hLM]) <;> omega) | fail)) only [↓numW, ↓zb_t, ↓zb_f, ↓zb_tt, ↓zb_ff, ↓zb_i, ↓zb_z0, ↓zb_z1, ↓zb_z, ↓zb_l, ↓zb_v, vi32, vi64, true_and, pk_us, Int32.add_zero, Nat.add_sub_cancel, nI_add, nI_1, nI_1a, nI_clamp, k7, k7', k8, k8', k12, k12', k15, k15', k16, k16', nI_sub1, va_up_self, va_up_ne, ne_eq, reduceCtorEq, Nat.reduceEqDiff, not_false_eq_true, r14, lm14 hLM]
      exact q
  by_cases c38 : b p = 38
  · obtain ⟨e1, e2, e3⟩ := (hav.2.2.2.2.2.2.2.2.2.2.2.2.2.2.2.2.2.2.2.2.2.2.2.2.2.1) c38
    refine et_x (fun K q => sw_ft_38 c38 q) ?_
    by_cases c : T 14 m = 255
    · rw [if_pos c] at r14
      refine et_x (P2 := fun K => K 0 μ) (fun K q => ?_) (et_e ⟨fr_r, Or.inr ⟨fun z => (e1.mp z).1 c, rfl⟩⟩)
      unfold mp_X12_fits_595 mp_X12_fits_596
      simp (disch := (first | ((try simp (disch := omega) only [va_up_self, va_up_ne, ne_eq, reduceCtorEq, Nat.reduceEqDiff, not_false_eq_true, l_0, l_2, l_3, l_4, l_5, l_6, l_7, l_8, l_9, l_10, l_11, l_12, l_13, l_14, l_15, l_16, l_17, l_18, l_19, l_20, l_21, l_22, l_23, l_24, l_25, l_26, l_27, l_28, l_29, l_30, l_31, l_32, l_33, l_34, l_35, l_36, l_37, l_38, l_39, l_40, l_41, l_42, l_43, l_44, l_45, l_46, l_47, l_48, l_49, l_50, l_51, l_52, l_53, l_54, l_55, l_56, l_57, l_58, l_59, l_60, l_61, l_62, l_63, l_64, l_97, l_98, l_99, l_200, l_225, l_232, l_255, l_256, l_700, l_1000, l_1024, l_3375, l_4095, l_8000, l_20000, l_60000, vp_nIs, zz0, zz1, e10, nI_leI, nI_ltI, nI_eq, nI_1, nI_1a, nI_add, nI_sub, nI_sub1, pk_mul, nI_clamp, nI_le1, nI_le1', nI_lt1, nI_lt1', nI_eq1, nI_eqm, m1_eqN, m1_le, m1_lt, m1_leN, m1_ltN, nI_am, not_true_eq_false, not_false_eq_true, oN_eqm, r14, lm14 hLM, ↓zm10]) <;> omega) | fail)) only [↓numW, ↓zb_t, ↓zb_f, ↓zb_tt, ↓zb_ff, ↓zb_i, ↓zb_z0, ↓zb_z1, ↓zb_z, ↓zb_l, ↓zb_v, vi32, vi64, true_and, pk_us, Int32.add_zero, Nat.add_sub_cancel, nI_add, nI_1, nI_1a, nI_clamp, k7, k7', k8, k8', k12, k12', k15, k15', k16, k16', nI_sub1, va_up_self, va_up_ne, ne_eq, reduceCtorEq, Nat.reduceEqDiff, not_false_eq_true, r14, lm14 hLM, ↓zm10]
      exact q
    · rw [if_neg c] at r14
      have vg := vt_g y5 c
      have n99 : T 14 m ≠ 99 := by unfold ty_ok at y5; omega
      refine et_x (fun K q => ?_) (eM_end (F := mp_X12_fits_595) (G := fun K σ => mp_X12_fits_596 K σ 1) (et_w (eM_into (ty := T 14 m) hb hw hm h rfl vg n99) (fun r μ' q => q.c ⟨fun z => e1.mpr ⟨c, z⟩, fun z => (e1.mp z).2⟩ (fun _ => e2.symm) (fun _ i _ => by rw [e3]))) z0 z1)
      simp (disch := (first | ((try simp (disch := omega) only [va_up_self, va_up_ne, ne_eq, reduceCtorEq, Nat.reduceEqDiff, not_false_eq_true, l_0, l_2, l_3, l_4, l_5, l_6, l_7, l_8, l_9, l_10, l_11, l_12, l_13, l_14, l_15, l_16, l_17, l_18, l_19, l_20, l_21, l_22, l_23, l_24, l_25, l_26, l_27, l_28, l_29, l_30, l_31, l_32, l_33, l_34, l_35, l_36, l_37, l_38, l_39, l_40, l_41, l_42, l_43, l_44, l_45, l_46, l_47, l_48, l_49, l_50, l_51, l_52, l_53, l_54, l_55, l_56, l_57, l_58, l_59, l_60, l_61, l_62, l_63, l_64, l_97, l_98, l_99, l_200, l_225, l_232, l_255, l_256, l_700, l_1000, l_1024, l_3375, l_4095, l_8000, l_20000, l_60000, vp_nIs, zz0, zz1, e10, nI_leI, nI_ltI, nI_eq, nI_1, nI_1a, nI_add, nI_sub, nI_sub1, pk_mul, nI_clamp, nI_le1, nI_le1', nI_lt1, nI_lt1', nI_eq1, nI_eqm, m1_eqN, m1_le, m1_lt, m1_leN, m1_ltN, nI_am, not_true_eq_false, not_false_eq_true, oN_eqm, r14, lm14 hLM]) <;> omega) | fail)) only [↓numW, ↓zb_t, ↓zb_f, ↓zb_tt, ↓zb_ff, ↓zb_i, ↓zb_z0, ↓zb_z1, ↓zb_z, ↓zb_l, ↓zb_v, vi32, vi64, true_and, pk_us, Int32.add_zero, Nat.add_sub_cancel, nI_add, nI_1, nI_1a, nI_clamp, k7, k7', k8, k8', k12, k12', k15, k15', k16, k16', nI_sub1, va_up_self, va_up_ne, ne_eq, reduceCtorEq, Nat.reduceEqDiff, not_false_eq_true, r14, lm14 hLM]
      exact q
  by_cases c39 : b p = 39
  · obtain ⟨e1, e2, e3⟩ := (hav.2.2.2.2.2.2.2.2.2.2.2.2.2.2.2.2.2.2.2.2.2.2.2.2.2.2) c39
    refine et_x (fun K q => sw_ft_39 c39 q) ?_
    refine et_b (eM_pop hb hw hm h) (fun r μ1 q => ?_)
    obtain ⟨f, q⟩ := q
    unfold mp_X12_fits_619 mp_X12_fits_624 mp_X12_isSome mp_X12_isSome_14 mp_X12_isSome_15
    rcases q with ⟨q1, q2, q3, q4⟩ | ⟨q1, q2⟩
    · have hlt := (hv (T 15 m + t - 1) (by omega)).1
      rw [q2]
      by_cases c1 : w (T 15 m + t - 1) = 97
      · refine et_x (P2 := fun K => K 1 μ1) (fun K q => ?_) (et_e ⟨f, Or.inl ⟨e1.mpr ⟨q1, Or.inr c1⟩, rfl, by rw [e2, e3]; exact q4⟩⟩)
        simp (disch := (first | ((try simp (disch := omega) only [va_up_self, va_up_ne, ne_eq, reduceCtorEq, Nat.reduceEqDiff, not_false_eq_true, l_0, l_2, l_3, l_4, l_5, l_6, l_7, l_8, l_9, l_10, l_11, l_12, l_13, l_14, l_15, l_16, l_17, l_18, l_19, l_20, l_21, l_22, l_23, l_24, l_25, l_26, l_27, l_28, l_29, l_30, l_31, l_32, l_33, l_34, l_35, l_36, l_37, l_38, l_39, l_40, l_41, l_42, l_43, l_44, l_45, l_46, l_47, l_48, l_49, l_50, l_51, l_52, l_53, l_54, l_55, l_56, l_57, l_58, l_59, l_60, l_61, l_62, l_63, l_64, l_97, l_98, l_99, l_200, l_225, l_232, l_255, l_256, l_700, l_1000, l_1024, l_3375, l_4095, l_8000, l_20000, l_60000, vp_nIs, zz0, zz1, e10, nI_leI, nI_ltI, nI_eq, nI_1, nI_1a, nI_add, nI_sub, nI_sub1, pk_mul, nI_clamp, nI_le1, nI_le1', nI_lt1, nI_lt1', nI_eq1, nI_eqm, m1_eqN, m1_le, m1_lt, m1_leN, m1_ltN, nI_am, not_true_eq_false, not_false_eq_true, oN_eqm, hw]) <;> omega) | fail)) only [↓numW, ↓zb_t, ↓zb_f, ↓zb_tt, ↓zb_ff, ↓zb_i, ↓zb_z0, ↓zb_z1, ↓zb_z, ↓zb_l, ↓zb_v, vi32, vi64, true_and, pk_us, Int32.add_zero, Nat.add_sub_cancel, nI_add, nI_1, nI_1a, nI_clamp, k7, k7', k8, k8', k12, k12', k15, k15', k16, k16', nI_sub1, va_up_self, va_up_ne, ne_eq, reduceCtorEq, Nat.reduceEqDiff, not_false_eq_true, hw]
        exact q
      · by_cases c2 : 1 ≤ w (T 15 m + t - 1) ∧ w (T 15 m + t - 1) ≤ 32
        · refine et_x (P2 := fun K => K 1 μ1) (fun K q => ?_) (et_e ⟨f, Or.inl ⟨e1.mpr ⟨q1, Or.inl c2⟩, rfl, by rw [e2, e3]; exact q4⟩⟩)
          simp (disch := (first | ((try simp (disch := omega) only [va_up_self, va_up_ne, ne_eq, reduceCtorEq, Nat.reduceEqDiff, not_false_eq_true, l_0, l_2, l_3, l_4, l_5, l_6, l_7, l_8, l_9, l_10, l_11, l_12, l_13, l_14, l_15, l_16, l_17, l_18, l_19, l_20, l_21, l_22, l_23, l_24, l_25, l_26, l_27, l_28, l_29, l_30, l_31, l_32, l_33, l_34, l_35, l_36, l_37, l_38, l_39, l_40, l_41, l_42, l_43, l_44, l_45, l_46, l_47, l_48, l_49, l_50, l_51, l_52, l_53, l_54, l_55, l_56, l_57, l_58, l_59, l_60, l_61, l_62, l_63, l_64, l_97, l_98, l_99, l_200, l_225, l_232, l_255, l_256, l_700, l_1000, l_1024, l_3375, l_4095, l_8000, l_20000, l_60000, vp_nIs, zz0, zz1, e10, nI_leI, nI_ltI, nI_eq, nI_1, nI_1a, nI_add, nI_sub, nI_sub1, pk_mul, nI_clamp, nI_le1, nI_le1', nI_lt1, nI_lt1', nI_eq1, nI_eqm, m1_eqN, m1_le, m1_lt, m1_leN, m1_ltN, nI_am, not_true_eq_false, not_false_eq_true, oN_eqm, hw]) <;> omega) | fail)) only [↓numW, ↓zb_t, ↓zb_f, ↓zb_tt, ↓zb_ff, ↓zb_i, ↓zb_z0, ↓zb_z1, ↓zb_z, ↓zb_l, ↓zb_v, vi32, vi64, true_and, pk_us, Int32.add_zero, Nat.add_sub_cancel, nI_add, nI_1, nI_1a, nI_clamp, k7, k7', k8, k8', k12, k12', k15, k15', k16, k16', nI_sub1, va_up_self, va_up_ne, ne_eq, reduceCtorEq, Nat.reduceEqDiff, not_false_eq_true, hw]
          exact q
        · refine et_x (P2 := fun K => K 0 μ1) (fun K q => ?_) (et_e ⟨f, Or.inr ⟨fun z => by have := (e1.mp z).2; omega, rfl⟩⟩)
          by_cases c3 : w (T 15 m + t - 1) = 0
          · simp (disch := (first | ((try simp (disch := omega) only [va_up_self, va_up_ne, ne_eq, reduceCtorEq, Nat.reduceEqDiff, not_false_eq_true, l_0, l_2, l_3, l_4, l_5, l_6, l_7, l_8, l_9, l_10, l_11, l_12, l_13, l_14, l_15, l_16, l_17, l_18, l_19, l_20, l_21, l_22, l_23, l_24, l_25, l_26, l_27, l_28, l_29, l_30, l_31, l_32, l_33, l_34, l_35, l_36, l_37, l_38, l_39, l_40, l_41, l_42, l_43, l_44, l_45, l_46, l_47, l_48, l_49, l_50, l_51, l_52, l_53, l_54, l_55, l_56, l_57, l_58, l_59, l_60, l_61, l_62, l_63, l_64, l_97, l_98, l_99, l_200, l_225, l_232, l_255, l_256, l_700, l_1000, l_1024, l_3375, l_4095, l_8000, l_20000, l_60000, vp_nIs, zz0, zz1, e10, nI_leI, nI_ltI, nI_eq, nI_1, nI_1a, nI_add, nI_sub, nI_sub1, pk_mul, nI_clamp, nI_le1, nI_le1', nI_lt1, nI_lt1', nI_eq1, nI_eqm, m1_eqN, m1_le, m1_lt, m1_leN, m1_ltN, nI_am, not_true_eq_false, not_false_eq_true, oN_eqm, hw]) <;> omega) | fail)) only [↓numW, ↓zb_t, ↓zb_f, ↓zb_tt, ↓zb_ff, ↓zb_i, ↓zb_z0, ↓zb_z1, ↓zb_z, ↓zb_l, ↓zb_v, vi32, vi64, true_and, pk_us, Int32.add_zero, Nat.add_sub_cancel, nI_add, nI_1, nI_1a, nI_clamp, k7, k7', k8, k8', k12, k12', k15, k15', k16, k16', nI_sub1, va_up_self, va_up_ne, ne_eq, reduceCtorEq, Nat.reduceEqDiff, not_false_eq_true, hw]
            exact q
          · simp (disch := (first | ((try simp (disch := omega) only [va_up_self, va_up_ne, ne_eq, reduceCtorEq, Nat.reduceEqDiff, not_false_eq_true, l_0, l_2, l_3, l_4, l_5, l_6, l_7, l_8, l_9, l_10, l_11, l_12, l_13, l_14, l_15, l_16, l_17, l_18, l_19, l_20, l_21, l_22, l_23, l_24, l_25, l_26, l_27, l_28, l_29, l_30, l_31, l_32, l_33, l_34, l_35, l_36, l_37, l_38, l_39, l_40, l_41, l_42, l_43, l_44, l_45, l_46, l_47, l_48, l_49, l_50, l_51, l_52, l_53, l_54, l_55, l_56, l_57, l_58, l_59, l_60, l_61, l_62, l_63, l_64, l_97, l_98, l_99, l_200, l_225, l_232, l_255, l_256, l_700, l_1000, l_1024, l_3375, l_4095, l_8000, l_20000, l_60000, vp_nIs, zz0, zz1, e10, nI_leI, nI_ltI, nI_eq, nI_1, nI_1a, nI_add, nI_sub, nI_sub1, pk_mul, nI_clamp, nI_le1, nI_le1', nI_lt1, nI_lt1', nI_eq1, nI_eqm, m1_eqN, m1_le, m1_lt, m1_leN, m1_ltN, nI_am, not_true_eq_false, not_false_eq_true, oN_eqm, hw]) <;> omega) | fail)) only [↓numW, ↓zb_t, ↓zb_f, ↓zb_tt, ↓zb_ff, ↓zb_i, ↓zb_z0, ↓zb_z1, ↓zb_z, ↓zb_l, ↓zb_v, vi32, vi64, true_and, pk_us, Int32.add_zero, Nat.add_sub_cancel, nI_add, nI_1, nI_1a, nI_clamp, k7, k7', k8, k8', k12, k12', k15, k15', k16, k16', nI_sub1, va_up_self, va_up_ne, ne_eq, reduceCtorEq, Nat.reduceEqDiff, not_false_eq_true, hw]
            exact q
    · refine et_x (P2 := fun K => K 0 μ1) (fun K q => ?_) (et_e ⟨f, Or.inr ⟨fun z => by have := (e1.mp z).1; omega, rfl⟩⟩)
      rw [q2]
      exact ⟨fun z => absurd z (by decide), fun _ => ⟨fun _ => ⟨sm_z0, fun _ => ⟨sm_z0, q⟩, fun z => absurd rfl z⟩, fun z => absurd (by decide) z⟩⟩
  by_cases c40 : b p = 40
  · obtain ⟨e1, e2, e3⟩ := (hav.1) (Or.inr c40)
    exact et_x (fun K q => sw_ft_40 c40 q) (eM_z (et_w (eM_push (v := 0) hb hw hm h rfl v0) (fun r μ' q => q.c e1.symm (fun _ => e2.symm) (fun _ i _ => by rw [e3]))))
  have c41 : b p = 41 := by omega
  obtain ⟨e1, e2, e3⟩ := (hav.2.2.2.2.2.2.2.2.2.1) (Or.inr c41)
  exact et_x (fun K q => sw_ft_41 c41 q) (eM_z (et_w (eM_i1 hb hw hm h) (fun r μ' q => q.c e1.symm (fun _ => e2.symm) (fun _ i _ => by rw [e3]))))
