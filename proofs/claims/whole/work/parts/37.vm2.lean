/-! ===== the reference's fits, first half ===== -/
theorem swp_3 {op : Nat} {A B C D : Prop} (ho : op = 3) (h : A) : ((nI op = 3 → A) ∧ (nI op = 4 → B) ∧ (nI op = 5 → C) ∧ (¬ nI op = 3 → ¬ nI op = 4 → ¬ nI op = 5 → D)) := by
  subst ho
  exact ⟨fun _ => h, fun q => absurd q (by decide), fun q => absurd q (by decide), fun q => absurd rfl q⟩
theorem swp_4 {op : Nat} {A B C D : Prop} (ho : op = 4) (h : B) : ((nI op = 3 → A) ∧ (nI op = 4 → B) ∧ (nI op = 5 → C) ∧ (¬ nI op = 3 → ¬ nI op = 4 → ¬ nI op = 5 → D)) := by
  subst ho
  exact ⟨fun q => absurd q (by decide), fun _ => h, fun q => absurd q (by decide), fun _ q => absurd rfl q⟩
theorem swp_5 {op : Nat} {A B C D : Prop} (ho : op = 5) (h : C) : ((nI op = 3 → A) ∧ (nI op = 4 → B) ∧ (nI op = 5 → C) ∧ (¬ nI op = 3 → ¬ nI op = 4 → ¬ nI op = 5 → D)) := by
  subst ho
  exact ⟨fun q => absurd q (by decide), fun q => absurd q (by decide), fun _ => h, fun _ _ q => absurd rfl q⟩
theorem swp_6 {op : Nat} {A B C D : Prop} (ho : op = 6) (h : D) : ((nI op = 3 → A) ∧ (nI op = 4 → B) ∧ (nI op = 5 → C) ∧ (¬ nI op = 3 → ¬ nI op = 4 → ¬ nI op = 5 → D)) := by
  subst ho
  exact ⟨fun q => absurd q (by decide), fun q => absurd q (by decide), fun q => absurd q (by decide), fun _ _ _ => h⟩
theorem eM_a {μ : sm_S} {T : Nat → Nat → Nat} {b : Nat → Nat} {m p t : Nat} {w : Nat → Nat} (hb : bM μ T b) (hw : wf T b) (hm : m < T 0 1) (h : gM μ T m t w) (n9 : ∀ i, T 15 m ≤ i → i < T 15 m + t → w i ≠ 99) (ho : opT T b (T 15 m) p) (g6 : b p ≤ 6) {c : Prop} {t' : Nat} {w' : Nat → Nat} (hav : avS T b m p t w c t' w') : et (fun K => mp_X12_fits μ (nI m) (nI (b p)) (nI (b (p + 1))) (nI (b (p + 2))) K) (rM μ T m c t' w') := by
  have w2 := hw.2.1
  have w4 := hw.2.2.2.1
  obtain ⟨-, -, -, -, y5, y6, h12, y8, y9, y10, y11, y12, -⟩ := hw.2.2.2.2.2.2.2.2.1 m hm
  have hbt : ∀ j, b j < 256 := hb.1.1.2.2.2.1
  have v0 : vt T 0 := Or.inl (by omega)
  have v97 : vt T 97 := Or.inr (Or.inr (Or.inl rfl))
  have hst := h.2.1
  have hv : ∀ i, i < T 15 m + t → w i < 2 ^ 20 ∧ vt T (w i) := fun i hi => by
    have := (h.2.2 i hi).2
    refine ⟨?_, this⟩
    unfold vt at this; omega
  have hb0 := ho.1
  have hb1 := hbt (p + 1)
  have hb2 := hbt (p + 2)
  have hLM := hb.1.2.1
  have e12 : 2 ≤ t → T 15 m + (t - 1) - 1 = T 15 m + t - 2 := fun _ => by omega
  have z0 : ∀ (μ1 : sm_S) (K : jk), K 0 μ1 → sm_z 0 ∧ K 0 μ1 := fun _ _ q => ⟨sm_z0, q⟩
  have z1 : ∀ (μ1 : sm_S) (K : jk), K 1 μ1 → sm_z 1 ∧ K 1 μ1 := fun _ _ q => ⟨sm_z1, q⟩
  unfold mp_X12_fits mp_X12_fits_19 mp_X12_fits_39
  by_cases g0 : b p = 0
  · obtain ⟨e1, e2, e3⟩ := (hav.1) (Or.inl g0)
    simp (disch := (first | ((try simp (disch := omega) only [va_up_self, va_up_ne, ne_eq, reduceCtorEq, Nat.reduceEqDiff, not_false_eq_true, l_0, l_2, l_3, l_4, l_5, l_6, l_7, l_8, l_9, l_10, l_11, l_12, l_13, l_14, l_15, l_16, l_17, l_18, l_19, l_20, l_21, l_22, l_23, l_24, l_25, l_26, l_27, l_28, l_29, l_30, l_31, l_32, l_33, l_34, l_35, l_36, l_37, l_38, l_39, l_40, l_41, l_42, l_43, l_44, l_45, l_46, l_47, l_48, l_49, l_50, l_51, l_52, l_53, l_54, l_55, l_56, l_57, l_58, l_59, l_60, l_61, l_62, l_63, l_64, l_97, l_98, l_99, l_200, l_225, l_232, l_255, l_256, l_700, l_1000, l_1024, l_3375, l_4095, l_8000, l_20000, l_60000, vp_nIs, zz0, zz1, e10, nI_leI, nI_ltI, nI_eq, nI_1, nI_1a, nI_add, nI_sub, nI_sub1, pk_mul, nI_clamp, nI_le1, nI_le1', nI_lt1, nI_lt1', nI_eq1, nI_eqm, m1_eqN, m1_le, m1_lt, m1_leN, m1_ltN, nI_am, not_true_eq_false, not_false_eq_true, oN_eqm, hw]) <;> omega) | fail)) only [↓numW, ↓zb_t, ↓zb_f, ↓zb_tt, ↓zb_ff, ↓zb_i, ↓zb_z0, ↓zb_z1, ↓zb_z, ↓zb_l, ↓zb_v, vi32, vi64, true_and, pk_us, Int32.add_zero, Nat.add_sub_cancel, nI_add, nI_1, nI_1a, nI_clamp, k7, k7', k8, k8', k12, k12', k15, k15', k16, k16', nI_sub1, va_up_self, va_up_ne, ne_eq, reduceCtorEq, Nat.reduceEqDiff, not_false_eq_true, hw]
    refine et_x (fun K q => sw_ft_0 g0 q) (eM_z (et_w (eM_push (v := 0) hb hw hm h rfl v0) (fun r μ' q => q.c e1.symm (fun _ => e2.symm) (fun _ i _ => by rw [e3]))))
  by_cases g1 : b p = 1
  · obtain ⟨e1, e2, e3⟩ := (hav.2.1) g1
    simp (disch := (first | ((try simp (disch := omega) only [va_up_self, va_up_ne, ne_eq, reduceCtorEq, Nat.reduceEqDiff, not_false_eq_true, l_0, l_2, l_3, l_4, l_5, l_6, l_7, l_8, l_9, l_10, l_11, l_12, l_13, l_14, l_15, l_16, l_17, l_18, l_19, l_20, l_21, l_22, l_23, l_24, l_25, l_26, l_27, l_28, l_29, l_30, l_31, l_32, l_33, l_34, l_35, l_36, l_37, l_38, l_39, l_40, l_41, l_42, l_43, l_44, l_45, l_46, l_47, l_48, l_49, l_50, l_51, l_52, l_53, l_54, l_55, l_56, l_57, l_58, l_59, l_60, l_61, l_62, l_63, l_64, l_97, l_98, l_99, l_200, l_225, l_232, l_255, l_256, l_700, l_1000, l_1024, l_3375, l_4095, l_8000, l_20000, l_60000, vp_nIs, zz0, zz1, e10, nI_leI, nI_ltI, nI_eq, nI_1, nI_1a, nI_add, nI_sub, nI_sub1, pk_mul, nI_clamp, nI_le1, nI_le1', nI_lt1, nI_lt1', nI_eq1, nI_eqm, m1_eqN, m1_le, m1_lt, m1_leN, m1_ltN, nI_am, not_true_eq_false, not_false_eq_true, oN_eqm, hw]) <;> omega) | fail)) only [↓numW, ↓zb_t, ↓zb_f, ↓zb_tt, ↓zb_ff, ↓zb_i, ↓zb_z0, ↓zb_z1, ↓zb_z, ↓zb_l, ↓zb_v, vi32, vi64, true_and, pk_us, Int32.add_zero, Nat.add_sub_cancel, nI_add, nI_1, nI_1a, nI_clamp, k7, k7', k8, k8', k12, k12', k15, k15', k16, k16', nI_sub1, va_up_self, va_up_ne, ne_eq, reduceCtorEq, Nat.reduceEqDiff, not_false_eq_true, hw]
    refine et_x (fun K q => sw_ft_1 g1 q) (eM_z (et_w (eM_push (v := 97) hb hw hm h rfl v97) (fun r μ' q => q.c e1.symm (fun _ => e2.symm) (fun _ i _ => by rw [e3]))))
  simp (disch := (first | ((try simp (disch := omega) only [va_up_self, va_up_ne, ne_eq, reduceCtorEq, Nat.reduceEqDiff, not_false_eq_true, l_0, l_2, l_3, l_4, l_5, l_6, l_7, l_8, l_9, l_10, l_11, l_12, l_13, l_14, l_15, l_16, l_17, l_18, l_19, l_20, l_21, l_22, l_23, l_24, l_25, l_26, l_27, l_28, l_29, l_30, l_31, l_32, l_33, l_34, l_35, l_36, l_37, l_38, l_39, l_40, l_41, l_42, l_43, l_44, l_45, l_46, l_47, l_48, l_49, l_50, l_51, l_52, l_53, l_54, l_55, l_56, l_57, l_58, l_59, l_60, l_61, l_62, l_63, l_64, l_97, l_98, l_99, l_200, l_225, l_232, l_255, l_256, l_700, l_1000, l_1024, l_3375, l_4095, l_8000, l_20000, l_60000, vp_nIs, zz0, zz1, e10, nI_leI, nI_ltI, nI_eq, nI_1, nI_1a, nI_add, nI_sub, nI_sub1, pk_mul, nI_clamp, nI_le1, nI_le1', nI_lt1, nI_lt1', nI_eq1, nI_eqm, m1_eqN, m1_le, m1_lt, m1_leN, m1_ltN, nI_am, not_true_eq_false, not_false_eq_true, oN_eqm, hw]) <;> omega) | fail)) only [↓numW, ↓zb_t, ↓zb_f, ↓zb_tt, ↓zb_ff, ↓zb_i, ↓zb_z0, ↓zb_z1, ↓zb_z, ↓zb_l, ↓zb_v, vi32, vi64, true_and, pk_us, Int32.add_zero, Nat.add_sub_cancel, nI_add, nI_1, nI_1a, nI_clamp, k7, k7', k8, k8', k12, k12', k15, k15', k16, k16', nI_sub1, va_up_self, va_up_ne, ne_eq, reduceCtorEq, Nat.reduceEqDiff, not_false_eq_true, hw]
  refine eM_z ?_
  unfold mp_X12_fitsPlace
  by_cases g2 : b p = 2
  · obtain ⟨e1, e2, e3⟩ := (hav.2.2.1) g2
    have hx := ho.2.1 (Or.inl g2)
    have r24 := (h.2.2 (b (p + 1)) (by omega)).1
    have hwx := hv (b (p + 1)) (by omega)
    have l24 := hb.2.2
    unfold mp_X12_fitsPlace_34 mp_X12_fitsPlace_35
    by_cases c9 : w (b (p + 1)) = 99
    · simp (disch := (first | ((try simp (disch := omega) only [va_up_self, va_up_ne, ne_eq, reduceCtorEq, Nat.reduceEqDiff, not_false_eq_true, l_0, l_2, l_3, l_4, l_5, l_6, l_7, l_8, l_9, l_10, l_11, l_12, l_13, l_14, l_15, l_16, l_17, l_18, l_19, l_20, l_21, l_22, l_23, l_24, l_25, l_26, l_27, l_28, l_29, l_30, l_31, l_32, l_33, l_34, l_35, l_36, l_37, l_38, l_39, l_40, l_41, l_42, l_43, l_44, l_45, l_46, l_47, l_48, l_49, l_50, l_51, l_52, l_53, l_54, l_55, l_56, l_57, l_58, l_59, l_60, l_61, l_62, l_63, l_64, l_97, l_98, l_99, l_200, l_225, l_232, l_255, l_256, l_700, l_1000, l_1024, l_3375, l_4095, l_8000, l_20000, l_60000, vp_nIs, zz0, zz1, e10, nI_leI, nI_ltI, nI_eq, nI_1, nI_1a, nI_add, nI_sub, nI_sub1, pk_mul, nI_clamp, nI_le1, nI_le1', nI_lt1, nI_lt1', nI_eq1, nI_eqm, m1_eqN, m1_le, m1_lt, m1_leN, m1_ltN, nI_am, not_true_eq_false, not_false_eq_true, oN_eqm, r24, l24]) <;> omega) | fail)) only [↓numW, ↓zb_t, ↓zb_f, ↓zb_tt, ↓zb_ff, ↓zb_i, ↓zb_z0, ↓zb_z1, ↓zb_z, ↓zb_l, ↓zb_v, vi32, vi64, true_and, pk_us, Int32.add_zero, Nat.add_sub_cancel, nI_add, nI_1, nI_1a, nI_clamp, k7, k7', k8, k8', k12, k12', k15, k15', k16, k16', nI_sub1, va_up_self, va_up_ne, ne_eq, reduceCtorEq, Nat.reduceEqDiff, not_false_eq_true, r24, l24]
      exact et_e ⟨fr_r, Or.inr ⟨fun q => (e1.mp q).1 c9, rfl⟩⟩
    · simp (disch := (first | ((try simp (disch := omega) only [va_up_self, va_up_ne, ne_eq, reduceCtorEq, Nat.reduceEqDiff, not_false_eq_true, l_0, l_2, l_3, l_4, l_5, l_6, l_7, l_8, l_9, l_10, l_11, l_12, l_13, l_14, l_15, l_16, l_17, l_18, l_19, l_20, l_21, l_22, l_23, l_24, l_25, l_26, l_27, l_28, l_29, l_30, l_31, l_32, l_33, l_34, l_35, l_36, l_37, l_38, l_39, l_40, l_41, l_42, l_43, l_44, l_45, l_46, l_47, l_48, l_49, l_50, l_51, l_52, l_53, l_54, l_55, l_56, l_57, l_58, l_59, l_60, l_61, l_62, l_63, l_64, l_97, l_98, l_99, l_200, l_225, l_232, l_255, l_256, l_700, l_1000, l_1024, l_3375, l_4095, l_8000, l_20000, l_60000, vp_nIs, zz0, zz1, e10, nI_leI, nI_ltI, nI_eq, nI_1, nI_1a, nI_add, nI_sub, nI_sub1, pk_mul, nI_clamp, nI_le1, nI_le1', nI_lt1, nI_lt1', nI_eq1, nI_eqm, m1_eqN, m1_le, m1_lt, m1_leN, m1_ltN, nI_am, not_true_eq_false, not_false_eq_true, oN_eqm, r24, l24]) <;> omega) | fail)) only [↓numW, ↓zb_t, ↓zb_f, ↓zb_tt, ↓zb_ff, ↓zb_i, ↓zb_z0, ↓zb_z1, ↓zb_z, ↓zb_l, ↓zb_v, vi32, vi64, true_and, pk_us, Int32.add_zero, Nat.add_sub_cancel, nI_add, nI_1, nI_1a, nI_clamp, k7, k7', k8, k8', k12, k12', k15, k15', k16, k16', nI_sub1, va_up_self, va_up_ne, ne_eq, reduceCtorEq, Nat.reduceEqDiff, not_false_eq_true, r24, l24]
      exact eM_end (et_w (eM_push (v := w (b (p + 1))) hb hw hm h rfl hwx.2) (fun r μ' q => q.c ⟨fun z => e1.mpr ⟨c9, z⟩, fun z => (e1.mp z).2⟩ (fun _ => e2.symm) (fun _ i _ => by rw [e3]))) (fun _ _ q => q) (fun _ _ q => q)
  simp (disch := (first | ((try simp (disch := omega) only [va_up_self, va_up_ne, ne_eq, reduceCtorEq, Nat.reduceEqDiff, not_false_eq_true, l_0, l_2, l_3, l_4, l_5, l_6, l_7, l_8, l_9, l_10, l_11, l_12, l_13, l_14, l_15, l_16, l_17, l_18, l_19, l_20, l_21, l_22, l_23, l_24, l_25, l_26, l_27, l_28, l_29, l_30, l_31, l_32, l_33, l_34, l_35, l_36, l_37, l_38, l_39, l_40, l_41, l_42, l_43, l_44, l_45, l_46, l_47, l_48, l_49, l_50, l_51, l_52, l_53, l_54, l_55, l_56, l_57, l_58, l_59, l_60, l_61, l_62, l_63, l_64, l_97, l_98, l_99, l_200, l_225, l_232, l_255, l_256, l_700, l_1000, l_1024, l_3375, l_4095, l_8000, l_20000, l_60000, vp_nIs, zz0, zz1, e10, nI_leI, nI_ltI, nI_eq, nI_1, nI_1a, nI_add, nI_sub, nI_sub1, pk_mul, nI_clamp, nI_le1, nI_le1', nI_lt1, nI_lt1', nI_eq1, nI_eqm, m1_eqN, m1_le, m1_lt, m1_leN, m1_ltN, nI_am, not_true_eq_false, not_false_eq_true, oN_eqm, hw]) <;> omega) | fail)) only [↓numW, ↓zb_t, ↓zb_f, ↓zb_tt, ↓zb_ff, ↓zb_i, ↓zb_z0, ↓zb_z1, ↓zb_z, ↓zb_l, ↓zb_v, vi32, vi64, true_and, pk_us, Int32.add_zero, Nat.add_sub_cancel, nI_add, nI_1, nI_1a, nI_clamp, k7, k7', k8, k8', k12, k12', k15, k15', k16, k16', nI_sub1, va_up_self, va_up_ne, ne_eq, reduceCtorEq, Nat.reduceEqDiff, not_false_eq_true, hw]
  refine et_b (eM_pop hb hw hm h) (fun r μ1 q => ?_)
  obtain ⟨f, q⟩ := q
  have bad : t = 0 → r = -1 → et (fun K => K 0 μ1) (rM μ T m c t' w') := fun q1 _ => et_e ⟨f, Or.inr ⟨fun z => by
    by_cases g3 : b p = 3
    · have := ((hav.2.2.2.1) g3).1.mp z; omega
    by_cases g4 : b p = 4
    · have := ((hav.2.2.2.2.1) g4).1.mp z; omega
    by_cases g5 : b p = 5
    · have := (((hav.2.2.2.2.2.1) g5).1.mp z).1; omega
    · have := ((hav.2.2.2.2.2.2.1) (by omega)).1.mp z; omega, rfl⟩⟩
  rcases q with ⟨q1, q2, q3, q4⟩ | ⟨q1, q2⟩
  · have hlt := (hv (T 15 m + t - 1) (by omega)).1
    have ne : ¬ r = -1 := by rw [q2]; exact nI_m1 (by omega)
    have hb1' := hb.v f
    have l24 := hb1'.2.2
    by_cases g3 : b p = 3
    · obtain ⟨e1, e2, e3⟩ := (hav.2.2.2.1) g3
      have hx := ho.2.1 (Or.inr g3)
      simp (disch := (first | ((try simp (disch := omega) only [va_up_self, va_up_ne, ne_eq, reduceCtorEq, Nat.reduceEqDiff, not_false_eq_true, l_0, l_2, l_3, l_4, l_5, l_6, l_7, l_8, l_9, l_10, l_11, l_12, l_13, l_14, l_15, l_16, l_17, l_18, l_19, l_20, l_21, l_22, l_23, l_24, l_25, l_26, l_27, l_28, l_29, l_30, l_31, l_32, l_33, l_34, l_35, l_36, l_37, l_38, l_39, l_40, l_41, l_42, l_43, l_44, l_45, l_46, l_47, l_48, l_49, l_50, l_51, l_52, l_53, l_54, l_55, l_56, l_57, l_58, l_59, l_60, l_61, l_62, l_63, l_64, l_97, l_98, l_99, l_200, l_225, l_232, l_255, l_256, l_700, l_1000, l_1024, l_3375, l_4095, l_8000, l_20000, l_60000, vp_nIs, zz0, zz1, e10, nI_leI, nI_ltI, nI_eq, nI_1, nI_1a, nI_add, nI_sub, nI_sub1, pk_mul, nI_clamp, nI_le1, nI_le1', nI_lt1, nI_lt1', nI_eq1, nI_eqm, m1_eqN, m1_le, m1_lt, m1_leN, m1_ltN, nI_am, not_true_eq_false, not_false_eq_true, oN_eqm, l24]) <;> omega) | fail)) only [↓numW, ↓zb_t, ↓zb_f, ↓zb_tt, ↓zb_ff, ↓zb_i, ↓zb_z0, ↓zb_z1, ↓zb_z, ↓zb_l, ↓zb_v, vi32, vi64, true_and, pk_us, Int32.add_zero, Nat.add_sub_cancel, nI_add, nI_1, nI_1a, nI_clamp, k7, k7', k8, k8', k12, k12', k15, k15', k16, k16', nI_sub1, va_up_self, va_up_ne, ne_eq, reduceCtorEq, Nat.reduceEqDiff, not_false_eq_true, l24]
      refine et_x (fun K z => swp_3 g3 z) ?_
      rw [q2]
      refine et_e ⟨f.t (by repeat' (first | exact fr_r | assumption | refine fr.i ?_ (by unfold IvM; omega) | refine fr.u ?_ (by rfl) (by unfold AvM; omega))), Or.inl ⟨e1.mpr q1, rfl, by rw [e2]; exact q4.1, by omega, fun i hi => ?_⟩⟩
      rw [e3]
      by_cases e : i = b (p + 1)
      · subst e
        rw [va_up_self]
        exact ⟨by simp (disch := omega) only [va_up_self, va_up_ne, pk_us, pk_un, pk_us], q3⟩
      · rw [va_up_ne _ _ e]
        refine ⟨?_, (q4.2.2 i (by omega)).2⟩
        simp (disch := omega) only [va_up_self, va_up_ne, pk_us, pk_un, pk_us]
        exact (q4.2.2 i (by omega)).1
    by_cases g4 : b p = 4
    · obtain ⟨e1, e2, e3⟩ := (hav.2.2.2.2.1) g4
      simp (disch := (first | ((try simp (disch := omega) only [va_up_self, va_up_ne, ne_eq, reduceCtorEq, Nat.reduceEqDiff, not_false_eq_true, l_0, l_2, l_3, l_4, l_5, l_6, l_7, l_8, l_9, l_10, l_11, l_12, l_13, l_14, l_15, l_16, l_17, l_18, l_19, l_20, l_21, l_22, l_23, l_24, l_25, l_26, l_27, l_28, l_29, l_30, l_31, l_32, l_33, l_34, l_35, l_36, l_37, l_38, l_39, l_40, l_41, l_42, l_43, l_44, l_45, l_46, l_47, l_48, l_49, l_50, l_51, l_52, l_53, l_54, l_55, l_56, l_57, l_58, l_59, l_60, l_61, l_62, l_63, l_64, l_97, l_98, l_99, l_200, l_225, l_232, l_255, l_256, l_700, l_1000, l_1024, l_3375, l_4095, l_8000, l_20000, l_60000, vp_nIs, zz0, zz1, e10, nI_leI, nI_ltI, nI_eq, nI_1, nI_1a, nI_add, nI_sub, nI_sub1, pk_mul, nI_clamp, nI_le1, nI_le1', nI_lt1, nI_lt1', nI_eq1, nI_eqm, m1_eqN, m1_le, m1_lt, m1_leN, m1_ltN, nI_am, not_true_eq_false, not_false_eq_true, oN_eqm, l24]) <;> omega) | fail)) only [↓numW, ↓zb_t, ↓zb_f, ↓zb_tt, ↓zb_ff, ↓zb_i, ↓zb_z0, ↓zb_z1, ↓zb_z, ↓zb_l, ↓zb_v, vi32, vi64, true_and, pk_us, Int32.add_zero, Nat.add_sub_cancel, nI_add, nI_1, nI_1a, nI_clamp, k7, k7', k8, k8', k12, k12', k15, k15', k16, k16', nI_sub1, va_up_self, va_up_ne, ne_eq, reduceCtorEq, Nat.reduceEqDiff, not_false_eq_true, l24]
      refine et_x (fun K z => swp_4 g4 z) ?_
      exact et_e ⟨f, Or.inl ⟨e1.mpr q1, rfl, by rw [e2, e3]; exact q4⟩⟩
    by_cases g5 : b p = 5
    · obtain ⟨e1, e2, e3⟩ := (hav.2.2.2.2.2.1) g5
      simp (disch := (first | ((try simp (disch := omega) only [va_up_self, va_up_ne, ne_eq, reduceCtorEq, Nat.reduceEqDiff, not_false_eq_true, l_0, l_2, l_3, l_4, l_5, l_6, l_7, l_8, l_9, l_10, l_11, l_12, l_13, l_14, l_15, l_16, l_17, l_18, l_19, l_20, l_21, l_22, l_23, l_24, l_25, l_26, l_27, l_28, l_29, l_30, l_31, l_32, l_33, l_34, l_35, l_36, l_37, l_38, l_39, l_40, l_41, l_42, l_43, l_44, l_45, l_46, l_47, l_48, l_49, l_50, l_51, l_52, l_53, l_54, l_55, l_56, l_57, l_58, l_59, l_60, l_61, l_62, l_63, l_64, l_97, l_98, l_99, l_200, l_225, l_232, l_255, l_256, l_700, l_1000, l_1024, l_3375, l_4095, l_8000, l_20000, l_60000, vp_nIs, zz0, zz1, e10, nI_leI, nI_ltI, nI_eq, nI_1, nI_1a, nI_add, nI_sub, nI_sub1, pk_mul, nI_clamp, nI_le1, nI_le1', nI_lt1, nI_lt1', nI_eq1, nI_eqm, m1_eqN, m1_le, m1_lt, m1_leN, m1_ltN, nI_am, not_true_eq_false, not_false_eq_true, oN_eqm, l24]) <;> omega) | fail)) only [↓numW, ↓zb_t, ↓zb_f, ↓zb_tt, ↓zb_ff, ↓zb_i, ↓zb_z0, ↓zb_z1, ↓zb_z, ↓zb_l, ↓zb_v, vi32, vi64, true_and, pk_us, Int32.add_zero, Nat.add_sub_cancel, nI_add, nI_1, nI_1a, nI_clamp, k7, k7', k8, k8', k12, k12', k15, k15', k16, k16', nI_sub1, va_up_self, va_up_ne, ne_eq, reduceCtorEq, Nat.reduceEqDiff, not_false_eq_true, l24]
      refine et_x (fun K z => swp_5 g5 z) ?_
      unfold mp_X12_fitsPlace_116 mp_X12_fitsPlace_117
      refine et_w (eM_seq (c' := t - 1 < T 16 m ∧ t - 1 + 1 < T 16 m) (d := t - 1 + 1 < T 16 m) (eM_push (v := w (T 15 m + t - 1)) hb1' hw hm q4 q2 q3) z0 (fun μ2 _ f2 g2 => eM_end (eM_push (v := w (T 15 m + t - 1)) (hb1'.v f2) hw hm g2 q2 q3) z0 z1) Iff.rfl) (fun r μ' q => ?_)
      refine (rM.c (μ := μ) ⟨f.t q.1, q.2⟩ ⟨fun z => e1.mpr ⟨q1, by omega⟩, fun z => by have := e1.mp z; omega⟩ (fun _ => by omega) (fun z i hi => ?_))
      rw [e3, show T 15 m + (t - 1 + 1) = T 15 m + t by omega, show T 15 m + (t - 1) = T 15 m + t - 1 by omega]
      by_cases c1 : i = T 15 m + t
      · rw [c1, va_up_self, va_up_self]
      · rw [va_up_ne _ _ c1, va_up_ne _ _ c1]
        by_cases c2 : i = T 15 m + t - 1
        · rw [c2, va_up_self]
        · rw [va_up_ne _ _ c2]
    · have g7 : b p = 6 := by omega
      obtain ⟨e1, e2, e3⟩ := (hav.2.2.2.2.2.2.1) g7
      simp (disch := (first | ((try simp (disch := omega) only [va_up_self, va_up_ne, ne_eq, reduceCtorEq, Nat.reduceEqDiff, not_false_eq_true, l_0, l_2, l_3, l_4, l_5, l_6, l_7, l_8, l_9, l_10, l_11, l_12, l_13, l_14, l_15, l_16, l_17, l_18, l_19, l_20, l_21, l_22, l_23, l_24, l_25, l_26, l_27, l_28, l_29, l_30, l_31, l_32, l_33, l_34, l_35, l_36, l_37, l_38, l_39, l_40, l_41, l_42, l_43, l_44, l_45, l_46, l_47, l_48, l_49, l_50, l_51, l_52, l_53, l_54, l_55, l_56, l_57, l_58, l_59, l_60, l_61, l_62, l_63, l_64, l_97, l_98, l_99, l_200, l_225, l_232, l_255, l_256, l_700, l_1000, l_1024, l_3375, l_4095, l_8000, l_20000, l_60000, vp_nIs, zz0, zz1, e10, nI_leI, nI_ltI, nI_eq, nI_1, nI_1a, nI_add, nI_sub, nI_sub1, pk_mul, nI_clamp, nI_le1, nI_le1', nI_lt1, nI_lt1', nI_eq1, nI_eqm, m1_eqN, m1_le, m1_lt, m1_leN, m1_ltN, nI_am, not_true_eq_false, not_false_eq_true, oN_eqm, l24]) <;> omega) | fail)) only [↓numW, ↓zb_t, ↓zb_f, ↓zb_tt, ↓zb_ff, ↓zb_i, ↓zb_z0, ↓zb_z1, ↓zb_z, ↓zb_l, ↓zb_v, vi32, vi64, true_and, pk_us, Int32.add_zero, Nat.add_sub_cancel, nI_add, nI_1, nI_1a, nI_clamp, k7, k7', k8, k8', k12, k12', k15, k15', k16, k16', nI_sub1, va_up_self, va_up_ne, ne_eq, reduceCtorEq, Nat.reduceEqDiff, not_false_eq_true, l24]
      refine et_x (fun K z => swp_6 g7 z) ?_
      unfold mp_X12_fitsPlace_155 mp_X12_fitsPlace_156
      refine et_b (eM_pop hb1' hw hm q4) (fun r2 μ2 z => ?_)
      obtain ⟨f2, z⟩ := z
      have f12 := f.t f2
      rcases z with ⟨y1, y2, y3, y4⟩ | ⟨y1, y2⟩
      · have hlt2 := (hv (T 15 m + (t - 1) - 1) (by omega)).1
        have ne2 : ¬ r2 = -1 := by rw [y2]; exact nI_m1 (by omega)
        refine et_x (fun K z => ⟨fun y => absurd y ne2, fun _ => z⟩) ?_
        refine et_w (eM_seq (c' := t - 1 - 1 < T 16 m ∧ t - 1 - 1 + 1 < T 16 m) (d := t - 1 - 1 + 1 < T 16 m) (eM_push (v := w (T 15 m + t - 1)) (hb.v f12) hw hm y4 q2 q3) z0 (fun μ3 _ f3 g3 => eM_end (eM_push (v := w (T 15 m + (t - 1) - 1)) ((hb.v f12).v f3) hw hm g3 y2 y3) z0 z1) Iff.rfl) (fun r μ' q => ?_)
        refine (rM.c (μ := μ) ⟨f12.t q.1, q.2⟩ ⟨fun z => e1.mpr (by omega), fun z => by have := e1.mp z; omega⟩ (fun _ => by omega) (fun z i hi => ?_))
        rw [e3, show T 15 m + (t - 1 - 1 + 1) = T 15 m + t - 1 by omega, show T 15 m + (t - 1 - 1) = T 15 m + t - 2 by omega, show T 15 m + (t - 1) - 1 = T 15 m + t - 2 by omega]
      · refine et_x (P2 := fun K => K 0 μ2) (fun K z => ⟨fun _ => ⟨sm_z0, z⟩, fun y => absurd y2 y⟩) (et_e ⟨f12, Or.inr ⟨fun y => by have := e1.mp y; omega, rfl⟩⟩)
  · refine et_x (fun K z => ⟨fun y => absurd q2 y, fun _ => z⟩) (bad q1 q2)
theorem eM_b {μ : sm_S} {T : Nat → Nat → Nat} {b : Nat → Nat} {m p t : Nat} {w : Nat → Nat} (hb : bM μ T b) (hw : wf T b) (hm : m < T 0 1) (h : gM μ T m t w) (n9 : ∀ i, T 15 m ≤ i → i < T 15 m + t → w i ≠ 99) (ho : opT T b (T 15 m) p) (g7 : 7 ≤ b p) (g25 : b p ≤ 25) {c : Prop} {t' : Nat} {w' : Nat → Nat} (hav : avS T b m p t w c t' w') : et (fun K => mp_X12_fits μ (nI m) (nI (b p)) (nI (b (p + 1))) (nI (b (p + 2))) K) (rM μ T m c t' w') := by
  have w2 := hw.2.1
  have w4 := hw.2.2.2.1
  obtain ⟨-, -, -, -, y5, y6, h12, y8, y9, y10, y11, y12, -⟩ := hw.2.2.2.2.2.2.2.2.1 m hm
  have hbt : ∀ j, b j < 256 := hb.1.1.2.2.2.1
  have v0 : vt T 0 := Or.inl (by omega)
  have v97 : vt T 97 := Or.inr (Or.inr (Or.inl rfl))
  have hst := h.2.1
  have hv : ∀ i, i < T 15 m + t → w i < 2 ^ 20 ∧ vt T (w i) := fun i hi => by
    have := (h.2.2 i hi).2
    refine ⟨?_, this⟩
    unfold vt at this; omega
  have hb0 := ho.1
  have hb1 := hbt (p + 1)
  have hb2 := hbt (p + 2)
  have hLM := hb.1.2.1
  have e12 : 2 ≤ t → T 15 m + (t - 1) - 1 = T 15 m + t - 2 := fun _ => by omega
  have z0 : ∀ (μ1 : sm_S) (K : jk), K 0 μ1 → sm_z 0 ∧ K 0 μ1 := fun _ _ q => ⟨sm_z0, q⟩
  have z1 : ∀ (μ1 : sm_S) (K : jk), K 1 μ1 → sm_z 1 ∧ K 1 μ1 := fun _ _ q => ⟨sm_z1, q⟩
  unfold mp_X12_fits mp_X12_fits_19 mp_X12_fits_39
  by_cases g18 : b p ≤ 18
  · unfold mp_X12_fits_64
    by_cases g8 : b p = 18
    · obtain ⟨e1, e2, e3⟩ := (hav.2.2.2.2.2.2.2.2.1) g8
      simp (disch := (first | ((try simp (disch := omega) only [va_up_self, va_up_ne, ne_eq, reduceCtorEq, Nat.reduceEqDiff, not_false_eq_true, l_0, l_2, l_3, l_4, l_5, l_6, l_7, l_8, l_9, l_10, l_11, l_12, l_13, l_14, l_15, l_16, l_17, l_18, l_19, l_20, l_21, l_22, l_23, l_24, l_25, l_26, l_27, l_28, l_29, l_30, l_31, l_32, l_33, l_34, l_35, l_36, l_37, l_38, l_39, l_40, l_41, l_42, l_43, l_44, l_45, l_46, l_47, l_48, l_49, l_50, l_51, l_52, l_53, l_54, l_55, l_56, l_57, l_58, l_59, l_60, l_61, l_62, l_63, l_64, l_97, l_98, l_99, l_200, l_225, l_232, l_255, l_256, l_700, l_1000, l_1024, l_3375, l_4095, l_8000, l_20000, l_60000, vp_nIs, zz0, zz1, e10, nI_leI, nI_ltI, nI_eq, nI_1, nI_1a, nI_add, nI_sub, nI_sub1, pk_mul, nI_clamp, nI_le1, nI_le1', nI_lt1, nI_lt1', nI_eq1, nI_eqm, m1_eqN, m1_le, m1_lt, m1_leN, m1_ltN, nI_am, not_true_eq_false, not_false_eq_true, oN_eqm, hw]) <;> omega) | fail)) only [↓numW, ↓zb_t, ↓zb_f, ↓zb_tt, ↓zb_ff, ↓zb_i, ↓zb_z0, ↓zb_z1, ↓zb_z, ↓zb_l, ↓zb_v, vi32, vi64, true_and, pk_us, Int32.add_zero, Nat.add_sub_cancel, nI_add, nI_1, nI_1a, nI_clamp, k7, k7', k8, k8', k12, k12', k15, k15', k16, k16', nI_sub1, va_up_self, va_up_ne, ne_eq, reduceCtorEq, Nat.reduceEqDiff, not_false_eq_true, hw]
      refine et_w (eM_seq (c' := (1 ≤ t ∧ w (T 15 m + t - 1) = 0) ∧ t - 1 < T 16 m) (eM_i1 hb hw hm h) z0 (fun μ2 _ f2 g2 => eM_end (eM_push (v := 0) (hb.v f2) hw hm g2 rfl v0) z0 z1) Iff.rfl) (fun r μ' q => q.c ⟨fun z => e1.mpr z.1, fun z => ⟨e1.mp z, by have := e1.mp z; omega⟩⟩ (fun z => by omega) (fun z i hi => ?_))
      rw [e3, show T 15 m + (t - 1) = T 15 m + t - 1 by omega]
      by_cases c1 : i = T 15 m + t - 1
      · rw [c1, va_up_self]; exact z.1.2.symm
      · rw [va_up_ne _ _ c1]
    · obtain ⟨e1, e2, e3⟩ := (hav.2.2.2.2.2.2.2.1) (by omega)
      simp (disch := (first | ((try simp (disch := omega) only [va_up_self, va_up_ne, ne_eq, reduceCtorEq, Nat.reduceEqDiff, not_false_eq_true, l_0, l_2, l_3, l_4, l_5, l_6, l_7, l_8, l_9, l_10, l_11, l_12, l_13, l_14, l_15, l_16, l_17, l_18, l_19, l_20, l_21, l_22, l_23, l_24, l_25, l_26, l_27, l_28, l_29, l_30, l_31, l_32, l_33, l_34, l_35, l_36, l_37, l_38, l_39, l_40, l_41, l_42, l_43, l_44, l_45, l_46, l_47, l_48, l_49, l_50, l_51, l_52, l_53, l_54, l_55, l_56, l_57, l_58, l_59, l_60, l_61, l_62, l_63, l_64, l_97, l_98, l_99, l_200, l_225, l_232, l_255, l_256, l_700, l_1000, l_1024, l_3375, l_4095, l_8000, l_20000, l_60000, vp_nIs, zz0, zz1, e10, nI_leI, nI_ltI, nI_eq, nI_1, nI_1a, nI_add, nI_sub, nI_sub1, pk_mul, nI_clamp, nI_le1, nI_le1', nI_lt1, nI_lt1', nI_eq1, nI_eqm, m1_eqN, m1_le, m1_lt, m1_leN, m1_ltN, nI_am, not_true_eq_false, not_false_eq_true, oN_eqm, hw]) <;> omega) | fail)) only [↓numW, ↓zb_t, ↓zb_f, ↓zb_tt, ↓zb_ff, ↓zb_i, ↓zb_z0, ↓zb_z1, ↓zb_z, ↓zb_l, ↓zb_v, vi32, vi64, true_and, pk_us, Int32.add_zero, Nat.add_sub_cancel, nI_add, nI_1, nI_1a, nI_clamp, k7, k7', k8, k8', k12, k12', k15, k15', k16, k16', nI_sub1, va_up_self, va_up_ne, ne_eq, reduceCtorEq, Nat.reduceEqDiff, not_false_eq_true, hw]
      refine et_w (eM_seq (c' := (2 ≤ t ∧ w (T 15 m + t - 1) = 0 ∧ w (T 15 m + t - 2) = 0) ∧ t - 2 < T 16 m) (eM_i2 hb hw hm h) z0 (fun μ2 _ f2 g2 => eM_end (eM_push (v := 0) (hb.v f2) hw hm g2 rfl v0) z0 z1) Iff.rfl) (fun r μ' q => q.c ⟨fun z => e1.mpr z.1, fun z => ⟨e1.mp z, by have := e1.mp z; omega⟩⟩ (fun z => by omega) (fun z i hi => ?_))
      rw [e3, show T 15 m + (t - 2) = T 15 m + t - 2 by omega]
      by_cases c1 : i = T 15 m + t - 2
      · rw [c1, va_up_self]; exact z.1.2.2.symm
      · rw [va_up_ne _ _ c1]
  simp (disch := (first | ((try simp (disch := omega) only [va_up_self, va_up_ne, ne_eq, reduceCtorEq, Nat.reduceEqDiff, not_false_eq_true, l_0, l_2, l_3, l_4, l_5, l_6, l_7, l_8, l_9, l_10, l_11, l_12, l_13, l_14, l_15, l_16, l_17, l_18, l_19, l_20, l_21, l_22, l_23, l_24, l_25, l_26, l_27, l_28, l_29, l_30, l_31, l_32, l_33, l_34, l_35, l_36, l_37, l_38, l_39, l_40, l_41, l_42, l_43, l_44, l_45, l_46, l_47, l_48, l_49, l_50, l_51, l_52, l_53, l_54, l_55, l_56, l_57, l_58, l_59, l_60, l_61, l_62, l_63, l_64, l_97, l_98, l_99, l_200, l_225, l_232, l_255, l_256, l_700, l_1000, l_1024, l_3375, l_4095, l_8000, l_20000, l_60000, vp_nIs, zz0, zz1, e10, nI_leI, nI_ltI, nI_eq, nI_1, nI_1a, nI_add, nI_sub, nI_sub1, pk_mul, nI_clamp, nI_le1, nI_le1', nI_lt1, nI_lt1', nI_eq1, nI_eqm, m1_eqN, m1_le, m1_lt, m1_leN, m1_ltN, nI_am, not_true_eq_false, not_false_eq_true, oN_eqm, hw]) <;> omega) | fail)) only [↓numW, ↓zb_t, ↓zb_f, ↓zb_tt, ↓zb_ff, ↓zb_i, ↓zb_z0, ↓zb_z1, ↓zb_z, ↓zb_l, ↓zb_v, vi32, vi64, true_and, pk_us, Int32.add_zero, Nat.add_sub_cancel, nI_add, nI_1, nI_1a, nI_clamp, k7, k7', k8, k8', k12, k12', k15, k15', k16, k16', nI_sub1, va_up_self, va_up_ne, ne_eq, reduceCtorEq, Nat.reduceEqDiff, not_false_eq_true, hw]
  by_cases g19 : b p = 19
  · obtain ⟨e1, e2, e3⟩ := (hav.2.2.2.2.2.2.2.2.2.1) (Or.inl g19)
    exact et_x (fun K q => sw_ft_19 g19 q) (eM_z (et_w (eM_i1 hb hw hm h) (fun r μ' q => q.c e1.symm (fun _ => e2.symm) (fun _ i _ => by rw [e3]))))
  by_cases g20 : b p = 20
  · obtain ⟨e1, e2, e3⟩ := (hav.2.2.2.2.2.2.2.2.2.2.1) g20
    exact et_x (fun K q => sw_ft_20 g20 q) (eM_z (et_w (eM_i2 hb hw hm h) (fun r μ' q => q.c e1.symm (fun _ => e2.symm) (fun _ i _ => by rw [e3]))))
  by_cases g21 : b p = 21 ∨ b p = 22
  · obtain ⟨e1, e2, e3⟩ := (hav.2.2.2.2.2.2.2.2.2.2.2.1) g21
    refine et_x (P2 := fun K => mp_X12_popReference μ (nI m) (fun r σ => sm_z r ∧ K r σ)) (fun K q => by
      rcases g21 with g | g
      · exact sw_ft_21 g q
      · exact sw_ft_22 g q) (eM_z (et_w (eM_ref hb hw hm h (fun q => n9 _ (by omega) (by omega))) (fun r μ' q => q.c e1.symm (fun _ => e2.symm) (fun _ i _ => by rw [e3]))))
  by_cases g23 : b p = 23 ∨ b p = 24
  · obtain ⟨e1, e2, e3⟩ := (hav.2.2.2.2.2.2.2.2.2.2.2.2.1) g23
    refine et_x (P2 := fun K => mp_X12_popReference μ (nI m) (fun r156 σ155 => ((r156 = 0 → (mp_X12_fits_323 K σ155)) ∧ (¬ r156 = 0 → (mp_X12_popReference σ155 (nI m) (fun r159 σ158 => ((r159 = 0 → (mp_X12_fits_323 K σ158)) ∧ (¬ r159 = 0 → (mp_X12_fits_324 K σ158 1))))))))) (fun K q => by
      rcases g23 with g | g
      · exact sw_ft_23 g q
      · exact sw_ft_24 g q) ?_
    unfold mp_X12_fits_323 mp_X12_fits_324
    refine et_w (eM_seq (c' := (1 ≤ t ∧ w (T 15 m + t - 1) ≠ 0) ∧ (1 ≤ t - 1 ∧ w (T 15 m + (t - 1) - 1) ≠ 0)) (eM_ref hb hw hm h (fun q => n9 _ (by omega) (by omega))) z0 (fun μ2 hc f2 g2 => eM_end (eM_ref (hb.v f2) hw hm g2 (fun q => n9 _ (by omega) (by omega))) z0 z1) Iff.rfl) (fun r μ' q => q.c ⟨fun z => e1.mpr ?_, fun z => ?_⟩ (fun z => by omega) (fun _ i _ => by rw [e3]))
    · have h2 := z.2.2
      rw [e12 (by omega)] at h2
      exact ⟨by omega, z.1.2, h2⟩
    · obtain ⟨h1, h2, h3⟩ := e1.mp z
      rw [← e12 (by omega)] at h3
      exact ⟨⟨by omega, h2⟩, by omega, h3⟩
  have g25b : b p = 25 := by omega
  obtain ⟨e1, e2, e3⟩ := (hav.2.2.2.2.2.2.2.2.2.2.2.2.2.1) g25b
  exact et_x (fun K q => sw_ft_25 g25b q) (et_e ⟨fr_r, Or.inl ⟨e1.mpr trivial, rfl, by rw [e2, e3]; exact h⟩⟩)
