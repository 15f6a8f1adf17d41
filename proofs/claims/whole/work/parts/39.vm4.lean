/-! ===== the reference's fits: rows and calls ===== -/
theorem l_96 : (96 : Int32) = nI 96 := rfl
theorem eM_122 {μ : sm_S} {T : Nat → Nat → Nat} {b : Nat → Nat} {m t v op : Nat} {w : Nat → Nat} (hb : bM μ T b) (hw : wf T b) (hm : m < T 0 1) (h : gM μ T m t w) (ho : op = 32 ∨ op = 33) (hv : 1 ≤ t → v = if op = 32 then 0 else if w (T 15 m + t - 1) = 97 then 97 else w (T 15 m + t - 1) - 64) : et (fun K => mp_X12_fitsRow_122 K μ (nI m) (nI op)) (rM μ T m (1 ≤ t ∧ 64 ≤ w (T 15 m + t - 1) ∧ w (T 15 m + t - 1) ≤ 97) t (va_up w (T 15 m + t - 1) v)) := by
  have w2 := hw.2.1
  unfold mp_X12_fitsRow_122
  refine et_b (eM_pop hb hw hm h) (fun r μ1 q => ?_)
  obtain ⟨f, q⟩ := q
  unfold mp_X12_fitsRow_131 mp_X12_isRow mp_X12_isRow_16 mp_X12_isRow_17
  rcases q with ⟨q1, q2, q3, q4⟩ | ⟨q1, q2⟩
  · have hlt : w (T 15 m + t - 1) < 2 ^ 20 := by unfold vt at q3; omega
    have hv1 := hv q1
    rw [q2]
    have ok : 64 ≤ w (T 15 m + t - 1) → w (T 15 m + t - 1) ≤ 97 → et (fun K => mp_X12_fitsRow_148 K μ1 (nI m) (nI op) (nI (w (T 15 m + t - 1)))) (rM μ T m (1 ≤ t ∧ 64 ≤ w (T 15 m + t - 1) ∧ w (T 15 m + t - 1) ≤ 97) t (va_up w (T 15 m + t - 1) v)) := by
      intro c1 c2
      have fin : ∀ x : Int32, x = nI v → vt T v → et (fun K => mp_X12_fitsRow_177 K μ1 (nI m) x) (rM μ T m (1 ≤ t ∧ 64 ≤ w (T 15 m + t - 1) ∧ w (T 15 m + t - 1) ≤ 97) t (va_up w (T 15 m + t - 1) v)) := by
        intro x hx hvv
        unfold mp_X12_fitsRow_177
        have h2 := h.2.1
        refine et_w (eM_end (F := mp_X12_fitsRow_187) (G := fun K σ => mp_X12_fitsRow_188 K σ 1) (eM_push (v := v) (hb.v f) hw hm q4 hx hvv) (fun _ _ q => ⟨sm_z0, q⟩) (fun _ _ q => ⟨sm_z1, q⟩)) (fun r μ' q => ?_)
        refine rM.c (μ := μ) ⟨f.t q.1, q.2⟩ ⟨fun _ => ⟨q1, c1, c2⟩, fun _ => by omega⟩ (fun _ => by omega) (fun _ i _ => ?_)
        rw [show T 15 m + (t - 1) = T 15 m + t - 1 by omega]
      unfold mp_X12_fitsRow_148
      rcases ho with g | g
      · rw [if_pos g] at hv1
        have F := fin 0 (by rw [hv1]; rfl) (by rw [hv1]; exact Or.inl (by omega))
        refine et_x (fun K q => ?_) F
        simp (disch := (first | ((try simp (disch := omega) only [va_up_self, va_up_ne, ne_eq, reduceCtorEq, Nat.reduceEqDiff, not_false_eq_true, l_0, l_2, l_3, l_4, l_5, l_6, l_7, l_8, l_9, l_10, l_11, l_12, l_13, l_14, l_15, l_16, l_17, l_18, l_19, l_20, l_21, l_22, l_23, l_24, l_25, l_26, l_27, l_28, l_29, l_30, l_31, l_32, l_33, l_34, l_35, l_36, l_37, l_38, l_39, l_40, l_41, l_42, l_43, l_44, l_45, l_46, l_47, l_48, l_49, l_50, l_51, l_52, l_53, l_54, l_55, l_56, l_57, l_58, l_59, l_60, l_61, l_62, l_63, l_64, l_97, l_98, l_99, l_200, l_225, l_232, l_255, l_256, l_700, l_1000, l_1024, l_3375, l_4095, l_8000, l_20000, l_60000, vp_nIs, zz0, zz1, e10, nI_leI, nI_ltI, nI_eq, nI_1, nI_1a, nI_add, nI_sub, nI_sub1, pk_mul, nI_clamp, nI_le1, nI_le1', nI_lt1, nI_lt1', nI_eq1, nI_eqm, m1_eqN, m1_le, m1_lt, m1_leN, m1_ltN, nI_am, not_true_eq_false, not_false_eq_true, oN_eqm, hw]) <;> omega) | fail)) only [↓numW, ↓zb_t, ↓zb_f, ↓zb_tt, ↓zb_ff, ↓zb_i, ↓zb_z0, ↓zb_z1, ↓zb_z, ↓zb_l, ↓zb_v, vi32, vi64, true_and, pk_us, Int32.add_zero, Nat.add_sub_cancel, nI_add, nI_1, nI_1a, nI_clamp, k7, k7', k8, k8', k12, k12', k15, k15', k16, k16', nI_sub1, va_up_self, va_up_ne, ne_eq, reduceCtorEq, Nat.reduceEqDiff, not_false_eq_true, hw]
        exact q
      · rw [if_neg (by omega)] at hv1
        by_cases c3 : w (T 15 m + t - 1) = 97
        · rw [if_pos c3] at hv1
          have F := fin 97 (by rw [hv1]; rfl) (by rw [hv1]; exact Or.inr (Or.inr (Or.inl rfl)))
          refine et_x (fun K q => ?_) F
          simp (disch := (first | ((try simp (disch := omega) only [va_up_self, va_up_ne, ne_eq, reduceCtorEq, Nat.reduceEqDiff, not_false_eq_true, l_0, l_2, l_3, l_4, l_5, l_6, l_7, l_8, l_9, l_10, l_11, l_12, l_13, l_14, l_15, l_16, l_17, l_18, l_19, l_20, l_21, l_22, l_23, l_24, l_25, l_26, l_27, l_28, l_29, l_30, l_31, l_32, l_33, l_34, l_35, l_36, l_37, l_38, l_39, l_40, l_41, l_42, l_43, l_44, l_45, l_46, l_47, l_48, l_49, l_50, l_51, l_52, l_53, l_54, l_55, l_56, l_57, l_58, l_59, l_60, l_61, l_62, l_63, l_64, l_97, l_98, l_99, l_200, l_225, l_232, l_255, l_256, l_700, l_1000, l_1024, l_3375, l_4095, l_8000, l_20000, l_60000, vp_nIs, zz0, zz1, e10, nI_leI, nI_ltI, nI_eq, nI_1, nI_1a, nI_add, nI_sub, nI_sub1, pk_mul, nI_clamp, nI_le1, nI_le1', nI_lt1, nI_lt1', nI_eq1, nI_eqm, m1_eqN, m1_le, m1_lt, m1_leN, m1_ltN, nI_am, not_true_eq_false, not_false_eq_true, oN_eqm, hw]) <;> omega) | fail)) only [↓numW, ↓zb_t, ↓zb_f, ↓zb_tt, ↓zb_ff, ↓zb_i, ↓zb_z0, ↓zb_z1, ↓zb_z, ↓zb_l, ↓zb_v, vi32, vi64, true_and, pk_us, Int32.add_zero, Nat.add_sub_cancel, nI_add, nI_1, nI_1a, nI_clamp, k7, k7', k8, k8', k12, k12', k15, k15', k16, k16', nI_sub1, va_up_self, va_up_ne, ne_eq, reduceCtorEq, Nat.reduceEqDiff, not_false_eq_true, hw]
          exact q
        · rw [if_neg c3] at hv1
          have F := fin (nI (w (T 15 m + t - 1)) - 64) (by rw [hv1, l_64, nI_sub c1]) (by rw [hv1]; unfold vt at q3 ⊢; omega)
          refine et_x (fun K q => ?_) F
          refine ⟨fun _ => ⟨fun _ => q, fun z => absurd ((nI_eq (b := 97) (by omega) (by omega)).mp z) c3⟩, fun z => absurd ((nI_eq (b := 32) (by omega) (by omega)).mp z) (by omega)⟩
    by_cases c1 : 64 ≤ w (T 15 m + t - 1) ∧ w (T 15 m + t - 1) ≤ 97
    · have F := ok c1.1 c1.2
      by_cases c3 : w (T 15 m + t - 1) = 97
      · refine et_x (fun K q => ?_) F
        refine ⟨fun _ => q, fun z => absurd (by rw [c3]; rfl) z⟩
      · refine et_x (fun K q => ?_) F
        simp (disch := (first | ((try simp (disch := omega) only [va_up_self, va_up_ne, ne_eq, reduceCtorEq, Nat.reduceEqDiff, not_false_eq_true, l_0, l_2, l_3, l_4, l_5, l_6, l_7, l_8, l_9, l_10, l_11, l_12, l_13, l_14, l_15, l_16, l_17, l_18, l_19, l_20, l_21, l_22, l_23, l_24, l_25, l_26, l_27, l_28, l_29, l_30, l_31, l_32, l_33, l_34, l_35, l_36, l_37, l_38, l_39, l_40, l_41, l_42, l_43, l_44, l_45, l_46, l_47, l_48, l_49, l_50, l_51, l_52, l_53, l_54, l_55, l_56, l_57, l_58, l_59, l_60, l_61, l_62, l_63, l_64, l_97, l_98, l_99, l_200, l_225, l_232, l_255, l_256, l_700, l_1000, l_1024, l_3375, l_4095, l_8000, l_20000, l_60000, vp_nIs, zz0, zz1, e10, nI_leI, nI_ltI, nI_eq, nI_1, nI_1a, nI_add, nI_sub, nI_sub1, pk_mul, nI_clamp, nI_le1, nI_le1', nI_lt1, nI_lt1', nI_eq1, nI_eqm, m1_eqN, m1_le, m1_lt, m1_leN, m1_ltN, nI_am, not_true_eq_false, not_false_eq_true, oN_eqm, l_96]) <;> omega) | fail)) only [↓numW, ↓zb_t, ↓zb_f, ↓zb_tt, ↓zb_ff, ↓zb_i, ↓zb_z0, ↓zb_z1, ↓zb_z, ↓zb_l, ↓zb_v, vi32, vi64, true_and, pk_us, Int32.add_zero, Nat.add_sub_cancel, nI_add, nI_1, nI_1a, nI_clamp, k7, k7', k8, k8', k12, k12', k15, k15', k16, k16', nI_sub1, va_up_self, va_up_ne, ne_eq, reduceCtorEq, Nat.reduceEqDiff, not_false_eq_true, l_96]
        exact q
    · refine et_x (P2 := fun K => K 0 μ1) (fun K q => ?_) (et_e ⟨f, Or.inr ⟨fun z => c1 z.2, rfl⟩⟩)
      unfold mp_X12_fitsRow_187 mp_X12_fitsRow_188
      by_cases c3 : w (T 15 m + t - 1) < 64
      · simp (disch := (first | ((try simp (disch := omega) only [va_up_self, va_up_ne, ne_eq, reduceCtorEq, Nat.reduceEqDiff, not_false_eq_true, l_0, l_2, l_3, l_4, l_5, l_6, l_7, l_8, l_9, l_10, l_11, l_12, l_13, l_14, l_15, l_16, l_17, l_18, l_19, l_20, l_21, l_22, l_23, l_24, l_25, l_26, l_27, l_28, l_29, l_30, l_31, l_32, l_33, l_34, l_35, l_36, l_37, l_38, l_39, l_40, l_41, l_42, l_43, l_44, l_45, l_46, l_47, l_48, l_49, l_50, l_51, l_52, l_53, l_54, l_55, l_56, l_57, l_58, l_59, l_60, l_61, l_62, l_63, l_64, l_97, l_98, l_99, l_200, l_225, l_232, l_255, l_256, l_700, l_1000, l_1024, l_3375, l_4095, l_8000, l_20000, l_60000, vp_nIs, zz0, zz1, e10, nI_leI, nI_ltI, nI_eq, nI_1, nI_1a, nI_add, nI_sub, nI_sub1, pk_mul, nI_clamp, nI_le1, nI_le1', nI_lt1, nI_lt1', nI_eq1, nI_eqm, m1_eqN, m1_le, m1_lt, m1_leN, m1_ltN, nI_am, not_true_eq_false, not_false_eq_true, oN_eqm, l_96]) <;> omega) | fail)) only [↓numW, ↓zb_t, ↓zb_f, ↓zb_tt, ↓zb_ff, ↓zb_i, ↓zb_z0, ↓zb_z1, ↓zb_z, ↓zb_l, ↓zb_v, vi32, vi64, true_and, pk_us, Int32.add_zero, Nat.add_sub_cancel, nI_add, nI_1, nI_1a, nI_clamp, k7, k7', k8, k8', k12, k12', k15, k15', k16, k16', nI_sub1, va_up_self, va_up_ne, ne_eq, reduceCtorEq, Nat.reduceEqDiff, not_false_eq_true, l_96]
        exact q
      · simp (disch := (first | ((try simp (disch := omega) only [va_up_self, va_up_ne, ne_eq, reduceCtorEq, Nat.reduceEqDiff, not_false_eq_true, l_0, l_2, l_3, l_4, l_5, l_6, l_7, l_8, l_9, l_10, l_11, l_12, l_13, l_14, l_15, l_16, l_17, l_18, l_19, l_20, l_21, l_22, l_23, l_24, l_25, l_26, l_27, l_28, l_29, l_30, l_31, l_32, l_33, l_34, l_35, l_36, l_37, l_38, l_39, l_40, l_41, l_42, l_43, l_44, l_45, l_46, l_47, l_48, l_49, l_50, l_51, l_52, l_53, l_54, l_55, l_56, l_57, l_58, l_59, l_60, l_61, l_62, l_63, l_64, l_97, l_98, l_99, l_200, l_225, l_232, l_255, l_256, l_700, l_1000, l_1024, l_3375, l_4095, l_8000, l_20000, l_60000, vp_nIs, zz0, zz1, e10, nI_leI, nI_ltI, nI_eq, nI_1, nI_1a, nI_add, nI_sub, nI_sub1, pk_mul, nI_clamp, nI_le1, nI_le1', nI_lt1, nI_lt1', nI_eq1, nI_eqm, m1_eqN, m1_le, m1_lt, m1_leN, m1_ltN, nI_am, not_true_eq_false, not_false_eq_true, oN_eqm, l_96]) <;> omega) | fail)) only [↓numW, ↓zb_t, ↓zb_f, ↓zb_tt, ↓zb_ff, ↓zb_i, ↓zb_z0, ↓zb_z1, ↓zb_z, ↓zb_l, ↓zb_v, vi32, vi64, true_and, pk_us, Int32.add_zero, Nat.add_sub_cancel, nI_add, nI_1, nI_1a, nI_clamp, k7, k7', k8, k8', k12, k12', k15, k15', k16, k16', nI_sub1, va_up_self, va_up_ne, ne_eq, reduceCtorEq, Nat.reduceEqDiff, not_false_eq_true, l_96]
        exact q
  · refine et_x (P2 := fun K => K 0 μ1) (fun K q => ?_) (et_e ⟨f, Or.inr ⟨fun z => by omega, rfl⟩⟩)
    rw [q2]
    exact ⟨fun z => absurd z (by decide), fun _ => ⟨fun _ => ⟨sm_z0, fun _ => ⟨sm_z0, q⟩, fun z => absurd rfl z⟩, fun z => absurd (by decide) z⟩⟩
theorem w_131 {μ : sm_S} {x1 x2 : Int32} {K : jk} (q : K 0 μ) : mp_X12_fitsRow_131 K μ x1 x2 (-1) := by
  unfold mp_X12_fitsRow_131 mp_X12_isRow mp_X12_isRow_16 mp_X12_isRow_17
  exact ⟨fun z => absurd z (by decide), fun _ => ⟨fun _ => ⟨sm_z0, fun _ => ⟨sm_z0, q⟩, fun z => absurd rfl z⟩, fun z => absurd (by decide) z⟩⟩
theorem w_69 {μ : sm_S} {x : Int32} {K : jk} (q : K 0 μ) : mp_X12_fitsRow_69 K μ x := by
  unfold mp_X12_fitsRow_69 mp_X12_fitsRow_70 mp_X12_isRow mp_X12_isRow_16 mp_X12_isRow_17
  exact ⟨fun z => absurd z (by decide), fun _ => ⟨fun _ => ⟨sm_z0, fun _ => ⟨sm_z0, q⟩, fun z => absurd rfl z⟩, fun z => absurd (by decide) z⟩⟩
theorem eM_e {μ : sm_S} {T : Nat → Nat → Nat} {b : Nat → Nat} {m p t : Nat} {w : Nat → Nat} (hb : bM μ T b) (hw : wf T b) (hm : m < T 0 1) (h : gM μ T m t w) (n9 : ∀ i, T 15 m ≤ i → i < T 15 m + t → w i ≠ 99) (ho : opT T b (T 15 m) p) (g31 : 31 ≤ b p) (g34 : b p ≤ 34) {c : Prop} {t' : Nat} {w' : Nat → Nat} (hav : avS T b m p t w c t' w') : et (fun K => mp_X12_fits μ (nI m) (nI (b p)) (nI (b (p + 1))) (nI (b (p + 2))) K) (rM μ T m c t' w') := by
  have w2 := hw.2.1
  have w4 := hw.2.2.2.1
  obtain ⟨-, -, -, -, y5, y6, h12, y8, y9, y10, y11, y12, -⟩ := hw.2.2.2.2.2.2.2.2.1 m hm
  have hbt : ∀ j, b j < 256 := hb.1.1.2.2.2.1
  have v0 : vt T 0 := Or.inl (by omega)
  have v97 : vt T 97 := Or.inr (Or.inr (Or.inl rfl))
  have hst := h.2.1
  have hv : ∀ i, i < T 15 m + t → w i < 2 ^ 20 ∧ vt T (w i) := fun i hi => by
    have := (h.2.2 i hi).2
    refine ⟨?_, this⟩
    unfold vt at this; omega
  have hb0 := ho.1
  have hb1 := hbt (p + 1)
  have hb2 := hbt (p + 2)
  have hLM := hb.1.2.1
  have e12 : 2 ≤ t → T 15 m + (t - 1) - 1 = T 15 m + t - 2 := fun _ => by omega
  have z0 : ∀ (μ1 : sm_S) (K : jk), K 0 μ1 → sm_z 0 ∧ K 0 μ1 := fun _ _ q => ⟨sm_z0, q⟩
  have z1 : ∀ (μ1 : sm_S) (K : jk), K 1 μ1 → sm_z 1 ∧ K 1 μ1 := fun _ _ q => ⟨sm_z1, q⟩
  unfold mp_X12_fits mp_X12_fits_19 mp_X12_fits_39
  simp (disch := (first | ((try simp (disch := omega) only [va_up_self, va_up_ne, ne_eq, reduceCtorEq, Nat.reduceEqDiff, not_false_eq_true, l_0, l_2, l_3, l_4, l_5, l_6, l_7, l_8, l_9, l_10, l_11, l_12, l_13, l_14, l_15, l_16, l_17, l_18, l_19, l_20, l_21, l_22, l_23, l_24, l_25, l_26, l_27, l_28, l_29, l_30, l_31, l_32, l_33, l_34, l_35, l_36, l_37, l_38, l_39, l_40, l_41, l_42, l_43, l_44, l_45, l_46, l_47, l_48, l_49, l_50, l_51, l_52, l_53, l_54, l_55, l_56, l_57, l_58, l_59, l_60, l_61, l_62, l_63, l_64, l_97, l_98, l_99, l_200, l_225, l_232, l_255, l_256, l_700, l_1000, l_1024, l_3375, l_4095, l_8000, l_20000, l_60000, vp_nIs, zz0, zz1, e10, nI_leI, nI_ltI, nI_eq, nI_1, nI_1a, nI_add, nI_sub, nI_sub1, pk_mul, nI_clamp, nI_le1, nI_le1', nI_lt1, nI_lt1', nI_eq1, nI_eqm, m1_eqN, m1_le, m1_lt, m1_leN, m1_ltN, nI_am, not_true_eq_false, not_false_eq_true, oN_eqm, hw]) <;> omega) | fail)) only [↓numW, ↓zb_t, ↓zb_f, ↓zb_tt, ↓zb_ff, ↓zb_i, ↓zb_z0, ↓zb_z1, ↓zb_z, ↓zb_l, ↓zb_v, vi32, vi64, true_and, pk_us, Int32.add_zero, Nat.add_sub_cancel, nI_add, nI_1, nI_1a, nI_clamp, k7, k7', k8, k8', k12, k12', k15, k15', k16, k16', nI_sub1, va_up_self, va_up_ne, ne_eq, reduceCtorEq, Nat.reduceEqDiff, not_false_eq_true, hw]
  refine eM_z ?_
  unfold mp_X12_fitsRow
  by_cases c31 : b p = 31
  · obtain ⟨e1, e2, e3⟩ := hav.2.2.2.2.2.2.2.2.2.2.2.2.2.2.2.2.2.2.2.1 c31
    have hx := ho.2.2.2.2.2.1 c31
    have vx : vt T (64 + b (p + 1)) := Or.inr (Or.inl ⟨by omega, by omega⟩)
    simp (disch := (first | ((try simp (disch := omega) only [va_up_self, va_up_ne, ne_eq, reduceCtorEq, Nat.reduceEqDiff, not_false_eq_true, l_0, l_2, l_3, l_4, l_5, l_6, l_7, l_8, l_9, l_10, l_11, l_12, l_13, l_14, l_15, l_16, l_17, l_18, l_19, l_20, l_21, l_22, l_23, l_24, l_25, l_26, l_27, l_28, l_29, l_30, l_31, l_32, l_33, l_34, l_35, l_36, l_37, l_38, l_39, l_40, l_41, l_42, l_43, l_44, l_45, l_46, l_47, l_48, l_49, l_50, l_51, l_52, l_53, l_54, l_55, l_56, l_57, l_58, l_59, l_60, l_61, l_62, l_63, l_64, l_97, l_98, l_99, l_200, l_225, l_232, l_255, l_256, l_700, l_1000, l_1024, l_3375, l_4095, l_8000, l_20000, l_60000, vp_nIs, zz0, zz1, e10, nI_leI, nI_ltI, nI_eq, nI_1, nI_1a, nI_add, nI_sub, nI_sub1, pk_mul, nI_clamp, nI_le1, nI_le1', nI_lt1, nI_lt1', nI_eq1, nI_eqm, m1_eqN, m1_le, m1_lt, m1_leN, m1_ltN, nI_am, not_true_eq_false, not_false_eq_true, oN_eqm, hw]) <;> omega) | fail)) only [↓numW, ↓zb_t, ↓zb_f, ↓zb_tt, ↓zb_ff, ↓zb_i, ↓zb_z0, ↓zb_z1, ↓zb_z, ↓zb_l, ↓zb_v, vi32, vi64, true_and, pk_us, Int32.add_zero, Nat.add_sub_cancel, nI_add, nI_1, nI_1a, nI_clamp, k7, k7', k8, k8', k12, k12', k15, k15', k16, k16', nI_sub1, va_up_self, va_up_ne, ne_eq, reduceCtorEq, Nat.reduceEqDiff, not_false_eq_true, hw]
    refine et_w (eM_seq (c' := (1 ≤ t ∧ w (T 15 m + t - 1) = 0) ∧ t - 1 < T 16 m) (eM_i1 hb hw hm h) z0 (fun μ2 _ f2 g2 => eM_end (eM_push (v := 64 + b (p + 1)) (hb.v f2) hw hm g2 (by rw [l_64, nI_add]) vx) z0 z1) Iff.rfl) (fun r μ' q => q.c ⟨fun z => e1.mpr z.1, fun z => ⟨e1.mp z, by have := e1.mp z; omega⟩⟩ (fun z => by omega) (fun z i hi => ?_))
    rw [e3, show T 15 m + (t - 1) = T 15 m + t - 1 by omega]
  by_cases c32 : b p = 32
  · obtain ⟨e1, e2, e3⟩ := hav.2.2.2.2.2.2.2.2.2.2.2.2.2.2.2.2.2.2.2.2.1 c32
    refine et_x (P2 := fun K => mp_X12_fitsRow_122 K μ (nI m) (nI (b p))) (fun K q => ?_) (et_w (eM_122 (v := 0) hb hw hm h (Or.inl c32) (fun _ => by rw [if_pos c32])) (fun r μ' q => q.c e1.symm (fun _ => e2.symm) (fun _ i _ => by rw [e3])))
    simp (disch := (first | ((try simp (disch := omega) only [va_up_self, va_up_ne, ne_eq, reduceCtorEq, Nat.reduceEqDiff, not_false_eq_true, l_0, l_2, l_3, l_4, l_5, l_6, l_7, l_8, l_9, l_10, l_11, l_12, l_13, l_14, l_15, l_16, l_17, l_18, l_19, l_20, l_21, l_22, l_23, l_24, l_25, l_26, l_27, l_28, l_29, l_30, l_31, l_32, l_33, l_34, l_35, l_36, l_37, l_38, l_39, l_40, l_41, l_42, l_43, l_44, l_45, l_46, l_47, l_48, l_49, l_50, l_51, l_52, l_53, l_54, l_55, l_56, l_57, l_58, l_59, l_60, l_61, l_62, l_63, l_64, l_97, l_98, l_99, l_200, l_225, l_232, l_255, l_256, l_700, l_1000, l_1024, l_3375, l_4095, l_8000, l_20000, l_60000, vp_nIs, zz0, zz1, e10, nI_leI, nI_ltI, nI_eq, nI_1, nI_1a, nI_add, nI_sub, nI_sub1, pk_mul, nI_clamp, nI_le1, nI_le1', nI_lt1, nI_lt1', nI_eq1, nI_eqm, m1_eqN, m1_le, m1_lt, m1_leN, m1_ltN, nI_am, not_true_eq_false, not_false_eq_true, oN_eqm, hw]) <;> omega) | fail)) only [↓numW, ↓zb_t, ↓zb_f, ↓zb_tt, ↓zb_ff, ↓zb_i, ↓zb_z0, ↓zb_z1, ↓zb_z, ↓zb_l, ↓zb_v, vi32, vi64, true_and, pk_us, Int32.add_zero, Nat.add_sub_cancel, nI_add, nI_1, nI_1a, nI_clamp, k7, k7', k8, k8', k12, k12', k15, k15', k16, k16', nI_sub1, va_up_self, va_up_ne, ne_eq, reduceCtorEq, Nat.reduceEqDiff, not_false_eq_true, hw]
    exact q
  by_cases c33 : b p = 33
  · obtain ⟨e1, e2, e3⟩ := hav.2.2.2.2.2.2.2.2.2.2.2.2.2.2.2.2.2.2.2.2.2.1 c33
    have F := eM_seq (c' := (1 ≤ t ∧ w (T 15 m + t - 1) = 0) ∧ (1 ≤ t - 1 ∧ 64 ≤ w (T 15 m + (t - 1) - 1) ∧ w (T 15 m + (t - 1) - 1) ≤ 97)) (F := fun K σ => mp_X12_fitsRow_131 K σ (nI m) (nI (b p)) (-1)) (G := fun K σ => mp_X12_fitsRow_122 K σ (nI m) (nI (b p))) (eM_i1 hb hw hm h) (fun _ _ q => w_131 q) (fun μ2 _ f2 g2 => eM_122 (v := if w (T 15 m + (t - 1) - 1) = 97 then 97 else w (T 15 m + (t - 1) - 1) - 64) (hb.v f2) hw hm g2 (Or.inr c33) (fun _ => by rw [if_neg (show ¬ b p = 32 by omega)])) Iff.rfl
    refine et_x (fun K q => ?_) (et_w F (fun r μ' q => q.c ⟨fun z => e1.mpr ?_, fun z => ?_⟩ (fun z => e2.symm) (fun z i hi => ?_)))
    · simp (disch := (first | ((try simp (disch := omega) only [va_up_self, va_up_ne, ne_eq, reduceCtorEq, Nat.reduceEqDiff, not_false_eq_true, l_0, l_2, l_3, l_4, l_5, l_6, l_7, l_8, l_9, l_10, l_11, l_12, l_13, l_14, l_15, l_16, l_17, l_18, l_19, l_20, l_21, l_22, l_23, l_24, l_25, l_26, l_27, l_28, l_29, l_30, l_31, l_32, l_33, l_34, l_35, l_36, l_37, l_38, l_39, l_40, l_41, l_42, l_43, l_44, l_45, l_46, l_47, l_48, l_49, l_50, l_51, l_52, l_53, l_54, l_55, l_56, l_57, l_58, l_59, l_60, l_61, l_62, l_63, l_64, l_97, l_98, l_99, l_200, l_225, l_232, l_255, l_256, l_700, l_1000, l_1024, l_3375, l_4095, l_8000, l_20000, l_60000, vp_nIs, zz0, zz1, e10, nI_leI, nI_ltI, nI_eq, nI_1, nI_1a, nI_add, nI_sub, nI_sub1, pk_mul, nI_clamp, nI_le1, nI_le1', nI_lt1, nI_lt1', nI_eq1, nI_eqm, m1_eqN, m1_le, m1_lt, m1_leN, m1_ltN, nI_am, not_true_eq_false, not_false_eq_true, oN_eqm, hw]) <;> omega) | fail)) only [↓numW, ↓zb_t, ↓zb_f, ↓zb_tt, ↓zb_ff, ↓zb_i, ↓zb_z0, ↓zb_z1, ↓zb_z, ↓zb_l, ↓zb_v, vi32, vi64, true_and, pk_us, Int32.add_zero, Nat.add_sub_cancel, nI_add, nI_1, nI_1a, nI_clamp, k7, k7', k8, k8', k12, k12', k15, k15', k16, k16', nI_sub1, va_up_self, va_up_ne, ne_eq, reduceCtorEq, Nat.reduceEqDiff, not_false_eq_true, hw]
      exact q
    · have h2 := z.2
      rw [e12 (by omega)] at h2
      exact ⟨by omega, z.1.2, h2.2⟩
    · obtain ⟨h1, h2, h3⟩ := e1.mp z
      rw [← e12 (by omega)] at h3
      exact ⟨⟨by omega, h2⟩, by omega, h3⟩
    · rw [e3, e12 (by omega)]
  have c34 : b p = 34 := by omega
  obtain ⟨e1, e2, e3⟩ := hav.2.2.2.2.2.2.2.2.2.2.2.2.2.2.2.2.2.2.2.2.2.2.1 c34
  refine et_x (fun K q => ?_) (?_ : et (fun K => mp_X12_pop μ (nI m) (fun r29 σ28 => ((r29 = (-1) → (mp_X12_fitsRow_69 K σ28 r29)) ∧ (¬ r29 = (-1) → (mp_X12_popInts σ28 (nI m) 1 (fun r32 σ31 => ((r32 = 0 → (mp_X12_fitsRow_69 K σ31 r29)) ∧ (¬ r32 = 0 → (mp_X12_pop σ31 (nI m) (fun r35 σ34 => mp_X12_fitsRow_70 K σ34 r29 r35)))))))))) _)
  · simp (disch := (first | ((try simp (disch := omega) only [va_up_self, va_up_ne, ne_eq, reduceCtorEq, Nat.reduceEqDiff, not_false_eq_true, l_0, l_2, l_3, l_4, l_5, l_6, l_7, l_8, l_9, l_10, l_11, l_12, l_13, l_14, l_15, l_16, l_17, l_18, l_19, l_20, l_21, l_22, l_23, l_24, l_25, l_26, l_27, l_28, l_29, l_30, l_31, l_32, l_33, l_34, l_35, l_36, l_37, l_38, l_39, l_40, l_41, l_42, l_43, l_44, l_45, l_46, l_47, l_48, l_49, l_50, l_51, l_52, l_53, l_54, l_55, l_56, l_57, l_58, l_59, l_60, l_61, l_62, l_63, l_64, l_97, l_98, l_99, l_200, l_225, l_232, l_255, l_256, l_700, l_1000, l_1024, l_3375, l_4095, l_8000, l_20000, l_60000, vp_nIs, zz0, zz1, e10, nI_leI, nI_ltI, nI_eq, nI_1, nI_1a, nI_add, nI_sub, nI_sub1, pk_mul, nI_clamp, nI_le1, nI_le1', nI_lt1, nI_lt1', nI_eq1, nI_eqm, m1_eqN, m1_le, m1_lt, m1_leN, m1_ltN, nI_am, not_true_eq_false, not_false_eq_true, oN_eqm, hw]) <;> omega) | fail)) only [↓numW, ↓zb_t, ↓zb_f, ↓zb_tt, ↓zb_ff, ↓zb_i, ↓zb_z0, ↓zb_z1, ↓zb_z, ↓zb_l, ↓zb_v, vi32, vi64, true_and, pk_us, Int32.add_zero, Nat.add_sub_cancel, nI_add, nI_1, nI_1a, nI_clamp, k7, k7', k8, k8', k12, k12', k15, k15', k16, k16', nI_sub1, va_up_self, va_up_ne, ne_eq, reduceCtorEq, Nat.reduceEqDiff, not_false_eq_true, hw]
    exact q
  refine et_b (eM_pop hb hw hm h) (fun r μ1 q => ?_)
  obtain ⟨f, q⟩ := q
  rcases q with ⟨q1, q2, q3, q4⟩ | ⟨q1, q2⟩
  · have hlt := (hv (T 15 m + t - 1) (by omega)).1
    have ne : ¬ r = -1 := by rw [q2]; exact nI_m1 (by omega)
    refine et_x (fun K z => ⟨fun y => absurd y ne, fun _ => z⟩) ?_
    refine et_w (eM_seq (c' := (1 ≤ t - 1 ∧ w (T 15 m + (t - 1) - 1) = 0) ∧ (1 ≤ t - 1 - 1 ∧ (64 ≤ w (T 15 m + (t - 1 - 1) - 1) ∧ w (T 15 m + (t - 1 - 1) - 1) ≤ 97) ∧ (w (T 15 m + (t - 1 - 1) - 1) = 97 ∨ goesT T (w (T 15 m + t - 1)) (w (T 15 m + (t - 1 - 1) - 1) - 64)))) (t' := t - 1 - 1 - 1) (w' := w) (eM_i1 (hb.v f) hw hm q4) (fun _ _ q => w_69 q) (fun μ2 _ f2 g2 => ?_) Iff.rfl) (fun r μ' z => ?_)
    · refine et_b (eM_pop (hb.v (f.t f2)) hw hm g2) (fun r2 μ3 z => ?_)
      obtain ⟨f3, z⟩ := z
      rcases z with ⟨y1, y2, y3, y4⟩ | ⟨y1, y2⟩
      · have hlt3 := (hv (T 15 m + (t - 1 - 1) - 1) (by omega)).1
        rw [y2]
        unfold mp_X12_fitsRow_70 mp_X12_fitsRow_101 mp_X12_fitsRow_105 mp_X12_fitsRow_106 mp_X12_isRow mp_X12_isRow_16 mp_X12_isRow_17
        by_cases d1 : w (T 15 m + (t - 1 - 1) - 1) = 97
        · refine et_x (P2 := fun K => K 1 μ3) (fun K q => ⟨fun _ => ⟨sm_z1, q⟩, fun z => absurd (by rw [d1]; rfl) z⟩) (et_e ⟨f3, Or.inl ⟨⟨y1, by omega, Or.inl d1⟩, rfl, y4⟩⟩)
        · by_cases d2 : 64 ≤ w (T 15 m + (t - 1 - 1) - 1) ∧ w (T 15 m + (t - 1 - 1) - 1) ≤ 96
          · have hb3 := hb.v ((f.t f2).t f3)
            have vr : vt T (w (T 15 m + (t - 1 - 1) - 1) - 64) := Or.inl (by unfold vt at y3; omega)
            by_cases d3 : goesT T (w (T 15 m + t - 1)) (w (T 15 m + (t - 1 - 1) - 1) - 64)
            · refine et_x (P2 := fun K => K 1 μ3) (fun K q => ?_) (et_e ⟨f3, Or.inl ⟨⟨y1, by omega, Or.inr d3⟩, rfl, y4⟩⟩)
              simp (disch := (first | ((try simp (disch := omega) only [va_up_self, va_up_ne, ne_eq, reduceCtorEq, Nat.reduceEqDiff, not_false_eq_true, l_0, l_2, l_3, l_4, l_5, l_6, l_7, l_8, l_9, l_10, l_11, l_12, l_13, l_14, l_15, l_16, l_17, l_18, l_19, l_20, l_21, l_22, l_23, l_24, l_25, l_26, l_27, l_28, l_29, l_30, l_31, l_32, l_33, l_34, l_35, l_36, l_37, l_38, l_39, l_40, l_41, l_42, l_43, l_44, l_45, l_46, l_47, l_48, l_49, l_50, l_51, l_52, l_53, l_54, l_55, l_56, l_57, l_58, l_59, l_60, l_61, l_62, l_63, l_64, l_97, l_98, l_99, l_200, l_225, l_232, l_255, l_256, l_700, l_1000, l_1024, l_3375, l_4095, l_8000, l_20000, l_60000, vp_nIs, zz0, zz1, e10, nI_leI, nI_ltI, nI_eq, nI_1, nI_1a, nI_add, nI_sub, nI_sub1, pk_mul, nI_clamp, nI_le1, nI_le1', nI_lt1, nI_lt1', nI_eq1, nI_eqm, m1_eqN, m1_le, m1_lt, m1_leN, m1_ltN, nI_am, not_true_eq_false, not_false_eq_true, oN_eqm, l_96]) <;> omega) | fail)) only [↓numW, ↓zb_t, ↓zb_f, ↓zb_tt, ↓zb_ff, ↓zb_i, ↓zb_z0, ↓zb_z1, ↓zb_z, ↓zb_l, ↓zb_v, vi32, vi64, true_and, pk_us, Int32.add_zero, Nat.add_sub_cancel, nI_add, nI_1, nI_1a, nI_clamp, k7, k7', k8, k8', k12, k12', k15, k15', k16, k16', nI_sub1, va_up_self, va_up_ne, ne_eq, reduceCtorEq, Nat.reduceEqDiff, not_false_eq_true, l_96]
              rw [q2, l_64, nI_sub d2.1]
              exact w_goes hb3.1 hw hb3.2.1 q3 vr (by omega) (fun _ => ⟨fun z => absurd z (by decide), fun _ => q⟩) (fun z => absurd d3 z)
            · refine et_x (P2 := fun K => K 0 μ3) (fun K q => ?_) (et_e ⟨f3, Or.inr ⟨fun z => z.2.2.elim d1 d3, rfl⟩⟩)
              simp (disch := (first | ((try simp (disch := omega) only [va_up_self, va_up_ne, ne_eq, reduceCtorEq, Nat.reduceEqDiff, not_false_eq_true, l_0, l_2, l_3, l_4, l_5, l_6, l_7, l_8, l_9, l_10, l_11, l_12, l_13, l_14, l_15, l_16, l_17, l_18, l_19, l_20, l_21, l_22, l_23, l_24, l_25, l_26, l_27, l_28, l_29, l_30, l_31, l_32, l_33, l_34, l_35, l_36, l_37, l_38, l_39, l_40, l_41, l_42, l_43, l_44, l_45, l_46, l_47, l_48, l_49, l_50, l_51, l_52, l_53, l_54, l_55, l_56, l_57, l_58, l_59, l_60, l_61, l_62, l_63, l_64, l_97, l_98, l_99, l_200, l_225, l_232, l_255, l_256, l_700, l_1000, l_1024, l_3375, l_4095, l_8000, l_20000, l_60000, vp_nIs, zz0, zz1, e10, nI_leI, nI_ltI, nI_eq, nI_1, nI_1a, nI_add, nI_sub, nI_sub1, pk_mul, nI_clamp, nI_le1, nI_le1', nI_lt1, nI_lt1', nI_eq1, nI_eqm, m1_eqN, m1_le, m1_lt, m1_leN, m1_ltN, nI_am, not_true_eq_false, not_false_eq_true, oN_eqm, l_96]) <;> omega) | fail)) only [↓numW, ↓zb_t, ↓zb_f, ↓zb_tt, ↓zb_ff, ↓zb_i, ↓zb_z0, ↓zb_z1, ↓zb_z, ↓zb_l, ↓zb_v, vi32, vi64, true_and, pk_us, Int32.add_zero, Nat.add_sub_cancel, nI_add, nI_1, nI_1a, nI_clamp, k7, k7', k8, k8', k12, k12', k15, k15', k16, k16', nI_sub1, va_up_self, va_up_ne, ne_eq, reduceCtorEq, Nat.reduceEqDiff, not_false_eq_true, l_96]
              rw [q2, l_64, nI_sub d2.1]
              exact w_goes hb3.1 hw hb3.2.1 q3 vr (by omega) (fun z => absurd z d3) (fun _ => ⟨fun _ => q, fun z => absurd rfl z⟩)
          · refine et_x (P2 := fun K => K 0 μ3) (fun K q => ?_) (et_e ⟨f3, Or.inr ⟨fun z => by omega, rfl⟩⟩)
            by_cases d3 : w (T 15 m + (t - 1 - 1) - 1) < 64
            · simp (disch := (first | ((try simp (disch := omega) only [va_up_self, va_up_ne, ne_eq, reduceCtorEq, Nat.reduceEqDiff, not_false_eq_true, l_0, l_2, l_3, l_4, l_5, l_6, l_7, l_8, l_9, l_10, l_11, l_12, l_13, l_14, l_15, l_16, l_17, l_18, l_19, l_20, l_21, l_22, l_23, l_24, l_25, l_26, l_27, l_28, l_29, l_30, l_31, l_32, l_33, l_34, l_35, l_36, l_37, l_38, l_39, l_40, l_41, l_42, l_43, l_44, l_45, l_46, l_47, l_48, l_49, l_50, l_51, l_52, l_53, l_54, l_55, l_56, l_57, l_58, l_59, l_60, l_61, l_62, l_63, l_64, l_97, l_98, l_99, l_200, l_225, l_232, l_255, l_256, l_700, l_1000, l_1024, l_3375, l_4095, l_8000, l_20000, l_60000, vp_nIs, zz0, zz1, e10, nI_leI, nI_ltI, nI_eq, nI_1, nI_1a, nI_add, nI_sub, nI_sub1, pk_mul, nI_clamp, nI_le1, nI_le1', nI_lt1, nI_lt1', nI_eq1, nI_eqm, m1_eqN, m1_le, m1_lt, m1_leN, m1_ltN, nI_am, not_true_eq_false, not_false_eq_true, oN_eqm, hw]) <;> omega) | fail)) only [↓numW, ↓zb_t, ↓zb_f, ↓zb_tt, ↓zb_ff, ↓zb_i, ↓zb_z0, ↓zb_z1, ↓zb_z, ↓zb_l, ↓zb_v, vi32, vi64, true_and, pk_us, Int32.add_zero, Nat.add_sub_cancel, nI_add, nI_1, nI_1a, nI_clamp, k7, k7', k8, k8', k12, k12', k15, k15', k16, k16', nI_sub1, va_up_self, va_up_ne, ne_eq, reduceCtorEq, Nat.reduceEqDiff, not_false_eq_true, hw]
              exact q
            · simp (disch := (first | ((try simp (disch := omega) only [va_up_self, va_up_ne, ne_eq, reduceCtorEq, Nat.reduceEqDiff, not_false_eq_true, l_0, l_2, l_3, l_4, l_5, l_6, l_7, l_8, l_9, l_10, l_11, l_12, l_13, l_14, l_15, l_16, l_17, l_18, l_19, l_20, l_21, l_22, l_23, l_24, l_25, l_26, l_27, l_28, l_29, l_30, l_31, l_32, l_33, l_34, l_35, l_36, l_37, l_38, l_39, l_40, l_41, l_42, l_43, l_44, l_45, l_46, l_47, l_48, l_49, l_50, l_51, l_52, l_53, l_54, l_55, l_56, l_57, l_58, l_59, l_60, l_61, l_62, l_63, l_64, l_97, l_98, l_99, l_200, l_225, l_232, l_255, l_256, l_700, l_1000, l_1024, l_3375, l_4095, l_8000, l_20000, l_60000, vp_nIs, zz0, zz1, e10, nI_leI, nI_ltI, nI_eq, nI_1, nI_1a, nI_add, nI_sub, nI_sub1, pk_mul, nI_clamp, nI_le1, nI_le1', nI_lt1, nI_lt1', nI_eq1, nI_eqm, m1_eqN, m1_le, m1_lt, m1_leN, m1_ltN, nI_am, not_true_eq_false, not_false_eq_true, oN_eqm, l_96]) <;> omega) | fail)) only [↓numW, ↓zb_t, ↓zb_f, ↓zb_tt, ↓zb_ff, ↓zb_i, ↓zb_z0, ↓zb_z1, ↓zb_z, ↓zb_l, ↓zb_v, vi32, vi64, true_and, pk_us, Int32.add_zero, Nat.add_sub_cancel, nI_add, nI_1, nI_1a, nI_clamp, k7, k7', k8, k8', k12, k12', k15, k15', k16, k16', nI_sub1, va_up_self, va_up_ne, ne_eq, reduceCtorEq, Nat.reduceEqDiff, not_false_eq_true, l_96]
              exact q
      · refine et_x (P2 := fun K => K 0 μ3) (fun K q => ?_) (et_e ⟨f3, Or.inr ⟨fun z => by omega, rfl⟩⟩)
        rw [y2]
        exact w_69 q
    · refine rM.c (μ := μ) ⟨f.t z.1, z.2⟩ ⟨fun y => e1.mpr ?_, fun y => ?_⟩ (fun y => by omega) (fun _ i _ => by rw [e3])
      · have hy := y.2
        have hy1 := y.1.2
        rw [show T 15 m + (t - 1 - 1) - 1 = T 15 m + t - 3 by omega] at hy
        rw [e12 (by omega)] at hy1
        exact ⟨by omega, hy1, hy.2⟩
      · obtain ⟨h1, h2, h3, h4⟩ := e1.mp y
        rw [show T 15 m + (t - 1 - 1) - 1 = T 15 m + t - 3 by omega, e12 (by omega)]
        exact ⟨⟨by omega, h2⟩, by omega, h3, h4⟩
  · refine et_x (P2 := fun K => K 0 μ1) (fun K z => ⟨fun _ => w_69 z, fun y => absurd q2 y⟩) (et_e ⟨f, Or.inr ⟨fun y => by have := (e1.mp y).1; omega, rfl⟩⟩)
