/-! ===== one look, both sides ===== -/
/-- what a look leaves: tables went up, the measure did not, and p stands well unless it is marked again; or both found the same bad place -/
def lkR (σ0 μ0 : sm_S) (T : Nat → Nat → Nat) (b : Nat → Nat) (m p : Nat) (h0 ty0 mk0 : Nat → Nat) (_ : Int32) (σ' : sm_S) (r' : Int32) (μ' : sm_S) : Prop := (r' = 1 ∧ fr IVX (AVX T m) σ0 σ' ∧ fr IVM (AVM T m) μ0 μ' ∧ ∃ l0 h ty mk, vst σ' μ' T b m l0 h ty mk ∧ tup T m h0 ty0 mk0 h ty mk ∧ PHN T m h ty mk ≤ PHN T m h0 ty0 mk0 ∧ (mk p = 0 → stb T b m p h ty)) ∨ (r' = 0 ∧ fr IVX AVx σ0 σ' ∧ fr IVM AVm μ0 μ' ∧ ∃ x, x < 8000 ∧ σ'.1 34 = nI x ∧ μ'.1 10 = nI x)
theorem w_jp {σ : sm_S} {T : Nat → Nat → Nat} {b : Nat → Nat} {m p : Nat} {K : jk} (h : imX σ T b) (hw : wf T b) (hm : m < T 0 1) (hp : inC T m p) (h1 : (19 ≤ b p ∧ b p ≤ 25) → K (nI (jpl b p)) σ) (h0 : ¬ (19 ≤ b p ∧ b p ≤ 25) → K (-1) σ) : mp_X2_jumpPlace σ (nI p) K := by
  have w5 := hw.2.2.2.2.1
  obtain ⟨-, -, -, -, -, -, h12, y8, y9, y10, y11, y12, -⟩ := hw.2.2.2.2.2.2.2.2.1 m hm
  have hbt : ∀ j, b j < 256 := h.1.2.2.2.2.1
  have hb := hbt p
  obtain ⟨pa, pb⟩ := hp
  unfold mp_X2_jumpPlace mp_X2_jumpPlace_18 mp_X2_jumpPlace_32 mp_X2_jumpPlace_41
  refine w_at h.1 (by omega) (fun _ => ?_) (fun z => absurd z (by omega))
  by_cases c : 19 ≤ b p ∧ b p ≤ 25
  · have q := h1 c
    unfold jpl at q
    by_cases c1 : b p = 19 ∨ b p = 20
    · rw [if_pos c1] at q
      by_cases c2 : b p = 19
      · simp (disch := (first | ((try simp (disch := omega) only [va_up_self, va_up_ne, ne_eq, reduceCtorEq, Nat.reduceEqDiff, not_false_eq_true, l_0, l_2, l_3, l_4, l_5, l_6, l_7, l_8, l_9, l_10, l_11, l_12, l_13, l_14, l_15, l_16, l_17, l_18, l_19, l_20, l_21, l_22, l_23, l_24, l_25, l_26, l_27, l_28, l_29, l_30, l_31, l_32, l_33, l_34, l_35, l_36, l_37, l_38, l_39, l_40, l_41, l_42, l_43, l_44, l_45, l_46, l_47, l_48, l_49, l_50, l_51, l_52, l_53, l_54, l_55, l_56, l_57, l_58, l_59, l_60, l_61, l_62, l_63, l_64, l_97, l_98, l_99, l_200, l_225, l_232, l_255, l_256, l_700, l_1000, l_1024, l_3375, l_4095, l_8000, l_20000, l_60000, vp_nIs, zz0, zz1, e10, nI_leI, nI_ltI, nI_eq, nI_1, nI_1a, nI_add, nI_sub, nI_sub1, pk_mul, nI_clamp, nI_le1, nI_le1', nI_lt1, nI_lt1', nI_eq1, nI_eqm, m1_eqN, m1_le, m1_lt, m1_leN, m1_ltN, nI_am, not_true_eq_false, not_false_eq_true, oN_eqm, k_p2]) <;> omega) | fail)) only [↓numW, ↓zb_t, ↓zb_f, ↓zb_tt, ↓zb_ff, ↓zb_i, ↓zb_z0, ↓zb_z1, ↓zb_z, ↓zb_l, ↓zb_v, vi32, vi64, true_and, pk_us, Int32.add_zero, Nat.add_sub_cancel, nI_add, nI_1, nI_1a, nI_clamp, k7, k7', k8, k8', k12, k12', k15, k15', k16, k16', nI_sub1, va_up_self, va_up_ne, ne_eq, reduceCtorEq, Nat.reduceEqDiff, not_false_eq_true, k_p2]
        exact q
      · simp (disch := (first | ((try simp (disch := omega) only [va_up_self, va_up_ne, ne_eq, reduceCtorEq, Nat.reduceEqDiff, not_false_eq_true, l_0, l_2, l_3, l_4, l_5, l_6, l_7, l_8, l_9, l_10, l_11, l_12, l_13, l_14, l_15, l_16, l_17, l_18, l_19, l_20, l_21, l_22, l_23, l_24, l_25, l_26, l_27, l_28, l_29, l_30, l_31, l_32, l_33, l_34, l_35, l_36, l_37, l_38, l_39, l_40, l_41, l_42, l_43, l_44, l_45, l_46, l_47, l_48, l_49, l_50, l_51, l_52, l_53, l_54, l_55, l_56, l_57, l_58, l_59, l_60, l_61, l_62, l_63, l_64, l_97, l_98, l_99, l_200, l_225, l_232, l_255, l_256, l_700, l_1000, l_1024, l_3375, l_4095, l_8000, l_20000, l_60000, vp_nIs, zz0, zz1, e10, nI_leI, nI_ltI, nI_eq, nI_1, nI_1a, nI_add, nI_sub, nI_sub1, pk_mul, nI_clamp, nI_le1, nI_le1', nI_lt1, nI_lt1', nI_eq1, nI_eqm, m1_eqN, m1_le, m1_lt, m1_leN, m1_ltN, nI_am, not_true_eq_false, not_false_eq_true, oN_eqm, k_p2]) <;> omega) | fail)) only [↓numW, ↓zb_t, ↓zb_f, ↓zb_tt, ↓zb_ff, ↓zb_i, ↓zb_z0, ↓zb_z1, ↓zb_z, ↓zb_l, ↓zb_v, vi32, vi64, true_and, pk_us, Int32.add_zero, Nat.add_sub_cancel, nI_add, nI_1, nI_1a, nI_clamp, k7, k7', k8, k8', k12, k12', k15, k15', k16, k16', nI_sub1, va_up_self, va_up_ne, ne_eq, reduceCtorEq, Nat.reduceEqDiff, not_false_eq_true, k_p2]
        exact q
    · rw [if_neg c1] at q
      simp (disch := (first | ((try simp (disch := omega) only [va_up_self, va_up_ne, ne_eq, reduceCtorEq, Nat.reduceEqDiff, not_false_eq_true, l_0, l_2, l_3, l_4, l_5, l_6, l_7, l_8, l_9, l_10, l_11, l_12, l_13, l_14, l_15, l_16, l_17, l_18, l_19, l_20, l_21, l_22, l_23, l_24, l_25, l_26, l_27, l_28, l_29, l_30, l_31, l_32, l_33, l_34, l_35, l_36, l_37, l_38, l_39, l_40, l_41, l_42, l_43, l_44, l_45, l_46, l_47, l_48, l_49, l_50, l_51, l_52, l_53, l_54, l_55, l_56, l_57, l_58, l_59, l_60, l_61, l_62, l_63, l_64, l_97, l_98, l_99, l_200, l_225, l_232, l_255, l_256, l_700, l_1000, l_1024, l_3375, l_4095, l_8000, l_20000, l_60000, vp_nIs, zz0, zz1, e10, nI_leI, nI_ltI, nI_eq, nI_1, nI_1a, nI_add, nI_sub, nI_sub1, pk_mul, nI_clamp, nI_le1, nI_le1', nI_lt1, nI_lt1', nI_eq1, nI_eqm, m1_eqN, m1_le, m1_lt, m1_leN, m1_ltN, nI_am, not_true_eq_false, not_false_eq_true, oN_eqm, k_p2]) <;> omega) | fail)) only [↓numW, ↓zb_t, ↓zb_f, ↓zb_tt, ↓zb_ff, ↓zb_i, ↓zb_z0, ↓zb_z1, ↓zb_z, ↓zb_l, ↓zb_v, vi32, vi64, true_and, pk_us, Int32.add_zero, Nat.add_sub_cancel, nI_add, nI_1, nI_1a, nI_clamp, k7, k7', k8, k8', k12, k12', k15, k15', k16, k16', nI_sub1, va_up_self, va_up_ne, ne_eq, reduceCtorEq, Nat.reduceEqDiff, not_false_eq_true, k_p2]
      exact q
  · have q := h0 c
    by_cases c1 : b p < 19
    · simp (disch := (first | ((try simp (disch := omega) only [va_up_self, va_up_ne, ne_eq, reduceCtorEq, Nat.reduceEqDiff, not_false_eq_true, l_0, l_2, l_3, l_4, l_5, l_6, l_7, l_8, l_9, l_10, l_11, l_12, l_13, l_14, l_15, l_16, l_17, l_18, l_19, l_20, l_21, l_22, l_23, l_24, l_25, l_26, l_27, l_28, l_29, l_30, l_31, l_32, l_33, l_34, l_35, l_36, l_37, l_38, l_39, l_40, l_41, l_42, l_43, l_44, l_45, l_46, l_47, l_48, l_49, l_50, l_51, l_52, l_53, l_54, l_55, l_56, l_57, l_58, l_59, l_60, l_61, l_62, l_63, l_64, l_97, l_98, l_99, l_200, l_225, l_232, l_255, l_256, l_700, l_1000, l_1024, l_3375, l_4095, l_8000, l_20000, l_60000, vp_nIs, zz0, zz1, e10, nI_leI, nI_ltI, nI_eq, nI_1, nI_1a, nI_add, nI_sub, nI_sub1, pk_mul, nI_clamp, nI_le1, nI_le1', nI_lt1, nI_lt1', nI_eq1, nI_eqm, m1_eqN, m1_le, m1_lt, m1_leN, m1_ltN, nI_am, not_true_eq_false, not_false_eq_true, oN_eqm, k_p2]) <;> omega) | fail)) only [↓numW, ↓zb_t, ↓zb_f, ↓zb_tt, ↓zb_ff, ↓zb_i, ↓zb_z0, ↓zb_z1, ↓zb_z, ↓zb_l, ↓zb_v, vi32, vi64, true_and, pk_us, Int32.add_zero, Nat.add_sub_cancel, nI_add, nI_1, nI_1a, nI_clamp, k7, k7', k8, k8', k12, k12', k15, k15', k16, k16', nI_sub1, va_up_self, va_up_ne, ne_eq, reduceCtorEq, Nat.reduceEqDiff, not_false_eq_true, k_p2]
      exact q
    · simp (disch := (first | ((try simp (disch := omega) only [va_up_self, va_up_ne, ne_eq, reduceCtorEq, Nat.reduceEqDiff, not_false_eq_true, l_0, l_2, l_3, l_4, l_5, l_6, l_7, l_8, l_9, l_10, l_11, l_12, l_13, l_14, l_15, l_16, l_17, l_18, l_19, l_20, l_21, l_22, l_23, l_24, l_25, l_26, l_27, l_28, l_29, l_30, l_31, l_32, l_33, l_34, l_35, l_36, l_37, l_38, l_39, l_40, l_41, l_42, l_43, l_44, l_45, l_46, l_47, l_48, l_49, l_50, l_51, l_52, l_53, l_54, l_55, l_56, l_57, l_58, l_59, l_60, l_61, l_62, l_63, l_64, l_97, l_98, l_99, l_200, l_225, l_232, l_255, l_256, l_700, l_1000, l_1024, l_3375, l_4095, l_8000, l_20000, l_60000, vp_nIs, zz0, zz1, e10, nI_leI, nI_ltI, nI_eq, nI_1, nI_1a, nI_add, nI_sub, nI_sub1, pk_mul, nI_clamp, nI_le1, nI_le1', nI_lt1, nI_lt1', nI_eq1, nI_eqm, m1_eqN, m1_le, m1_lt, m1_leN, m1_ltN, nI_am, not_true_eq_false, not_false_eq_true, oN_eqm, k_p2]) <;> omega) | fail)) only [↓numW, ↓zb_t, ↓zb_f, ↓zb_tt, ↓zb_ff, ↓zb_i, ↓zb_z0, ↓zb_z1, ↓zb_z, ↓zb_l, ↓zb_v, vi32, vi64, true_and, pk_us, Int32.add_zero, Nat.add_sub_cancel, nI_add, nI_1, nI_1a, nI_clamp, k7, k7', k8, k8', k12, k12', k15, k15', k16, k16', nI_sub1, va_up_self, va_up_ne, ne_eq, reduceCtorEq, Nat.reduceEqDiff, not_false_eq_true, k_p2]
      exact q
theorem w_jo {μ : sm_S} {T : Nat → Nat → Nat} {b : Nat → Nat} {m p : Nat} {K : jk} (h : imM μ T b) (hw : wf T b) (hm : m < T 0 1) (hp : inC T m p) (hj : 19 ≤ b p ∧ b p ≤ 25) (h2 : jpl b p + 1 < T 0 4) (h1 : K (nI (pr b (jpl b p))) μ) : mp_X12_jumpOf μ (nI p) K := by
  have w5 := hw.2.2.2.2.1
  obtain ⟨-, -, -, -, -, -, h12, y8, y9, y10, y11, y12, -⟩ := hw.2.2.2.2.2.2.2.2.1 m hm
  obtain ⟨pa, pb⟩ := hp
  have l3 := h.1.2.2.1
  have u3 := h.1.2.2.2.2 p (by omega)
  unfold mp_X12_jumpOf mp_X12_jumpOf_27
  unfold jpl at h1 h2
  by_cases c1 : b p = 19 ∨ b p = 20
  · rw [if_pos c1] at h1 h2
    simp (disch := (first | ((try simp (disch := omega) only [va_up_self, va_up_ne, ne_eq, reduceCtorEq, Nat.reduceEqDiff, not_false_eq_true, l_0, l_2, l_3, l_4, l_5, l_6, l_7, l_8, l_9, l_10, l_11, l_12, l_13, l_14, l_15, l_16, l_17, l_18, l_19, l_20, l_21, l_22, l_23, l_24, l_25, l_26, l_27, l_28, l_29, l_30, l_31, l_32, l_33, l_34, l_35, l_36, l_37, l_38, l_39, l_40, l_41, l_42, l_43, l_44, l_45, l_46, l_47, l_48, l_49, l_50, l_51, l_52, l_53, l_54, l_55, l_56, l_57, l_58, l_59, l_60, l_61, l_62, l_63, l_64, l_97, l_98, l_99, l_200, l_225, l_232, l_255, l_256, l_700, l_1000, l_1024, l_3375, l_4095, l_8000, l_20000, l_60000, vp_nIs, zz0, zz1, e10, nI_leI, nI_ltI, nI_eq, nI_1, nI_1a, nI_add, nI_sub, nI_sub1, pk_mul, nI_clamp, nI_le1, nI_le1', nI_lt1, nI_lt1', nI_eq1, nI_eqm, m1_eqN, m1_le, m1_lt, m1_leN, m1_ltN, nI_am, not_true_eq_false, not_false_eq_true, oN_eqm, l3, u3, k_p2]) <;> omega) | fail)) only [↓numW, ↓zb_t, ↓zb_f, ↓zb_tt, ↓zb_ff, ↓zb_i, ↓zb_z0, ↓zb_z1, ↓zb_z, ↓zb_l, ↓zb_v, vi32, vi64, true_and, pk_us, Int32.add_zero, Nat.add_sub_cancel, nI_add, nI_1, nI_1a, nI_clamp, k7, k7', k8, k8', k12, k12', k15, k15', k16, k16', nI_sub1, va_up_self, va_up_ne, ne_eq, reduceCtorEq, Nat.reduceEqDiff, not_false_eq_true, l3, u3, k_p2]
    exact w_twoP h.1 h2 h1
  · rw [if_neg c1] at h1 h2
    simp (disch := (first | ((try simp (disch := omega) only [va_up_self, va_up_ne, ne_eq, reduceCtorEq, Nat.reduceEqDiff, not_false_eq_true, l_0, l_2, l_3, l_4, l_5, l_6, l_7, l_8, l_9, l_10, l_11, l_12, l_13, l_14, l_15, l_16, l_17, l_18, l_19, l_20, l_21, l_22, l_23, l_24, l_25, l_26, l_27, l_28, l_29, l_30, l_31, l_32, l_33, l_34, l_35, l_36, l_37, l_38, l_39, l_40, l_41, l_42, l_43, l_44, l_45, l_46, l_47, l_48, l_49, l_50, l_51, l_52, l_53, l_54, l_55, l_56, l_57, l_58, l_59, l_60, l_61, l_62, l_63, l_64, l_97, l_98, l_99, l_200, l_225, l_232, l_255, l_256, l_700, l_1000, l_1024, l_3375, l_4095, l_8000, l_20000, l_60000, vp_nIs, zz0, zz1, e10, nI_leI, nI_ltI, nI_eq, nI_1, nI_1a, nI_add, nI_sub, nI_sub1, pk_mul, nI_clamp, nI_le1, nI_le1', nI_lt1, nI_lt1', nI_eq1, nI_eqm, m1_eqN, m1_le, m1_lt, m1_leN, m1_ltN, nI_am, not_true_eq_false, not_false_eq_true, oN_eqm, l3, u3, k_p2]) <;> omega) | fail)) only [↓numW, ↓zb_t, ↓zb_f, ↓zb_tt, ↓zb_ff, ↓zb_i, ↓zb_z0, ↓zb_z1, ↓zb_z, ↓zb_l, ↓zb_v, vi32, vi64, true_and, pk_us, Int32.add_zero, Nat.add_sub_cancel, nI_add, nI_1, nI_1a, nI_clamp, k7, k7', k8, k8', k12, k12', k15, k15', k16, k16', nI_sub1, va_up_self, va_up_ne, ne_eq, reduceCtorEq, Nat.reduceEqDiff, not_false_eq_true, l3, u3, k_p2]
    exact w_twoP h.1 h2 h1
/-- behind the instruction: the jump -/
theorem j_jump {σ μ : sm_S} {T : Nat → Nat → Nat} {b : Nat → Nat} {m p t l0 : Nat} {h ty mk w : Nat → Nat} (hw : wf T b) (hm : m < T 0 1) (lk : lkd T b) (hp : inC T m p) (h4 : T 4 p = 1) (hv : vst σ μ T b m l0 h ty mk) (ht : t ≤ T 16 m) (hx : ∀ i, i < T 15 m + t → σ.2.2.2.1 35 i = nI (w i)) (s29 : σ.1 29 = nI t) (hg : gM μ T m t w) (ok : okw T (T 15 m) t w) :
    jt (fun K => mp_X8_lookAt_139 (fun σ => K 0 σ) σ (nI p)) (fun K => mp_X12_look_266 K μ (nI m) (nI p) (nI (b p))) (fun _ σ' r' μ' => (r' = 1 ∧ fr IVX (AVX T m) σ σ' ∧ fr IVM (AVM T m) μ μ' ∧ ∃ l0' h' ty' mk', vst σ' μ' T b m l0' h' ty' mk' ∧ tup T m h ty mk h' ty' mk' ∧ PHN T m h' ty' mk' ≤ PHN T m h ty mk ∧ ((19 ≤ b p ∧ b p ≤ 25) → arr T m (T 17 m + pr b (jpl b p)) t w h' ty')) ∨ (r' = 0 ∧ fr IVX AVx σ σ' ∧ fr IVM AVm μ μ' ∧ ∃ x, x < 8000 ∧ σ'.1 34 = nI x ∧ μ'.1 10 = nI x)) := by
  have w4 := hw.2.2.2.1
  have w5 := hw.2.2.2.2.1
  have y := hw.2.2.2.2.2.2.2.2.1 m hm
  have h12 := y.2.2.2.2.2.2.1
  have y9 := y.2.2.2.2.2.2.2.2.1
  have y11 := y.2.2.2.2.2.2.2.2.2.2.1
  have y12 := y.2.2.2.2.2.2.2.2.2.2.2.1
  clear y
  have v1 := hv.1
  have v2 := hv.2.1
  have s34 := hv.2.2.2.2.2.2.2.1
  have hLX := v1.1.2.1
  have s30 := v1.2.1
  have r26 := (v1.1.2.2.2.2.2.2.2.2 m hm).2.2.2.2.2.2.1
  have hbt : ∀ j, b j < 256 := v1.1.1.2.2.2.2.1
  have hb0 := hbt p
  have hvw : ∀ i, i < T 15 m + t → vt T (w i) := fun i hi => (ok i hi).1
  obtain ⟨o1, o2, o3⟩ := hw.op hm hp h4
  by_cases c : 19 ≤ b p ∧ b p ≤ 25
  · obtain ⟨ga, gb⟩ := lk.j hm hp h4 c
    have pj := pr_lt hbt (jpl b p)
    have hj2 : jpl b p + 1 < T 0 4 := by
      have := hp.1
      have := hp.2
      unfold jpl
      have hwd : (b p = 19 ∨ b p = 20) ∧ wd (b p) = 4 ∨ ¬ (b p = 19 ∨ b p = 20) ∧ wd (b p) = 3 := by
        unfold wd
        (repeat' split) <;> omega
      split <;> omega
    obtain ⟨rj, σ3, rj', μ3, aj, aj', jr⟩ := j_come (a := pr b (jpl b p)) hw hm rfl ⟨by omega, by omega⟩ gb hv ht hx hg ok
    have aj : ∀ F : sm_S → Prop, F σ3 → mp_X8_come σ (nI (T 17 m + pr b (jpl b p))) (nI t) F := fun F z => aj (fun _ σ => F σ) z
    have goX : ∀ K : jk, K 0 σ3 → mp_X8_lookAt_139 (fun σ => K 0 σ) σ (nI p) := fun K z => by
      unfold mp_X8_lookAt_139 mp_X8_lookAt_193
      refine w_jp v1.1 hw hm hp (fun _ => ?_) (fun z => absurd c z)
      have hjp : jpl b p < 2 ^ 31 := by omega
      simp (disch := (first | ((try simp (disch := omega) only [va_up_self, va_up_ne, ne_eq, reduceCtorEq, Nat.reduceEqDiff, not_false_eq_true, l_0, l_2, l_3, l_4, l_5, l_6, l_7, l_8, l_9, l_10, l_11, l_12, l_13, l_14, l_15, l_16, l_17, l_18, l_19, l_20, l_21, l_22, l_23, l_24, l_25, l_26, l_27, l_28, l_29, l_30, l_31, l_32, l_33, l_34, l_35, l_36, l_37, l_38, l_39, l_40, l_41, l_42, l_43, l_44, l_45, l_46, l_47, l_48, l_49, l_50, l_51, l_52, l_53, l_54, l_55, l_56, l_57, l_58, l_59, l_60, l_61, l_62, l_63, l_64, l_97, l_98, l_99, l_200, l_225, l_232, l_255, l_256, l_700, l_1000, l_1024, l_3375, l_4095, l_8000, l_20000, l_60000, vp_nIs, zz0, zz1, e10, nI_leI, nI_ltI, nI_eq, nI_1, nI_1a, nI_add, nI_sub, nI_sub1, pk_mul, nI_clamp, nI_le1, nI_le1', nI_lt1, nI_lt1', nI_eq1, nI_eqm, m1_eqN, m1_le, m1_lt, m1_leN, m1_ltN, nI_am, not_true_eq_false, not_false_eq_true, oN_eqm, s34, s30, r26, lx26 hLX, ↓zc1, ↓zc2]) <;> omega) | fail)) only [↓numW, ↓zb_t, ↓zb_f, ↓zb_tt, ↓zb_ff, ↓zb_i, ↓zb_z0, ↓zb_z1, ↓zb_z, ↓zb_l, ↓zb_v, vi32, vi64, true_and, pk_us, Int32.add_zero, Nat.add_sub_cancel, nI_add, nI_1, nI_1a, nI_clamp, k7, k7', k8, k8', k12, k12', k15, k15', k16, k16', nI_sub1, va_up_self, va_up_ne, ne_eq, reduceCtorEq, Nat.reduceEqDiff, not_false_eq_true, s34, s30, r26, lx26 hLX, ↓zc1, ↓zc2]
      refine w_pairP v1.1.1 hj2 ?_
      simp (disch := (first | ((try simp (disch := omega) only [va_up_self, va_up_ne, ne_eq, reduceCtorEq, Nat.reduceEqDiff, not_false_eq_true, l_0, l_2, l_3, l_4, l_5, l_6, l_7, l_8, l_9, l_10, l_11, l_12, l_13, l_14, l_15, l_16, l_17, l_18, l_19, l_20, l_21, l_22, l_23, l_24, l_25, l_26, l_27, l_28, l_29, l_30, l_31, l_32, l_33, l_34, l_35, l_36, l_37, l_38, l_39, l_40, l_41, l_42, l_43, l_44, l_45, l_46, l_47, l_48, l_49, l_50, l_51, l_52, l_53, l_54, l_55, l_56, l_57, l_58, l_59, l_60, l_61, l_62, l_63, l_64, l_97, l_98, l_99, l_200, l_225, l_232, l_255, l_256, l_700, l_1000, l_1024, l_3375, l_4095, l_8000, l_20000, l_60000, vp_nIs, zz0, zz1, e10, nI_leI, nI_ltI, nI_eq, nI_1, nI_1a, nI_add, nI_sub, nI_sub1, pk_mul, nI_clamp, nI_le1, nI_le1', nI_lt1, nI_lt1', nI_eq1, nI_eqm, m1_eqN, m1_le, m1_lt, m1_leN, m1_ltN, nI_am, not_true_eq_false, not_false_eq_true, oN_eqm, s29]) <;> omega) | fail)) only [↓numW, ↓zb_t, ↓zb_f, ↓zb_tt, ↓zb_ff, ↓zb_i, ↓zb_z0, ↓zb_z1, ↓zb_z, ↓zb_l, ↓zb_v, vi32, vi64, true_and, pk_us, Int32.add_zero, Nat.add_sub_cancel, nI_add, nI_1, nI_1a, nI_clamp, k7, k7', k8, k8', k12, k12', k15, k15', k16, k16', nI_sub1, va_up_self, va_up_ne, ne_eq, reduceCtorEq, Nat.reduceEqDiff, not_false_eq_true, s29]
      exact aj _ z
    have goM : ∀ K : jk, K rj' μ3 → (rj' = 0 ∨ rj' = 1) → mp_X12_look_266 K μ (nI m) (nI p) (nI (b p)) := fun K z e => by
      unfold mp_X12_look_266 mp_X12_isJump mp_X12_isJump_16 mp_X12_isJump_17 mp_X12_look_287 mp_X12_look_291 mp_X12_look_292
      simp (disch := (first | ((try simp (disch := omega) only [va_up_self, va_up_ne, ne_eq, reduceCtorEq, Nat.reduceEqDiff, not_false_eq_true, l_0, l_2, l_3, l_4, l_5, l_6, l_7, l_8, l_9, l_10, l_11, l_12, l_13, l_14, l_15, l_16, l_17, l_18, l_19, l_20, l_21, l_22, l_23, l_24, l_25, l_26, l_27, l_28, l_29, l_30, l_31, l_32, l_33, l_34, l_35, l_36, l_37, l_38, l_39, l_40, l_41, l_42, l_43, l_44, l_45, l_46, l_47, l_48, l_49, l_50, l_51, l_52, l_53, l_54, l_55, l_56, l_57, l_58, l_59, l_60, l_61, l_62, l_63, l_64, l_97, l_98, l_99, l_200, l_225, l_232, l_255, l_256, l_700, l_1000, l_1024, l_3375, l_4095, l_8000, l_20000, l_60000, vp_nIs, zz0, zz1, e10, nI_leI, nI_ltI, nI_eq, nI_1, nI_1a, nI_add, nI_sub, nI_sub1, pk_mul, nI_clamp, nI_le1, nI_le1', nI_lt1, nI_lt1', nI_eq1, nI_eqm, m1_eqN, m1_le, m1_lt, m1_leN, m1_ltN, nI_am, not_true_eq_false, not_false_eq_true, oN_eqm, hLX]) <;> omega) | fail)) only [↓numW, ↓zb_t, ↓zb_f, ↓zb_tt, ↓zb_ff, ↓zb_i, ↓zb_z0, ↓zb_z1, ↓zb_z, ↓zb_l, ↓zb_v, vi32, vi64, true_and, pk_us, Int32.add_zero, Nat.add_sub_cancel, nI_add, nI_1, nI_1a, nI_clamp, k7, k7', k8, k8', k12, k12', k15, k15', k16, k16', nI_sub1, va_up_self, va_up_ne, ne_eq, reduceCtorEq, Nat.reduceEqDiff, not_false_eq_true, hLX]
      refine w_jo v2.1 hw hm hp c hj2 ?_
      refine aj' _ ?_
      rcases e with e | e
      · rw [e] at z ⊢
        exact ⟨fun _ => z, fun q => absurd rfl q⟩
      · rw [e] at z ⊢
        exact ⟨fun q => absurd q (by decide), fun _ => z⟩
    rcases jr with ⟨e1, e10, f3, g3, l1, h3, ty3, mk3, cc, vv⟩ | ⟨e1, -, f3, g3, e34, e10⟩
    · obtain ⟨c1, c2, c3⟩ := cc.f hw hm ⟨by omega, by omega⟩ gb ht hv.2.2.2.2.2.2.2.2.2 hvw
      have c4 := cc.p hw hm ⟨by omega, by omega⟩ gb ht hv.2.2.2.2.2.2.2.2.2 hvw
      exact ⟨0, σ3, rj', μ3, goX, fun K z => goM K z (Or.inr e1), Or.inl ⟨e1, frX_w f3, frM_w g3, l1, h3, ty3, mk3, vv, c1, c4, fun _ => c2⟩⟩
    · exact ⟨0, σ3, rj', μ3, goX, fun K z => goM K z (Or.inl e1), Or.inr ⟨e1, frX_b f3, frM_b g3, _, by omega, e34, e10⟩⟩
  · refine ⟨0, σ, 1, μ, fun K z => ?_, fun K z => ?_, Or.inl ⟨rfl, fr_r, fr_r, l0, h, ty, mk, hv, tup_r, Nat.le_refl _, fun z => absurd z c⟩⟩
    · unfold mp_X8_lookAt_139 mp_X8_lookAt_193
      refine w_jp v1.1 hw hm hp (fun z => absurd z c) (fun _ => ?_)
      exact ⟨fun _ => z, fun q => absurd rfl q⟩
    · unfold mp_X12_look_266 mp_X12_isJump mp_X12_isJump_16 mp_X12_isJump_17 mp_X12_look_287 mp_X12_look_291 mp_X12_look_292
      by_cases c1 : b p < 19
      · simp (disch := (first | ((try simp (disch := omega) only [va_up_self, va_up_ne, ne_eq, reduceCtorEq, Nat.reduceEqDiff, not_false_eq_true, l_0, l_2, l_3, l_4, l_5, l_6, l_7, l_8, l_9, l_10, l_11, l_12, l_13, l_14, l_15, l_16, l_17, l_18, l_19, l_20, l_21, l_22, l_23, l_24, l_25, l_26, l_27, l_28, l_29, l_30, l_31, l_32, l_33, l_34, l_35, l_36, l_37, l_38, l_39, l_40, l_41, l_42, l_43, l_44, l_45, l_46, l_47, l_48, l_49, l_50, l_51, l_52, l_53, l_54, l_55, l_56, l_57, l_58, l_59, l_60, l_61, l_62, l_63, l_64, l_97, l_98, l_99, l_200, l_225, l_232, l_255, l_256, l_700, l_1000, l_1024, l_3375, l_4095, l_8000, l_20000, l_60000, vp_nIs, zz0, zz1, e10, nI_leI, nI_ltI, nI_eq, nI_1, nI_1a, nI_add, nI_sub, nI_sub1, pk_mul, nI_clamp, nI_le1, nI_le1', nI_lt1, nI_lt1', nI_eq1, nI_eqm, m1_eqN, m1_le, m1_lt, m1_leN, m1_ltN, nI_am, not_true_eq_false, not_false_eq_true, oN_eqm, hLX]) <;> omega) | fail)) only [↓numW, ↓zb_t, ↓zb_f, ↓zb_tt, ↓zb_ff, ↓zb_i, ↓zb_z0, ↓zb_z1, ↓zb_z, ↓zb_l, ↓zb_v, vi32, vi64, true_and, pk_us, Int32.add_zero, Nat.add_sub_cancel, nI_add, nI_1, nI_1a, nI_clamp, k7, k7', k8, k8', k12, k12', k15, k15', k16, k16', nI_sub1, va_up_self, va_up_ne, ne_eq, reduceCtorEq, Nat.reduceEqDiff, not_false_eq_true, hLX]
        exact z
      · simp (disch := (first | ((try simp (disch := omega) only [va_up_self, va_up_ne, ne_eq, reduceCtorEq, Nat.reduceEqDiff, not_false_eq_true, l_0, l_2, l_3, l_4, l_5, l_6, l_7, l_8, l_9, l_10, l_11, l_12, l_13, l_14, l_15, l_16, l_17, l_18, l_19, l_20, l_21, l_22, l_23, l_24, l_25, l_26, l_27, l_28, l_29, l_30, l_31, l_32, l_33, l_34, l_35, l_36, l_37, l_38, l_39, l_40, l_41, l_42, l_43, l_44, l_45, l_46, l_47, l_48, l_49, l_50, l_51, l_52, l_53, l_54, l_55, l_56, l_57, l_58, l_59, l_60, l_61, l_62, l_63, l_64, l_97, l_98, l_99, l_200, l_225, l_232, l_255, l_256, l_700, l_1000, l_1024, l_3375, l_4095, l_8000, l_20000, l_60000, vp_nIs, zz0, zz1, e10, nI_leI, nI_ltI, nI_eq, nI_1, nI_1a, nI_add, nI_sub, nI_sub1, pk_mul, nI_clamp, nI_le1, nI_le1', nI_lt1, nI_lt1', nI_eq1, nI_eqm, m1_eqN, m1_le, m1_lt, m1_leN, m1_ltN, nI_am, not_true_eq_false, not_false_eq_true, oN_eqm, hLX]) <;> omega) | fail)) only [↓numW, ↓zb_t, ↓zb_f, ↓zb_tt, ↓zb_ff, ↓zb_i, ↓zb_z0, ↓zb_z1, ↓zb_z, ↓zb_l, ↓zb_v, vi32, vi64, true_and, pk_us, Int32.add_zero, Nat.add_sub_cancel, nI_add, nI_1, nI_1a, nI_clamp, k7, k7', k8, k8', k12, k12', k15, k15', k16, k16', nI_sub1, va_up_self, va_up_ne, ne_eq, reduceCtorEq, Nat.reduceEqDiff, not_false_eq_true, hLX]
        exact z
/-- p stands well, if it is not marked again -/
theorem lk_end {T : Nat → Nat → Nat} {b : Nat → Nat} {m p : Nat} {h ty mk h3 ty3 mk3 : Nat → Nat} {c : Prop} {t' : Nat} {w' : Nat → Nat} (hw : wf T b) (hm : m < T 0 1) (hp : inC T m p) (hv : tbv T m h ty mk) (hp0 : h p ≠ 0) (hh : mk p = 0 → ∀ j, j < T 19 m → hst T b m p j h ty) (hav : avS T b m p (h p - 1) (fun i => ty (12 * p + i)) c t' w') (hc : c) (u : tup T m h ty mk h3 ty3 mk3) (hn : ¬ (b p = 25 ∨ b p = 37 ∨ b p = 38 ∨ b p = 39) → arr T m (p + wd (b p)) t' w' h3 ty3) (hj : (19 ≤ b p ∧ b p ≤ 25) → arr T m (T 17 m + pr b (jpl b p)) t' w' h3 ty3) (hmk : mk3 p = 0) : stb T b m p h3 ty3 := by
  obtain ⟨u1, u2, u3⟩ := u.2 p hp hmk
  refine ⟨fun k hk => (hh u1 k hk).u hw hm hk hp hp0 hv u hmk, fun i => ty (12 * p + i), fun i hi => (u3 i (by omega)).symm, c, t', w', by rw [u2]; exact hav, hc, hn, hj⟩
