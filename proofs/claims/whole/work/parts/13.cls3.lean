theorem nI_leP {x c : Nat} (hx : x < 2 ^ 31) (hc : c < 2 ^ 31) : nI x ≤ nI c - 1 ↔ x < c := by
  rcases c with _ | c
  · show nI x ≤ oN 0 ↔ _
    rw [oN_0]
    exact ⟨fun q => ((m1_le hx).mp q).elim, fun q => absurd q (by omega)⟩
  · rw [nI_pred, nI_leI hx (by omega)]
    exact ⟨fun q => by omega, fun q => by omega⟩
/-- the byte that names the class above (or the owner): u is 0 for none -/
def upb (b : Nat → Nat) (p c u : Nat) : Prop := (u = 0 ∧ b p = 255) ∨ (u = b p + 1 ∧ b p < c)
theorem w_up {σ : sm_S} {n p c u : Nat} {b : Nat → Nat} (hb : iv_bX σ n b) (hp : p < n) (hat : σ.1 20 = nI p) (hw : σ.1 21 = -1) (hc : c ≤ 64) (hu : upb b p c u) (K : jk) (h : K (nI (b p)) (sm_i σ 20 (nI (p + 1)))) : mp_X6_number σ 0 (nI c - 1) 255 K := by
  have hbp := hb.2.2.2.2.1 p
  refine w_number hb (by omega) hat hw (fun _ _ => h) (fun q => ?_)
  rcases q with q | q
  · omega
  · refine absurd ?_ q
    rcases hu with ⟨_, e⟩ | ⟨_, e⟩
    · exact Or.inr (by rw [e]; rfl)
    · exact Or.inl ⟨nI_pos' (by omega), (nI_leP (by omega) (by omega)).mpr e⟩
theorem w_upF {σ : sm_S} {n p c : Nat} {b : Nat → Nat} (hb : iv_bX σ n b) (hp : p ≤ n) (hat : σ.1 20 = nI p) (hw : σ.1 21 = -1) (hc : c ≤ 64) (hu : ¬ (p < n ∧ ∃ u, upb b p c u)) (K : jk) (h : K 0 (sm_i σ 21 (nI p))) : mp_X6_number σ 0 (nI c - 1) 255 K := by
  have hbp := hb.2.2.2.2.1 p
  refine w_number hb hp hat hw (fun hlt q => absurd ⟨hlt, ?_⟩ hu) (fun _ => h)
  rcases q with ⟨_, q⟩ | q
  · exact ⟨b p + 1, Or.inr ⟨rfl, (nI_leP (by omega) (by omega)).mp q⟩⟩
  · exact ⟨0, Or.inl ⟨rfl, (nI_eq (by omega) (by omega)).mp q⟩⟩
theorem oN_p {x : Nat} (h : 1 ≤ x) : oN x = nI (x - 1) := by
  unfold oN
  exact nI_sub1 h
theorem w_cA {σ : sm_S} {n p c u : Nat} {b : Nat → Nat} (hb : iv_bX σ n b) (hp : p < n) (hat : σ.1 20 = nI p) (hw : σ.1 21 = -1) (hc : c < 32) (hu : upb b p c u) (K : sm_S → Prop) (h : mp_X6_readClass_38 K (sm_i σ 20 (nI (p + 1))) (nI c) (nI c) (oN u)) : mp_X6_readClass σ (nI c) K := by
  unfold mp_X6_readClass
  refine w_up hb hp hat hw (by omega) hu _ ?_
  have hbp := hb.2.2.2.2.1 p
  rcases hu with ⟨e1, e2⟩ | ⟨e1, e2⟩
  · subst e1
    rw [oN_0] at h
    simp (disch := (first | ((try simp (disch := omega) only [va_up_self, va_up_ne, ne_eq, reduceCtorEq, Nat.reduceEqDiff, not_false_eq_true, l_0, l_2, l_3, l_4, l_5, l_6, l_7, l_8, l_9, l_10, l_11, l_12, l_13, l_14, l_15, l_16, l_17, l_18, l_19, l_20, l_21, l_22, l_23, l_24, l_25, l_26, l_27, l_28, l_29, l_30, l_31, l_32, l_33, l_34, l_35, l_36, l_37, l_38, l_39, l_40, l_41, l_42, l_43, l_44, l_45, l_46, l_47, l_48, l_49, l_50, l_51, l_52, l_53, l_54, l_55, l_56, l_57, l_58, l_59, l_60, l_61, l_62, l_63, l_64, l_97, l_98, l_99, l_200, l_225, l_232, l_255, l_256, l_700, l_1000, l_1024, l_3375, l_4095, l_8000, l_20000, l_60000, vp_nIs, zz0, zz1, e10, nI_leI, nI_ltI, nI_eq, nI_1, nI_1a, nI_add, nI_sub, nI_sub1, pk_mul, nI_clamp, nI_le1, nI_le1', nI_lt1, nI_lt1', nI_eq1, nI_eqm, m1_eqN, m1_le, m1_lt, m1_leN, m1_ltN, nI_am, not_true_eq_false, not_false_eq_true, oN_eqm, hw]) <;> omega) | fail)) only [↓numW, ↓zb_t, ↓zb_f, ↓zb_tt, ↓zb_ff, ↓zb_i, ↓zb_z0, ↓zb_z1, ↓zb_z, ↓zb_l, ↓zb_v, vi32, vi64, true_and, pk_us, Int32.add_zero, Nat.add_sub_cancel, nI_add, nI_1, nI_1a, nI_clamp, k7, k7', k8, k8', k12, k12', k15, k15', k16, k16', nI_sub1, va_up_self, va_up_ne, ne_eq, reduceCtorEq, Nat.reduceEqDiff, not_false_eq_true, hw]
    exact h
  · subst e1
    rw [oN_s] at h
    simp (disch := (first | ((try simp (disch := omega) only [va_up_self, va_up_ne, ne_eq, reduceCtorEq, Nat.reduceEqDiff, not_false_eq_true, l_0, l_2, l_3, l_4, l_5, l_6, l_7, l_8, l_9, l_10, l_11, l_12, l_13, l_14, l_15, l_16, l_17, l_18, l_19, l_20, l_21, l_22, l_23, l_24, l_25, l_26, l_27, l_28, l_29, l_30, l_31, l_32, l_33, l_34, l_35, l_36, l_37, l_38, l_39, l_40, l_41, l_42, l_43, l_44, l_45, l_46, l_47, l_48, l_49, l_50, l_51, l_52, l_53, l_54, l_55, l_56, l_57, l_58, l_59, l_60, l_61, l_62, l_63, l_64, l_97, l_98, l_99, l_200, l_225, l_232, l_255, l_256, l_700, l_1000, l_1024, l_3375, l_4095, l_8000, l_20000, l_60000, vp_nIs, zz0, zz1, e10, nI_leI, nI_ltI, nI_eq, nI_1, nI_1a, nI_add, nI_sub, nI_sub1, pk_mul, nI_clamp, nI_le1, nI_le1', nI_lt1, nI_lt1', nI_eq1, nI_eqm, m1_eqN, m1_le, m1_lt, m1_leN, m1_ltN, nI_am, not_true_eq_false, not_false_eq_true, oN_eqm, hw]) <;> omega) | fail)) only [↓numW, ↓zb_t, ↓zb_f, ↓zb_tt, ↓zb_ff, ↓zb_i, ↓zb_z0, ↓zb_z1, ↓zb_z, ↓zb_l, ↓zb_v, vi32, vi64, true_and, pk_us, Int32.add_zero, Nat.add_sub_cancel, nI_add, nI_1, nI_1a, nI_clamp, k7, k7', k8, k8', k12, k12', k15, k15', k16, k16', nI_sub1, va_up_self, va_up_ne, ne_eq, reduceCtorEq, Nat.reduceEqDiff, not_false_eq_true, hw]
    exact h
theorem w_cB {σ : sm_S} {n p c : Nat} {b : Nat → Nat} (hb : iv_bX σ n b) (hp : p ≤ n) (hat : σ.1 20 = nI p) (hw : σ.1 21 = -1) (hc : c < 32) (hu : ¬ (p < n ∧ ∃ u, upb b p c u)) (K : sm_S → Prop) (h : K (sm_i σ 21 (nI p))) : mp_X6_readClass σ (nI c) K := by
  unfold mp_X6_readClass
  have hn : n ≤ 8000 := hb.1
  refine w_upF hb hp hat hw (by omega) hu _ ?_
  simp (disch := (first | ((try simp (disch := omega) only [va_up_self, va_up_ne, ne_eq, reduceCtorEq, Nat.reduceEqDiff, not_false_eq_true, l_0, l_2, l_3, l_4, l_5, l_6, l_7, l_8, l_9, l_10, l_11, l_12, l_13, l_14, l_15, l_16, l_17, l_18, l_19, l_20, l_21, l_22, l_23, l_24, l_25, l_26, l_27, l_28, l_29, l_30, l_31, l_32, l_33, l_34, l_35, l_36, l_37, l_38, l_39, l_40, l_41, l_42, l_43, l_44, l_45, l_46, l_47, l_48, l_49, l_50, l_51, l_52, l_53, l_54, l_55, l_56, l_57, l_58, l_59, l_60, l_61, l_62, l_63, l_64, l_97, l_98, l_99, l_200, l_225, l_232, l_255, l_256, l_700, l_1000, l_1024, l_3375, l_4095, l_8000, l_20000, l_60000, vp_nIs, zz0, zz1, e10, nI_leI, nI_ltI, nI_eq, nI_1, nI_1a, nI_add, nI_sub, nI_sub1, pk_mul, nI_clamp, nI_le1, nI_le1', nI_lt1, nI_lt1', nI_eq1, nI_eqm, m1_eqN, m1_le, m1_lt, m1_leN, m1_ltN, nI_am, not_true_eq_false, not_false_eq_true, oN_eqm, hw]) <;> omega) | fail)) only [↓numW, ↓zb_t, ↓zb_f, ↓zb_tt, ↓zb_ff, ↓zb_i, ↓zb_z0, ↓zb_z1, ↓zb_z, ↓zb_l, ↓zb_v, vi32, vi64, true_and, pk_us, Int32.add_zero, Nat.add_sub_cancel, nI_add, nI_1, nI_1a, nI_clamp, k7, k7', k8, k8', k12, k12', k15, k15', k16, k16', nI_sub1, va_up_self, va_up_ne, ne_eq, reduceCtorEq, Nat.reduceEqDiff, not_false_eq_true, hw]
  exact h
theorem w_rA {μ : sm_S} {n p c u : Nat} {b : Nat → Nat} (hb : iv_bM μ n b) (hp : p < n) (hat : μ.1 2 = nI p) (hc : c < 32) (hu : upb b p c u) (K : jk) (h : mp_X11_readClass_50 K μ (nI c) (nI c) (oN u)) : mp_X11_readClass μ (nI c) K := by
  obtain ⟨hn, h1, h3, hb1, hb2⟩ := hb
  have hbp := hb1 p
  have hb3 := hb2 p hp
  unfold mp_X11_readClass mp_X11_readClass_27
  rcases hu with ⟨e1, e2⟩ | ⟨e1, e2⟩
  · subst e1
    rw [oN_0] at h
    simp (disch := (first | ((try simp (disch := omega) only [va_up_self, va_up_ne, ne_eq, reduceCtorEq, Nat.reduceEqDiff, not_false_eq_true, l_0, l_2, l_3, l_4, l_5, l_6, l_7, l_8, l_9, l_10, l_11, l_12, l_13, l_14, l_15, l_16, l_17, l_18, l_19, l_20, l_21, l_22, l_23, l_24, l_25, l_26, l_27, l_28, l_29, l_30, l_31, l_32, l_33, l_34, l_35, l_36, l_37, l_38, l_39, l_40, l_41, l_42, l_43, l_44, l_45, l_46, l_47, l_48, l_49, l_50, l_51, l_52, l_53, l_54, l_55, l_56, l_57, l_58, l_59, l_60, l_61, l_62, l_63, l_64, l_97, l_98, l_99, l_200, l_225, l_232, l_255, l_256, l_700, l_1000, l_1024, l_3375, l_4095, l_8000, l_20000, l_60000, vp_nIs, zz0, zz1, e10, nI_leI, nI_ltI, nI_eq, nI_1, nI_1a, nI_add, nI_sub, nI_sub1, pk_mul, nI_clamp, nI_le1, nI_le1', nI_lt1, nI_lt1', nI_eq1, nI_eqm, m1_eqN, m1_le, m1_lt, m1_leN, m1_ltN, nI_am, not_true_eq_false, not_false_eq_true, oN_eqm, hat, h1, h3, hb3, mp_X11_here, mp_X11_here_26, mp_X11_bad, mp_X11_bad_16]) <;> omega) | fail)) only [↓numW, ↓zb_t, ↓zb_f, ↓zb_tt, ↓zb_ff, ↓zb_i, ↓zb_z0, ↓zb_z1, ↓zb_z, ↓zb_l, ↓zb_v, vi32, vi64, true_and, pk_us, Int32.add_zero, Nat.add_sub_cancel, nI_add, nI_1, nI_1a, nI_clamp, k7, k7', k8, k8', k12, k12', k15, k15', k16, k16', nI_sub1, va_up_self, va_up_ne, ne_eq, reduceCtorEq, Nat.reduceEqDiff, not_false_eq_true, hat, h1, h3, hb3, mp_X11_here, mp_X11_here_26, mp_X11_bad, mp_X11_bad_16]
    exact h
  · subst e1
    rw [oN_s] at h
    simp (disch := (first | ((try simp (disch := omega) only [va_up_self, va_up_ne, ne_eq, reduceCtorEq, Nat.reduceEqDiff, not_false_eq_true, l_0, l_2, l_3, l_4, l_5, l_6, l_7, l_8, l_9, l_10, l_11, l_12, l_13, l_14, l_15, l_16, l_17, l_18, l_19, l_20, l_21, l_22, l_23, l_24, l_25, l_26, l_27, l_28, l_29, l_30, l_31, l_32, l_33, l_34, l_35, l_36, l_37, l_38, l_39, l_40, l_41, l_42, l_43, l_44, l_45, l_46, l_47, l_48, l_49, l_50, l_51, l_52, l_53, l_54, l_55, l_56, l_57, l_58, l_59, l_60, l_61, l_62, l_63, l_64, l_97, l_98, l_99, l_200, l_225, l_232, l_255, l_256, l_700, l_1000, l_1024, l_3375, l_4095, l_8000, l_20000, l_60000, vp_nIs, zz0, zz1, e10, nI_leI, nI_ltI, nI_eq, nI_1, nI_1a, nI_add, nI_sub, nI_sub1, pk_mul, nI_clamp, nI_le1, nI_le1', nI_lt1, nI_lt1', nI_eq1, nI_eqm, m1_eqN, m1_le, m1_lt, m1_leN, m1_ltN, nI_am, not_true_eq_false, not_false_eq_true, oN_eqm, hat, h1, h3, hb3, mp_X11_here, mp_X11_here_26, mp_X11_bad, mp_X11_bad_16]) <;> omega) | fail)) only [↓numW, ↓zb_t, ↓zb_f, ↓zb_tt, ↓zb_ff, ↓zb_i, ↓zb_z0, ↓zb_z1, ↓zb_z, ↓zb_l, ↓zb_v, vi32, vi64, true_and, pk_us, Int32.add_zero, Nat.add_sub_cancel, nI_add, nI_1, nI_1a, nI_clamp, k7, k7', k8, k8', k12, k12', k15, k15', k16, k16', nI_sub1, va_up_self, va_up_ne, ne_eq, reduceCtorEq, Nat.reduceEqDiff, not_false_eq_true, hat, h1, h3, hb3, mp_X11_here, mp_X11_here_26, mp_X11_bad, mp_X11_bad_16]
    exact h
theorem w_rB {μ : sm_S} {n p c : Nat} {b : Nat → Nat} (hb : iv_bM μ n b) (hp : p ≤ n) (hat : μ.1 2 = nI p) (hw : μ.1 3 = -1) (hc : c < 32) (hu : ¬ (p < n ∧ ∃ u, upb b p c u)) (K : jk) (h : K 0 (sm_i μ 3 (nI p))) : mp_X11_readClass μ (nI c) K := by
  obtain ⟨hn, h1, h3, hb1, hb2⟩ := hb
  have hbp := hb1 p
  unfold mp_X11_readClass mp_X11_readClass_27
  by_cases hlt : p < n
  · have hb3 := hb2 p hlt
    have g1 : ¬ b p = 255 := fun e => hu ⟨hlt, 0, Or.inl ⟨rfl, e⟩⟩
    have g2 : ¬ b p < c := fun e => hu ⟨hlt, b p + 1, Or.inr ⟨rfl, e⟩⟩
    simp (disch := (first | ((try simp (disch := omega) only [va_up_self, va_up_ne, ne_eq, reduceCtorEq, Nat.reduceEqDiff, not_false_eq_true, l_0, l_2, l_3, l_4, l_5, l_6, l_7, l_8, l_9, l_10, l_11, l_12, l_13, l_14, l_15, l_16, l_17, l_18, l_19, l_20, l_21, l_22, l_23, l_24, l_25, l_26, l_27, l_28, l_29, l_30, l_31, l_32, l_33, l_34, l_35, l_36, l_37, l_38, l_39, l_40, l_41, l_42, l_43, l_44, l_45, l_46, l_47, l_48, l_49, l_50, l_51, l_52, l_53, l_54, l_55, l_56, l_57, l_58, l_59, l_60, l_61, l_62, l_63, l_64, l_97, l_98, l_99, l_200, l_225, l_232, l_255, l_256, l_700, l_1000, l_1024, l_3375, l_4095, l_8000, l_20000, l_60000, vp_nIs, zz0, zz1, e10, nI_leI, nI_ltI, nI_eq, nI_1, nI_1a, nI_add, nI_sub, nI_sub1, pk_mul, nI_clamp, nI_le1, nI_le1', nI_lt1, nI_lt1', nI_eq1, nI_eqm, m1_eqN, m1_le, m1_lt, m1_leN, m1_ltN, nI_am, not_true_eq_false, not_false_eq_true, oN_eqm, hat, h1, h3, hb3, hw, mp_X11_here, mp_X11_here_26, mp_X11_bad, mp_X11_bad_16]) <;> omega) | fail)) only [↓numW, ↓zb_t, ↓zb_f, ↓zb_tt, ↓zb_ff, ↓zb_i, ↓zb_z0, ↓zb_z1, ↓zb_z, ↓zb_l, ↓zb_v, vi32, vi64, true_and, pk_us, Int32.add_zero, Nat.add_sub_cancel, nI_add, nI_1, nI_1a, nI_clamp, k7, k7', k8, k8', k12, k12', k15, k15', k16, k16', nI_sub1, va_up_self, va_up_ne, ne_eq, reduceCtorEq, Nat.reduceEqDiff, not_false_eq_true, hat, h1, h3, hb3, hw, mp_X11_here, mp_X11_here_26, mp_X11_bad, mp_X11_bad_16]
    exact h
  · simp (disch := (first | ((try simp (disch := omega) only [va_up_self, va_up_ne, ne_eq, reduceCtorEq, Nat.reduceEqDiff, not_false_eq_true, l_0, l_2, l_3, l_4, l_5, l_6, l_7, l_8, l_9, l_10, l_11, l_12, l_13, l_14, l_15, l_16, l_17, l_18, l_19, l_20, l_21, l_22, l_23, l_24, l_25, l_26, l_27, l_28, l_29, l_30, l_31, l_32, l_33, l_34, l_35, l_36, l_37, l_38, l_39, l_40, l_41, l_42, l_43, l_44, l_45, l_46, l_47, l_48, l_49, l_50, l_51, l_52, l_53, l_54, l_55, l_56, l_57, l_58, l_59, l_60, l_61, l_62, l_63, l_64, l_97, l_98, l_99, l_200, l_225, l_232, l_255, l_256, l_700, l_1000, l_1024, l_3375, l_4095, l_8000, l_20000, l_60000, vp_nIs, zz0, zz1, e10, nI_leI, nI_ltI, nI_eq, nI_1, nI_1a, nI_add, nI_sub, nI_sub1, pk_mul, nI_clamp, nI_le1, nI_le1', nI_lt1, nI_lt1', nI_eq1, nI_eqm, m1_eqN, m1_le, m1_lt, m1_leN, m1_ltN, nI_am, not_true_eq_false, not_false_eq_true, oN_eqm, hat, h1, h3, hw, mp_X11_here, mp_X11_here_26, mp_X11_bad, mp_X11_bad_16]) <;> omega) | fail)) only [↓numW, ↓zb_t, ↓zb_f, ↓zb_tt, ↓zb_ff, ↓zb_i, ↓zb_z0, ↓zb_z1, ↓zb_z, ↓zb_l, ↓zb_v, vi32, vi64, true_and, pk_us, Int32.add_zero, Nat.add_sub_cancel, nI_add, nI_1, nI_1a, nI_clamp, k7, k7', k8, k8', k12, k12', k15, k15', k16, k16', nI_sub1, va_up_self, va_up_ne, ne_eq, reduceCtorEq, Nat.reduceEqDiff, not_false_eq_true, hat, h1, h3, hw, mp_X11_here, mp_X11_here_26, mp_X11_bad, mp_X11_bad_16]
    exact h
/-- a class as both sides read it: u the class above (0 for none), nf fields, its slots' methods v and places q -/
def clf (σ μ : sm_S) (C c p0 p u nf : Nat) (v q : Nat → Nat) : Prop := u ≤ c ∧ nf ≤ 15 ∧ σ.2.2.2.1 11 c = oN u ∧ μ.2.2.2.1 5 c = oN u ∧ σ.2.2.2.1 12 c = nI nf ∧ μ.2.2.2.1 6 c = nI nf ∧ tyq σ μ C c nf ∧ slq σ μ c v q ∧ (∀ s, s < 16 → v s ≤ 256) ∧ (∀ s, s < 16 → q s ≠ 0 → v s ≠ 0 ∧ p0 < q s ∧ q s ≤ p) ∧ (∀ s t, s < t → t < 16 → q s ≠ 0 → q t ≠ 0 → q s < q t) ∧ (u = 0 → ∀ s, s < 16 → q s = 0 → v s = 0) ∧ (u ≠ 0 → ∃ nf' : Nat, nf' ≤ nf ∧ μ.2.2.2.1 6 (u - 1) = nI nf' ∧ (∀ i, i < nf' → μ.2.2.2.1 7 (15 * c + i) = μ.2.2.2.1 7 (15 * (u - 1) + i)) ∧ ∀ s, s < 16 → q s = 0 → μ.2.2.2.1 8 (16 * c + s) = μ.2.2.2.1 8 (16 * (u - 1) + s))
def clq (σ μ : sm_S) (C c p0 p : Nat) : Prop := ∃ (u nf : Nat) (v q : Nat → Nat), clf σ μ C c p0 p u nf v q
/-- a class that was read stays when a later one is read -/
theorem clq.c {σ μ σ' μ' : sm_S} {C c d p0 p : Nat} (h : clq σ μ C c p0 p) (hd : c < d) (hX : fr IcX (AcX d) σ σ') (hM : fr IcM (AcM d) μ μ') : clq σ' μ' C c p0 p := by
  obtain ⟨u, nf, v, q, h1, h2, h3, h4, h5, h6, h7, h8, h9, h10, h11, h12, h13⟩ := h
  have rx : ∀ r j, (r = 11 ∧ j ≤ c) ∨ (r = 12 ∧ j ≤ c) ∨ (r = 13 ∧ j < 15 * c + 15) ∨ (r = 14 ∧ j < 16 * c + 16) ∨ (r = 15 ∧ j < 16 * c + 16) → σ'.2.2.2.1 r j = σ.2.2.2.1 r j := fun r j q => hX.2.2.2.2 r j (by unfold AcX; omega)
  have rm : ∀ r j, (r = 5 ∧ j ≤ c) ∨ (r = 6 ∧ j ≤ c) ∨ (r = 7 ∧ j < 15 * c + 15) ∨ (r = 8 ∧ j < 16 * c + 16) ∨ (r = 9 ∧ j < 16 * c + 16) → μ'.2.2.2.1 r j = μ.2.2.2.1 r j := fun r j q => hM.2.2.2.2 r j (by unfold AcM; omega)
  refine ⟨u, nf, v, q, h1, h2, by rw [rx 11 c (by omega)]; exact h3, by rw [rm 5 c (by omega)]; exact h4, by rw [rx 12 c (by omega)]; exact h5, by rw [rm 6 c (by omega)]; exact h6, fun i hi => ?_, fun s hs => ?_, h9, h10, h11, h12, fun hu => ?_⟩
  · rw [rx 13 _ (by omega), rm 7 _ (by omega)]; exact h7 i hi
  · rw [rx 14 _ (by omega), rm 8 _ (by omega), rx 15 _ (by omega), rm 9 _ (by omega)]; exact h8 s hs
  · obtain ⟨nf', a1, a2, a3, a4⟩ := h13 hu
    refine ⟨nf', a1, by rw [rm 6 _ (by omega)]; exact a2, fun i hi => ?_, fun s hs hq => ?_⟩
    · rw [rm 7 _ (by omega), rm 7 _ (by omega)]; exact a3 i hi
    · rw [rm 8 _ (by omega), rm 8 _ (by omega)]; exact a4 s hs hq
theorem ihX_f {σ0 σ : sm_S} {c u : Nat} (h : fr IcX (AcX c) σ0 σ) : fr IcX (AcX c) σ0 (ih_X σ c u) ∧ (ih_X σ c u).1 = σ.1 ∧ (ih_X σ c u).2.2.2.1 11 c = oN u ∧ (ih_X σ c u).2.2.2.1 12 c = ih_n (σ.2.2.2.1 12) u ∧ (∀ i, i < 15 → (ih_X σ c u).2.2.2.1 13 (15 * c + i) = ih_t (σ.2.2.2.1 13) u i) ∧ (∀ i, i < 16 → (ih_X σ c u).2.2.2.1 14 (16 * c + i) = ih_s (σ.2.2.2.1 14) u i) ∧ (∀ i, i < 16 → (ih_X σ c u).2.2.2.1 15 (16 * c + i) = -1) := by
  unfold ih_X
  refine ⟨((((h.u rfl (by unfold AcX; omega)).u rfl (by unfold AcX; omega)).w ?_).w ?_).w ?_, rfl, ?_, ?_, fun i hi => ?_, fun i hi => ?_, fun i hi => ?_⟩
  · intro j q
    have : ¬ (15 * c ≤ j ∧ j < 15 * c + 15) := fun z => q (by unfold AcX; omega)
    rw [tp_ou (by omega)]; rfl
  · intro j q
    have : ¬ (16 * c ≤ j ∧ j < 16 * c + 16) := fun z => q (by unfold AcX; omega)
    rw [tp_ou (by omega)]; rfl
  · intro j q
    have : ¬ (16 * c ≤ j ∧ j < 16 * c + 16) := fun z => q (by unfold AcX; omega)
    rw [tp_ou (by omega)]; rfl
  · simp (disch := omega) only [va_up_self, va_up_ne, pk_us, pk_un, pk_us]
  · simp (disch := omega) only [va_up_self, va_up_ne, pk_us, pk_un, pk_us]
  · simp (disch := omega) only [va_up_self, va_up_ne, pk_us, pk_un, pk_us]
    rw [tp_inn hi]
  · simp (disch := omega) only [va_up_self, va_up_ne, pk_us, pk_un, pk_us]
    rw [tp_inn hi]
  · simp (disch := omega) only [va_up_self, va_up_ne, pk_us, pk_un, pk_us]
    rw [tp_inn hi]
/-- the reference: the class above, and its fields' types -/
def ih_M (μ : sm_S) (p c u had : Nat) : sm_S := sm_r (sm_i (sm_r μ 5 (upd (μ.2.2.2.1 5) c (oN u))) 2 (nI (p + 1))) 7 (tp_row (μ.2.2.2.1 7) (15 * c) had (ih_t (μ.2.2.2.1 7) u))
theorem w_r50 {μ : sm_S} {p c u had : Nat} {K : jk} (hat : μ.1 2 = nI p) (m5 : μ.2.2.1 5 = 32) (m6 : μ.2.2.1 6 = 32) (m7 : μ.2.2.1 7 = 480) (hc : c < 32) (hu : u ≤ c) (hh : had ≤ 15) (h1 : u = 0 → had = 0) (h2 : u ≠ 0 → μ.2.2.2.1 6 (u - 1) = nI had) (h : mp_X11_readClass_86 K 1 (ih_M μ p c u had) (nI c) (oN u) (nI had) (nI had)) : mp_X11_readClass_50 K μ (nI c) (nI c) (oN u) := by
  unfold ih_M at h
  unfold mp_X11_readClass_50 mp_X11_readClass_82
  rcases u with _ | u
  · have e := h1 rfl
    subst e
    rw [oN_0] at h ⊢
    simp (disch := (first | ((try simp (disch := omega) only [va_up_self, va_up_ne, ne_eq, reduceCtorEq, Nat.reduceEqDiff, not_false_eq_true, l_0, l_2, l_3, l_4, l_5, l_6, l_7, l_8, l_9, l_10, l_11, l_12, l_13, l_14, l_15, l_16, l_17, l_18, l_19, l_20, l_21, l_22, l_23, l_24, l_25, l_26, l_27, l_28, l_29, l_30, l_31, l_32, l_33, l_34, l_35, l_36, l_37, l_38, l_39, l_40, l_41, l_42, l_43, l_44, l_45, l_46, l_47, l_48, l_49, l_50, l_51, l_52, l_53, l_54, l_55, l_56, l_57, l_58, l_59, l_60, l_61, l_62, l_63, l_64, l_97, l_98, l_99, l_200, l_225, l_232, l_255, l_256, l_700, l_1000, l_1024, l_3375, l_4095, l_8000, l_20000, l_60000, vp_nIs, zz0, zz1, e10, nI_leI, nI_ltI, nI_eq, nI_1, nI_1a, nI_add, nI_sub, nI_sub1, pk_mul, nI_clamp, nI_le1, nI_le1', nI_lt1, nI_lt1', nI_eq1, nI_eqm, m1_eqN, m1_le, m1_lt, m1_leN, m1_ltN, nI_am, not_true_eq_false, not_false_eq_true, oN_eqm, hat, m5, m6, m7]) <;> omega) | fail)) only [↓numW, ↓zb_t, ↓zb_f, ↓zb_tt, ↓zb_ff, ↓zb_i, ↓zb_z0, ↓zb_z1, ↓zb_z, ↓zb_l, ↓zb_v, vi32, vi64, true_and, pk_us, Int32.add_zero, Nat.add_sub_cancel, nI_add, nI_1, nI_1a, nI_clamp, k7, k7', k8, k8', k12, k12', k15, k15', k16, k16', nI_sub1, va_up_self, va_up_ne, ne_eq, reduceCtorEq, Nat.reduceEqDiff, not_false_eq_true, hat, m5, m6, m7]
    rw [tp_row0, sx_r0 (by rfl)] at h
    exact ⟨1, h⟩
  · have h6 : μ.2.2.2.1 6 u = nI had := h2 (by omega)
    rw [oN_s] at h ⊢
    simp (disch := (first | ((try simp (disch := omega) only [va_up_self, va_up_ne, ne_eq, reduceCtorEq, Nat.reduceEqDiff, not_false_eq_true, l_0, l_2, l_3, l_4, l_5, l_6, l_7, l_8, l_9, l_10, l_11, l_12, l_13, l_14, l_15, l_16, l_17, l_18, l_19, l_20, l_21, l_22, l_23, l_24, l_25, l_26, l_27, l_28, l_29, l_30, l_31, l_32, l_33, l_34, l_35, l_36, l_37, l_38, l_39, l_40, l_41, l_42, l_43, l_44, l_45, l_46, l_47, l_48, l_49, l_50, l_51, l_52, l_53, l_54, l_55, l_56, l_57, l_58, l_59, l_60, l_61, l_62, l_63, l_64, l_97, l_98, l_99, l_200, l_225, l_232, l_255, l_256, l_700, l_1000, l_1024, l_3375, l_4095, l_8000, l_20000, l_60000, vp_nIs, zz0, zz1, e10, nI_leI, nI_ltI, nI_eq, nI_1, nI_1a, nI_add, nI_sub, nI_sub1, pk_mul, nI_clamp, nI_le1, nI_le1', nI_lt1, nI_lt1', nI_eq1, nI_eqm, m1_eqN, m1_le, m1_lt, m1_leN, m1_ltN, nI_am, not_true_eq_false, not_false_eq_true, oN_eqm, hat, m5, m6, m7, h6]) <;> omega) | fail)) only [↓numW, ↓zb_t, ↓zb_f, ↓zb_tt, ↓zb_ff, ↓zb_i, ↓zb_z0, ↓zb_z1, ↓zb_z, ↓zb_l, ↓zb_v, vi32, vi64, true_and, pk_us, Int32.add_zero, Nat.add_sub_cancel, nI_add, nI_1, nI_1a, nI_clamp, k7, k7', k8, k8', k12, k12', k15, k15', k16, k16', nI_sub1, va_up_self, va_up_ne, ne_eq, reduceCtorEq, Nat.reduceEqDiff, not_false_eq_true, hat, m5, m6, m7, h6]
    exact ⟨had + 1, l_86 hc (by omega) hh (fun i => by unfold ih_t; rw [if_neg (by omega)]; rfl) had 0 _ (by omega) m7 (by rw [tp_row0]; rfl) h⟩
theorem ihM_f {μ0 μ : sm_S} {p c u had : Nat} (hh : had ≤ 15) (h : fr IcM (AcM c) μ0 μ) : fr IcM (AcM c) μ0 (ih_M μ p c u had) ∧ (ih_M μ p c u had).1 2 = nI (p + 1) ∧ (ih_M μ p c u had).1 3 = μ.1 3 ∧ (ih_M μ p c u had).2.2.2.1 5 c = oN u ∧ (∀ i, i < had → (ih_M μ p c u had).2.2.2.1 7 (15 * c + i) = ih_t (μ.2.2.2.1 7) u i) ∧ (∀ r, r ≠ 5 → r ≠ 7 → (ih_M μ p c u had).2.2.2.1 r = μ.2.2.2.1 r) ∧ (∀ j, j < 15 * c → (ih_M μ p c u had).2.2.2.1 7 j = μ.2.2.2.1 7 j) := by
  unfold ih_M
  refine ⟨(((h.u rfl (by unfold AcM; omega)).i (by unfold IcM; omega)).w ?_), rfl, rfl, ?_, fun i hi => ?_, fun r q1 q2 => ?_, fun j hj => ?_⟩
  · intro j q
    have : ¬ (15 * c ≤ j ∧ j < 15 * c + 15) := fun z => q (by unfold AcM; omega)
    rw [tp_ou (by omega)]; rfl
  · simp (disch := omega) only [va_up_self, va_up_ne, pk_us, pk_un, pk_us]
  · simp (disch := omega) only [va_up_self, va_up_ne, pk_us, pk_un, pk_us]
    rw [tp_inn hi]
  · simp (disch := omega) only [va_up_self, va_up_ne, pk_us, pk_un, pk_us]
  · simp (disch := omega) only [va_up_self, va_up_ne, pk_us, pk_un, pk_us]
    rw [tp_ou (by omega)]
/-- what reading a class comes to -/
def RC (σ μ : sm_S) (n C c p : Nat) (_ : Int32) (σ' : sm_S) (r' : Int32) (μ' : sm_S) : Prop := fr IcX (AcX c) σ σ' ∧ fr IcM (AcM c) μ μ' ∧ ((r' = 1 ∧ ∃ p', p < p' ∧ at2 σ' μ' n p' ∧ clq σ' μ' C c p p') ∨ (r' = 0 ∧ fail2 σ' μ' n))
theorem jc_class {n C c p : Nat} {b : Nat → Nat} {σ μ : sm_S} (h0 : rb σ μ n b C) (hc : c < 32) (ha : at2 σ μ n p) (hprev : ∀ c', c' < c → ∃ p0 p1, clq σ μ C c' p0 p1) :
    jt (fun K => mp_X6_readClass σ (nI c) (fun σ => K 0 σ)) (fun K => mp_X11_readClass μ (nI c) K) (RC σ μ n C c p) := by
  have hn : n ≤ 8000 := h0.1.1
  have hpn : p ≤ n := ha.1
  have hw : σ.1 21 = -1 := ha.2.2.2.1
  have hw2 : μ.1 3 = -1 := ha.2.2.2.2
  have hat : μ.1 2 = nI p := ha.2.2.1
  by_cases hu : p < n ∧ ∃ u, upb b p c u
  · obtain ⟨hlt, u, hu⟩ := hu
    have huc : u ≤ c := by rcases hu with h | h <;> omega
    have hLX := h0.2.2.1
    have hLM := h0.2.2.2.1
    -- what is inherited
    obtain ⟨had, hv, d1, d2, d3, d4, d5⟩ : ∃ (had : Nat) (hv : Nat → Nat), had ≤ 15 ∧ (ih_n (σ.2.2.2.1 12) u = nI had ∧ (u = 0 → had = 0) ∧ (u ≠ 0 → μ.2.2.2.1 6 (u - 1) = nI had)) ∧ (∀ i, i < had → ∃ t, ty_ok C False t ∧ ih_t (σ.2.2.2.1 13) u i = nI t ∧ ih_t (μ.2.2.2.1 7) u i = nI t) ∧ (∀ s, s < 16 → ih_s (σ.2.2.2.1 14) u s = oN (hv s) ∧ ih_s (μ.2.2.2.1 8) u s = oN (hv s) ∧ hv s ≤ 256) ∧ (u = 0 → ∀ s, hv s = 0) := by
      by_cases e : u = 0
      · subst e
        exact ⟨0, fun _ => 0, by omega, ⟨rfl, fun _ => rfl, fun q => absurd rfl q⟩, fun i hi => absurd hi (by omega), fun s _ => ⟨oN_0.symm, oN_0.symm, Nat.zero_le _⟩, fun _ _ => rfl⟩
      · obtain ⟨p0, p1, u', nf, v, q, h1, h2, h3, h4, h5, h6, h7, h8, h9, h10, h11, h12, h13⟩ := hprev (u - 1) (by omega)
        refine ⟨nf, v, h2, ⟨?_, fun z => absurd z e, fun _ => h6⟩, fun i hi => ?_, fun s hs => ?_, fun z => absurd z e⟩
        · unfold ih_n; rw [if_neg e]; exact h5
        · unfold ih_t; rw [if_neg e, if_neg e]; exact h7 i hi
        · unfold ih_s; rw [if_neg e, if_neg e]; exact ⟨(h8 s hs).1, (h8 s hs).2.1, h9 s hs⟩
    obtain ⟨τ, eτ⟩ : ∃ τ, τ = ih_X (sm_i σ 20 (nI (p + 1))) c u := ⟨_, rfl⟩
    obtain ⟨ν, eν⟩ : ∃ ν, ν = ih_M μ p c u had := ⟨_, rfl⟩
    have fτ := ihX_f (σ0 := σ) (σ := sm_i σ 20 (nI (p + 1))) (c := c) (u := u) (fr_r.i (by unfold IcX; omega))
    have fν := ihM_f (μ0 := μ) (μ := μ) (p := p) (c := c) (u := u) d1 fr_r
    rw [← eτ] at fτ
    rw [← eν] at fν
    obtain ⟨t1, t2, t3, t4, t5, t6, t7⟩ := fτ
    obtain ⟨n1, n2, n3, n4, n5, n6, n7⟩ := fν
    have hb2 := h0.c t1 n1
    have at2τ : at2 τ ν n (p + 1) := ⟨hlt, by rw [t2]; rfl, n2, by rw [t2]; exact hw, by rw [n3]; exact hw2⟩
    have t4' : τ.2.2.2.1 12 c = nI had := by rw [t4]; exact d2.1
    refine jt_x (fun K q => w_cA h0.1 hlt ha.2.1 hw hc hu _ q) (jt_m (fun K q => w_rA h0.2.1 hlt hat hc hu _ q) (jt_m (fun K q => w_r50 hat (lm5 hLM) (lm6 hLM) (lm7 hLM) hc huc d1 d2.2.1 d2.2.2 q) ?_))
    rw [← eν]
    unfold mp_X6_readClass_38
    refine jt_xbv (fun K q => w_inherit hc huc (lx11 hLX) (lx12 hLX) (lx13 hLX) (lx14 hLX) (lx15 hLX) q) ?_
    rw [← eτ]
    clear eτ eν
    have hLX := hb2.2.2.1
    have hLM := hb2.2.2.2.1
    unfold mp_X11_readClass_86
    simp (disch := (first | ((try simp (disch := omega) only [va_up_self, va_up_ne, ne_eq, reduceCtorEq, Nat.reduceEqDiff, not_false_eq_true, l_0, l_2, l_3, l_4, l_5, l_6, l_7, l_8, l_9, l_10, l_11, l_12, l_13, l_14, l_15, l_16, l_17, l_18, l_19, l_20, l_21, l_22, l_23, l_24, l_25, l_26, l_27, l_28, l_29, l_30, l_31, l_32, l_33, l_34, l_35, l_36, l_37, l_38, l_39, l_40, l_41, l_42, l_43, l_44, l_45, l_46, l_47, l_48, l_49, l_50, l_51, l_52, l_53, l_54, l_55, l_56, l_57, l_58, l_59, l_60, l_61, l_62, l_63, l_64, l_97, l_98, l_99, l_200, l_225, l_232, l_255, l_256, l_700, l_1000, l_1024, l_3375, l_4095, l_8000, l_20000, l_60000, vp_nIs, zz0, zz1, e10, nI_leI, nI_ltI, nI_eq, nI_1, nI_1a, nI_add, nI_sub, nI_sub1, pk_mul, nI_clamp, nI_le1, nI_le1', nI_lt1, nI_lt1', nI_eq1, nI_eqm, m1_eqN, m1_le, m1_lt, m1_leN, m1_ltN, nI_am, not_true_eq_false, not_false_eq_true, oN_eqm, t4', lx11 hLX, lx12 hLX, lx13 hLX, lx14 hLX, lx15 hLX, lx16 hLX, lx20 hLX, lx21 hLX, lx22 hLX, lx23 hLX, lx24 hLX, lx25 hLX, lx26 hLX, lx27 hLX, lx28 hLX, lx29 hLX, lm4 hLM, lm5 hLM, lm6 hLM, lm7 hLM, lm8 hLM, lm9 hLM, lm10 hLM, lm11 hLM, lm12 hLM, lm13 hLM, lm14 hLM, lm15 hLM, lm16 hLM, lm17 hLM, lm18 hLM, lm19 hLM, lm20 hLM]) <;> omega) | fail)) only [↓numW, ↓zb_t, ↓zb_f, ↓zb_tt, ↓zb_ff, ↓zb_i, ↓zb_z0, ↓zb_z1, ↓zb_z, ↓zb_l, ↓zb_v, vi32, vi64, true_and, pk_us, Int32.add_zero, Nat.add_sub_cancel, nI_add, nI_1, nI_1a, nI_clamp, k7, k7', k8, k8', k12, k12', k15, k15', k16, k16', nI_sub1, va_up_self, va_up_ne, ne_eq, reduceCtorEq, Nat.reduceEqDiff, not_false_eq_true, t4', lx11 hLX, lx12 hLX, lx13 hLX, lx14 hLX, lx15 hLX, lx16 hLX, lx20 hLX, lx21 hLX, lx22 hLX, lx23 hLX, lx24 hLX, lx25 hLX, lx26 hLX, lx27 hLX, lx28 hLX, lx29 hLX, lm4 hLM, lm5 hLM, lm6 hLM, lm7 hLM, lm8 hLM, lm9 hLM, lm10 hLM, lm11 hLM, lm12 hLM, lm13 hLM, lm14 hLM, lm15 hLM, lm16 hLM, lm17 hLM, lm18 hLM, lm19 hLM, lm20 hLM]
    have e15 : (15 : Int32) - nI had = nI (15 - had) := by rw [l_15, nI_sub d1]
    refine jt_num (hb2.rd at2τ) (fun hlt2 hlo hhi => ?_) ?_
    · have hbp : b (p + 1) < 256 := h0.1.2.2.2.2.1 (p + 1)
      obtain ⟨own, eown⟩ : ∃ own, own = b (p + 1) := ⟨_, rfl⟩
      rw [← eown] at hhi hbp
      have hown : own ≤ 15 - had := by
        rw [e15] at hhi
        exact (nI_leI (by omega) (by omega)).mp hhi
      rw [← eown]
      simp (disch := (first | ((try simp (disch := omega) only [va_up_self, va_up_ne, ne_eq, reduceCtorEq, Nat.reduceEqDiff, not_false_eq_true, l_0, l_2, l_3, l_4, l_5, l_6, l_7, l_8, l_9, l_10, l_11, l_12, l_13, l_14, l_15, l_16, l_17, l_18, l_19, l_20, l_21, l_22, l_23, l_24, l_25, l_26, l_27, l_28, l_29, l_30, l_31, l_32, l_33, l_34, l_35, l_36, l_37, l_38, l_39, l_40, l_41, l_42, l_43, l_44, l_45, l_46, l_47, l_48, l_49, l_50, l_51, l_52, l_53, l_54, l_55, l_56, l_57, l_58, l_59, l_60, l_61, l_62, l_63, l_64, l_97, l_98, l_99, l_200, l_225, l_232, l_255, l_256, l_700, l_1000, l_1024, l_3375, l_4095, l_8000, l_20000, l_60000, vp_nIs, zz0, zz1, e10, nI_leI, nI_ltI, nI_eq, nI_1, nI_1a, nI_add, nI_sub, nI_sub1, pk_mul, nI_clamp, nI_le1, nI_le1', nI_lt1, nI_lt1', nI_eq1, nI_eqm, m1_eqN, m1_le, m1_lt, m1_leN, m1_ltN, nI_am, not_true_eq_false, not_false_eq_true, oN_eqm, t4', lx11 hLX, lx12 hLX, lx13 hLX, lx14 hLX, lx15 hLX, lx16 hLX, lx20 hLX, lx21 hLX, lx22 hLX, lx23 hLX, lx24 hLX, lx25 hLX, lx26 hLX, lx27 hLX, lx28 hLX, lx29 hLX, lm4 hLM, lm5 hLM, lm6 hLM, lm7 hLM, lm8 hLM, lm9 hLM, lm10 hLM, lm11 hLM, lm12 hLM, lm13 hLM, lm14 hLM, lm15 hLM, lm16 hLM, lm17 hLM, lm18 hLM, lm19 hLM, lm20 hLM]) <;> omega) | fail)) only [↓numW, ↓zb_t, ↓zb_f, ↓zb_tt, ↓zb_ff, ↓zb_i, ↓zb_z0, ↓zb_z1, ↓zb_z, ↓zb_l, ↓zb_v, vi32, vi64, true_and, pk_us, Int32.add_zero, Nat.add_sub_cancel, nI_add, nI_1, nI_1a, nI_clamp, k7, k7', k8, k8', k12, k12', k15, k15', k16, k16', nI_sub1, va_up_self, va_up_ne, ne_eq, reduceCtorEq, Nat.reduceEqDiff, not_false_eq_true, t4', lx11 hLX, lx12 hLX, lx13 hLX, lx14 hLX, lx15 hLX, lx16 hLX, lx20 hLX, lx21 hLX, lx22 hLX, lx23 hLX, lx24 hLX, lx25 hLX, lx26 hLX, lx27 hLX, lx28 hLX, lx29 hLX, lm4 hLM, lm5 hLM, lm6 hLM, lm7 hLM, lm8 hLM, lm9 hLM, lm10 hLM, lm11 hLM, lm12 hLM, lm13 hLM, lm14 hLM, lm15 hLM, lm16 hLM, lm17 hLM, lm18 hLM, lm19 hLM, lm20 hLM]
      refine jt_last ((n1.i (v := nI (p + 1 + 1)) (k := 2) (by unfold IcM; omega)) |>.bM (by unfold IcM; omega) (fun j => (by unfold AcM; omega)) h0.2.1) hlt2 sx_is ?_
      rw [← eown]
      simp (disch := (first | ((try simp (disch := omega) only [va_up_self, va_up_ne, ne_eq, reduceCtorEq, Nat.reduceEqDiff, not_false_eq_true, l_0, l_2, l_3, l_4, l_5, l_6, l_7, l_8, l_9, l_10, l_11, l_12, l_13, l_14, l_15, l_16, l_17, l_18, l_19, l_20, l_21, l_22, l_23, l_24, l_25, l_26, l_27, l_28, l_29, l_30, l_31, l_32, l_33, l_34, l_35, l_36, l_37, l_38, l_39, l_40, l_41, l_42, l_43, l_44, l_45, l_46, l_47, l_48, l_49, l_50, l_51, l_52, l_53, l_54, l_55, l_56, l_57, l_58, l_59, l_60, l_61, l_62, l_63, l_64, l_97, l_98, l_99, l_200, l_225, l_232, l_255, l_256, l_700, l_1000, l_1024, l_3375, l_4095, l_8000, l_20000, l_60000, vp_nIs, zz0, zz1, e10, nI_leI, nI_ltI, nI_eq, nI_1, nI_1a, nI_add, nI_sub, nI_sub1, pk_mul, nI_clamp, nI_le1, nI_le1', nI_lt1, nI_lt1', nI_eq1, nI_eqm, m1_eqN, m1_le, m1_lt, m1_leN, m1_ltN, nI_am, not_true_eq_false, not_false_eq_true, oN_eqm, t4', lx11 hLX, lx12 hLX, lx13 hLX, lx14 hLX, lx15 hLX, lx16 hLX, lx20 hLX, lx21 hLX, lx22 hLX, lx23 hLX, lx24 hLX, lx25 hLX, lx26 hLX, lx27 hLX, lx28 hLX, lx29 hLX, lm4 hLM, lm5 hLM, lm6 hLM, lm7 hLM, lm8 hLM, lm9 hLM, lm10 hLM, lm11 hLM, lm12 hLM, lm13 hLM, lm14 hLM, lm15 hLM, lm16 hLM, lm17 hLM, lm18 hLM, lm19 hLM, lm20 hLM]) <;> omega) | fail)) only [↓numW, ↓zb_t, ↓zb_f, ↓zb_tt, ↓zb_ff, ↓zb_i, ↓zb_z0, ↓zb_z1, ↓zb_z, ↓zb_l, ↓zb_v, vi32, vi64, true_and, pk_us, Int32.add_zero, Nat.add_sub_cancel, nI_add, nI_1, nI_1a, nI_clamp, k7, k7', k8, k8', k12, k12', k15, k15', k16, k16', nI_sub1, va_up_self, va_up_ne, ne_eq, reduceCtorEq, Nat.reduceEqDiff, not_false_eq_true, t4', lx11 hLX, lx12 hLX, lx13 hLX, lx14 hLX, lx15 hLX, lx16 hLX, lx20 hLX, lx21 hLX, lx22 hLX, lx23 hLX, lx24 hLX, lx25 hLX, lx26 hLX, lx27 hLX, lx28 hLX, lx29 hLX, lm4 hLM, lm5 hLM, lm6 hLM, lm7 hLM, lm8 hLM, lm9 hLM, lm10 hLM, lm11 hLM, lm12 hLM, lm13 hLM, lm14 hLM, lm15 hLM, lm16 hLM, lm17 hLM, lm18 hLM, lm19 hLM, lm20 hLM]
      have fX2 : fr IcX (AcX c) σ (sm_i τ 20 (nI (p + 1 + 1))) := t1.i (by unfold IcX; omega)
      have fM2 : fr IcM (AcM c) μ (sm_r (sm_i ν 2 (nI (p + 1 + 1))) 6 (upd (ν.2.2.2.1 6) c (nI (had + own)))) := (n1.i (by unfold IcM; omega)).u rfl (by unfold AcM; omega)
      have gX : ∀ r j, ¬ AfX c had r j → True := fun _ _ _ => trivial
      refine jt_xn (own + 1) (jt_mn (own + 1) (jc_fields (h0.c fX2 fM2) hc (by omega) (p0 := p + 2) ?_ ?_ own 0 (p + 1 + 1) _ _ (by omega) fr_r fr_r ⟨hlt2, rfl, rfl, at2τ.2.2.2.1, at2τ.2.2.2.2⟩ (by omega) t4' (by simp (disch := omega) only [va_up_self, va_up_ne, pk_us, pk_un, pk_us]) ?_))
      · intro σ3 μ3 p3 fX3 fM3 ha3 hp3 r12 r6 hty
        have fX3c : fr IcX (AcX c) σ σ3 := fX2.t (fX_c d1 fX3)
        have fM3c : fr IcM (AcM c) μ μ3 := fM2.t (fM_c d1 fM3)
        have hb3 := h0.c fX3c fM3c
        have hp3n : p3 ≤ n := ha3.1
        have hLX := hb3.2.2.1
        have hLM := hb3.2.2.2.1
        have r8 : μ3.2.2.2.1 8 = μ.2.2.2.1 8 := by
          rw [fM3.row (fun j => by unfold AfM; omega), ← n6 8 (by decide) (by decide)]
          simp (disch := omega) only [va_up_self, va_up_ne, pk_us, pk_un, pk_us]
        unfold mp_X6_readClass_123
        refine jt_mn 17 (jt_m (fun K q => l_197 hc huc (fun _ => rfl) 16 0 μ3 (by omega) (lm8 hLM) (lm9 hLM) (by rw [tp_row0]) (by rw [tp_row0]) q) ?_)
        obtain ⟨ν3, eν3⟩ : ∃ ν3, ν3 = sm_r (sm_r μ3 8 (tp_row (μ3.2.2.2.1 8) (16 * c) 16 (fun i => if u = 0 then -1 else μ3.2.2.2.1 8 (16 * (u - 1) + i)))) 9 (tp_row (μ3.2.2.2.1 9) (16 * c) 16 (fun _ => -1)) := ⟨_, rfl⟩
        rw [← eν3]
        have fM4 : fr IcM (AsM c) μ3 ν3 := by
          rw [eν3]
          refine (fr_r.w (fun j q => ?_)).w (fun j q => ?_)
          · have : ¬ (16 * c ≤ j ∧ j < 16 * c + 16) := fun z => q (by unfold AsM; omega)
            rw [tp_ou (by omega)]
          · have : ¬ (16 * c ≤ j ∧ j < 16 * c + 16) := fun z => q (by unfold AsM; omega)
            rw [tp_ou (by omega)]; rfl
        have s8 : ∀ i, i < 16 → ν3.2.2.2.1 8 (16 * c + i) = ih_s (μ.2.2.2.1 8) u i := fun i hi => by
          rw [eν3]
          simp (disch := omega) only [va_up_self, va_up_ne, pk_us, pk_un, pk_us]
          rw [tp_inn hi, r8]; rfl
        have s9 : ∀ i, i < 16 → ν3.2.2.2.1 9 (16 * c + i) = -1 := fun i hi => by
          rw [eν3]
          simp (disch := omega) only [va_up_self, va_up_ne, pk_us, pk_un, pk_us]
          rw [tp_inn hi]
        have i2 : ν3.1 2 = nI p3 := by rw [eν3]; exact ha3.2.2.1
        have i3 : ν3.1 3 = -1 := by rw [eν3]; exact ha3.2.2.2.2
        clear eν3
        have fM4c : fr IcM (AcM c) μ ν3 := fM3c.t (sM_c fM4)
        have hb4 := h0.c fX3c fM4c
        unfold mp_X11_readClass_197
        simp (disch := (first | ((try simp (disch := omega) only [va_up_self, va_up_ne, ne_eq, reduceCtorEq, Nat.reduceEqDiff, not_false_eq_true, l_0, l_2, l_3, l_4, l_5, l_6, l_7, l_8, l_9, l_10, l_11, l_12, l_13, l_14, l_15, l_16, l_17, l_18, l_19, l_20, l_21, l_22, l_23, l_24, l_25, l_26, l_27, l_28, l_29, l_30, l_31, l_32, l_33, l_34, l_35, l_36, l_37, l_38, l_39, l_40, l_41, l_42, l_43, l_44, l_45, l_46, l_47, l_48, l_49, l_50, l_51, l_52, l_53, l_54, l_55, l_56, l_57, l_58, l_59, l_60, l_61, l_62, l_63, l_64, l_97, l_98, l_99, l_200, l_225, l_232, l_255, l_256, l_700, l_1000, l_1024, l_3375, l_4095, l_8000, l_20000, l_60000, vp_nIs, zz0, zz1, e10, nI_leI, nI_ltI, nI_eq, nI_1, nI_1a, nI_add, nI_sub, nI_sub1, pk_mul, nI_clamp, nI_le1, nI_le1', nI_lt1, nI_lt1', nI_eq1, nI_eqm, m1_eqN, m1_le, m1_lt, m1_leN, m1_ltN, nI_am, not_true_eq_false, not_false_eq_true, oN_eqm, t4']) <;> omega) | fail)) only [↓numW, ↓zb_t, ↓zb_f, ↓zb_tt, ↓zb_ff, ↓zb_i, ↓zb_z0, ↓zb_z1, ↓zb_z, ↓zb_l, ↓zb_v, vi32, vi64, true_and, pk_us, Int32.add_zero, Nat.add_sub_cancel, nI_add, nI_1, nI_1a, nI_clamp, k7, k7', k8, k8', k12, k12', k15, k15', k16, k16', nI_sub1, va_up_self, va_up_ne, ne_eq, reduceCtorEq, Nat.reduceEqDiff, not_false_eq_true, t4']
        refine jt_num (hb4.rd ⟨hp3n, ha3.2.1, i2, ha3.2.2.2.1, i3⟩) (fun hlt3 hlo3 hhi3 => ?_) ?_
        · have hbp3 : b p3 < 256 := h0.1.2.2.2.2.1 p3
          have htold : b p3 ≤ 16 := (nI_leI (by omega) (by omega)).mp hhi3
          simp (disch := (first | ((try simp (disch := omega) only [va_up_self, va_up_ne, ne_eq, reduceCtorEq, Nat.reduceEqDiff, not_false_eq_true, l_0, l_2, l_3, l_4, l_5, l_6, l_7, l_8, l_9, l_10, l_11, l_12, l_13, l_14, l_15, l_16, l_17, l_18, l_19, l_20, l_21, l_22, l_23, l_24, l_25, l_26, l_27, l_28, l_29, l_30, l_31, l_32, l_33, l_34, l_35, l_36, l_37, l_38, l_39, l_40, l_41, l_42, l_43, l_44, l_45, l_46, l_47, l_48, l_49, l_50, l_51, l_52, l_53, l_54, l_55, l_56, l_57, l_58, l_59, l_60, l_61, l_62, l_63, l_64, l_97, l_98, l_99, l_200, l_225, l_232, l_255, l_256, l_700, l_1000, l_1024, l_3375, l_4095, l_8000, l_20000, l_60000, vp_nIs, zz0, zz1, e10, nI_leI, nI_ltI, nI_eq, nI_1, nI_1a, nI_add, nI_sub, nI_sub1, pk_mul, nI_clamp, nI_le1, nI_le1', nI_lt1, nI_lt1', nI_eq1, nI_eqm, m1_eqN, m1_le, m1_lt, m1_leN, m1_ltN, nI_am, not_true_eq_false, not_false_eq_true, oN_eqm, t4']) <;> omega) | fail)) only [↓numW, ↓zb_t, ↓zb_f, ↓zb_tt, ↓zb_ff, ↓zb_i, ↓zb_z0, ↓zb_z1, ↓zb_z, ↓zb_l, ↓zb_v, vi32, vi64, true_and, pk_us, Int32.add_zero, Nat.add_sub_cancel, nI_add, nI_1, nI_1a, nI_clamp, k7, k7', k8, k8', k12, k12', k15, k15', k16, k16', nI_sub1, va_up_self, va_up_ne, ne_eq, reduceCtorEq, Nat.reduceEqDiff, not_false_eq_true, t4']
          refine jt_last ((fM4c.i (v := nI (p3 + 1)) (k := 2) (by unfold IcM; omega)) |>.bM (by unfold IcM; omega) (fun j => (by unfold AcM; omega)) h0.2.1) hlt3 sx_is ?_
          have fX5 : fr IcX (AcX c) σ (sm_i σ3 20 (nI (p3 + 1))) := fX3c.i (by unfold IcX; omega)
          have fM5 : fr IcM (AcM c) μ (sm_i ν3 2 (nI (p3 + 1))) := fM4c.i (by unfold IcM; omega)
          have slq0 : slq (sm_i σ3 20 (nI (p3 + 1))) (sm_i ν3 2 (nI (p3 + 1))) c hv (fun _ => 0) := by
            intro s hs
            obtain ⟨a1, a2, a3⟩ := d4 s hs
            refine ⟨?_, ?_, ?_, ?_⟩
            · show σ3.2.2.2.1 14 (16 * c + s) = _
              rw [fX3.2.2.2.2 14 _ (by unfold AfX; omega)]
              show τ.2.2.2.1 14 (16 * c + s) = _
              rw [t6 s hs]; exact a1
            · show ν3.2.2.2.1 8 (16 * c + s) = _
              rw [s8 s hs]; exact a2
            · show σ3.2.2.2.1 15 (16 * c + s) = _
              rw [fX3.2.2.2.2 15 _ (by unfold AfX; omega)]
              show τ.2.2.2.1 15 (16 * c + s) = _
              rw [t7 s hs]; exact oN_0.symm
            · show ν3.2.2.2.1 9 (16 * c + s) = _
              rw [s9 s hs]; exact oN_0.symm
          refine jt_xn (b p3 + 1) (jt_mn (b p3 + 1) (jc_slots (p0 := p3 + 1) (hv := hv) (h0.c fX5 fM5) hc htold ?_ ?_ (b p3) 0 0 (p3 + 1) _ _ hv (fun _ => 0) (by omega) (by omega) fr_r fr_r ⟨hlt3, rfl, rfl, ha3.2.2.2.1, i3⟩ (by omega) slq0 ?_))
          · intro σ6 μ6 p6 v q fX6 fM6 ha6 hp6 hsl hsf
            refine ⟨fX5.t (sX_c fX6), fM5.t (sM_c fM6), Or.inl ⟨rfl, p6, ?_, ha6, u, had + own, v, q, huc, by omega, ?_, ?_, ?_, ?_, ?_, hsl, hsf.1, ?_, hsf.2.2.2, ?_, ?_⟩⟩
            · omega
            · rw [fX6.2.2.2.2 11 c (by unfold AsX; omega)]
              show σ3.2.2.2.1 11 c = _
              rw [fX3.2.2.2.2 11 c (by unfold AfX; omega)]
              exact t3
            · rw [fM6.2.2.2.2 5 c (by unfold AsM; omega)]
              show ν3.2.2.2.1 5 c = _
              rw [fM4.2.2.2.2 5 c (by unfold AsM; omega), fM3.2.2.2.2 5 c (by unfold AfM; omega)]
              exact n4
            · rw [fX6.2.2.2.2 12 c (by unfold AsX; omega)]
              exact r12
            · rw [fM6.2.2.2.2 6 c (by unfold AsM; omega)]
              show ν3.2.2.2.1 6 c = _
              rw [fM4.2.2.2.2 6 c (by unfold AsM; omega)]
              exact r6
            · intro i hi
              obtain ⟨t, a1, a2, a3⟩ := hty i hi
              refine ⟨t, a1, ?_, ?_⟩
              · rw [fX6.2.2.2.2 13 _ (by unfold AsX; omega)]
                exact a2
              · rw [fM6.2.2.2.2 7 _ (by unfold AsM; omega)]
                show ν3.2.2.2.1 7 _ = _
                rw [fM4.2.2.2.2 7 _ (by unfold AsM; omega)]
                exact a3
            · intro s hs hq
              have := hsf.2.1 s hs hq
              omega
            · intro hu0 s hs hq
              rw [hsf.2.2.1 s hs hq]
              exact d5 hu0 s
            · intro hu0
              refine ⟨had, by omega, ?_, fun i hi => ?_, fun s hs hq => ?_⟩
              · rw [fM6.2.2.2.2 6 _ (by unfold AsM; omega)]
                show ν3.2.2.2.1 6 _ = _
                rw [fM4.2.2.2.2 6 _ (by unfold AsM; omega), fM3.2.2.2.2 6 _ (by unfold AfM; omega)]
                simp (disch := omega) only [va_up_self, va_up_ne, pk_us, pk_un, n6 6]
                exact d2.2.2 hu0
              · have k1 : ∀ j, ¬ (15 * c + had ≤ j) → μ6.2.2.2.1 7 j = ν.2.2.2.1 7 j := fun j hj => by
                  rw [fM6.2.2.2.2 7 _ (by unfold AsM; omega)]
                  show ν3.2.2.2.1 7 _ = _
                  rw [fM4.2.2.2.2 7 _ (by unfold AsM; omega), fM3.2.2.2.2 7 _ (by unfold AfM; omega)]
                  simp (disch := omega) only [va_up_self, va_up_ne, pk_us, pk_un, pk_us]
                rw [k1 _ (by omega), k1 _ (by omega), n5 i hi, n7 _ (by omega)]
                unfold ih_t
                rw [if_neg hu0]
              · rw [(hsl s hs).2.1, hsf.2.2.1 s hs hq, fM6.2.2.2.2 8 _ (by unfold AsM; omega)]
                show _ = ν3.2.2.2.1 8 _
                rw [fM4.2.2.2.2 8 _ (by unfold AsM; omega), r8, ← (d4 s hs).2.1]
                unfold ih_s
                rw [if_neg hu0]
          · intro σ6 μ6 fX6 fM6 hf6
            exact ⟨fX5.t (sX_c fX6), fM5.t (sM_c fM6), Or.inr ⟨rfl, hf6⟩⟩
          · exact ⟨fun s hs => (d4 s hs).2.2, fun s hs hq => absurd rfl hq, fun s hs _ => rfl, fun s t _ _ hq => absurd rfl hq⟩
        · simp (disch := (first | ((try simp (disch := omega) only [va_up_self, va_up_ne, ne_eq, reduceCtorEq, Nat.reduceEqDiff, not_false_eq_true, l_0, l_2, l_3, l_4, l_5, l_6, l_7, l_8, l_9, l_10, l_11, l_12, l_13, l_14, l_15, l_16, l_17, l_18, l_19, l_20, l_21, l_22, l_23, l_24, l_25, l_26, l_27, l_28, l_29, l_30, l_31, l_32, l_33, l_34, l_35, l_36, l_37, l_38, l_39, l_40, l_41, l_42, l_43, l_44, l_45, l_46, l_47, l_48, l_49, l_50, l_51, l_52, l_53, l_54, l_55, l_56, l_57, l_58, l_59, l_60, l_61, l_62, l_63, l_64, l_97, l_98, l_99, l_200, l_225, l_232, l_255, l_256, l_700, l_1000, l_1024, l_3375, l_4095, l_8000, l_20000, l_60000, vp_nIs, zz0, zz1, e10, nI_leI, nI_ltI, nI_eq, nI_1, nI_1a, nI_add, nI_sub, nI_sub1, pk_mul, nI_clamp, nI_le1, nI_le1', nI_lt1, nI_lt1', nI_eq1, nI_eqm, m1_eqN, m1_le, m1_lt, m1_leN, m1_ltN, nI_am, not_true_eq_false, not_false_eq_true, oN_eqm, t4']) <;> omega) | fail)) only [↓numW, ↓zb_t, ↓zb_f, ↓zb_tt, ↓zb_ff, ↓zb_i, ↓zb_z0, ↓zb_z1, ↓zb_z, ↓zb_l, ↓zb_v, vi32, vi64, true_and, pk_us, Int32.add_zero, Nat.add_sub_cancel, nI_add, nI_1, nI_1a, nI_clamp, k7, k7', k8, k8', k12, k12', k15, k15', k16, k16', nI_sub1, va_up_self, va_up_ne, ne_eq, reduceCtorEq, Nat.reduceEqDiff, not_false_eq_true, t4']
          refine jt_ee ⟨0, _, fun K q => ⟨1, w_139W ?_ q⟩, fX3c.i (by unfold IcX; omega), fM4c.i (by unfold IcM; omega), Or.inr ⟨rfl, p3, hp3n, rfl, rfl⟩⟩
          exact nI_m1 (by omega)
      · intro σ6 μ6 fX6 fM6 hf6
        exact ⟨fX2.t (fX_c d1 fX6), fM2.t (fM_c d1 fM6), Or.inr ⟨rfl, hf6⟩⟩
      · intro i hi
        obtain ⟨t, a1, a2, a3⟩ := d3 i hi
        refine ⟨t, a1, ?_, ?_⟩
        · show τ.2.2.2.1 13 _ = _
          rw [t5 i (by omega)]
          exact a2
        · simp (disch := omega) only [va_up_self, va_up_ne, pk_us, pk_un, n5 i hi]
          exact a3
    · simp (disch := (first | ((try simp (disch := omega) only [va_up_self, va_up_ne, ne_eq, reduceCtorEq, Nat.reduceEqDiff, not_false_eq_true, l_0, l_2, l_3, l_4, l_5, l_6, l_7, l_8, l_9, l_10, l_11, l_12, l_13, l_14, l_15, l_16, l_17, l_18, l_19, l_20, l_21, l_22, l_23, l_24, l_25, l_26, l_27, l_28, l_29, l_30, l_31, l_32, l_33, l_34, l_35, l_36, l_37, l_38, l_39, l_40, l_41, l_42, l_43, l_44, l_45, l_46, l_47, l_48, l_49, l_50, l_51, l_52, l_53, l_54, l_55, l_56, l_57, l_58, l_59, l_60, l_61, l_62, l_63, l_64, l_97, l_98, l_99, l_200, l_225, l_232, l_255, l_256, l_700, l_1000, l_1024, l_3375, l_4095, l_8000, l_20000, l_60000, vp_nIs, zz0, zz1, e10, nI_leI, nI_ltI, nI_eq, nI_1, nI_1a, nI_add, nI_sub, nI_sub1, pk_mul, nI_clamp, nI_le1, nI_le1', nI_lt1, nI_lt1', nI_eq1, nI_eqm, m1_eqN, m1_le, m1_lt, m1_leN, m1_ltN, nI_am, not_true_eq_false, not_false_eq_true, oN_eqm, t4', lx11 hLX, lx12 hLX, lx13 hLX, lx14 hLX, lx15 hLX, lx16 hLX, lx20 hLX, lx21 hLX, lx22 hLX, lx23 hLX, lx24 hLX, lx25 hLX, lx26 hLX, lx27 hLX, lx28 hLX, lx29 hLX, lm4 hLM, lm5 hLM, lm6 hLM, lm7 hLM, lm8 hLM, lm9 hLM, lm10 hLM, lm11 hLM, lm12 hLM, lm13 hLM, lm14 hLM, lm15 hLM, lm16 hLM, lm17 hLM, lm18 hLM, lm19 hLM, lm20 hLM]) <;> omega) | fail)) only [↓numW, ↓zb_t, ↓zb_f, ↓zb_tt, ↓zb_ff, ↓zb_i, ↓zb_z0, ↓zb_z1, ↓zb_z, ↓zb_l, ↓zb_v, vi32, vi64, true_and, pk_us, Int32.add_zero, Nat.add_sub_cancel, nI_add, nI_1, nI_1a, nI_clamp, k7, k7', k8, k8', k12, k12', k15, k15', k16, k16', nI_sub1, va_up_self, va_up_ne, ne_eq, reduceCtorEq, Nat.reduceEqDiff, not_false_eq_true, t4', lx11 hLX, lx12 hLX, lx13 hLX, lx14 hLX, lx15 hLX, lx16 hLX, lx20 hLX, lx21 hLX, lx22 hLX, lx23 hLX, lx24 hLX, lx25 hLX, lx26 hLX, lx27 hLX, lx28 hLX, lx29 hLX, lm4 hLM, lm5 hLM, lm6 hLM, lm7 hLM, lm8 hLM, lm9 hLM, lm10 hLM, lm11 hLM, lm12 hLM, lm13 hLM, lm14 hLM, lm15 hLM, lm16 hLM, lm17 hLM, lm18 hLM, lm19 hLM, lm20 hLM]
      refine jt_ee ⟨0, _, fun K q => ⟨1, w_63W ?_ q⟩, t1.i (by unfold IcX; omega), n1.i (by unfold IcM; omega), Or.inr ⟨rfl, p + 1, hlt, rfl, rfl⟩⟩
      exact nI_m1 (by omega)
  · exact ⟨0, _, 0, _, fun K q => w_cB h0.1 hpn ha.2.1 hw hc hu _ q, fun K q => w_rB h0.2.1 hpn hat hw2 hc hu K q, fr_r.i (by unfold IcX; omega), fr_r.i (by unfold IcM; omega), Or.inr ⟨rfl, p, hpn, rfl, rfl⟩⟩
