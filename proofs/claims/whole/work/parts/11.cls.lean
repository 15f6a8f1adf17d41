theorem k7 (a : Nat) : nI a * 7 = nI (7 * a) := by rw [l_7, pk_mul, Nat.mul_comm]
theorem k7' (a : Nat) : 7 * nI a = nI (7 * a) := by rw [l_7, pk_mul]
theorem k8 (a : Nat) : nI a * 8 = nI (8 * a) := by rw [l_8, pk_mul, Nat.mul_comm]
theorem k8' (a : Nat) : 8 * nI a = nI (8 * a) := by rw [l_8, pk_mul]
theorem k12 (a : Nat) : nI a * 12 = nI (12 * a) := by rw [l_12, pk_mul, Nat.mul_comm]
theorem k12' (a : Nat) : 12 * nI a = nI (12 * a) := by rw [l_12, pk_mul]
theorem k15 (a : Nat) : nI a * 15 = nI (15 * a) := by rw [l_15, pk_mul, Nat.mul_comm]
theorem k15' (a : Nat) : 15 * nI a = nI (15 * a) := by rw [l_15, pk_mul]
theorem k16 (a : Nat) : nI a * 16 = nI (16 * a) := by rw [l_16, pk_mul, Nat.mul_comm]
theorem k16' (a : Nat) : 16 * nI a = nI (16 * a) := by rw [l_16, pk_mul]
theorem tp_ou {f b : Nat → Int32} {t n j : Nat} (h : j < t ∨ t + n ≤ j) : tp_row f t n b j = f j := by
  unfold tp_row
  rw [if_neg (by omega)]
theorem tp_inn {f b : Nat → Int32} {t n i : Nat} (h : i < n) : tp_row f t n b (t + i) = b i := by
  unfold tp_row
  rw [if_pos (by omega)]
  exact congrArg b (by omega)
/-- inherit: the fields' types -/
theorem l_inh30 {c u : Nat} {f h : Nat → Int32} {K : sm_S → Prop} (hc : c < 32) (hu : u ≤ c) (hh : ∀ i, h i = if u = 0 then 0 else f (15 * (u - 1) + i)) : ∀ (d i : Nat) (σ : sm_S), i + d = 15 → σ.2.2.1 13 = 480 → σ.2.2.2.1 13 = tp_row f (15 * c) i h → (∃ n, mp_X0_inherit_75 K n (sm_r σ 13 (tp_row f (15 * c) 15 h)) (nI c) (oN u) 0) → mp_X0_inherit_30 K (d + 1) σ (nI c) (oN u) (nI i) := by
  intro d
  induction d with
  | zero =>
    intro i σ hi hl hf hK
    have e : i = 15 := by omega
    subst e
    unfold mp_X0_inherit_30
    rw [sx_r0 hf] at hK
    simp (disch := (first | ((try simp (disch := omega) only [va_up_self, va_up_ne, ne_eq, reduceCtorEq, Nat.reduceEqDiff, not_false_eq_true, l_0, l_2, l_3, l_4, l_5, l_6, l_7, l_8, l_9, l_10, l_11, l_12, l_13, l_14, l_15, l_16, l_17, l_18, l_19, l_20, l_21, l_22, l_23, l_24, l_25, l_26, l_27, l_28, l_29, l_30, l_31, l_32, l_33, l_34, l_35, l_36, l_37, l_38, l_39, l_40, l_41, l_42, l_43, l_44, l_45, l_46, l_47, l_48, l_49, l_50, l_51, l_52, l_53, l_54, l_55, l_56, l_57, l_58, l_59, l_60, l_61, l_62, l_63, l_64, l_97, l_98, l_99, l_200, l_225, l_232, l_255, l_256, l_700, l_1000, l_1024, l_3375, l_4095, l_8000, l_20000, l_60000, vp_nIs, zz0, zz1, e10, nI_leI, nI_ltI, nI_eq, nI_1, nI_1a, nI_add, nI_sub, nI_sub1, pk_mul, nI_clamp, nI_le1, nI_le1', nI_lt1, nI_lt1', nI_eq1, nI_eqm, m1_eqN, m1_le, m1_lt, m1_leN, m1_ltN, nI_am, not_true_eq_false, not_false_eq_true, oN_eqm, hl]) <;> omega) | fail)) only [↓numW, ↓zb_t, ↓zb_f, ↓zb_tt, ↓zb_ff, ↓zb_i, ↓zb_z0, ↓zb_z1, ↓zb_z, ↓zb_l, ↓zb_v, vi32, vi64, true_and, pk_us, Int32.add_zero, Nat.add_sub_cancel, nI_add, nI_1, nI_1a, nI_clamp, k7, k7', k8, k8', k12, k12', k15, k15', k16, k16', nI_sub1, va_up_self, va_up_ne, ne_eq, reduceCtorEq, Nat.reduceEqDiff, not_false_eq_true, hl]
    exact hK
  | succ d ih =>
    intro i σ hi hl hf hK
    unfold mp_X0_inherit_30 mp_X0_inherit_66
    rcases u with _ | u
    · rw [oN_0]
      simp (disch := (first | ((try simp (disch := omega) only [va_up_self, va_up_ne, ne_eq, reduceCtorEq, Nat.reduceEqDiff, not_false_eq_true, l_0, l_2, l_3, l_4, l_5, l_6, l_7, l_8, l_9, l_10, l_11, l_12, l_13, l_14, l_15, l_16, l_17, l_18, l_19, l_20, l_21, l_22, l_23, l_24, l_25, l_26, l_27, l_28, l_29, l_30, l_31, l_32, l_33, l_34, l_35, l_36, l_37, l_38, l_39, l_40, l_41, l_42, l_43, l_44, l_45, l_46, l_47, l_48, l_49, l_50, l_51, l_52, l_53, l_54, l_55, l_56, l_57, l_58, l_59, l_60, l_61, l_62, l_63, l_64, l_97, l_98, l_99, l_200, l_225, l_232, l_255, l_256, l_700, l_1000, l_1024, l_3375, l_4095, l_8000, l_20000, l_60000, vp_nIs, zz0, zz1, e10, nI_leI, nI_ltI, nI_eq, nI_1, nI_1a, nI_add, nI_sub, nI_sub1, pk_mul, nI_clamp, nI_le1, nI_le1', nI_lt1, nI_lt1', nI_eq1, nI_eqm, m1_eqN, m1_le, m1_lt, m1_leN, m1_ltN, nI_am, not_true_eq_false, not_false_eq_true, oN_eqm, hl, hf]) <;> omega) | fail)) only [↓numW, ↓zb_t, ↓zb_f, ↓zb_tt, ↓zb_ff, ↓zb_i, ↓zb_z0, ↓zb_z1, ↓zb_z, ↓zb_l, ↓zb_v, vi32, vi64, true_and, pk_us, Int32.add_zero, Nat.add_sub_cancel, nI_add, nI_1, nI_1a, nI_clamp, k7, k7', k8, k8', k12, k12', k15, k15', k16, k16', nI_sub1, va_up_self, va_up_ne, ne_eq, reduceCtorEq, Nat.reduceEqDiff, not_false_eq_true, hl, hf]
      rw [tp_row1 f (15 * c) i h (by rw [hh]; rfl)]
      have := ih (i + 1) (sm_r σ 13 (tp_row f (15 * c) (i + 1) h)) (by omega) hl sx_rs (by rw [sx_rr]; exact hK)
      rw [oN_0] at this
      exact this
    · rw [oN_s]
      simp (disch := (first | ((try simp (disch := omega) only [va_up_self, va_up_ne, ne_eq, reduceCtorEq, Nat.reduceEqDiff, not_false_eq_true, l_0, l_2, l_3, l_4, l_5, l_6, l_7, l_8, l_9, l_10, l_11, l_12, l_13, l_14, l_15, l_16, l_17, l_18, l_19, l_20, l_21, l_22, l_23, l_24, l_25, l_26, l_27, l_28, l_29, l_30, l_31, l_32, l_33, l_34, l_35, l_36, l_37, l_38, l_39, l_40, l_41, l_42, l_43, l_44, l_45, l_46, l_47, l_48, l_49, l_50, l_51, l_52, l_53, l_54, l_55, l_56, l_57, l_58, l_59, l_60, l_61, l_62, l_63, l_64, l_97, l_98, l_99, l_200, l_225, l_232, l_255, l_256, l_700, l_1000, l_1024, l_3375, l_4095, l_8000, l_20000, l_60000, vp_nIs, zz0, zz1, e10, nI_leI, nI_ltI, nI_eq, nI_1, nI_1a, nI_add, nI_sub, nI_sub1, pk_mul, nI_clamp, nI_le1, nI_le1', nI_lt1, nI_lt1', nI_eq1, nI_eqm, m1_eqN, m1_le, m1_lt, m1_leN, m1_ltN, nI_am, not_true_eq_false, not_false_eq_true, oN_eqm, hl, hf]) <;> omega) | fail)) only [↓numW, ↓zb_t, ↓zb_f, ↓zb_tt, ↓zb_ff, ↓zb_i, ↓zb_z0, ↓zb_z1, ↓zb_z, ↓zb_l, ↓zb_v, vi32, vi64, true_and, pk_us, Int32.add_zero, Nat.add_sub_cancel, nI_add, nI_1, nI_1a, nI_clamp, k7, k7', k8, k8', k12, k12', k15, k15', k16, k16', nI_sub1, va_up_self, va_up_ne, ne_eq, reduceCtorEq, Nat.reduceEqDiff, not_false_eq_true, hl, hf]
      rw [tp_ou (by omega), tp_row1 f (15 * c) i h (by rw [hh, if_neg (by omega)]; rfl)]
      have := ih (i + 1) (sm_r σ 13 (tp_row f (15 * c) (i + 1) h)) (by omega) hl sx_rs (by rw [sx_rr]; exact hK)
      rw [oN_s] at this
      exact this
/-- inherit: the slots -/
theorem l_inh75 {c u : Nat} {f g h : Nat → Int32} {K : sm_S → Prop} (hc : c < 32) (hu : u ≤ c) (hh : ∀ i, h i = if u = 0 then -1 else f (16 * (u - 1) + i)) : ∀ (d i : Nat) (σ : sm_S), i + d = 16 → σ.2.2.1 14 = 512 → σ.2.2.1 15 = 512 → σ.2.2.2.1 14 = tp_row f (16 * c) i h → σ.2.2.2.1 15 = tp_row g (16 * c) i (fun _ => -1) → K (sm_r (sm_r σ 14 (tp_row f (16 * c) 16 h)) 15 (tp_row g (16 * c) 16 (fun _ => -1))) → mp_X0_inherit_75 K (d + 1) σ (nI c) (oN u) (nI i) := by
  intro d
  induction d with
  | zero =>
    intro i σ hi hl hl2 hf hg hK
    have e : i = 16 := by omega
    subst e
    unfold mp_X0_inherit_75
    rw [sx_r0 hf, sx_r0 hg] at hK
    simp (disch := (first | ((try simp (disch := omega) only [va_up_self, va_up_ne, ne_eq, reduceCtorEq, Nat.reduceEqDiff, not_false_eq_true, l_0, l_2, l_3, l_4, l_5, l_6, l_7, l_8, l_9, l_10, l_11, l_12, l_13, l_14, l_15, l_16, l_17, l_18, l_19, l_20, l_21, l_22, l_23, l_24, l_25, l_26, l_27, l_28, l_29, l_30, l_31, l_32, l_33, l_34, l_35, l_36, l_37, l_38, l_39, l_40, l_41, l_42, l_43, l_44, l_45, l_46, l_47, l_48, l_49, l_50, l_51, l_52, l_53, l_54, l_55, l_56, l_57, l_58, l_59, l_60, l_61, l_62, l_63, l_64, l_97, l_98, l_99, l_200, l_225, l_232, l_255, l_256, l_700, l_1000, l_1024, l_3375, l_4095, l_8000, l_20000, l_60000, vp_nIs, zz0, zz1, e10, nI_leI, nI_ltI, nI_eq, nI_1, nI_1a, nI_add, nI_sub, nI_sub1, pk_mul, nI_clamp, nI_le1, nI_le1', nI_lt1, nI_lt1', nI_eq1, nI_eqm, m1_eqN, m1_le, m1_lt, m1_leN, m1_ltN, nI_am, not_true_eq_false, not_false_eq_true, oN_eqm, hl]) <;> omega) | fail)) only [↓numW, ↓zb_t, ↓zb_f, ↓zb_tt, ↓zb_ff, ↓zb_i, ↓zb_z0, ↓zb_z1, ↓zb_z, ↓zb_l, ↓zb_v, vi32, vi64, true_and, pk_us, Int32.add_zero, Nat.add_sub_cancel, nI_add, nI_1, nI_1a, nI_clamp, k7, k7', k8, k8', k12, k12', k15, k15', k16, k16', nI_sub1, va_up_self, va_up_ne, ne_eq, reduceCtorEq, Nat.reduceEqDiff, not_false_eq_true, hl]
    exact hK
  | succ d ih =>
    intro i σ hi hl hl2 hf hg hK
    have hI := ih (i + 1) (sm_r (sm_r σ 14 (tp_row f (16 * c) (i + 1) h)) 15 (tp_row g (16 * c) (i + 1) (fun _ => -1))) (by omega) hl hl2 ((sx_rn (by decide)).trans sx_rs) sx_rs (by rw [sx_r4 _ _ _ _ _ (by decide)]; exact hK)
    unfold mp_X0_inherit_75 mp_X0_inherit_111
    rcases u with _ | u
    · rw [oN_0] at hI ⊢
      simp (disch := (first | ((try simp (disch := omega) only [va_up_self, va_up_ne, ne_eq, reduceCtorEq, Nat.reduceEqDiff, not_false_eq_true, l_0, l_2, l_3, l_4, l_5, l_6, l_7, l_8, l_9, l_10, l_11, l_12, l_13, l_14, l_15, l_16, l_17, l_18, l_19, l_20, l_21, l_22, l_23, l_24, l_25, l_26, l_27, l_28, l_29, l_30, l_31, l_32, l_33, l_34, l_35, l_36, l_37, l_38, l_39, l_40, l_41, l_42, l_43, l_44, l_45, l_46, l_47, l_48, l_49, l_50, l_51, l_52, l_53, l_54, l_55, l_56, l_57, l_58, l_59, l_60, l_61, l_62, l_63, l_64, l_97, l_98, l_99, l_200, l_225, l_232, l_255, l_256, l_700, l_1000, l_1024, l_3375, l_4095, l_8000, l_20000, l_60000, vp_nIs, zz0, zz1, e10, nI_leI, nI_ltI, nI_eq, nI_1, nI_1a, nI_add, nI_sub, nI_sub1, pk_mul, nI_clamp, nI_le1, nI_le1', nI_lt1, nI_lt1', nI_eq1, nI_eqm, m1_eqN, m1_le, m1_lt, m1_leN, m1_ltN, nI_am, not_true_eq_false, not_false_eq_true, oN_eqm, hl, hl2, hf, hg]) <;> omega) | fail)) only [↓numW, ↓zb_t, ↓zb_f, ↓zb_tt, ↓zb_ff, ↓zb_i, ↓zb_z0, ↓zb_z1, ↓zb_z, ↓zb_l, ↓zb_v, vi32, vi64, true_and, pk_us, Int32.add_zero, Nat.add_sub_cancel, nI_add, nI_1, nI_1a, nI_clamp, k7, k7', k8, k8', k12, k12', k15, k15', k16, k16', nI_sub1, va_up_self, va_up_ne, ne_eq, reduceCtorEq, Nat.reduceEqDiff, not_false_eq_true, hl, hl2, hf, hg]
      rw [tp_row1 f (16 * c) i h (by rw [hh]; rfl), tp_row1 g (16 * c) i _ rfl]
      exact hI
    · rw [oN_s] at hI ⊢
      simp (disch := (first | ((try simp (disch := omega) only [va_up_self, va_up_ne, ne_eq, reduceCtorEq, Nat.reduceEqDiff, not_false_eq_true, l_0, l_2, l_3, l_4, l_5, l_6, l_7, l_8, l_9, l_10, l_11, l_12, l_13, l_14, l_15, l_16, l_17, l_18, l_19, l_20, l_21, l_22, l_23, l_24, l_25, l_26, l_27, l_28, l_29, l_30, l_31, l_32, l_33, l_34, l_35, l_36, l_37, l_38, l_39, l_40, l_41, l_42, l_43, l_44, l_45, l_46, l_47, l_48, l_49, l_50, l_51, l_52, l_53, l_54, l_55, l_56, l_57, l_58, l_59, l_60, l_61, l_62, l_63, l_64, l_97, l_98, l_99, l_200, l_225, l_232, l_255, l_256, l_700, l_1000, l_1024, l_3375, l_4095, l_8000, l_20000, l_60000, vp_nIs, zz0, zz1, e10, nI_leI, nI_ltI, nI_eq, nI_1, nI_1a, nI_add, nI_sub, nI_sub1, pk_mul, nI_clamp, nI_le1, nI_le1', nI_lt1, nI_lt1', nI_eq1, nI_eqm, m1_eqN, m1_le, m1_lt, m1_leN, m1_ltN, nI_am, not_true_eq_false, not_false_eq_true, oN_eqm, hl, hl2, hf, hg]) <;> omega) | fail)) only [↓numW, ↓zb_t, ↓zb_f, ↓zb_tt, ↓zb_ff, ↓zb_i, ↓zb_z0, ↓zb_z1, ↓zb_z, ↓zb_l, ↓zb_v, vi32, vi64, true_and, pk_us, Int32.add_zero, Nat.add_sub_cancel, nI_add, nI_1, nI_1a, nI_clamp, k7, k7', k8, k8', k12, k12', k15, k15', k16, k16', nI_sub1, va_up_self, va_up_ne, ne_eq, reduceCtorEq, Nat.reduceEqDiff, not_false_eq_true, hl, hl2, hf, hg]
      rw [tp_ou (by omega), tp_row1 f (16 * c) i h (by rw [hh, if_neg (by omega)]; rfl), tp_row1 g (16 * c) i _ rfl]
      exact hI
def ih_t (f : Nat → Int32) (u i : Nat) : Int32 := if u = 0 then 0 else f (15 * (u - 1) + i)
def ih_s (f : Nat → Int32) (u i : Nat) : Int32 := if u = 0 then -1 else f (16 * (u - 1) + i)
def ih_n (f : Nat → Int32) (u : Nat) : Int32 := if u = 0 then 0 else f (u - 1)
def ih_X (σ : sm_S) (c u : Nat) : sm_S := sm_r (sm_r (sm_r (sm_r (sm_r σ 11 (upd (σ.2.2.2.1 11) c (oN u))) 12 (upd (σ.2.2.2.1 12) c (ih_n (σ.2.2.2.1 12) u))) 13 (tp_row (σ.2.2.2.1 13) (15 * c) 15 (ih_t (σ.2.2.2.1 13) u))) 14 (tp_row (σ.2.2.2.1 14) (16 * c) 16 (ih_s (σ.2.2.2.1 14) u))) 15 (tp_row (σ.2.2.2.1 15) (16 * c) 16 (fun _ => -1))
theorem w_inherit {σ : sm_S} {c u : Nat} {K : sm_S → Prop} (hc : c < 32) (hu : u ≤ c) (h11 : σ.2.2.1 11 = 32) (h12 : σ.2.2.1 12 = 32) (h13 : σ.2.2.1 13 = 480) (h14 : σ.2.2.1 14 = 512) (h15 : σ.2.2.1 15 = 512) (hK : K (ih_X σ c u)) : mp_X0_inherit σ (nI c) (oN u) K := by
  have h75 : ∀ τ : sm_S, τ.2.2.1 14 = 512 → τ.2.2.1 15 = 512 → τ.2.2.2.1 14 = σ.2.2.2.1 14 → τ.2.2.2.1 15 = σ.2.2.2.1 15 → K (sm_r (sm_r τ 14 (tp_row (σ.2.2.2.1 14) (16 * c) 16 (ih_s (σ.2.2.2.1 14) u))) 15 (tp_row (σ.2.2.2.1 15) (16 * c) 16 (fun _ => -1))) → ∃ n, mp_X0_inherit_75 K n τ (nI c) (oN u) 0 := fun τ a1 a2 a3 a4 a5 => ⟨17, l_inh75 hc hu (fun _ => rfl) 16 0 τ (by omega) a1 a2 (by rw [tp_row0]; exact a3) (by rw [tp_row0]; exact a4) a5⟩
  have h27 : ∀ v : Int32, v = ih_n (σ.2.2.2.1 12) u → mp_X0_inherit_27 K (sm_r σ 11 (upd (σ.2.2.2.1 11) c (oN u))) (nI c) (oN u) (nI c) v := by
    intro v hv
    rw [hv]
    unfold mp_X0_inherit_27
    simp (disch := (first | ((try simp (disch := omega) only [va_up_self, va_up_ne, ne_eq, reduceCtorEq, Nat.reduceEqDiff, not_false_eq_true, l_0, l_2, l_3, l_4, l_5, l_6, l_7, l_8, l_9, l_10, l_11, l_12, l_13, l_14, l_15, l_16, l_17, l_18, l_19, l_20, l_21, l_22, l_23, l_24, l_25, l_26, l_27, l_28, l_29, l_30, l_31, l_32, l_33, l_34, l_35, l_36, l_37, l_38, l_39, l_40, l_41, l_42, l_43, l_44, l_45, l_46, l_47, l_48, l_49, l_50, l_51, l_52, l_53, l_54, l_55, l_56, l_57, l_58, l_59, l_60, l_61, l_62, l_63, l_64, l_97, l_98, l_99, l_200, l_225, l_232, l_255, l_256, l_700, l_1000, l_1024, l_3375, l_4095, l_8000, l_20000, l_60000, vp_nIs, zz0, zz1, e10, nI_leI, nI_ltI, nI_eq, nI_1, nI_1a, nI_add, nI_sub, nI_sub1, pk_mul, nI_clamp, nI_le1, nI_le1', nI_lt1, nI_lt1', nI_eq1, nI_eqm, m1_eqN, m1_le, m1_lt, m1_leN, m1_ltN, nI_am, not_true_eq_false, not_false_eq_true, oN_eqm, h12]) <;> omega) | fail)) only [↓numW, ↓zb_t, ↓zb_f, ↓zb_tt, ↓zb_ff, ↓zb_i, ↓zb_z0, ↓zb_z1, ↓zb_z, ↓zb_l, ↓zb_v, vi32, vi64, true_and, pk_us, Int32.add_zero, Nat.add_sub_cancel, nI_add, nI_1, nI_1a, nI_clamp, k7, k7', k8, k8', k12, k12', k15, k15', k16, k16', nI_sub1, va_up_self, va_up_ne, ne_eq, reduceCtorEq, Nat.reduceEqDiff, not_false_eq_true, h12]
    refine ⟨16, l_inh30 hc hu (fun _ => rfl) 15 0 _ (by omega) h13 ?_ (h75 _ h14 h15 ?_ ?_ hK)⟩
    · rw [tp_row0]; rfl
    · rfl
    · rfl
  unfold mp_X0_inherit
  rcases u with _ | u
  · rw [oN_0] at h27 ⊢
    simp (disch := (first | ((try simp (disch := omega) only [va_up_self, va_up_ne, ne_eq, reduceCtorEq, Nat.reduceEqDiff, not_false_eq_true, l_0, l_2, l_3, l_4, l_5, l_6, l_7, l_8, l_9, l_10, l_11, l_12, l_13, l_14, l_15, l_16, l_17, l_18, l_19, l_20, l_21, l_22, l_23, l_24, l_25, l_26, l_27, l_28, l_29, l_30, l_31, l_32, l_33, l_34, l_35, l_36, l_37, l_38, l_39, l_40, l_41, l_42, l_43, l_44, l_45, l_46, l_47, l_48, l_49, l_50, l_51, l_52, l_53, l_54, l_55, l_56, l_57, l_58, l_59, l_60, l_61, l_62, l_63, l_64, l_97, l_98, l_99, l_200, l_225, l_232, l_255, l_256, l_700, l_1000, l_1024, l_3375, l_4095, l_8000, l_20000, l_60000, vp_nIs, zz0, zz1, e10, nI_leI, nI_ltI, nI_eq, nI_1, nI_1a, nI_add, nI_sub, nI_sub1, pk_mul, nI_clamp, nI_le1, nI_le1', nI_lt1, nI_lt1', nI_eq1, nI_eqm, m1_eqN, m1_le, m1_lt, m1_leN, m1_ltN, nI_am, not_true_eq_false, not_false_eq_true, oN_eqm, h11, h12]) <;> omega) | fail)) only [↓numW, ↓zb_t, ↓zb_f, ↓zb_tt, ↓zb_ff, ↓zb_i, ↓zb_z0, ↓zb_z1, ↓zb_z, ↓zb_l, ↓zb_v, vi32, vi64, true_and, pk_us, Int32.add_zero, Nat.add_sub_cancel, nI_add, nI_1, nI_1a, nI_clamp, k7, k7', k8, k8', k12, k12', k15, k15', k16, k16', nI_sub1, va_up_self, va_up_ne, ne_eq, reduceCtorEq, Nat.reduceEqDiff, not_false_eq_true, h11, h12]
    exact h27 _ rfl
  · rw [oN_s] at h27 ⊢
    simp (disch := (first | ((try simp (disch := omega) only [va_up_self, va_up_ne, ne_eq, reduceCtorEq, Nat.reduceEqDiff, not_false_eq_true, l_0, l_2, l_3, l_4, l_5, l_6, l_7, l_8, l_9, l_10, l_11, l_12, l_13, l_14, l_15, l_16, l_17, l_18, l_19, l_20, l_21, l_22, l_23, l_24, l_25, l_26, l_27, l_28, l_29, l_30, l_31, l_32, l_33, l_34, l_35, l_36, l_37, l_38, l_39, l_40, l_41, l_42, l_43, l_44, l_45, l_46, l_47, l_48, l_49, l_50, l_51, l_52, l_53, l_54, l_55, l_56, l_57, l_58, l_59, l_60, l_61, l_62, l_63, l_64, l_97, l_98, l_99, l_200, l_225, l_232, l_255, l_256, l_700, l_1000, l_1024, l_3375, l_4095, l_8000, l_20000, l_60000, vp_nIs, zz0, zz1, e10, nI_leI, nI_ltI, nI_eq, nI_1, nI_1a, nI_add, nI_sub, nI_sub1, pk_mul, nI_clamp, nI_le1, nI_le1', nI_lt1, nI_lt1', nI_eq1, nI_eqm, m1_eqN, m1_le, m1_lt, m1_leN, m1_ltN, nI_am, not_true_eq_false, not_false_eq_true, oN_eqm, h11, h12]) <;> omega) | fail)) only [↓numW, ↓zb_t, ↓zb_f, ↓zb_tt, ↓zb_ff, ↓zb_i, ↓zb_z0, ↓zb_z1, ↓zb_z, ↓zb_l, ↓zb_v, vi32, vi64, true_and, pk_us, Int32.add_zero, Nat.add_sub_cancel, nI_add, nI_1, nI_1a, nI_clamp, k7, k7', k8, k8', k12, k12', k15, k15', k16, k16', nI_sub1, va_up_self, va_up_ne, ne_eq, reduceCtorEq, Nat.reduceEqDiff, not_false_eq_true, h11, h12]
    exact h27 _ rfl
