/-! ===== classes above classes ===== -/
def isB (T : Nat → Nat → Nat) : Nat → Nat → Nat → Bool
  | 0, _, _ => false
  | f + 1, c, a => decide (c = a) || (decide (T 5 c ≠ 0) && isB T f (T 5 c - 1) a)
/-- c is a, or below a -/
def isA (T : Nat → Nat → Nat) (c a : Nat) : Prop := isB T 64 c a = true
theorem isB_s {T : Nat → Nat → Nat} {C a : Nat} (h : ∀ c, c < C → T 5 c ≤ c) : ∀ f c, c < f → c < C → isB T (f + 1) c a = isB T f c a := by
  intro f
  induction f with
  | zero => intro c hc; omega
  | succ f ih =>
    intro c hc hC
    have e1 : isB T (f + 1 + 1) c a = (decide (c = a) || (decide (T 5 c ≠ 0) && isB T (f + 1) (T 5 c - 1) a)) := rfl
    have e2 : isB T (f + 1) c a = (decide (c = a) || (decide (T 5 c ≠ 0) && isB T f (T 5 c - 1) a)) := rfl
    rw [e1, e2]
    have := h c hC
    by_cases e : T 5 c = 0
    · rw [show decide (T 5 c ≠ 0) = false by rw [decide_eq_false_iff_not]; exact fun q => q e]
      rfl
    · rw [ih (T 5 c - 1) (by omega) (by omega)]
theorem isA_u {T : Nat → Nat → Nat} {C c a : Nat} (h : ∀ c, c < C → T 5 c ≤ c) (hC : C ≤ 32) (hc : c < C) : isA T c a ↔ c = a ∨ (T 5 c ≠ 0 ∧ isA T (T 5 c - 1) a) := by
  unfold isA
  have e1 : isB T 64 c a = (decide (c = a) || (decide (T 5 c ≠ 0) && isB T 63 (T 5 c - 1) a)) := rfl
  have h5 := h c hc
  rw [e1, Bool.or_eq_true, Bool.and_eq_true, decide_eq_true_iff, decide_eq_true_iff]
  by_cases e : T 5 c = 0
  · exact ⟨fun q => q.elim Or.inl (fun z => absurd e z.1), fun q => q.elim Or.inl (fun z => absurd e z.1)⟩
  · rw [isB_s h 63 (T 5 c - 1) (by omega) (by omega)]
/-- the same, of a number that is 0 for none -/
def isAo (T : Nat → Nat → Nat) (x a : Nat) : Prop := x ≠ 0 ∧ isA T (x - 1) a
theorem isAo_u {T : Nat → Nat → Nat} {C x a : Nat} (h : ∀ c, c < C → T 5 c ≤ c) (hC : C ≤ 32) (hx : x ≤ C) (h0 : x ≠ 0) : isAo T x a ↔ x - 1 = a ∨ isAo T (T 5 (x - 1)) a := by
  unfold isAo
  rw [isA_u h hC (show x - 1 < C by omega)]
  exact ⟨fun q => q.2, fun q => ⟨h0, q⟩⟩
theorem isAo_le {T : Nat → Nat → Nat} {C : Nat} (h : ∀ c, c < C → T 5 c ≤ c) (hC : C ≤ 32) : ∀ x a, x ≤ C → isAo T x a → a < x := by
  intro x
  induction x using Nat.strongRecOn with
  | _ x ih =>
    intro a hx q
    have h0 := q.1
    have h5 := h (x - 1) (by omega)
    rcases (isAo_u h hC hx h0).mp q with e | e
    · omega
    · have := ih (T 5 (x - 1)) (by omega) a (by omega) e
      omega
theorem isA_r {T : Nat → Nat → Nat} (c : Nat) : isA T c c := by
  show isB T (63 + 1) c c = true
  have e : isB T (63 + 1) c c = (decide (c = c) || (decide (T 5 c ≠ 0) && isB T 63 (T 5 c - 1) c)) := rfl
  rw [e, decide_eq_true (rfl : c = c), Bool.true_or]
theorem oN_le {x y : Nat} (hx : x < 2 ^ 31) (hy : y < 2 ^ 31) : oN x ≤ oN y ↔ x ≤ y := by
  rcases x with _ | x
  · rw [oN_0]
    rcases y with _ | y
    · rw [oN_0]; exact ⟨fun _ => Nat.le_refl _, fun _ => by decide⟩
    · rw [oN_s, m1_leN (by omega)]; exact ⟨fun _ => by omega, fun _ => trivial⟩
  · rw [oN_s]
    rcases y with _ | y
    · rw [oN_0, m1_le (by omega)]; exact ⟨fun q => q.elim, fun q => by omega⟩
    · rw [oN_s, nI_leI (by omega) (by omega)]; exact ⟨fun q => by omega, fun q => by omega⟩
theorem l_iob {σ : sm_S} {T : Nat → Nat → Nat} {C a : Nat} {K : jk} (hu : ∀ c, c < C → σ.2.2.2.1 11 c = oN (T 5 c)) (h5 : ∀ c, c < C → T 5 c ≤ c) (hC : C ≤ 32) (l11 : σ.2.2.1 11 = 32) (ha : a < 2 ^ 31) : ∀ (d x i : Nat), x ≤ d → x + i ≤ 32 → x ≤ C → (isAo T x a → K 1 σ) → (¬ isAo T x a → K 0 σ) → mp_X0_isOrBelow_5 K (d + 1) σ (nI a) (oN x) (nI i) := by
  intro d
  induction d with
  | zero =>
    intro x i hx hi hxC h1 h0
    have e : x = 0 := by omega
    subst e
    have := h0 (fun q => q.1 rfl)
    unfold mp_X0_isOrBelow_5 mp_X0_isOrBelow_37
    rw [oN_0]
    exact ⟨fun _ => this, fun _ => ⟨fun _ => this, fun q => absurd rfl q⟩⟩
  | succ d ih =>
    intro x i hx hi hxC h1 h0
    unfold mp_X0_isOrBelow_5 mp_X0_isOrBelow_37
    by_cases e : x = 0
    · subst e
      have := h0 (fun q => q.1 rfl)
      rw [oN_0]
      exact ⟨fun _ => this, fun _ => ⟨fun _ => this, fun q => absurd rfl q⟩⟩
    · have u := hu (x - 1) (by omega)
      have v := h5 (x - 1) (by omega)
      rw [oN_p (by omega)]
      by_cases e2 : x - 1 = a
      · have := h1 ((isAo_u h5 hC hxC e).mpr (Or.inl e2))
        simp (disch := (first | ((try simp (disch := omega) only [va_up_self, va_up_ne, ne_eq, reduceCtorEq, Nat.reduceEqDiff, not_false_eq_true, l_0, l_2, l_3, l_4, l_5, l_6, l_7, l_8, l_9, l_10, l_11, l_12, l_13, l_14, l_15, l_16, l_17, l_18, l_19, l_20, l_21, l_22, l_23, l_24, l_25, l_26, l_27, l_28, l_29, l_30, l_31, l_32, l_33, l_34, l_35, l_36, l_37, l_38, l_39, l_40, l_41, l_42, l_43, l_44, l_45, l_46, l_47, l_48, l_49, l_50, l_51, l_52, l_53, l_54, l_55, l_56, l_57, l_58, l_59, l_60, l_61, l_62, l_63, l_64, l_97, l_98, l_99, l_200, l_225, l_232, l_255, l_256, l_700, l_1000, l_1024, l_3375, l_4095, l_8000, l_20000, l_60000, vp_nIs, zz0, zz1, e10, nI_leI, nI_ltI, nI_eq, nI_1, nI_1a, nI_add, nI_sub, nI_sub1, pk_mul, nI_clamp, nI_le1, nI_le1', nI_lt1, nI_lt1', nI_eq1, nI_eqm, m1_eqN, m1_le, m1_lt, m1_leN, m1_ltN, nI_am, not_true_eq_false, not_false_eq_true, oN_eqm, l11]) <;> omega) | fail)) only [↓numW, ↓zb_t, ↓zb_f, ↓zb_tt, ↓zb_ff, ↓zb_i, ↓zb_z0, ↓zb_z1, ↓zb_z, ↓zb_l, ↓zb_v, vi32, vi64, true_and, pk_us, Int32.add_zero, Nat.add_sub_cancel, nI_add, nI_1, nI_1a, nI_clamp, k7, k7', k8, k8', k12, k12', k15, k15', k16, k16', nI_sub1, va_up_self, va_up_ne, ne_eq, reduceCtorEq, Nat.reduceEqDiff, not_false_eq_true, l11]
        exact this
      · have := ih (T 5 (x - 1)) (i + 1) (by omega) (by omega) (by omega) (fun q => h1 ((isAo_u h5 hC hxC e).mpr (Or.inr q))) (fun q => h0 (fun z => ((isAo_u h5 hC hxC e).mp z).elim e2 q))
        simp (disch := (first | ((try simp (disch := omega) only [va_up_self, va_up_ne, ne_eq, reduceCtorEq, Nat.reduceEqDiff, not_false_eq_true, l_0, l_2, l_3, l_4, l_5, l_6, l_7, l_8, l_9, l_10, l_11, l_12, l_13, l_14, l_15, l_16, l_17, l_18, l_19, l_20, l_21, l_22, l_23, l_24, l_25, l_26, l_27, l_28, l_29, l_30, l_31, l_32, l_33, l_34, l_35, l_36, l_37, l_38, l_39, l_40, l_41, l_42, l_43, l_44, l_45, l_46, l_47, l_48, l_49, l_50, l_51, l_52, l_53, l_54, l_55, l_56, l_57, l_58, l_59, l_60, l_61, l_62, l_63, l_64, l_97, l_98, l_99, l_200, l_225, l_232, l_255, l_256, l_700, l_1000, l_1024, l_3375, l_4095, l_8000, l_20000, l_60000, vp_nIs, zz0, zz1, e10, nI_leI, nI_ltI, nI_eq, nI_1, nI_1a, nI_add, nI_sub, nI_sub1, pk_mul, nI_clamp, nI_le1, nI_le1', nI_lt1, nI_lt1', nI_eq1, nI_eqm, m1_eqN, m1_le, m1_lt, m1_leN, m1_ltN, nI_am, not_true_eq_false, not_false_eq_true, oN_eqm, l11, u]) <;> omega) | fail)) only [↓numW, ↓zb_t, ↓zb_f, ↓zb_tt, ↓zb_ff, ↓zb_i, ↓zb_z0, ↓zb_z1, ↓zb_z, ↓zb_l, ↓zb_v, vi32, vi64, true_and, pk_us, Int32.add_zero, Nat.add_sub_cancel, nI_add, nI_1, nI_1a, nI_clamp, k7, k7', k8, k8', k12, k12', k15, k15', k16, k16', nI_sub1, va_up_self, va_up_ne, ne_eq, reduceCtorEq, Nat.reduceEqDiff, not_false_eq_true, l11, u]
        exact this
theorem w_iob {σ : sm_S} {T : Nat → Nat → Nat} {b : Nat → Nat} {c a : Nat} {K : jk} (h : imX σ T b) (hw : wf T b) (hc : c < T 0 0) (ha : a < 2 ^ 31) (h1 : isA T c a → K 1 σ) (h0 : ¬ isA T c a → K 0 σ) : mp_X0_isOrBelow σ (nI c) (nI a) K := by
  have w2 := hw.2.1
  have hL := lx11 h.2.1
  obtain ⟨hb, -, -, -, -, -, -, ⟨q1, -⟩, -⟩ := h
  have := l_iob (K := K) (σ := σ) (a := a) (fun c hc => (q1 c hc).1) (fun c hc => (hw.2.2.2.2.2.2.1 c hc).1) w2 hL ha 32 (c + 1) 0 (by omega) (by omega) (by omega) (fun q => h1 q.2) (fun q => h0 (fun z => q ⟨by omega, z⟩))
  rw [oN_s] at this
  exact ⟨_, this⟩
theorem l_isA {μ : sm_S} {T : Nat → Nat → Nat} {C a : Nat} {K : jk} (hu : ∀ c, c < C → μ.2.2.2.1 5 c = oN (T 5 c)) (h5 : ∀ c, c < C → T 5 c ≤ c) (hC : C ≤ 32) (l5 : μ.2.2.1 5 = 32) (ha : a < 2 ^ 31) : ∀ (d x : Nat), x ≤ d → x ≤ C → (isAo T x a → K 1 μ) → (¬ isAo T x a → K 0 μ) → mp_X11_isA_20 K (d + 1) μ (nI a) (oN x) := by
  intro d
  induction d with
  | zero =>
    intro x hx hxC h1 h0
    have e : x = 0 := by omega
    subst e
    have := h0 (fun q => q.1 rfl)
    unfold mp_X11_isA_20 mp_X11_isA_39 mp_X11_isA_49
    rw [oN_0]
    exact ⟨fun _ => ⟨fun _ => ⟨sm_z0, this⟩, fun q => absurd q.symm (nI_m1 ha)⟩, fun q => absurd (by decide) q⟩
  | succ d ih =>
    intro x hx hxC h1 h0
    unfold mp_X11_isA_20 mp_X11_isA_39 mp_X11_isA_49
    by_cases e : x = 0
    · subst e
      have := h0 (fun q => q.1 rfl)
      rw [oN_0]
      exact ⟨fun _ => ⟨fun _ => ⟨sm_z0, this⟩, fun q => absurd q.symm (nI_m1 ha)⟩, fun q => absurd (by decide) q⟩
    · have u := hu (x - 1) (by omega)
      have v := h5 (x - 1) (by omega)
      rw [oN_p (by omega)]
      by_cases e2 : x - 1 = a
      · have := h1 ((isAo_u h5 hC hxC e).mpr (Or.inl e2))
        simp (disch := (first | ((try simp (disch := omega) only [va_up_self, va_up_ne, ne_eq, reduceCtorEq, Nat.reduceEqDiff, not_false_eq_true, l_0, l_2, l_3, l_4, l_5, l_6, l_7, l_8, l_9, l_10, l_11, l_12, l_13, l_14, l_15, l_16, l_17, l_18, l_19, l_20, l_21, l_22, l_23, l_24, l_25, l_26, l_27, l_28, l_29, l_30, l_31, l_32, l_33, l_34, l_35, l_36, l_37, l_38, l_39, l_40, l_41, l_42, l_43, l_44, l_45, l_46, l_47, l_48, l_49, l_50, l_51, l_52, l_53, l_54, l_55, l_56, l_57, l_58, l_59, l_60, l_61, l_62, l_63, l_64, l_97, l_98, l_99, l_200, l_225, l_232, l_255, l_256, l_700, l_1000, l_1024, l_3375, l_4095, l_8000, l_20000, l_60000, vp_nIs, zz0, zz1, e10, nI_leI, nI_ltI, nI_eq, nI_1, nI_1a, nI_add, nI_sub, nI_sub1, pk_mul, nI_clamp, nI_le1, nI_le1', nI_lt1, nI_lt1', nI_eq1, nI_eqm, m1_eqN, m1_le, m1_lt, m1_leN, m1_ltN, nI_am, not_true_eq_false, not_false_eq_true, oN_eqm, l5]) <;> omega) | fail)) only [↓numW, ↓zb_t, ↓zb_f, ↓zb_tt, ↓zb_ff, ↓zb_i, ↓zb_z0, ↓zb_z1, ↓zb_z, ↓zb_l, ↓zb_v, vi32, vi64, true_and, pk_us, Int32.add_zero, Nat.add_sub_cancel, nI_add, nI_1, nI_1a, nI_clamp, k7, k7', k8, k8', k12, k12', k15, k15', k16, k16', nI_sub1, va_up_self, va_up_ne, ne_eq, reduceCtorEq, Nat.reduceEqDiff, not_false_eq_true, l5]
        exact this
      · have := ih (T 5 (x - 1)) (by omega) (by omega) (fun q => h1 ((isAo_u h5 hC hxC e).mpr (Or.inr q))) (fun q => h0 (fun z => ((isAo_u h5 hC hxC e).mp z).elim e2 q))
        simp (disch := (first | ((try simp (disch := omega) only [va_up_self, va_up_ne, ne_eq, reduceCtorEq, Nat.reduceEqDiff, not_false_eq_true, l_0, l_2, l_3, l_4, l_5, l_6, l_7, l_8, l_9, l_10, l_11, l_12, l_13, l_14, l_15, l_16, l_17, l_18, l_19, l_20, l_21, l_22, l_23, l_24, l_25, l_26, l_27, l_28, l_29, l_30, l_31, l_32, l_33, l_34, l_35, l_36, l_37, l_38, l_39, l_40, l_41, l_42, l_43, l_44, l_45, l_46, l_47, l_48, l_49, l_50, l_51, l_52, l_53, l_54, l_55, l_56, l_57, l_58, l_59, l_60, l_61, l_62, l_63, l_64, l_97, l_98, l_99, l_200, l_225, l_232, l_255, l_256, l_700, l_1000, l_1024, l_3375, l_4095, l_8000, l_20000, l_60000, vp_nIs, zz0, zz1, e10, nI_leI, nI_ltI, nI_eq, nI_1, nI_1a, nI_add, nI_sub, nI_sub1, pk_mul, nI_clamp, nI_le1, nI_le1', nI_lt1, nI_lt1', nI_eq1, nI_eqm, m1_eqN, m1_le, m1_lt, m1_leN, m1_ltN, nI_am, not_true_eq_false, not_false_eq_true, oN_eqm, l5, u]) <;> omega) | fail)) only [↓numW, ↓zb_t, ↓zb_f, ↓zb_tt, ↓zb_ff, ↓zb_i, ↓zb_z0, ↓zb_z1, ↓zb_z, ↓zb_l, ↓zb_v, vi32, vi64, true_and, pk_us, Int32.add_zero, Nat.add_sub_cancel, nI_add, nI_1, nI_1a, nI_clamp, k7, k7', k8, k8', k12, k12', k15, k15', k16, k16', nI_sub1, va_up_self, va_up_ne, ne_eq, reduceCtorEq, Nat.reduceEqDiff, not_false_eq_true, l5, u]
        exact this
theorem w_isA {μ : sm_S} {T : Nat → Nat → Nat} {b : Nat → Nat} {c a : Nat} {K : jk} (h : imM μ T b) (hw : wf T b) (h4 : μ.1 4 = 1) (hc : c < T 0 0) (ha : a < T 0 0) (h1 : isA T c a → K 1 μ) (h0 : ¬ isA T c a → K 0 μ) : mp_X11_isA μ (nI c) (nI a) K := by
  have w2 := hw.2.1
  have hL := lm5 h.2.1
  have i5 : μ.1 5 = nI (T 0 0) := h.2.2.1
  obtain ⟨hb, -, -, -, -, -, ⟨q1, -⟩, -⟩ := h
  have := l_isA (K := K) (μ := μ) (a := a) (fun c hc => (q1 c hc).1) (fun c hc => (hw.2.2.2.2.2.2.1 c hc).1) w2 hL (by omega) 32 (c + 1) (by omega) (by omega) (fun q => h1 q.2) (fun q => h0 (fun z => q ⟨by omega, z⟩))
  rw [oN_s] at this
  unfold mp_X11_isA mp_X11_isClass mp_X11_isClass_23 mp_X11_isClass_24
  simp (disch := (first | ((try simp (disch := omega) only [va_up_self, va_up_ne, ne_eq, reduceCtorEq, Nat.reduceEqDiff, not_false_eq_true, l_0, l_2, l_3, l_4, l_5, l_6, l_7, l_8, l_9, l_10, l_11, l_12, l_13, l_14, l_15, l_16, l_17, l_18, l_19, l_20, l_21, l_22, l_23, l_24, l_25, l_26, l_27, l_28, l_29, l_30, l_31, l_32, l_33, l_34, l_35, l_36, l_37, l_38, l_39, l_40, l_41, l_42, l_43, l_44, l_45, l_46, l_47, l_48, l_49, l_50, l_51, l_52, l_53, l_54, l_55, l_56, l_57, l_58, l_59, l_60, l_61, l_62, l_63, l_64, l_97, l_98, l_99, l_200, l_225, l_232, l_255, l_256, l_700, l_1000, l_1024, l_3375, l_4095, l_8000, l_20000, l_60000, vp_nIs, zz0, zz1, e10, nI_leI, nI_ltI, nI_eq, nI_1, nI_1a, nI_add, nI_sub, nI_sub1, pk_mul, nI_clamp, nI_le1, nI_le1', nI_lt1, nI_lt1', nI_eq1, nI_eqm, m1_eqN, m1_le, m1_lt, m1_leN, m1_ltN, nI_am, not_true_eq_false, not_false_eq_true, oN_eqm, h4, i5]) <;> omega) | fail)) only [↓numW, ↓zb_t, ↓zb_f, ↓zb_tt, ↓zb_ff, ↓zb_i, ↓zb_z0, ↓zb_z1, ↓zb_z, ↓zb_l, ↓zb_v, vi32, vi64, true_and, pk_us, Int32.add_zero, Nat.add_sub_cancel, nI_add, nI_1, nI_1a, nI_clamp, k7, k7', k8, k8', k12, k12', k15, k15', k16, k16', nI_sub1, va_up_self, va_up_ne, ne_eq, reduceCtorEq, Nat.reduceEqDiff, not_false_eq_true, h4, i5]
  exact ⟨_, this⟩
/-- the lowest class above both (0 for none) -/
def isL (T : Nat → Nat → Nat) (x y z : Nat) : Prop := (z = 0 ∧ ∀ w, ¬ (isAo T x w ∧ isAo T y w)) ∨ (z ≠ 0 ∧ isAo T x (z - 1) ∧ isAo T y (z - 1) ∧ ∀ w, isAo T x w → isAo T y w → w ≤ z - 1)
theorem isL_i {T : Nat → Nat → Nat} {x y z z' : Nat} (h : isL T x y z) (h' : isL T x y z') : z = z' := by
  rcases h with ⟨a, b⟩ | ⟨a, b, c, d⟩
  · rcases h' with ⟨a', b'⟩ | ⟨a', b', c', d'⟩
    · omega
    · exact absurd ⟨b', c'⟩ (b _)
  · rcases h' with ⟨a', b'⟩ | ⟨a', b', c', d'⟩
    · exact absurd ⟨b, c⟩ (b' _)
    · have := d _ b' c'
      have := d' _ b c
      omega
theorem l_low {σ : sm_S} {T : Nat → Nat → Nat} {C x0 y0 : Nat} {K : jk} (hu : ∀ c, c < C → σ.2.2.2.1 11 c = oN (T 5 c)) (h5 : ∀ c, c < C → T 5 c ≤ c) (hC : C ≤ 32) (l11 : σ.2.2.1 11 = 32) (hK : ∀ z, z ≤ C → isL T x0 y0 z → K (oN z) σ) : ∀ (d x y i : Nat), x + y ≤ d → x + y + i ≤ 64 → x ≤ C → y ≤ C → (∀ w, isAo T x w ∧ isAo T y w ↔ isAo T x0 w ∧ isAo T y0 w) → mp_X0_lowestAbove_8 K (d + 1) σ (oN x) (oN y) (nI i) := by
  have stop : ∀ (x : Nat), x ≤ C → (∀ w, isAo T x w ∧ isAo T x w ↔ isAo T x0 w ∧ isAo T y0 w) → K (oN x) σ := fun x hx hi => by
    refine hK x hx ?_
    by_cases e : x = 0
    · exact Or.inl ⟨e, fun w q => ((hi w).mpr q).1.1 e⟩
    · have r : isAo T x (x - 1) := ⟨e, isA_r _⟩
      have r2 := (hi (x - 1)).mp ⟨r, r⟩
      exact Or.inr ⟨e, r2.1, r2.2, fun w a b => by
        have := isAo_le h5 hC x w hx ((hi w).mpr ⟨a, b⟩).1
        omega⟩
  intro d
  induction d with
  | zero =>
    intro x y i hd hi hx hy hi2
    have ex : x = 0 := by omega
    have ey : y = 0 := by omega
    subst ex; subst ey
    have := stop 0 hx hi2
    unfold mp_X0_lowestAbove_8 mp_X0_lowestAbove_52
    exact ⟨fun _ => this, fun _ => ⟨fun _ => this, fun q => absurd rfl q⟩⟩
  | succ d ih =>
    intro x y i hd hi hx hy hi2
    unfold mp_X0_lowestAbove_8 mp_X0_lowestAbove_52 mp_X0_lowestAbove_46
    by_cases e : x = y
    · subst e
      have := stop x hx hi2
      exact ⟨fun _ => this, fun _ => ⟨fun _ => this, fun q => absurd rfl q⟩⟩
    · have ne : ¬ oN x = oN y := fun q => e (oN_inj (by omega) (by omega) q)
      have i64 : ¬ (64 : Int32) ≤ nI i := fun q => by
        have := (nI_leI (a := 64) (b := i) (by omega) (by omega)).mp q
        omega
      refine ⟨fun q => absurd q i64, fun _ => ⟨fun q => absurd q ne, fun _ => ⟨fun q => ?_, fun q => ?_⟩⟩⟩
      · have hle := (oN_le (by omega) (by omega)).mp q
        have u := hu (y - 1) (by omega)
        have v := h5 (y - 1) (by omega)
        have := ih x (T 5 (y - 1)) (i + 1) (by omega) (by omega) hx (by omega) (fun w => by
          rw [← hi2 w, isAo_u (x := y) h5 hC hy (by omega)]
          exact ⟨fun z => ⟨z.1, Or.inr z.2⟩, fun z => ⟨z.1, z.2.elim (fun t => absurd (isAo_le h5 hC x w hx z.1) (by omega)) (fun t => t)⟩⟩)
        rw [show oN y = nI (y - 1) from oN_p (by omega)]
        simp (disch := (first | ((try simp (disch := omega) only [va_up_self, va_up_ne, ne_eq, reduceCtorEq, Nat.reduceEqDiff, not_false_eq_true, l_0, l_2, l_3, l_4, l_5, l_6, l_7, l_8, l_9, l_10, l_11, l_12, l_13, l_14, l_15, l_16, l_17, l_18, l_19, l_20, l_21, l_22, l_23, l_24, l_25, l_26, l_27, l_28, l_29, l_30, l_31, l_32, l_33, l_34, l_35, l_36, l_37, l_38, l_39, l_40, l_41, l_42, l_43, l_44, l_45, l_46, l_47, l_48, l_49, l_50, l_51, l_52, l_53, l_54, l_55, l_56, l_57, l_58, l_59, l_60, l_61, l_62, l_63, l_64, l_97, l_98, l_99, l_200, l_225, l_232, l_255, l_256, l_700, l_1000, l_1024, l_3375, l_4095, l_8000, l_20000, l_60000, vp_nIs, zz0, zz1, e10, nI_leI, nI_ltI, nI_eq, nI_1, nI_1a, nI_add, nI_sub, nI_sub1, pk_mul, nI_clamp, nI_le1, nI_le1', nI_lt1, nI_lt1', nI_eq1, nI_eqm, m1_eqN, m1_le, m1_lt, m1_leN, m1_ltN, nI_am, not_true_eq_false, not_false_eq_true, oN_eqm, l11, u]) <;> omega) | fail)) only [↓numW, ↓zb_t, ↓zb_f, ↓zb_tt, ↓zb_ff, ↓zb_i, ↓zb_z0, ↓zb_z1, ↓zb_z, ↓zb_l, ↓zb_v, vi32, vi64, true_and, pk_us, Int32.add_zero, Nat.add_sub_cancel, nI_add, nI_1, nI_1a, nI_clamp, k7, k7', k8, k8', k12, k12', k15, k15', k16, k16', nI_sub1, va_up_self, va_up_ne, ne_eq, reduceCtorEq, Nat.reduceEqDiff, not_false_eq_true, l11, u]
        exact this
      · have hle : ¬ x ≤ y := fun z => q ((oN_le (by omega) (by omega)).mpr z)
        have u := hu (x - 1) (by omega)
        have v := h5 (x - 1) (by omega)
        have := ih (T 5 (x - 1)) y (i + 1) (by omega) (by omega) (by omega) hy (fun w => by
          rw [← hi2 w, isAo_u (x := x) h5 hC hx (by omega)]
          exact ⟨fun z => ⟨Or.inr z.1, z.2⟩, fun z => ⟨z.1.elim (fun t => absurd (isAo_le h5 hC y w hy z.2) (by omega)) (fun t => t), z.2⟩⟩)
        rw [show oN x = nI (x - 1) from oN_p (by omega)]
        simp (disch := (first | ((try simp (disch := omega) only [va_up_self, va_up_ne, ne_eq, reduceCtorEq, Nat.reduceEqDiff, not_false_eq_true, l_0, l_2, l_3, l_4, l_5, l_6, l_7, l_8, l_9, l_10, l_11, l_12, l_13, l_14, l_15, l_16, l_17, l_18, l_19, l_20, l_21, l_22, l_23, l_24, l_25, l_26, l_27, l_28, l_29, l_30, l_31, l_32, l_33, l_34, l_35, l_36, l_37, l_38, l_39, l_40, l_41, l_42, l_43, l_44, l_45, l_46, l_47, l_48, l_49, l_50, l_51, l_52, l_53, l_54, l_55, l_56, l_57, l_58, l_59, l_60, l_61, l_62, l_63, l_64, l_97, l_98, l_99, l_200, l_225, l_232, l_255, l_256, l_700, l_1000, l_1024, l_3375, l_4095, l_8000, l_20000, l_60000, vp_nIs, zz0, zz1, e10, nI_leI, nI_ltI, nI_eq, nI_1, nI_1a, nI_add, nI_sub, nI_sub1, pk_mul, nI_clamp, nI_le1, nI_le1', nI_lt1, nI_lt1', nI_eq1, nI_eqm, m1_eqN, m1_le, m1_lt, m1_leN, m1_ltN, nI_am, not_true_eq_false, not_false_eq_true, oN_eqm, l11, u]) <;> omega) | fail)) only [↓numW, ↓zb_t, ↓zb_f, ↓zb_tt, ↓zb_ff, ↓zb_i, ↓zb_z0, ↓zb_z1, ↓zb_z, ↓zb_l, ↓zb_v, vi32, vi64, true_and, pk_us, Int32.add_zero, Nat.add_sub_cancel, nI_add, nI_1, nI_1a, nI_clamp, k7, k7', k8, k8', k12, k12', k15, k15', k16, k16', nI_sub1, va_up_self, va_up_ne, ne_eq, reduceCtorEq, Nat.reduceEqDiff, not_false_eq_true, l11, u]
        exact this
