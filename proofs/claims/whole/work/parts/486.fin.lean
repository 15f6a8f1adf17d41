/-! ===== end, both sides ===== -/
theorem jt_K {P Q : jk → Prop} {R K : Int32 → sm_S → Int32 → sm_S → Prop} (h : jt P Q R) (hK : ∀ r σ r' μ, R r σ r' μ → K r σ r' μ) : P (fun r σ => Q (fun r' μ => K r σ r' μ)) := by
  obtain ⟨r, σ, r', μ, a, b, c⟩ := h
  exact a _ (b _ (hK r σ r' μ c))
def Ag (r _ : Nat) : Prop := r = 21 ∨ r = 23
def I0 (_ : Nat) : Prop := False
theorem l_me47 {x2 : Int32} : ∀ (d i : Nat) (μ : sm_S), i + d = 8000 → μ.2.2.1 21 = 8000 → μ.2.2.1 23 = 8000 → (∀ p, p < i → μ.2.2.2.1 21 p = -1 ∧ μ.2.2.2.1 23 p = nI 0) → ∃ μ', fr I0 Ag μ μ' ∧ (∀ p, p < 8000 → μ'.2.2.2.1 21 p = -1 ∧ μ'.2.2.2.1 23 p = nI 0) ∧ ∀ K : jk, (∃ n76, mp_X12_end_76 K n76 μ' x2 0) → mp_X12_end_47 K (d + 1) μ x2 (nI i) := by
  intro d
  induction d with
  | zero =>
    intro i μ hi l1 l2 hr
    have e : i = 8000 := by omega
    subst e
    refine ⟨μ, fr_r, hr, fun K z => ?_⟩
    unfold mp_X12_end_47
    exact ⟨fun _ => z, fun q => absurd (show (8000 : Int32) ≤ nI 8000 by decide) q⟩
  | succ d ih =>
    intro i μ hi l1 l2 hr
    obtain ⟨μ1, e1⟩ : ∃ μ1, μ1 = sm_r (sm_r μ 21 (upd (μ.2.2.2.1 21) i (-1))) 23 (upd (μ.2.2.2.1 23) i 0) := ⟨_, rfl⟩
    have f1 : fr I0 Ag μ μ1 := by rw [e1]; exact (fr_r.u rfl (by unfold Ag; omega)).u rfl (by unfold Ag; omega)
    obtain ⟨μ', g1, g3, g4⟩ := ih (i + 1) μ1 (by omega) (by rw [e1]; exact l1) (by rw [e1]; exact l2) (fun p hp => by
      have x32 : μ1.2.2.2.1 21 = upd (μ.2.2.2.1 21) i (-1) := by rw [e1]; rfl
      have x34 : μ1.2.2.2.1 23 = upd (μ.2.2.2.1 23) i 0 := by rw [e1]; rfl
      rw [x32, x34]
      by_cases e : p = i
      · rw [e, pk_us, pk_us]; exact ⟨rfl, rfl⟩
      · rw [pk_un e, pk_un e]; exact hr p (by omega))
    refine ⟨μ', f1.t g1, g3, fun K z => ?_⟩
    have z := g4 K z
    rw [e1] at z
    have nb0 : vp_nar .boolean 0 = (0 : Int32) := by decide
    unfold mp_X12_end_47
    simp (disch := (first | ((try simp (disch := omega) only [va_up_self, va_up_ne, ne_eq, reduceCtorEq, Nat.reduceEqDiff, not_false_eq_true, l_0, l_2, l_3, l_4, l_5, l_6, l_7, l_8, l_9, l_10, l_11, l_12, l_13, l_14, l_15, l_16, l_17, l_18, l_19, l_20, l_21, l_22, l_23, l_24, l_25, l_26, l_27, l_28, l_29, l_30, l_31, l_32, l_33, l_34, l_35, l_36, l_37, l_38, l_39, l_40, l_41, l_42, l_43, l_44, l_45, l_46, l_47, l_48, l_49, l_50, l_51, l_52, l_53, l_54, l_55, l_56, l_57, l_58, l_59, l_60, l_61, l_62, l_63, l_64, l_97, l_98, l_99, l_200, l_225, l_232, l_255, l_256, l_700, l_1000, l_1024, l_3375, l_4095, l_8000, l_20000, l_60000, vp_nIs, zz0, zz1, e10, nI_leI, nI_ltI, nI_eq, nI_1, nI_1a, nI_add, nI_sub, nI_sub1, pk_mul, nI_clamp, nI_le1, nI_le1', nI_lt1, nI_lt1', nI_eq1, nI_eqm, m1_eqN, m1_le, m1_lt, m1_leN, m1_ltN, nI_am, not_true_eq_false, not_false_eq_true, oN_eqm, l1, l2, nb0]) <;> omega) | fail)) only [↓numW, ↓zb_t, ↓zb_f, ↓zb_tt, ↓zb_ff, ↓zb_i, ↓zb_z0, ↓zb_z1, ↓zb_z, ↓zb_l, ↓zb_v, vi32, vi64, true_and, pk_us, Int32.add_zero, Nat.add_sub_cancel, nI_add, nI_1, nI_1a, nI_clamp, k7, k7', k8, k8', k12, k12', k15, k15', k16, k16', nI_sub1, va_up_self, va_up_ne, ne_eq, reduceCtorEq, Nat.reduceEqDiff, not_false_eq_true, l1, l2, nb0]
    exact z
/-- the reference checks all methods -/
theorem w_chkA {μ : sm_S} {T : Nat → Nat → Nat} {b : Nat → Nat} {K : jk} (h : imM μ T b) (hw : wf T b) (hK : ∀ v, mn v (bad T b) → mp_X11_end_113 K (sm_i μ 3 v)) : ∀ (d m : Nat) (v : Int32), m + d = T 0 1 → mn v (fun w => bdS T w ∨ ∃ m', m' < m ∧ bdM T b m' w) → mp_X11_end_94 K (d + 1) (sm_i μ 3 v) (nI m) := by
  have w4 := hw.2.2.2.1
  have m6 := h.2.2.2.1
  intro d
  induction d with
  | zero =>
    intro m v hd hv
    have e : m = T 0 1 := by omega
    subst e
    have := hK v (mn_c hv (fun w => Iff.rfl))
    unfold mp_X11_end_94
    simp (disch := (first | ((try simp (disch := omega) only [va_up_self, va_up_ne, ne_eq, reduceCtorEq, Nat.reduceEqDiff, not_false_eq_true, l_0, l_2, l_3, l_4, l_5, l_6, l_7, l_8, l_9, l_10, l_11, l_12, l_13, l_14, l_15, l_16, l_17, l_18, l_19, l_20, l_21, l_22, l_23, l_24, l_25, l_26, l_27, l_28, l_29, l_30, l_31, l_32, l_33, l_34, l_35, l_36, l_37, l_38, l_39, l_40, l_41, l_42, l_43, l_44, l_45, l_46, l_47, l_48, l_49, l_50, l_51, l_52, l_53, l_54, l_55, l_56, l_57, l_58, l_59, l_60, l_61, l_62, l_63, l_64, l_97, l_98, l_99, l_200, l_225, l_232, l_255, l_256, l_700, l_1000, l_1024, l_3375, l_4095, l_8000, l_20000, l_60000, vp_nIs, zz0, zz1, e10, nI_leI, nI_ltI, nI_eq, nI_1, nI_1a, nI_add, nI_sub, nI_sub1, pk_mul, nI_clamp, nI_le1, nI_le1', nI_lt1, nI_lt1', nI_eq1, nI_eqm, m1_eqN, m1_le, m1_lt, m1_leN, m1_ltN, nI_am, not_true_eq_false, not_false_eq_true, oN_eqm, m6]) <;> omega) | fail)) only [↓numW, ↓zb_t, ↓zb_f, ↓zb_tt, ↓zb_ff, ↓zb_i, ↓zb_z0, ↓zb_z1, ↓zb_z, ↓zb_l, ↓zb_v, vi32, vi64, true_and, pk_us, Int32.add_zero, Nat.add_sub_cancel, nI_add, nI_1, nI_1a, nI_clamp, k7, k7', k8, k8', k12, k12', k15, k15', k16, k16', nI_sub1, va_up_self, va_up_ne, ne_eq, reduceCtorEq, Nat.reduceEqDiff, not_false_eq_true, m6]
    exact this
  | succ d ih =>
    intro m v hd hv
    unfold mp_X11_end_94
    simp (disch := (first | ((try simp (disch := omega) only [va_up_self, va_up_ne, ne_eq, reduceCtorEq, Nat.reduceEqDiff, not_false_eq_true, l_0, l_2, l_3, l_4, l_5, l_6, l_7, l_8, l_9, l_10, l_11, l_12, l_13, l_14, l_15, l_16, l_17, l_18, l_19, l_20, l_21, l_22, l_23, l_24, l_25, l_26, l_27, l_28, l_29, l_30, l_31, l_32, l_33, l_34, l_35, l_36, l_37, l_38, l_39, l_40, l_41, l_42, l_43, l_44, l_45, l_46, l_47, l_48, l_49, l_50, l_51, l_52, l_53, l_54, l_55, l_56, l_57, l_58, l_59, l_60, l_61, l_62, l_63, l_64, l_97, l_98, l_99, l_200, l_225, l_232, l_255, l_256, l_700, l_1000, l_1024, l_3375, l_4095, l_8000, l_20000, l_60000, vp_nIs, zz0, zz1, e10, nI_leI, nI_ltI, nI_eq, nI_1, nI_1a, nI_add, nI_sub, nI_sub1, pk_mul, nI_clamp, nI_le1, nI_le1', nI_lt1, nI_lt1', nI_eq1, nI_eqm, m1_eqN, m1_le, m1_lt, m1_leN, m1_ltN, nI_am, not_true_eq_false, not_false_eq_true, oN_eqm, m6]) <;> omega) | fail)) only [↓numW, ↓zb_t, ↓zb_f, ↓zb_tt, ↓zb_ff, ↓zb_i, ↓zb_z0, ↓zb_z1, ↓zb_z, ↓zb_l, ↓zb_v, vi32, vi64, true_and, pk_us, Int32.add_zero, Nat.add_sub_cancel, nI_add, nI_1, nI_1a, nI_clamp, k7, k7', k8, k8', k12, k12', k15, k15', k16, k16', nI_sub1, va_up_self, va_up_ne, ne_eq, reduceCtorEq, Nat.reduceEqDiff, not_false_eq_true, m6]
    refine w_chkC (S := fun w => bdS T w ∨ ∃ m', m' < m ∧ bdM T b m' w) (h.n v) hw (by omega) hv (fun v' hv' => ?_)
    have := ih (m + 1) v' (by omega) (mn_c hv' (fun w => ⟨fun z => ?_, fun z => ?_⟩))
    · rw [sx_ii] at *
      exact this
    · rcases z with (z | ⟨m', z1, z2⟩) | z
      · exact Or.inl z
      · exact Or.inr ⟨m', by omega, z2⟩
      · exact Or.inr ⟨m, by omega, z⟩
    · rcases z with z | ⟨m', z1, z2⟩
      · exact Or.inl (Or.inl z)
      · by_cases e : m' = m
        · rw [e] at z2; exact Or.inr z2
        · exact Or.inl (Or.inr ⟨m', by omega, z2⟩)
/-- an image that stands -/
def img (σ μ : sm_S) : Prop := ∃ T b, vbs σ μ T b ∧ wf T b ∧ lkd T b ∧ ∀ m, m < T 0 1 → fin σ μ T b m
/-- the rows of both sides that hold images -/
def iml (σ μ : sm_S) : Prop := lnX σ ∧ lnM μ ∧ σ.2.2.1 19 = σ.2.2.1 18 ∧ σ.2.2.1 18 ≤ 16000 ∧ σ.2.2.1 33 = 12 * σ.2.2.1 34 ∧ σ.2.2.1 32 = σ.2.2.1 34 ∧ σ.2.2.1 34 ≤ 16000 ∧ σ.2.2.1 35 = 12 ∧ μ.2.2.1 3 = 8000 ∧ μ.2.2.1 21 = 8000 ∧ μ.2.2.1 22 = 96000 ∧ μ.2.2.1 23 = 8000 ∧ μ.2.2.1 24 = 12
def RE (r : Nat) : Prop := r = 18 ∨ r = 19 ∨ r = 32 ∨ r = 33 ∨ r = 34
def IE (k : Nat) : Prop := k = 0 ∨ (14 ≤ k ∧ k ≤ 17) ∨ (20 ≤ k ∧ k ≤ 22) ∨ (29 ≤ k ∧ k ≤ 36)
def AE (r _ : Nat) : Prop := (11 ≤ r ∧ r ≤ 16) ∨ (18 ≤ r ∧ r ≤ 29) ∨ (32 ≤ r ∧ r ≤ 35)
def IG (k : Nat) : Prop := k ≤ 10 ∨ k = 17
def AG (r _ : Nat) : Prop := 3 ≤ r ∧ r ≤ 24
/-- how far a row has grown -/
def grw (n L N : Nat) : Prop := N = L ∨ (L < n ∧ N = max n (2 * L))
/-- what end leaves -/
def endR (σ μ : sm_S) (n : Nat) (r : Int32) (σ' : sm_S) (r' : Int32) (μ' : sm_S) : Prop := r = r' ∧ frg RE IE AE σ σ' ∧ fr IG AG μ μ' ∧ σ'.1 35 = 0 ∧ μ'.1 0 = 0 ∧ σ'.1 22 = 0 ∧ μ'.1 17 = 0 ∧ iml σ' μ' ∧ grw n (σ.2.2.1 18) (σ'.2.2.1 18) ∧ grw n (σ.2.2.1 34) (σ'.2.2.1 34) ∧ ((σ'.1 36 = 0 ∧ μ'.1 4 = 0) ∨ (σ'.1 36 = 1 ∧ μ'.1 4 = 1 ∧ img σ' μ'))
