/-! ===== the verifiers over one method ===== -/
theorem l_first {σ : sm_S} {mk : Nat → Nat} {e : Nat} (he : e ≤ 8000) (hl : e ≤ σ.2.2.1 34) (hl2 : σ.2.2.1 34 < 2 ^ 31) : ∀ (d x : Nat), x + d = e → (∀ q, x ≤ q → q < e → σ.2.2.2.1 34 q = nI (mk q) ∧ mk q ≤ 1) → (∃ p, x ≤ p ∧ p < e ∧ mk p = 1 ∧ (∀ q, x ≤ q → q < p → mk q = 0) ∧ ∀ K : jk, K (nI p) (sm_i σ 32 (nI p)) → mp_X8_firstMarked_31 K (d + 1) σ (nI e) (nI x)) ∨ ((∀ q, x ≤ q → q < e → mk q = 0) ∧ ∀ K : jk, K (-1) σ → mp_X8_firstMarked_31 K (d + 1) σ (nI e) (nI x)) := by
  intro d
  induction d with
  | zero =>
    intro x hx hr
    refine Or.inr ⟨fun q q1 q2 => absurd q2 (by omega), fun K z => ?_⟩
    unfold mp_X8_firstMarked_31
    simp (disch := (first | ((try simp (disch := omega) only [va_up_self, va_up_ne, ne_eq, reduceCtorEq, Nat.reduceEqDiff, not_false_eq_true, l_0, l_2, l_3, l_4, l_5, l_6, l_7, l_8, l_9, l_10, l_11, l_12, l_13, l_14, l_15, l_16, l_17, l_18, l_19, l_20, l_21, l_22, l_23, l_24, l_25, l_26, l_27, l_28, l_29, l_30, l_31, l_32, l_33, l_34, l_35, l_36, l_37, l_38, l_39, l_40, l_41, l_42, l_43, l_44, l_45, l_46, l_47, l_48, l_49, l_50, l_51, l_52, l_53, l_54, l_55, l_56, l_57, l_58, l_59, l_60, l_61, l_62, l_63, l_64, l_97, l_98, l_99, l_200, l_225, l_232, l_255, l_256, l_700, l_1000, l_1024, l_3375, l_4095, l_8000, l_20000, l_60000, vp_nIs, zz0, zz1, e10, nI_leI, nI_ltI, nI_eq, nI_1, nI_1a, nI_add, nI_sub, nI_sub1, pk_mul, nI_clamp, nI_le1, nI_le1', nI_lt1, nI_lt1', nI_eq1, nI_eqm, m1_eqN, m1_le, m1_lt, m1_leN, m1_ltN, nI_am, not_true_eq_false, not_false_eq_true, oN_eqm, he]) <;> omega) | fail)) only [↓numW, ↓zb_t, ↓zb_f, ↓zb_tt, ↓zb_ff, ↓zb_i, ↓zb_z0, ↓zb_z1, ↓zb_z, ↓zb_l, ↓zb_v, vi32, vi64, true_and, pk_us, Int32.add_zero, Nat.add_sub_cancel, nI_add, nI_1, nI_1a, nI_clamp, k7, k7', k8, k8', k12, k12', k15, k15', k16, k16', nI_sub1, va_up_self, va_up_ne, ne_eq, reduceCtorEq, Nat.reduceEqDiff, not_false_eq_true, he]
    exact z
  | succ d ih =>
    intro x hx hr
    obtain ⟨r, r1⟩ := hr x (Nat.le_refl _) (by omega)
    by_cases c : mk x = 0
    · rw [c] at r
      rcases ih (x + 1) (by omega) (fun q q1 q2 => hr q (by omega) q2) with ⟨p, p1, p2, p3, p4, p5⟩ | ⟨p1, p2⟩
      · refine Or.inl ⟨p, by omega, p2, p3, fun q q1 q2 => ?_, fun K z => ?_⟩
        · by_cases e : q = x
          · rw [e]; exact c
          · exact p4 q (by omega) q2
        · have := p5 K z
          unfold mp_X8_firstMarked_31
          simp (disch := (first | ((try simp (disch := omega) only [va_up_self, va_up_ne, ne_eq, reduceCtorEq, Nat.reduceEqDiff, not_false_eq_true, l_0, l_2, l_3, l_4, l_5, l_6, l_7, l_8, l_9, l_10, l_11, l_12, l_13, l_14, l_15, l_16, l_17, l_18, l_19, l_20, l_21, l_22, l_23, l_24, l_25, l_26, l_27, l_28, l_29, l_30, l_31, l_32, l_33, l_34, l_35, l_36, l_37, l_38, l_39, l_40, l_41, l_42, l_43, l_44, l_45, l_46, l_47, l_48, l_49, l_50, l_51, l_52, l_53, l_54, l_55, l_56, l_57, l_58, l_59, l_60, l_61, l_62, l_63, l_64, l_97, l_98, l_99, l_200, l_225, l_232, l_255, l_256, l_700, l_1000, l_1024, l_3375, l_4095, l_8000, l_20000, l_60000, vp_nIs, zz0, zz1, e10, nI_leI, nI_ltI, nI_eq, nI_1, nI_1a, nI_add, nI_sub, nI_sub1, pk_mul, nI_clamp, nI_le1, nI_le1', nI_lt1, nI_lt1', nI_eq1, nI_eqm, m1_eqN, m1_le, m1_lt, m1_leN, m1_ltN, nI_am, not_true_eq_false, not_false_eq_true, oN_eqm, r]) <;> omega) | fail)) only [↓numW, ↓zb_t, ↓zb_f, ↓zb_tt, ↓zb_ff, ↓zb_i, ↓zb_z0, ↓zb_z1, ↓zb_z, ↓zb_l, ↓zb_v, vi32, vi64, true_and, pk_us, Int32.add_zero, Nat.add_sub_cancel, nI_add, nI_1, nI_1a, nI_clamp, k7, k7', k8, k8', k12, k12', k15, k15', k16, k16', nI_sub1, va_up_self, va_up_ne, ne_eq, reduceCtorEq, Nat.reduceEqDiff, not_false_eq_true, r]
          exact ⟨fun _ => this, fun q => absurd rfl q⟩
      · refine Or.inr ⟨fun q q1 q2 => ?_, fun K z => ?_⟩
        · by_cases e : q = x
          · rw [e]; exact c
          · exact p1 q (by omega) q2
        · have := p2 K z
          unfold mp_X8_firstMarked_31
          simp (disch := (first | ((try simp (disch := omega) only [va_up_self, va_up_ne, ne_eq, reduceCtorEq, Nat.reduceEqDiff, not_false_eq_true, l_0, l_2, l_3, l_4, l_5, l_6, l_7, l_8, l_9, l_10, l_11, l_12, l_13, l_14, l_15, l_16, l_17, l_18, l_19, l_20, l_21, l_22, l_23, l_24, l_25, l_26, l_27, l_28, l_29, l_30, l_31, l_32, l_33, l_34, l_35, l_36, l_37, l_38, l_39, l_40, l_41, l_42, l_43, l_44, l_45, l_46, l_47, l_48, l_49, l_50, l_51, l_52, l_53, l_54, l_55, l_56, l_57, l_58, l_59, l_60, l_61, l_62, l_63, l_64, l_97, l_98, l_99, l_200, l_225, l_232, l_255, l_256, l_700, l_1000, l_1024, l_3375, l_4095, l_8000, l_20000, l_60000, vp_nIs, zz0, zz1, e10, nI_leI, nI_ltI, nI_eq, nI_1, nI_1a, nI_add, nI_sub, nI_sub1, pk_mul, nI_clamp, nI_le1, nI_le1', nI_lt1, nI_lt1', nI_eq1, nI_eqm, m1_eqN, m1_le, m1_lt, m1_leN, m1_ltN, nI_am, not_true_eq_false, not_false_eq_true, oN_eqm, r]) <;> omega) | fail)) only [↓numW, ↓zb_t, ↓zb_f, ↓zb_tt, ↓zb_ff, ↓zb_i, ↓zb_z0, ↓zb_z1, ↓zb_z, ↓zb_l, ↓zb_v, vi32, vi64, true_and, pk_us, Int32.add_zero, Nat.add_sub_cancel, nI_add, nI_1, nI_1a, nI_clamp, k7, k7', k8, k8', k12, k12', k15, k15', k16, k16', nI_sub1, va_up_self, va_up_ne, ne_eq, reduceCtorEq, Nat.reduceEqDiff, not_false_eq_true, r]
          exact ⟨fun _ => this, fun q => absurd rfl q⟩
    · have c1 : mk x = 1 := by omega
      rw [c1] at r
      refine Or.inl ⟨x, Nat.le_refl _, by omega, c1, fun q q1 q2 => absurd q2 (by omega), fun K z => ?_⟩
      unfold mp_X8_firstMarked_31
      simp (disch := (first | ((try simp (disch := omega) only [va_up_self, va_up_ne, ne_eq, reduceCtorEq, Nat.reduceEqDiff, not_false_eq_true, l_0, l_2, l_3, l_4, l_5, l_6, l_7, l_8, l_9, l_10, l_11, l_12, l_13, l_14, l_15, l_16, l_17, l_18, l_19, l_20, l_21, l_22, l_23, l_24, l_25, l_26, l_27, l_28, l_29, l_30, l_31, l_32, l_33, l_34, l_35, l_36, l_37, l_38, l_39, l_40, l_41, l_42, l_43, l_44, l_45, l_46, l_47, l_48, l_49, l_50, l_51, l_52, l_53, l_54, l_55, l_56, l_57, l_58, l_59, l_60, l_61, l_62, l_63, l_64, l_97, l_98, l_99, l_200, l_225, l_232, l_255, l_256, l_700, l_1000, l_1024, l_3375, l_4095, l_8000, l_20000, l_60000, vp_nIs, zz0, zz1, e10, nI_leI, nI_ltI, nI_eq, nI_1, nI_1a, nI_add, nI_sub, nI_sub1, pk_mul, nI_clamp, nI_le1, nI_le1', nI_lt1, nI_lt1', nI_eq1, nI_eqm, m1_eqN, m1_le, m1_lt, m1_leN, m1_ltN, nI_am, not_true_eq_false, not_false_eq_true, oN_eqm, r]) <;> omega) | fail)) only [↓numW, ↓zb_t, ↓zb_f, ↓zb_tt, ↓zb_ff, ↓zb_i, ↓zb_z0, ↓zb_z1, ↓zb_z, ↓zb_l, ↓zb_v, vi32, vi64, true_and, pk_us, Int32.add_zero, Nat.add_sub_cancel, nI_add, nI_1, nI_1a, nI_clamp, k7, k7', k8, k8', k12, k12', k15, k15', k16, k16', nI_sub1, va_up_self, va_up_ne, ne_eq, reduceCtorEq, Nat.reduceEqDiff, not_false_eq_true, r]
      exact z
/-- the reference goes over places that are not marked -/
theorem l_scan {μ : sm_S} {m e p : Nat} {K : jk} {n : Nat} (he : e ≤ 8000) (l23 : μ.2.2.1 23 = 8000) (hp : p ≤ e) (hK : mp_X12_verify_102 K n μ (nI m) (nI e) (nI p)) : ∀ (d x : Nat), x + d = p → (∀ q, x ≤ q → q < p → μ.2.2.2.1 23 q = nI 0) → mp_X12_verify_102 K (n + d) μ (nI m) (nI e) (nI x) := by
  intro d
  induction d with
  | zero => intro x hx _; rw [show x = p by omega]; exact hK
  | succ d ih =>
    intro x hx hr
    have := ih (x + 1) (by omega) (fun q q1 q2 => hr q (by omega) q2)
    have r := hr x (Nat.le_refl _) (by omega)
    show mp_X12_verify_102 K (n + d + 1) μ (nI m) (nI e) (nI x)
    unfold mp_X12_verify_102
    simp (disch := (first | ((try simp (disch := omega) only [va_up_self, va_up_ne, ne_eq, reduceCtorEq, Nat.reduceEqDiff, not_false_eq_true, l_0, l_2, l_3, l_4, l_5, l_6, l_7, l_8, l_9, l_10, l_11, l_12, l_13, l_14, l_15, l_16, l_17, l_18, l_19, l_20, l_21, l_22, l_23, l_24, l_25, l_26, l_27, l_28, l_29, l_30, l_31, l_32, l_33, l_34, l_35, l_36, l_37, l_38, l_39, l_40, l_41, l_42, l_43, l_44, l_45, l_46, l_47, l_48, l_49, l_50, l_51, l_52, l_53, l_54, l_55, l_56, l_57, l_58, l_59, l_60, l_61, l_62, l_63, l_64, l_97, l_98, l_99, l_200, l_225, l_232, l_255, l_256, l_700, l_1000, l_1024, l_3375, l_4095, l_8000, l_20000, l_60000, vp_nIs, zz0, zz1, e10, nI_leI, nI_ltI, nI_eq, nI_1, nI_1a, nI_add, nI_sub, nI_sub1, pk_mul, nI_clamp, nI_le1, nI_le1', nI_lt1, nI_lt1', nI_eq1, nI_eqm, m1_eqN, m1_le, m1_lt, m1_leN, m1_ltN, nI_am, not_true_eq_false, not_false_eq_true, oN_eqm, r, l23]) <;> omega) | fail)) only [↓numW, ↓zb_t, ↓zb_f, ↓zb_tt, ↓zb_ff, ↓zb_i, ↓zb_z0, ↓zb_z1, ↓zb_z, ↓zb_l, ↓zb_v, vi32, vi64, true_and, pk_us, Int32.add_zero, Nat.add_sub_cancel, nI_add, nI_1, nI_1a, nI_clamp, k7, k7', k8, k8', k12, k12', k15, k15', k16, k16', nI_sub1, va_up_self, va_up_ne, ne_eq, reduceCtorEq, Nat.reduceEqDiff, not_false_eq_true, r, l23]
    exact ⟨fun _ => this, fun q => absurd rfl q⟩
/-- what verifying a method leaves -/
def vfR (σ0 μ0 : sm_S) (T : Nat → Nat → Nat) (b : Nat → Nat) (m : Nat) (w0 : Nat → Nat) (_ : Int32) (σ' : sm_S) (r' : Int32) (μ' : sm_S) : Prop := (r' = -1 ∧ fr IVX (AVX T m) σ0 σ' ∧ fr IVM (AVM T m) μ0 μ' ∧ ∃ l0 h ty mk, vst σ' μ' T b m l0 h ty mk ∧ (∀ p, inC T m p → mk p = 0) ∧ (∀ p, inC T m p → h p ≠ 0 → stb T b m p h ty) ∧ arr T m (T 17 m) 0 w0 h ty) ∨ (fr IVX AVx σ0 σ' ∧ fr IVM AVm μ0 μ' ∧ ∃ x, x < 8000 ∧ r' = nI x ∧ σ'.1 34 = nI x)
theorem j_loop {σ0 μ0 : sm_S} {T : Nat → Nat → Nat} {b : Nat → Nat} {m : Nat} {w0 : Nat → Nat} (hw : wf T b) (hm : m < T 0 1) (lk : lkd T b) :
    ∀ (N i : Nat) (σ μ : sm_S) (l0 : Nat) (h ty mk : Nat → Nat), PHN T m h ty mk ≤ N → i + N < 1000000 → vst σ μ T b m l0 h ty mk → (∀ p, inC T m p → h p ≠ 0 → mk p = 0 → stb T b m p h ty) → arr T m (T 17 m) 0 w0 h ty → fr IVX (AVX T m) σ0 σ → fr IVM (AVM T m) μ0 μ → jt (fun K => ∃ n, mp_X8_verifyMethod_101 (fun σ => K 0 σ) n σ (nI i)) (fun K => ∃ n, mp_X12_verify_102 K n μ (nI m) (nI (T 17 m + T 18 m)) (nI (T 17 m))) (vfR σ0 μ0 T b m w0) := by
  have w4 := hw.2.2.2.1
  have w5 := hw.2.2.2.2.1
  have y := hw.2.2.2.2.2.2.2.2.1 m hm
  have h12 := y.2.2.2.2.2.2.1
  have y8 := y.2.2.2.2.2.2.2.1
  have y9 := y.2.2.2.2.2.2.2.2.1
  have y11 := y.2.2.2.2.2.2.2.2.2.2.1
  have y12 := y.2.2.2.2.2.2.2.2.2.2.2.1
  clear y
  intro N
  induction N using Nat.strongRecOn with
  | _ N ih =>
    intro i σ μ l0 h ty mk hN hi hv hs ha fx fm
    have hv' := hv
    obtain ⟨v1, v2, v3, v4, v5, v6, v7, v8, v9, v10⟩ := hv'
    have hLX := v1.1.2.1
    have s30 := v1.2.1
    obtain ⟨-, -, -, -, -, -, r26, r27, -⟩ := v1.1.2.2.2.2.2.2.2.2 m hm
    have q17 := (v2.1.2.2.2.2.2.2.2 m hm).2.2.2.2.2.2.1
    have hLM := v2.1.2.1
    have low : ∀ q, inC T m q → q < l0 → mk q = 0 := fun q q1 q2 => by
      have := (v10 q q1).2.1
      have := v7 q q1
      omega
    have run : ∀ (K : jk) (F : sm_S → Int32 → Prop), (∃ n, mp_X8_firstMarked_31 (fun r4 σ3 => ((¬ r4 = (-1) → (vp_in r4 (σ3.2.2.1 34) ∧ mp_X8_lookAt (sm_r σ3 34 (upd (σ3.2.2.2.1 34) r4.toNatClampNeg (vp_nar .boolean 0))) r4 (fun σ8 => F σ8 (nI (i + 1))))) ∧ (r4 = (-1) → (K 0 σ3)))) n σ (nI (T 17 m + T 18 m)) (nI l0)) → ((¬ (σ.1 34) = (-1) → (mp_X8_verifyMethod_144 (fun σ => K 0 σ) σ)) ∧ ((σ.1 34) = (-1) → (mp_X8_firstMarked σ (fun r4 σ3 => ((¬ r4 = (-1) → (vp_in r4 (σ3.2.2.1 34) ∧ ∀ σ7 : sm_S, σ7 = sm_r σ3 34 (upd (σ3.2.2.2.1 34) r4.toNatClampNeg (vp_nar .boolean 0)) → mp_X8_lookAt σ7 r4 (fun σ8 => ∀ v9 : Int32, v9 = nI i + 1 → F σ8 v9))) ∧ (r4 = (-1) → (K 0 σ3))))))) := fun K F z => by
      unfold mp_X8_firstMarked
      simp (disch := (first | ((try simp (disch := omega) only [va_up_self, va_up_ne, ne_eq, reduceCtorEq, Nat.reduceEqDiff, not_false_eq_true, l_0, l_2, l_3, l_4, l_5, l_6, l_7, l_8, l_9, l_10, l_11, l_12, l_13, l_14, l_15, l_16, l_17, l_18, l_19, l_20, l_21, l_22, l_23, l_24, l_25, l_26, l_27, l_28, l_29, l_30, l_31, l_32, l_33, l_34, l_35, l_36, l_37, l_38, l_39, l_40, l_41, l_42, l_43, l_44, l_45, l_46, l_47, l_48, l_49, l_50, l_51, l_52, l_53, l_54, l_55, l_56, l_57, l_58, l_59, l_60, l_61, l_62, l_63, l_64, l_97, l_98, l_99, l_200, l_225, l_232, l_255, l_256, l_700, l_1000, l_1024, l_3375, l_4095, l_8000, l_20000, l_60000, vp_nIs, zz0, zz1, e10, nI_leI, nI_ltI, nI_eq, nI_1, nI_1a, nI_add, nI_sub, nI_sub1, pk_mul, nI_clamp, nI_le1, nI_le1', nI_lt1, nI_lt1', nI_eq1, nI_eqm, m1_eqN, m1_le, m1_lt, m1_leN, m1_ltN, nI_am, not_true_eq_false, not_false_eq_true, oN_eqm, v8, s30, r26, r27, v5, lx26 hLX, lx27 hLX, ↓zc1, ↓zc2]) <;> omega) | fail)) only [↓numW, ↓zb_t, ↓zb_f, ↓zb_tt, ↓zb_ff, ↓zb_i, ↓zb_z0, ↓zb_z1, ↓zb_z, ↓zb_l, ↓zb_v, vi32, vi64, true_and, pk_us, Int32.add_zero, Nat.add_sub_cancel, nI_add, nI_1, nI_1a, nI_clamp, k7, k7', k8, k8', k12, k12', k15, k15', k16, k16', nI_sub1, va_up_self, va_up_ne, ne_eq, reduceCtorEq, Nat.reduceEqDiff, not_false_eq_true, v8, s30, r26, r27, v5, lx26 hLX, lx27 hLX, ↓zc1, ↓zc2]
      exact z
    rcases l_first (σ := σ) (mk := mk) (e := T 17 m + T 18 m) (by omega) (by have := v3.2.2.2.2.1; omega) v3.2.2.2.2.2 (T 17 m + T 18 m - l0) l0 (by omega) (fun q q1 q2 => by
      have := v9 q (by omega) q2
      exact ⟨this.2.2.2.1, this.2.2.2.2.2.1⟩) with ⟨p, p1, p2, p3, p4, p5⟩ | ⟨p1, p2⟩
    · -- p is the first that is marked
      have hp : inC T m p := ⟨by omega, p2⟩
      have hp0 : h p ≠ 0 := fun z => by have := (v10 p hp).2.2.1 z; omega
      have hlow : ∀ q, inC T m q → q < p → mk q = 0 := fun q q1 q2 => by
        by_cases e : q < l0
        · exact low q q1 e
        · exact p4 q (by omega) q2
      have hmu := PHN_m (ty := ty) hp hp0 p3
      obtain ⟨σ7, e7⟩ : ∃ σ7, σ7 = sm_r (sm_i σ 32 (nI p)) 34 (upd (σ.2.2.2.1 34) p 0) := ⟨_, rfl⟩
      obtain ⟨μ7, d7⟩ : ∃ μ7, μ7 = sm_i (sm_r μ 23 (upd (μ.2.2.2.1 23) p 0)) 10 (nI p) := ⟨_, rfl⟩
      have f7 : fr IVX (AVX T m) σ σ7 := by rw [e7]; exact (fr_r.i (by unfold IVX; omega)).u rfl (Or.inr (by unfold AmW; unfold inC at hp; omega))
      have g7 : fr IVM (AVM T m) μ μ7 := by rw [d7]; exact (fr_r.u rfl (Or.inr (by unfold AmV; unfold inC at hp; omega))).i (by unfold IVM; omega)
      have x34 : σ7.2.2.2.1 34 = upd (σ.2.2.2.1 34) p 0 := by rw [e7]; exact sx_rs
      have x32 : σ7.2.2.2.1 32 = σ.2.2.2.1 32 := by rw [e7]; exact sx_rn (by decide)
      have x33 : σ7.2.2.2.1 33 = σ.2.2.2.1 33 := by rw [e7]; exact sx_rn (by decide)
      have y23 : μ7.2.2.2.1 23 = upd (μ.2.2.2.1 23) p 0 := by rw [d7]; exact sx_rs
      have y21 : μ7.2.2.2.1 21 = μ.2.2.2.1 21 := by rw [d7]; exact sx_rn (by decide)
      have y22 : μ7.2.2.2.1 22 = μ.2.2.2.1 22 := by rw [d7]; exact sx_rn (by decide)
      have hv7 : vst σ7 μ7 T b m p h ty (va_up mk p 0) := by
        refine ⟨⟨v1.1.f f7 (fun k q => by unfold IVX; omega) (fun r j a c d => by unfold AVX AmW; omega), by rw [e7]; exact v1.2.1, by rw [e7]; exact v1.2.2.1, by rw [e7]; exact v1.2.2.2⟩, ⟨v2.1.f g7 (fun k q => by unfold IVM; omega) (fun r j a c => by unfold AVM AmV; omega), by rw [d7]; exact v2.2.1, by rw [d7]; exact v2.2.2⟩, by unfold lwX; rw [f7.2.1]; exact v3, by rw [g7.2.1]; exact v4, by rw [e7]; rfl, ⟨hp.1, by omega⟩, fun q q1 q2 => ?_, by rw [e7]; exact v8, fun q q1 q2 => ?_, fun q q1 => ?_⟩
        · by_cases e : q = p
          · omega
          · rw [va_up_ne _ _ e] at q2
            by_cases c : q < p
            · have := hlow q q1 c; omega
            · omega
        · obtain ⟨t1, t2, t3, t4, t5, t6, t7, t8⟩ := v9 q q1 q2
          rw [x32, x33, x34, y21, y22, y23]
          by_cases e : q = p
          · subst e
            rw [va_up_self, pk_us, pk_us]
            exact ⟨t1, t2, t3, rfl, rfl, by omega, fun _ => rfl, t8⟩
          · rw [va_up_ne _ _ e, pk_un e, pk_un e]
            exact ⟨t1, t2, t3, t4, t5, t6, t7, t8⟩
        · obtain ⟨t1, t2, t3, t4⟩ := v10 q q1
          by_cases e : q = p
          · subst e
            rw [va_up_self]
            exact ⟨t1, by omega, fun _ => rfl, t4⟩
          · rw [va_up_ne _ _ e]
            exact ⟨t1, t2, t3, t4⟩
      obtain ⟨rj, σ8, rj', μ8, aj, aj', jr⟩ := j_look hw hm lk hp hv7 hp0 (by rw [d7]; rfl)
      have aj : ∀ F : sm_S → Prop, F σ8 → mp_X8_lookAt σ7 (nI p) F := fun F z => aj (fun _ σ => F σ) z
      have goX : ∀ (K : jk) (n : Nat), mp_X8_verifyMethod_101 (fun σ => K 0 σ) n σ8 (nI (i + 1)) → mp_X8_verifyMethod_101 (fun σ => K 0 σ) (n + 1) σ (nI i) := fun K n z => by
        unfold mp_X8_verifyMethod_101
        refine ⟨fun q => absurd ((nI_leI (a := 1000000) (b := i) (by omega) (by omega)).mp q) (by omega), fun _ => run K (mp_X8_verifyMethod_101 (fun σ => K 0 σ) n) ⟨_, p5 _ ⟨fun _ => ⟨vp_in_nI (show p < σ.2.2.1 34 by have := v3.2.2.2.2.1; omega) v3.2.2.2.2.2, ?_⟩, fun q => absurd q (nI_m1 (by omega))⟩⟩⟩
        rw [nI_clamp (by omega)]
        have z2 := aj (fun σ8 => mp_X8_verifyMethod_101 (fun σ => K 0 σ) n σ8 (nI (i + 1))) z
        rw [e7] at z2
        exact z2
      have goM : ∀ (K : jk) (n : Nat), ((¬ rj' = 0 → mp_X12_verify_102 K n μ8 (nI m) (nI (T 17 m + T 18 m)) (nI (T 17 m))) ∧ (rj' = 0 → K (μ8.1 10) μ8)) → mp_X12_verify_102 K (n + 1 + (p - T 17 m)) μ (nI m) (nI (T 17 m + T 18 m)) (nI (T 17 m)) := fun K n z => by
        refine l_scan (p := p) (by omega) v4.2.2 (by omega) ?_ (p - T 17 m) (T 17 m) (by unfold inC at hp; omega) (fun q q1 q2 => ?_)
        · have r23 : μ.2.2.2.1 23 p = nI 1 := by rw [(v9 p hp.1 hp.2).2.2.2.2.1, p3]
          have l23 := v4.2.2
          have z2 := aj' (fun r9 σ8 => ((¬ r9 = 0 → (vp_in (nI m) (σ8.2.2.1 17) ∧ mp_X12_verify_102 K n σ8 (nI m) (nI (T 17 m + T 18 m)) (σ8.2.2.2.1 17 m))) ∧ (r9 = 0 → (K (σ8.1 10) σ8)))) ⟨fun q => ?_, z.2⟩
          · rw [d7] at z2
            unfold mp_X12_verify_102
            simp (disch := (first | ((try simp (disch := omega) only [va_up_self, va_up_ne, ne_eq, reduceCtorEq, Nat.reduceEqDiff, not_false_eq_true, l_0, l_2, l_3, l_4, l_5, l_6, l_7, l_8, l_9, l_10, l_11, l_12, l_13, l_14, l_15, l_16, l_17, l_18, l_19, l_20, l_21, l_22, l_23, l_24, l_25, l_26, l_27, l_28, l_29, l_30, l_31, l_32, l_33, l_34, l_35, l_36, l_37, l_38, l_39, l_40, l_41, l_42, l_43, l_44, l_45, l_46, l_47, l_48, l_49, l_50, l_51, l_52, l_53, l_54, l_55, l_56, l_57, l_58, l_59, l_60, l_61, l_62, l_63, l_64, l_97, l_98, l_99, l_200, l_225, l_232, l_255, l_256, l_700, l_1000, l_1024, l_3375, l_4095, l_8000, l_20000, l_60000, vp_nIs, zz0, zz1, e10, nI_leI, nI_ltI, nI_eq, nI_1, nI_1a, nI_add, nI_sub, nI_sub1, pk_mul, nI_clamp, nI_le1, nI_le1', nI_lt1, nI_lt1', nI_eq1, nI_eqm, m1_eqN, m1_le, m1_lt, m1_leN, m1_ltN, nI_am, not_true_eq_false, not_false_eq_true, oN_eqm, r23, l23]) <;> omega) | fail)) only [↓numW, ↓zb_t, ↓zb_f, ↓zb_tt, ↓zb_ff, ↓zb_i, ↓zb_z0, ↓zb_z1, ↓zb_z, ↓zb_l, ↓zb_v, vi32, vi64, true_and, pk_us, Int32.add_zero, Nat.add_sub_cancel, nI_add, nI_1, nI_1a, nI_clamp, k7, k7', k8, k8', k12, k12', k15, k15', k16, k16', nI_sub1, va_up_self, va_up_ne, ne_eq, reduceCtorEq, Nat.reduceEqDiff, not_false_eq_true, r23, l23]
            exact z2
          · have z := z.1 q
            rcases jr with ⟨-, -, g8, -⟩ | ⟨e8, -⟩
            · have h17 : μ8.2.2.2.1 17 m = nI (T 17 m) := by
                rw [g8.row (r := 17) (fun j => by unfold AVM AmV; omega), g7.row (r := 17) (fun j => by unfold AVM AmV; omega)]; exact q17
              have k17 : μ8.2.2.1 17 = 64 := by rw [g8.ln, g7.ln]; exact lm17 hLM
              simp (disch := (first | ((try simp (disch := omega) only [va_up_self, va_up_ne, ne_eq, reduceCtorEq, Nat.reduceEqDiff, not_false_eq_true, l_0, l_2, l_3, l_4, l_5, l_6, l_7, l_8, l_9, l_10, l_11, l_12, l_13, l_14, l_15, l_16, l_17, l_18, l_19, l_20, l_21, l_22, l_23, l_24, l_25, l_26, l_27, l_28, l_29, l_30, l_31, l_32, l_33, l_34, l_35, l_36, l_37, l_38, l_39, l_40, l_41, l_42, l_43, l_44, l_45, l_46, l_47, l_48, l_49, l_50, l_51, l_52, l_53, l_54, l_55, l_56, l_57, l_58, l_59, l_60, l_61, l_62, l_63, l_64, l_97, l_98, l_99, l_200, l_225, l_232, l_255, l_256, l_700, l_1000, l_1024, l_3375, l_4095, l_8000, l_20000, l_60000, vp_nIs, zz0, zz1, e10, nI_leI, nI_ltI, nI_eq, nI_1, nI_1a, nI_add, nI_sub, nI_sub1, pk_mul, nI_clamp, nI_le1, nI_le1', nI_lt1, nI_lt1', nI_eq1, nI_eqm, m1_eqN, m1_le, m1_lt, m1_leN, m1_ltN, nI_am, not_true_eq_false, not_false_eq_true, oN_eqm, h17, k17]) <;> omega) | fail)) only [↓numW, ↓zb_t, ↓zb_f, ↓zb_tt, ↓zb_ff, ↓zb_i, ↓zb_z0, ↓zb_z1, ↓zb_z, ↓zb_l, ↓zb_v, vi32, vi64, true_and, pk_us, Int32.add_zero, Nat.add_sub_cancel, nI_add, nI_1, nI_1a, nI_clamp, k7, k7', k8, k8', k12, k12', k15, k15', k16, k16', nI_sub1, va_up_self, va_up_ne, ne_eq, reduceCtorEq, Nat.reduceEqDiff, not_false_eq_true, h17, k17]
              exact z
            · exact absurd e8 q
        · rw [(v9 q q1 (by omega)).2.2.2.2.1, hlow q ⟨q1, by omega⟩ q2]
      rcases jr with ⟨e1, f8, g8, l8, h8, ty8, mk8, hv8, u8, P8, s8⟩ | ⟨e1, f8, g8, x, hx, e34, e10⟩
      · have := ih (N - 1) (by omega) (i + 1) σ8 μ8 l8 h8 ty8 mk8 (by omega) (by omega) hv8 (fun q q1 q2 q3 => by
          by_cases e : q = p
          · subst e; exact s8 q3
          · obtain ⟨z1, z2, z3⟩ := u8.2 q q1 q3
            rw [va_up_ne _ _ e] at z1
            exact (hs q q1 (by omega) z1).u hw hm q1 (by omega) hv7.2.2.2.2.2.2.2.2.2 u8 q3) (ha.u hw u8) ((fx.t f7).t f8) ((fm.t g7).t g8)
        obtain ⟨rk, σk, rk', μk, ak, ak', kr⟩ := this
        refine ⟨rk, σk, rk', μk, fun K z => ?_, fun K z => ?_, kr⟩
        · obtain ⟨n, hn⟩ := ak K z
          exact ⟨n + 1, goX K n hn⟩
        · obtain ⟨n, hn⟩ := ak' K z
          exact ⟨_, goM K n ⟨fun _ => hn, fun q => absurd (q.symm.trans e1) (by decide)⟩⟩
      · refine ⟨0, σ8, nI x, μ8, fun K z => ⟨1 + 1, goX K 1 ?_⟩, fun K z => ⟨_, goM K 0 ⟨fun q => absurd e1 q, fun _ => by rw [e10]; exact z⟩⟩, Or.inr ⟨(frX_x (fx.t f7)).t f8, (frM_x (fm.t g7)).t g8, x, hx, rfl, e34⟩⟩
        show mp_X8_verifyMethod_101 (fun σ => K 0 σ) (0 + 1) σ8 (nI (i + 1))
        unfold mp_X8_verifyMethod_101 mp_X8_verifyMethod_144
        exact ⟨fun _ => z, fun _ => ⟨fun _ => z, fun q => absurd (e34.symm.trans q) (nI_m1 (by omega))⟩⟩
    · -- nothing is marked
      have all : ∀ q, inC T m q → mk q = 0 := fun q q1 => by
        by_cases e : q < l0
        · exact low q q1 e
        · exact p1 q (by omega) q1.2
      refine ⟨0, σ, -1, μ, fun K z => ⟨0 + 1, ?_⟩, fun K z => ⟨0 + 1 + T 18 m, ?_⟩, Or.inl ⟨rfl, fx, fm, l0, h, ty, mk, hv, all, fun q q1 q2 => hs q q1 q2 (all q q1), ha⟩⟩
      · unfold mp_X8_verifyMethod_101
        exact ⟨fun q => absurd ((nI_leI (a := 1000000) (b := i) (by omega) (by omega)).mp q) (by omega), fun _ => run K _ ⟨_, p2 _ ⟨fun q => absurd rfl q, fun _ => z⟩⟩⟩
      · refine l_scan (p := T 17 m + T 18 m) (by omega) v4.2.2 (by omega) ?_ (T 18 m) (T 17 m) (by omega) (fun q q1 q2 => ?_)
        · unfold mp_X12_verify_102
          simp (disch := (first | ((try simp (disch := omega) only [va_up_self, va_up_ne, ne_eq, reduceCtorEq, Nat.reduceEqDiff, not_false_eq_true, l_0, l_2, l_3, l_4, l_5, l_6, l_7, l_8, l_9, l_10, l_11, l_12, l_13, l_14, l_15, l_16, l_17, l_18, l_19, l_20, l_21, l_22, l_23, l_24, l_25, l_26, l_27, l_28, l_29, l_30, l_31, l_32, l_33, l_34, l_35, l_36, l_37, l_38, l_39, l_40, l_41, l_42, l_43, l_44, l_45, l_46, l_47, l_48, l_49, l_50, l_51, l_52, l_53, l_54, l_55, l_56, l_57, l_58, l_59, l_60, l_61, l_62, l_63, l_64, l_97, l_98, l_99, l_200, l_225, l_232, l_255, l_256, l_700, l_1000, l_1024, l_3375, l_4095, l_8000, l_20000, l_60000, vp_nIs, zz0, zz1, e10, nI_leI, nI_ltI, nI_eq, nI_1, nI_1a, nI_add, nI_sub, nI_sub1, pk_mul, nI_clamp, nI_le1, nI_le1', nI_lt1, nI_lt1', nI_eq1, nI_eqm, m1_eqN, m1_le, m1_lt, m1_leN, m1_ltN, nI_am, not_true_eq_false, not_false_eq_true, oN_eqm, hw]) <;> omega) | fail)) only [↓numW, ↓zb_t, ↓zb_f, ↓zb_tt, ↓zb_ff, ↓zb_i, ↓zb_z0, ↓zb_z1, ↓zb_z, ↓zb_l, ↓zb_v, vi32, vi64, true_and, pk_us, Int32.add_zero, Nat.add_sub_cancel, nI_add, nI_1, nI_1a, nI_clamp, k7, k7', k8, k8', k12, k12', k15, k15', k16, k16', nI_sub1, va_up_self, va_up_ne, ne_eq, reduceCtorEq, Nat.reduceEqDiff, not_false_eq_true, hw]
          exact z
        · rw [(v9 q q1 q2).2.2.2.2.1, all q ⟨q1, q2⟩]
