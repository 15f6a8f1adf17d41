/-! ===== the class's heap: single steps ===== -/
/-- all is as it was, but ints I and the cells, which are D now -/
def frL (I : Nat → Prop) (σ σ' : sm_S) (D : Nat → Int64) : Prop := σ'.2.1 = σ.2.1 ∧ σ'.2.2.1 = σ.2.2.1 ∧ σ'.2.2.2.1 = σ.2.2.2.1 ∧ (∀ r, r ≠ 17 → σ'.2.2.2.2 r = σ.2.2.2.2 r) ∧ σ'.2.2.2.2 17 = D ∧ ∀ k, ¬ I k → σ'.1 k = σ.1 k
theorem frL_r {I : Nat → Prop} {σ : sm_S} : frL I σ σ (σ.2.2.2.2 17) := ⟨rfl, rfl, rfl, fun _ _ => rfl, rfl, fun _ _ => rfl⟩
theorem frL.t {I : Nat → Prop} {a b c : sm_S} {D E : Nat → Int64} (h : frL I a b D) (h2 : frL I b c E) : frL I a c E := ⟨h2.1.trans h.1, h2.2.1.trans h.2.1, h2.2.2.1.trans h.2.2.1, fun r q => (h2.2.2.2.1 r q).trans (h.2.2.2.1 r q), h2.2.2.2.2.1, fun k q => (h2.2.2.2.2.2 k q).trans (h.2.2.2.2.2 k q)⟩
theorem frL.m {I J : Nat → Prop} {a b : sm_S} {D : Nat → Int64} (h : frL I a b D) (hI : ∀ k, I k → J k) : frL J a b D := ⟨h.1, h.2.1, h.2.2.1, h.2.2.2.1, h.2.2.2.2.1, fun k q => h.2.2.2.2.2 k (fun z => q (hI k z))⟩
theorem frL.i {I : Nat → Prop} {a b : sm_S} {D : Nat → Int64} (h : frL I a b D) {k : Nat} {v : Int32} (hk : I k) : frL I a (sm_i b k v) D := ⟨h.1, h.2.1, h.2.2.1, h.2.2.2.1, h.2.2.2.2.1, fun j q => (va_up_ne b.1 v (fun (e : j = k) => q (by rw [e]; exact hk))).trans (h.2.2.2.2.2 j q)⟩
theorem frL.q {I : Nat → Prop} {a b : sm_S} {D E : Nat → Int64} (h : frL I a b D) : frL I a (sm_q b 17 E) E := ⟨h.1, h.2.1, h.2.2.1, fun r q => (va_up_ne b.2.2.2.2 E q).trans (h.2.2.2.1 r q), va_up_self b.2.2.2.2 17 E, h.2.2.2.2.2⟩
theorem frL.d {I : Nat → Prop} {a b : sm_S} {D E : Nat → Int64} (h : frL I a b D) (e : D = E) : frL I a b E := by rw [← e]; exact h
theorem up_q {f : Nat → Int64} {a x : Nat} {c : Int64} : vp_updL f a c x = if x = a then c else f x := rfl
theorem l_look {σ : sm_S} {a : Nat} {K : Int64 → sm_S → Prop} (h1 : 1 ≤ a) (h2 : a < σ.2.2.1 17) (h3 : σ.2.2.1 17 < 2 ^ 31) (z : K (σ.2.2.2.2 17 a) (sm_i σ 13 (σ.1 13 + 1))) : mp_X1_look σ (nI a) K := by
  unfold mp_X1_look mp_X1_look_32 mp_X1_look_33
  simp (disch := (first | ((try simp (disch := omega) only [va_up_self, va_up_ne, ne_eq, reduceCtorEq, Nat.reduceEqDiff, not_false_eq_true, l_0, l_2, l_3, l_4, l_5, l_6, l_7, l_8, l_9, l_10, l_11, l_12, l_13, l_14, l_15, l_16, l_17, l_18, l_19, l_20, l_21, l_22, l_23, l_24, l_25, l_26, l_27, l_28, l_29, l_30, l_31, l_32, l_33, l_34, l_35, l_36, l_37, l_38, l_39, l_40, l_41, l_42, l_43, l_44, l_45, l_46, l_47, l_48, l_49, l_50, l_51, l_52, l_53, l_54, l_55, l_56, l_57, l_58, l_59, l_60, l_61, l_62, l_63, l_64, l_97, l_98, l_99, l_200, l_225, l_232, l_255, l_256, l_700, l_1000, l_1024, l_3375, l_4095, l_8000, l_20000, l_60000, vp_nIs, zz0, zz1, e10, nI_leI, nI_ltI, nI_eq, nI_1, nI_1a, nI_add, nI_sub, nI_sub1, pk_mul, nI_clamp, nI_le1, nI_le1', nI_lt1, nI_lt1', nI_eq1, nI_eqm, m1_eqN, m1_le, m1_lt, m1_leN, m1_ltN, nI_am, not_true_eq_false, not_false_eq_true, oN_eqm, h1]) <;> omega) | fail)) only [↓numW, ↓zb_t, ↓zb_f, ↓zb_tt, ↓zb_ff, ↓zb_i, ↓zb_z0, ↓zb_z1, ↓zb_z, ↓zb_l, ↓zb_v, vi32, vi64, true_and, pk_us, Int32.add_zero, Nat.add_sub_cancel, nI_add, nI_1, nI_1a, nI_clamp, k7, k7', k8, k8', k12, k12', k15, k15', k16, k16', nI_sub1, va_up_self, va_up_ne, ne_eq, reduceCtorEq, Nat.reduceEqDiff, not_false_eq_true, h1]
  exact z
theorem l_put {σ : sm_S} {a : Nat} {c : Int64} {K : sm_S → Prop} (h1 : 1 ≤ a) (h2 : a < σ.2.2.1 17) (h3 : σ.2.2.1 17 < 2 ^ 31) (z : K (sm_q (sm_i σ 13 (σ.1 13 + 1)) 17 (vp_updL (σ.2.2.2.2 17) a c))) : mp_X1_put σ (nI a) c K := by
  unfold mp_X1_put mp_X1_put_30
  simp (disch := (first | ((try simp (disch := omega) only [va_up_self, va_up_ne, ne_eq, reduceCtorEq, Nat.reduceEqDiff, not_false_eq_true, l_0, l_2, l_3, l_4, l_5, l_6, l_7, l_8, l_9, l_10, l_11, l_12, l_13, l_14, l_15, l_16, l_17, l_18, l_19, l_20, l_21, l_22, l_23, l_24, l_25, l_26, l_27, l_28, l_29, l_30, l_31, l_32, l_33, l_34, l_35, l_36, l_37, l_38, l_39, l_40, l_41, l_42, l_43, l_44, l_45, l_46, l_47, l_48, l_49, l_50, l_51, l_52, l_53, l_54, l_55, l_56, l_57, l_58, l_59, l_60, l_61, l_62, l_63, l_64, l_97, l_98, l_99, l_200, l_225, l_232, l_255, l_256, l_700, l_1000, l_1024, l_3375, l_4095, l_8000, l_20000, l_60000, vp_nIs, zz0, zz1, e10, nI_leI, nI_ltI, nI_eq, nI_1, nI_1a, nI_add, nI_sub, nI_sub1, pk_mul, nI_clamp, nI_le1, nI_le1', nI_lt1, nI_lt1', nI_eq1, nI_eqm, m1_eqN, m1_le, m1_lt, m1_leN, m1_ltN, nI_am, not_true_eq_false, not_false_eq_true, oN_eqm, h1]) <;> omega) | fail)) only [↓numW, ↓zb_t, ↓zb_f, ↓zb_tt, ↓zb_ff, ↓zb_i, ↓zb_z0, ↓zb_z1, ↓zb_z, ↓zb_l, ↓zb_v, vi32, vi64, true_and, pk_us, Int32.add_zero, Nat.add_sub_cancel, nI_add, nI_1, nI_1a, nI_clamp, k7, k7', k8, k8', k12, k12', k15, k15', k16, k16', nI_sub1, va_up_self, va_up_ne, ne_eq, reduceCtorEq, Nat.reduceEqDiff, not_false_eq_true, h1]
  exact z
theorem l_peek {σ : sm_S} {a : Nat} {K : Int64 → sm_S → Prop} (h1 : 1 ≤ a) (h2 : a < σ.2.2.1 17) (h3 : σ.2.2.1 17 < 2 ^ 31) (z : K (σ.2.2.2.2 17 a) σ) : mp_X1_peek σ (nI a) K := by
  unfold mp_X1_peek mp_X1_peek_22 mp_X1_peek_23
  simp (disch := (first | ((try simp (disch := omega) only [va_up_self, va_up_ne, ne_eq, reduceCtorEq, Nat.reduceEqDiff, not_false_eq_true, l_0, l_2, l_3, l_4, l_5, l_6, l_7, l_8, l_9, l_10, l_11, l_12, l_13, l_14, l_15, l_16, l_17, l_18, l_19, l_20, l_21, l_22, l_23, l_24, l_25, l_26, l_27, l_28, l_29, l_30, l_31, l_32, l_33, l_34, l_35, l_36, l_37, l_38, l_39, l_40, l_41, l_42, l_43, l_44, l_45, l_46, l_47, l_48, l_49, l_50, l_51, l_52, l_53, l_54, l_55, l_56, l_57, l_58, l_59, l_60, l_61, l_62, l_63, l_64, l_97, l_98, l_99, l_200, l_225, l_232, l_255, l_256, l_700, l_1000, l_1024, l_3375, l_4095, l_8000, l_20000, l_60000, vp_nIs, zz0, zz1, e10, nI_leI, nI_ltI, nI_eq, nI_1, nI_1a, nI_add, nI_sub, nI_sub1, pk_mul, nI_clamp, nI_le1, nI_le1', nI_lt1, nI_lt1', nI_eq1, nI_eqm, m1_eqN, m1_le, m1_lt, m1_leN, m1_ltN, nI_am, not_true_eq_false, not_false_eq_true, oN_eqm, h1]) <;> omega) | fail)) only [↓numW, ↓zb_t, ↓zb_f, ↓zb_tt, ↓zb_ff, ↓zb_i, ↓zb_z0, ↓zb_z1, ↓zb_z, ↓zb_l, ↓zb_v, vi32, vi64, true_and, pk_us, Int32.add_zero, Nat.add_sub_cancel, nI_add, nI_1, nI_1a, nI_clamp, k7, k7', k8, k8', k12, k12', k15, k15', k16, k16', nI_sub1, va_up_self, va_up_ne, ne_eq, reduceCtorEq, Nat.reduceEqDiff, not_false_eq_true, h1]
  exact z
/-- a cell that leads into the half that is being left -/
def ldb (hf B k a : Nat) : Prop := k = 1 ∧ a ≠ 0 ∧ (a < B ∨ B + hf ≤ a)
theorem l_lb {σ : sm_S} {hf B k a : Nat} {K : jk} (h1 : σ.1 1 = nI hf) (h2 : σ.1 2 = nI B) (hk : k < 8) (hb : B + hf < 2 ^ 31) (ha : k = 1 → a < 2 ^ 31) {v : Int32} (hv : k = 1 → v = nI a) (z1 : ldb hf B k a → K 1 σ) (z0 : ¬ ldb hf B k a → K 0 σ) : mp_X1_leadsBack σ (mkc k v) K := by
  unfold mp_X1_leadsBack mp_X1_leadsBack_41 mp_X1_leadsBack_42 mp_X1_leadsBack_37
  rw [mk_c1 hk, mk_lo hk]
  by_cases c : k = 1
  · have a31 := ha c
    rw [hv c]
    by_cases c0 : a = 0
    · have := z0 (fun q => q.2.1 c0)
      simp (disch := (first | ((try simp (disch := omega) only [va_up_self, va_up_ne, ne_eq, reduceCtorEq, Nat.reduceEqDiff, not_false_eq_true, l_0, l_2, l_3, l_4, l_5, l_6, l_7, l_8, l_9, l_10, l_11, l_12, l_13, l_14, l_15, l_16, l_17, l_18, l_19, l_20, l_21, l_22, l_23, l_24, l_25, l_26, l_27, l_28, l_29, l_30, l_31, l_32, l_33, l_34, l_35, l_36, l_37, l_38, l_39, l_40, l_41, l_42, l_43, l_44, l_45, l_46, l_47, l_48, l_49, l_50, l_51, l_52, l_53, l_54, l_55, l_56, l_57, l_58, l_59, l_60, l_61, l_62, l_63, l_64, l_97, l_98, l_99, l_200, l_225, l_232, l_255, l_256, l_700, l_1000, l_1024, l_3375, l_4095, l_8000, l_20000, l_60000, vp_nIs, zz0, zz1, e10, nI_leI, nI_ltI, nI_eq, nI_1, nI_1a, nI_add, nI_sub, nI_sub1, pk_mul, nI_clamp, nI_le1, nI_le1', nI_lt1, nI_lt1', nI_eq1, nI_eqm, m1_eqN, m1_le, m1_lt, m1_leN, m1_ltN, nI_am, not_true_eq_false, not_false_eq_true, oN_eqm, h1, h2]) <;> omega) | fail)) only [↓numW, ↓zb_t, ↓zb_f, ↓zb_tt, ↓zb_ff, ↓zb_i, ↓zb_z0, ↓zb_z1, ↓zb_z, ↓zb_l, ↓zb_v, vi32, vi64, true_and, pk_us, Int32.add_zero, Nat.add_sub_cancel, nI_add, nI_1, nI_1a, nI_clamp, k7, k7', k8, k8', k12, k12', k15, k15', k16, k16', nI_sub1, va_up_self, va_up_ne, ne_eq, reduceCtorEq, Nat.reduceEqDiff, not_false_eq_true, h1, h2]
      exact this
    · by_cases c1 : a < B
      · have := z1 ⟨c, c0, Or.inl c1⟩
        simp (disch := (first | ((try simp (disch := omega) only [va_up_self, va_up_ne, ne_eq, reduceCtorEq, Nat.reduceEqDiff, not_false_eq_true, l_0, l_2, l_3, l_4, l_5, l_6, l_7, l_8, l_9, l_10, l_11, l_12, l_13, l_14, l_15, l_16, l_17, l_18, l_19, l_20, l_21, l_22, l_23, l_24, l_25, l_26, l_27, l_28, l_29, l_30, l_31, l_32, l_33, l_34, l_35, l_36, l_37, l_38, l_39, l_40, l_41, l_42, l_43, l_44, l_45, l_46, l_47, l_48, l_49, l_50, l_51, l_52, l_53, l_54, l_55, l_56, l_57, l_58, l_59, l_60, l_61, l_62, l_63, l_64, l_97, l_98, l_99, l_200, l_225, l_232, l_255, l_256, l_700, l_1000, l_1024, l_3375, l_4095, l_8000, l_20000, l_60000, vp_nIs, zz0, zz1, e10, nI_leI, nI_ltI, nI_eq, nI_1, nI_1a, nI_add, nI_sub, nI_sub1, pk_mul, nI_clamp, nI_le1, nI_le1', nI_lt1, nI_lt1', nI_eq1, nI_eqm, m1_eqN, m1_le, m1_lt, m1_leN, m1_ltN, nI_am, not_true_eq_false, not_false_eq_true, oN_eqm, h1, h2]) <;> omega) | fail)) only [↓numW, ↓zb_t, ↓zb_f, ↓zb_tt, ↓zb_ff, ↓zb_i, ↓zb_z0, ↓zb_z1, ↓zb_z, ↓zb_l, ↓zb_v, vi32, vi64, true_and, pk_us, Int32.add_zero, Nat.add_sub_cancel, nI_add, nI_1, nI_1a, nI_clamp, k7, k7', k8, k8', k12, k12', k15, k15', k16, k16', nI_sub1, va_up_self, va_up_ne, ne_eq, reduceCtorEq, Nat.reduceEqDiff, not_false_eq_true, h1, h2]
        exact ⟨sm_z1, this⟩
      · by_cases c2 : a < B + hf
        · have := z0 (fun q => by unfold ldb at q; omega)
          simp (disch := (first | ((try simp (disch := omega) only [va_up_self, va_up_ne, ne_eq, reduceCtorEq, Nat.reduceEqDiff, not_false_eq_true, l_0, l_2, l_3, l_4, l_5, l_6, l_7, l_8, l_9, l_10, l_11, l_12, l_13, l_14, l_15, l_16, l_17, l_18, l_19, l_20, l_21, l_22, l_23, l_24, l_25, l_26, l_27, l_28, l_29, l_30, l_31, l_32, l_33, l_34, l_35, l_36, l_37, l_38, l_39, l_40, l_41, l_42, l_43, l_44, l_45, l_46, l_47, l_48, l_49, l_50, l_51, l_52, l_53, l_54, l_55, l_56, l_57, l_58, l_59, l_60, l_61, l_62, l_63, l_64, l_97, l_98, l_99, l_200, l_225, l_232, l_255, l_256, l_700, l_1000, l_1024, l_3375, l_4095, l_8000, l_20000, l_60000, vp_nIs, zz0, zz1, e10, nI_leI, nI_ltI, nI_eq, nI_1, nI_1a, nI_add, nI_sub, nI_sub1, pk_mul, nI_clamp, nI_le1, nI_le1', nI_lt1, nI_lt1', nI_eq1, nI_eqm, m1_eqN, m1_le, m1_lt, m1_leN, m1_ltN, nI_am, not_true_eq_false, not_false_eq_true, oN_eqm, h1, h2]) <;> omega) | fail)) only [↓numW, ↓zb_t, ↓zb_f, ↓zb_tt, ↓zb_ff, ↓zb_i, ↓zb_z0, ↓zb_z1, ↓zb_z, ↓zb_l, ↓zb_v, vi32, vi64, true_and, pk_us, Int32.add_zero, Nat.add_sub_cancel, nI_add, nI_1, nI_1a, nI_clamp, k7, k7', k8, k8', k12, k12', k15, k15', k16, k16', nI_sub1, va_up_self, va_up_ne, ne_eq, reduceCtorEq, Nat.reduceEqDiff, not_false_eq_true, h1, h2]
          exact this
        · have := z1 ⟨c, c0, Or.inr (by omega)⟩
          simp (disch := (first | ((try simp (disch := omega) only [va_up_self, va_up_ne, ne_eq, reduceCtorEq, Nat.reduceEqDiff, not_false_eq_true, l_0, l_2, l_3, l_4, l_5, l_6, l_7, l_8, l_9, l_10, l_11, l_12, l_13, l_14, l_15, l_16, l_17, l_18, l_19, l_20, l_21, l_22, l_23, l_24, l_25, l_26, l_27, l_28, l_29, l_30, l_31, l_32, l_33, l_34, l_35, l_36, l_37, l_38, l_39, l_40, l_41, l_42, l_43, l_44, l_45, l_46, l_47, l_48, l_49, l_50, l_51, l_52, l_53, l_54, l_55, l_56, l_57, l_58, l_59, l_60, l_61, l_62, l_63, l_64, l_97, l_98, l_99, l_200, l_225, l_232, l_255, l_256, l_700, l_1000, l_1024, l_3375, l_4095, l_8000, l_20000, l_60000, vp_nIs, zz0, zz1, e10, nI_leI, nI_ltI, nI_eq, nI_1, nI_1a, nI_add, nI_sub, nI_sub1, pk_mul, nI_clamp, nI_le1, nI_le1', nI_lt1, nI_lt1', nI_eq1, nI_eqm, m1_eqN, m1_le, m1_lt, m1_leN, m1_ltN, nI_am, not_true_eq_false, not_false_eq_true, oN_eqm, h1, h2]) <;> omega) | fail)) only [↓numW, ↓zb_t, ↓zb_f, ↓zb_tt, ↓zb_ff, ↓zb_i, ↓zb_z0, ↓zb_z1, ↓zb_z, ↓zb_l, ↓zb_v, vi32, vi64, true_and, pk_us, Int32.add_zero, Nat.add_sub_cancel, nI_add, nI_1, nI_1a, nI_clamp, k7, k7', k8, k8', k12, k12', k15, k15', k16, k16', nI_sub1, va_up_self, va_up_ne, ne_eq, reduceCtorEq, Nat.reduceEqDiff, not_false_eq_true, h1, h2]
          exact ⟨sm_z1, this⟩
  · have := z0 (fun q => c q.1)
    exact ⟨fun _ => ⟨sm_z0, this⟩, fun q => absurd q c⟩
/-- the cells when block a was moved to F -/
def mvD (C : Nat → Int64) (a F s lv : Nat) (x : Nat) : Int64 := if x = a then mkc 6 (nI F) else if F ≤ x ∧ x < F + s then (if x - F < lv then C (a + (x - F)) else mkc 0 0) else C x
def mvL (C : Nat → Int64) (a F i lv : Nat) (x : Nat) : Int64 := if F ≤ x ∧ x < F + i then (if x - F < lv then C (a + (x - F)) else mkc 0 0) else C x
def I133 (k : Nat) : Prop := k = 13 ∨ k = 3
theorem l_mv145 {σ0 : sm_S} {a F s lv l : Nat} {C : Nat → Int64} (hC : σ0.2.2.2.2 17 = C) (h1 : 1 ≤ a) (h2 : a + s ≤ σ0.2.2.1 17) (h3 : F + s ≤ σ0.2.2.1 17) (h4 : σ0.2.2.1 17 < 2 ^ 30) (hd : a + s ≤ F ∨ F + s ≤ a) (hs : 1 ≤ s) (hs2 : s ≤ 16) (hlv : lv ≤ 16) (i3 : σ0.1 3 = nI F) (i13 : σ0.1 13 = nI l) (hl : l < 2 ^ 29) : ∀ (d i : Nat) (σ : sm_S), i + d = s → frL I133 σ0 σ (mvL C a F i lv) → σ.1 3 = nI F → σ.1 13 = nI l → ∃ σ', frL I133 σ0 σ' (mvD C a F s lv) ∧ σ'.1 3 = nI (F + s) ∧ σ'.1 13 = nI (l + (2 * s + 1)) ∧ ∀ K : jk, K (nI F) σ' → mp_X1_move_145 K (d + 1) σ (nI a) (nI s) (nI F) (nI lv) (nI i) := by
  intro d
  induction d with
  | zero =>
    intro i σ hi f s3 s13
    have e : i = s := by omega
    subst e
    have k17 : σ.2.2.1 17 = σ0.2.2.1 17 := by rw [f.2.1]
    have f2 : frL I133 σ0 (sm_q σ 17 (vp_updL (σ.2.2.2.2 17) a (mkc 6 (nI F)))) (mvD C a F i lv) := f.q.d (by rw [f.2.2.2.2.1]; rfl)
    refine ⟨sm_i (sm_i (sm_q σ 17 (vp_updL (σ.2.2.2.2 17) a (mkc 6 (nI F)))) 13 (nI (l + (2 * i + 1)))) 3 (nI (F + i)), (f2.i (by unfold I133; omega)).i (by unfold I133; omega), rfl, rfl, fun K z => ?_⟩
    unfold mp_X1_move_145
    rw [mk_mv (by omega), l_2, pk_mul]
    simp (disch := (first | ((try simp (disch := omega) only [va_up_self, va_up_ne, ne_eq, reduceCtorEq, Nat.reduceEqDiff, not_false_eq_true, l_0, l_2, l_3, l_4, l_5, l_6, l_7, l_8, l_9, l_10, l_11, l_12, l_13, l_14, l_15, l_16, l_17, l_18, l_19, l_20, l_21, l_22, l_23, l_24, l_25, l_26, l_27, l_28, l_29, l_30, l_31, l_32, l_33, l_34, l_35, l_36, l_37, l_38, l_39, l_40, l_41, l_42, l_43, l_44, l_45, l_46, l_47, l_48, l_49, l_50, l_51, l_52, l_53, l_54, l_55, l_56, l_57, l_58, l_59, l_60, l_61, l_62, l_63, l_64, l_97, l_98, l_99, l_200, l_225, l_232, l_255, l_256, l_700, l_1000, l_1024, l_3375, l_4095, l_8000, l_20000, l_60000, vp_nIs, zz0, zz1, e10, nI_leI, nI_ltI, nI_eq, nI_1, nI_1a, nI_add, nI_sub, nI_sub1, pk_mul, nI_clamp, nI_le1, nI_le1', nI_lt1, nI_lt1', nI_eq1, nI_eqm, m1_eqN, m1_le, m1_lt, m1_leN, m1_ltN, nI_am, not_true_eq_false, not_false_eq_true, oN_eqm, k17, s13, s3]) <;> omega) | fail)) only [↓numW, ↓zb_t, ↓zb_f, ↓zb_tt, ↓zb_ff, ↓zb_i, ↓zb_z0, ↓zb_z1, ↓zb_z, ↓zb_l, ↓zb_v, vi32, vi64, true_and, pk_us, Int32.add_zero, Nat.add_sub_cancel, nI_add, nI_1, nI_1a, nI_clamp, k7, k7', k8, k8', k12, k12', k15, k15', k16, k16', nI_sub1, va_up_self, va_up_ne, ne_eq, reduceCtorEq, Nat.reduceEqDiff, not_false_eq_true, k17, s13, s3]
    exact z
  | succ d ih =>
    intro i σ hi f s3 s13
    have k17 : σ.2.2.1 17 = σ0.2.2.1 17 := by rw [f.2.1]
    have hC' : σ.2.2.2.2 17 = mvL C a F i lv := f.2.2.2.2.1
    have hr : σ.2.2.2.2 17 (a + i) = C (a + i) := by
      rw [hC']
      unfold mvL
      rw [if_neg (by omega)]
    obtain ⟨c, hc⟩ : ∃ c, c = if i < lv then C (a + i) else mkc 0 0 := ⟨_, rfl⟩
    have f2 : frL I133 σ0 (sm_q σ 17 (vp_updL (σ.2.2.2.2 17) (F + i) c)) (mvL C a F (i + 1) lv) := f.q.d (by
      rw [hC']
      funext x
      rw [up_q]
      unfold mvL
      by_cases e : x = F + i
      · rw [if_pos e, if_pos (by omega), hc, e, Nat.add_sub_cancel_left]
      · rw [if_neg e]
        by_cases e2 : F ≤ x ∧ x < F + i
        · rw [if_pos e2, if_pos (show F ≤ x ∧ x < F + (i + 1) by omega)]
        · rw [if_neg e2, if_neg (show ¬ (F ≤ x ∧ x < F + (i + 1)) by omega)])
    obtain ⟨σ', g1, g2, g3, g4⟩ := ih (i + 1) (sm_q σ 17 (vp_updL (σ.2.2.2.2 17) (F + i) c)) (by omega) f2 s3 s13
    refine ⟨σ', g1, g2, g3, fun K z => ?_⟩
    have z := g4 K z
    unfold mp_X1_move_145 mp_X1_move_181
    by_cases e : i < lv
    · rw [if_pos e] at hc
      rw [hc, ← hr] at z
      simp (disch := (first | ((try simp (disch := omega) only [va_up_self, va_up_ne, ne_eq, reduceCtorEq, Nat.reduceEqDiff, not_false_eq_true, l_0, l_2, l_3, l_4, l_5, l_6, l_7, l_8, l_9, l_10, l_11, l_12, l_13, l_14, l_15, l_16, l_17, l_18, l_19, l_20, l_21, l_22, l_23, l_24, l_25, l_26, l_27, l_28, l_29, l_30, l_31, l_32, l_33, l_34, l_35, l_36, l_37, l_38, l_39, l_40, l_41, l_42, l_43, l_44, l_45, l_46, l_47, l_48, l_49, l_50, l_51, l_52, l_53, l_54, l_55, l_56, l_57, l_58, l_59, l_60, l_61, l_62, l_63, l_64, l_97, l_98, l_99, l_200, l_225, l_232, l_255, l_256, l_700, l_1000, l_1024, l_3375, l_4095, l_8000, l_20000, l_60000, vp_nIs, zz0, zz1, e10, nI_leI, nI_ltI, nI_eq, nI_1, nI_1a, nI_add, nI_sub, nI_sub1, pk_mul, nI_clamp, nI_le1, nI_le1', nI_lt1, nI_lt1', nI_eq1, nI_eqm, m1_eqN, m1_le, m1_lt, m1_leN, m1_ltN, nI_am, not_true_eq_false, not_false_eq_true, oN_eqm, k17]) <;> omega) | fail)) only [↓numW, ↓zb_t, ↓zb_f, ↓zb_tt, ↓zb_ff, ↓zb_i, ↓zb_z0, ↓zb_z1, ↓zb_z, ↓zb_l, ↓zb_v, vi32, vi64, true_and, pk_us, Int32.add_zero, Nat.add_sub_cancel, nI_add, nI_1, nI_1a, nI_clamp, k7, k7', k8, k8', k12, k12', k15, k15', k16, k16', nI_sub1, va_up_self, va_up_ne, ne_eq, reduceCtorEq, Nat.reduceEqDiff, not_false_eq_true, k17]
      exact z
    · rw [if_neg e] at hc
      rw [hc, ← mk_0] at z
      simp (disch := (first | ((try simp (disch := omega) only [va_up_self, va_up_ne, ne_eq, reduceCtorEq, Nat.reduceEqDiff, not_false_eq_true, l_0, l_2, l_3, l_4, l_5, l_6, l_7, l_8, l_9, l_10, l_11, l_12, l_13, l_14, l_15, l_16, l_17, l_18, l_19, l_20, l_21, l_22, l_23, l_24, l_25, l_26, l_27, l_28, l_29, l_30, l_31, l_32, l_33, l_34, l_35, l_36, l_37, l_38, l_39, l_40, l_41, l_42, l_43, l_44, l_45, l_46, l_47, l_48, l_49, l_50, l_51, l_52, l_53, l_54, l_55, l_56, l_57, l_58, l_59, l_60, l_61, l_62, l_63, l_64, l_97, l_98, l_99, l_200, l_225, l_232, l_255, l_256, l_700, l_1000, l_1024, l_3375, l_4095, l_8000, l_20000, l_60000, vp_nIs, zz0, zz1, e10, nI_leI, nI_ltI, nI_eq, nI_1, nI_1a, nI_add, nI_sub, nI_sub1, pk_mul, nI_clamp, nI_le1, nI_le1', nI_lt1, nI_lt1', nI_eq1, nI_eqm, m1_eqN, m1_le, m1_lt, m1_leN, m1_ltN, nI_am, not_true_eq_false, not_false_eq_true, oN_eqm, k17]) <;> omega) | fail)) only [↓numW, ↓zb_t, ↓zb_f, ↓zb_tt, ↓zb_ff, ↓zb_i, ↓zb_z0, ↓zb_z1, ↓zb_z, ↓zb_l, ↓zb_v, vi32, vi64, true_and, pk_us, Int32.add_zero, Nat.add_sub_cancel, nI_add, nI_1, nI_1a, nI_clamp, k7, k7', k8, k8', k12, k12', k15, k15', k16, k16', nI_sub1, va_up_self, va_up_ne, ne_eq, reduceCtorEq, Nat.reduceEqDiff, not_false_eq_true, k17]
      exact z
/-- how large the block with such a head is, and how much of it is live -/
def bsz (T : Nat → Nat → Nat) (k v : Nat) : Nat := if k = 2 then 1 + T 6 v else 16
theorem l_move {σ : sm_S} {T : Nat → Nat → Nat} {b : Nat → Nat} {a F l k v lv : Nat} (hi : imX σ T b) (hw : wf T b) (hk : 2 ≤ k ∧ k ≤ 5) (hd : σ.2.2.2.2 17 a = mkc k (nI v)) (h1 : 1 ≤ a) (h2 : a + bsz T k v ≤ σ.2.2.1 17) (h3 : F + bsz T k v ≤ σ.2.2.1 17) (h4 : σ.2.2.1 17 < 2 ^ 30) (hdj : a + bsz T k v ≤ F ∨ F + bsz T k v ≤ a) (hv2 : k = 2 → v < T 0 0) (hv3 : k ≠ 2 → v < 2 ^ 30) (hv5 : k = 5 → v < T 0 1 ∧ ∃ h, σ.2.2.2.2 17 (a + 2) = mkc 0 (nI h) ∧ h ≤ T 16 v ∧ lv = 4 + T 15 v + h) (hlv : k ≠ 5 → lv = bsz T k v) (i3 : σ.1 3 = nI F) (i13 : σ.1 13 = nI l) (hl : l < 2 ^ 28) : ∃ σ', frL I133 σ σ' (mvD (σ.2.2.2.2 17) a F (bsz T k v) lv) ∧ σ'.1 3 = nI (F + bsz T k v) ∧ σ'.1 13 = nI (l + (2 * bsz T k v + 2)) ∧ ∀ K : jk, K (nI F) σ' → mp_X1_move σ (nI a) K := by
  have w2 := hw.2.1
  have w4 := hw.2.2.2.1
  have hLX := hi.2.1
  have hs : 1 ≤ bsz T k v ∧ bsz T k v ≤ 16 := by
    unfold bsz
    by_cases e : k = 2
    · rw [if_pos e]
      have := (hw.2.2.2.2.2.2.1 v (hv2 e)).2.1
      omega
    · rw [if_neg e]; omega
  have hlv16 : lv ≤ 16 := by
    by_cases e : k = 5
    · obtain ⟨q1, h, -, q2, q3⟩ := hv5 e
      have := (hw.2.2.2.2.2.2.2.2.1 v q1).2.2.2.2.2.2.1
      omega
    · rw [hlv e]; omega
  have hv31 : v < 2 ^ 30 := by
    by_cases e : k = 2
    · have := hv2 e; omega
    · exact hv3 e
  generalize hse : bsz T k v = s at h2 h3 hdj hs hlv
  obtain ⟨σ', g1, g2, g3, g4⟩ := l_mv145 (σ0 := sm_i σ 13 (nI (l + 1))) (a := a) (F := F) (s := s) (lv := lv) (l := l + 1) (C := σ.2.2.2.2 17) rfl h1 h2 h3 h4 hdj hs.1 hs.2 hlv16 i3 rfl (by omega) s 0 (sm_i σ 13 (nI (l + 1))) (by omega) (frL_r.d (by
    funext x
    unfold mvL
    rw [if_neg (by omega)])) i3 rfl
  have g1' : frL I133 σ σ' (mvD (σ.2.2.2.2 17) a F s lv) := (frL_r.i (by unfold I133; omega)).t g1
  refine ⟨σ', g1', g2, by rw [g3]; exact congrArg nI (by omega), fun K z => ?_⟩
  have z := g4 K z
  have e13 : σ.1 13 + 1 = nI (l + 1) := by rw [i13, nI_1]
  unfold mp_X1_move mp_X1_move_14
  by_cases e2 : k = 2
  · have q12 := (hi.2.2.2.2.2.2.2.1.1 v (hv2 e2)).2.1
    have := hv2 e2
    have hsv : s = 1 + T 6 v := by rw [← hse]; unfold bsz; rw [if_pos e2]
    have hlv' := hlv (by omega)
    have nk6 : ¬ nI k = 6 := fun q => absurd ((nI_eq (b := 6) (by omega) (by omega)).mp q) (by omega)
    have nk2 : nI k = 2 := by rw [e2]; rfl
    have nk5 : ¬ nI k = 5 := fun q => absurd ((nI_eq (b := 5) (by omega) (by omega)).mp q) (by omega)
    refine ⟨fun q => absurd ((nI_ltI (b := 1) (by omega) (by omega)).mp q) (by omega), fun _ => ⟨fun _ s19 e19 => ?_, fun q => absurd ((nI_ltI (by omega) (by omega)).mpr (by omega)) q⟩⟩
    rw [e13] at e19
    rw [e19]
    refine ⟨vp_in_nI (show a < σ.2.2.1 17 by omega) (show σ.2.2.1 17 < 2 ^ 31 by omega), fun v21 e21 => ⟨vp_in_nI (show a < σ.2.2.1 17 by omega) (show σ.2.2.1 17 < 2 ^ 31 by omega), fun v23 e23 => ?_⟩⟩
    rw [nI_clamp (by omega)] at e21 e23
    have hd' : (sm_i σ 13 (nI (l + 1))).2.2.2.2 17 a = mkc k (nI v) := hd
    rw [hd', mk_kd (by omega)] at e21
    rw [hd', mk_lo (by omega)] at e23
    rw [e21, e23]
    refine ⟨fun _ => ⟨fun q => absurd nk2 q, fun _ => ?_⟩, fun q => absurd q nk6⟩
    rw [nI_clamp (by omega)]
    show vp_in (nI v) (σ.2.2.1 12) ∧ mp_X1_move_74 K (sm_i σ 13 (nI (l + 1))) (nI a) (nI k) (nI v) (1 + σ.2.2.2.1 12 v)
    rw [q12, nI_1a, ← hsv]
    refine ⟨by rw [lx12 hLX]; exact vp_in_nI (by omega) (by decide), fun v11 e11 => ?_⟩
    have i3' : (sm_i σ 13 (nI (l + 1))).1 3 = nI F := i3
    rw [i3'] at e11
    rw [e11]
    unfold mp_X1_move_107 mp_X1_move_140
    rw [nI_add, nI_add]
    refine ⟨fun q => absurd ((nI_ltI (show σ.2.2.1 17 < 2 ^ 31 by omega) (by omega)).mp q) (by omega), fun _ => ⟨fun _ => ⟨fun _ => ?_, fun q => absurd q nk5⟩, fun q => absurd ((nI_leI (by omega) (show σ.2.2.1 17 < 2 ^ 31 by omega)).mpr h3) q⟩⟩
    rw [hlv'] at z
    exact ⟨_, z⟩
  · have hsv : s = 16 := by rw [← hse]; unfold bsz; rw [if_neg e2]
    have nk6 : ¬ nI k = 6 := fun q => absurd ((nI_eq (b := 6) (by omega) (by omega)).mp q) (by omega)
    have nk2 : ¬ nI k = 2 := fun q => absurd ((nI_eq (b := 2) (by omega) (by omega)).mp q) (by omega)
    refine ⟨fun q => absurd ((nI_ltI (b := 1) (by omega) (by omega)).mp q) (by omega), fun _ => ⟨fun _ s19 e19 => ?_, fun q => absurd ((nI_ltI (by omega) (by omega)).mpr (by omega)) q⟩⟩
    rw [e13] at e19
    rw [e19]
    refine ⟨vp_in_nI (show a < σ.2.2.1 17 by omega) (show σ.2.2.1 17 < 2 ^ 31 by omega), fun v21 e21 => ⟨vp_in_nI (show a < σ.2.2.1 17 by omega) (show σ.2.2.1 17 < 2 ^ 31 by omega), fun v23 e23 => ?_⟩⟩
    rw [nI_clamp (by omega)] at e21 e23
    have hd' : (sm_i σ 13 (nI (l + 1))).2.2.2.2 17 a = mkc k (nI v) := hd
    rw [hd', mk_kd (by omega)] at e21
    rw [hd', mk_lo (by omega)] at e23
    rw [e21, e23]
    refine ⟨fun _ => ⟨fun _ => ?_, fun q => absurd q nk2⟩, fun q => absurd q nk6⟩
    intro v11 e11
    have i3' : (sm_i σ 13 (nI (l + 1))).1 3 = nI F := i3
    rw [i3'] at e11
    rw [e11]
    unfold mp_X1_move_107 mp_X1_move_140
    rw [l_16, nI_add, nI_add]
    rw [hsv] at h2 h3 z
    refine ⟨fun q => absurd ((nI_ltI (show σ.2.2.1 17 < 2 ^ 31 by omega) (by omega)).mp q) (by omega), fun _ => ⟨fun _ => ⟨fun n5 => ?_, fun y5 => ?_⟩, fun q => absurd ((nI_leI (by omega) (show σ.2.2.1 17 < 2 ^ 31 by omega)).mpr h3) q⟩⟩
    · have e5 : k ≠ 5 := fun e => n5 (by rw [e]; rfl)
      rw [hlv e5, hsv] at z
      exact ⟨_, z⟩
    · have e5 : k = 5 := (nI_eq (b := 5) (by omega) (by omega)).mp y5
      obtain ⟨c1, h, c2, c3, c4⟩ := hv5 e5
      have q24 := (hi.2.2.2.2.2.2.2.2 v c1).2.2.2.2.1
      have c2' : (sm_i σ 13 (nI (l + 1))).2.2.2.2 17 (a + 2) = mkc 0 (nI h) := c2
      have q24' : (sm_i σ 13 (nI (l + 1))).2.2.2.1 24 v = nI (T 15 v) := q24
      rw [k_p2, nI_clamp (by omega), nI_clamp (by omega), c2', mk_lo (by decide), q24', l_4, nI_add, nI_add]
      rw [c4] at z
      exact ⟨by show vp_in (nI v) (σ.2.2.1 24); rw [lx24 hLX]; exact vp_in_nI (by omega) (by decide), vp_in_nI (show a + 2 < σ.2.2.1 17 by omega) (show σ.2.2.1 17 < 2 ^ 31 by omega), _, z⟩
