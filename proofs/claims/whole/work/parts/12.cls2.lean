/-! ===== reading a class, both sides ===== -/
def IcX (k : Nat) : Prop := k = 20 ∨ k = 21
def IcM (k : Nat) : Prop := k = 2 ∨ k = 3
def AcX (c r j : Nat) : Prop := (r = 11 ∧ j = c) ∨ (r = 12 ∧ j = c) ∨ (r = 13 ∧ 15 * c ≤ j ∧ j < 15 * c + 15) ∨ (r = 14 ∧ 16 * c ≤ j ∧ j < 16 * c + 16) ∨ (r = 15 ∧ 16 * c ≤ j ∧ j < 16 * c + 16)
def AcM (c r j : Nat) : Prop := (r = 5 ∧ j = c) ∨ (r = 6 ∧ j = c) ∨ (r = 7 ∧ 15 * c ≤ j ∧ j < 15 * c + 15) ∨ (r = 8 ∧ 16 * c ≤ j ∧ j < 16 * c + 16) ∨ (r = 9 ∧ 16 * c ≤ j ∧ j < 16 * c + 16)
/-- the same place is read, nothing was wrong yet -/
def at2 (σ μ : sm_S) (n p : Nat) : Prop := p ≤ n ∧ σ.1 20 = nI p ∧ μ.1 2 = nI p ∧ σ.1 21 = -1 ∧ μ.1 3 = -1
/-- what stays while the reader reads classes -/
def rb (σ μ : sm_S) (n : Nat) (b : Nat → Nat) (C : Nat) : Prop := iv_bX σ n b ∧ iv_bM μ n b ∧ lnX σ ∧ lnM μ ∧ σ.1 0 = nI C ∧ μ.1 5 = nI C ∧ C ≤ 32
theorem rb.c {σ μ σ' μ' : sm_S} {n C c : Nat} {b : Nat → Nat} (h : rb σ μ n b C) (hX : fr IcX (AcX c) σ σ') (hM : fr IcM (AcM c) μ μ') : rb σ' μ' n b C := ⟨hX.bX (by unfold IcX; omega) (fun j => by unfold AcX; omega) h.1, hM.bM (by unfold IcM; omega) (fun j => by unfold AcM; omega) h.2.1, hX.lX h.2.2.1, hM.lM h.2.2.2.1, by rw [hX.2.2.2.1 0 (by unfold IcX; omega)]; exact h.2.2.2.2.1, by rw [hM.2.2.2.1 5 (by unfold IcM; omega)]; exact h.2.2.2.2.2.1, h.2.2.2.2.2.2⟩
theorem rb.rd {σ μ : sm_S} {n C p : Nat} {b : Nat → Nat} (h : rb σ μ n b C) (h2 : at2 σ μ n p) : iv_rd σ μ n b p := ⟨h.1, h.2.1, h2⟩
/-- the types of the fields agree -/
def tyq (σ μ : sm_S) (C c m : Nat) : Prop := ∀ i, i < m → ∃ t, ty_ok C False t ∧ σ.2.2.2.1 13 (15 * c + i) = nI t ∧ μ.2.2.2.1 7 (15 * c + i) = nI t
theorem z0F : (0 : Int32) = 0 ↔ ¬ False := ⟨fun _ q => q, fun _ => rfl⟩
theorem w_139W {σ : sm_S} {c told least i : Int32} {K : sm_S → Prop} {d : Nat} (hw : ¬ σ.1 21 = -1) (h : K σ) : mp_X6_readClass_139 K (d + 1) σ c told least i := by
  unfold mp_X6_readClass_139 mp_X6_readClass_220
  exact ⟨fun _ => h, fun _ => ⟨fun _ => h, fun q => absurd q hw⟩⟩
theorem w_123W {σ : sm_S} {c : Int32} {K : sm_S → Prop} (hw : ¬ σ.1 21 = -1) (h : K σ) : mp_X6_readClass_123 K σ c := by
  unfold mp_X6_readClass_123
  exact w_numberW hw ⟨1, w_139W hw h⟩
theorem w_63W {σ : sm_S} {c own i : Int32} {K : sm_S → Prop} {d : Nat} (hw : ¬ σ.1 21 = -1) (h : K σ) : mp_X6_readClass_63 K (d + 1) σ c own i := by
  unfold mp_X6_readClass_63
  exact ⟨fun _ => w_123W hw h, fun _ => ⟨fun _ => w_123W hw h, fun q => absurd q hw⟩⟩
def AfX (c had r j : Nat) : Prop := (r = 12 ∧ j = c) ∨ (r = 13 ∧ 15 * c + had ≤ j ∧ j < 15 * c + 15)
def AfM (c had r j : Nat) : Prop := r = 7 ∧ 15 * c + had ≤ j ∧ j < 15 * c + 15
def AsX (c r j : Nat) : Prop := (r = 14 ∨ r = 15) ∧ 16 * c ≤ j ∧ j < 16 * c + 16
def AsM (c r j : Nat) : Prop := (r = 8 ∨ r = 9) ∧ 16 * c ≤ j ∧ j < 16 * c + 16
theorem fX_c {c had : Nat} {a b : sm_S} (_ : had ≤ 15) (h : fr IcX (AfX c had) a b) : fr IcX (AcX c) a b := h.m (fun _ q => q) (fun r j q => by unfold AfX at q; unfold AcX; omega)
theorem fM_c {c had : Nat} {a b : sm_S} (_ : had ≤ 15) (h : fr IcM (AfM c had) a b) : fr IcM (AcM c) a b := h.m (fun _ q => q) (fun r j q => by unfold AfM at q; unfold AcM; omega)
theorem sX_c {c : Nat} {a b : sm_S} (h : fr IcX (AsX c) a b) : fr IcX (AcX c) a b := h.m (fun _ q => q) (fun r j q => by unfold AsX at q; unfold AcX; omega)
theorem sM_c {c : Nat} {a b : sm_S} (h : fr IcM (AsM c) a b) : fr IcM (AcM c) a b := h.m (fun _ q => q) (fun r j q => by unfold AsM at q; unfold AcM; omega)
theorem jc_fields {n C c had own : Nat} {b : Nat → Nat} {R : Int32 → sm_S → Int32 → sm_S → Prop} {σ0 μ0 : sm_S} {x2 : Int32} (h0 : rb σ0 μ0 n b C) (hc : c < 32) (ho : had + own ≤ 15) {p0 : Nat}
    (hexit : ∀ (σ μ : sm_S) (p : Nat), fr IcX (AfX c had) σ0 σ → fr IcM (AfM c had) μ0 μ → at2 σ μ n p → p0 ≤ p → σ.2.2.2.1 12 c = nI (had + own) → μ.2.2.2.1 6 c = nI (had + own) → tyq σ μ C c (had + own) → jt (fun K => mp_X6_readClass_123 (fun σ => K 0 σ) σ (nI c)) (fun K => ∃ n197 : Nat, mp_X11_readClass_197 K n197 μ (nI c) x2 0) R)
    (hfail : ∀ (σ μ : sm_S), fr IcX (AfX c had) σ0 σ → fr IcM (AfM c had) μ0 μ → fail2 σ μ n → R 0 σ 0 μ) :
    ∀ (d i p : Nat) (σ μ : sm_S), i + d = own → fr IcX (AfX c had) σ0 σ → fr IcM (AfM c had) μ0 μ → at2 σ μ n p → p0 ≤ p → σ.2.2.2.1 12 c = nI (had + i) → μ.2.2.2.1 6 c = nI (had + own) → tyq σ μ C c (had + i) →
      jt (fun K => mp_X6_readClass_63 (fun σ => K 0 σ) (d + 1) σ (nI c) (nI own) (nI i)) (fun K => mp_X11_readClass_151 K (d + 1) μ (nI c) x2 (nI (had + i))) R := by
  intro d
  induction d with
  | zero =>
    intro i p σ μ hi hX hM ha hp hs hm ht
    have e : i = own := by omega
    subst e
    have hb := h0.c (fX_c (by omega) hX) (fM_c (by omega) hM)
    have m6 : μ.2.2.1 6 = 32 := hb.2.2.2.1.2.2.1
    unfold mp_X6_readClass_63 mp_X11_readClass_151
    simp (disch := (first | ((try simp (disch := omega) only [va_up_self, va_up_ne, ne_eq, reduceCtorEq, Nat.reduceEqDiff, not_false_eq_true, l_0, l_2, l_3, l_4, l_5, l_6, l_7, l_8, l_9, l_10, l_11, l_12, l_13, l_14, l_15, l_16, l_17, l_18, l_19, l_20, l_21, l_22, l_23, l_24, l_25, l_26, l_27, l_28, l_29, l_30, l_31, l_32, l_33, l_34, l_35, l_36, l_37, l_38, l_39, l_40, l_41, l_42, l_43, l_44, l_45, l_46, l_47, l_48, l_49, l_50, l_51, l_52, l_53, l_54, l_55, l_56, l_57, l_58, l_59, l_60, l_61, l_62, l_63, l_64, l_97, l_98, l_99, l_200, l_225, l_232, l_255, l_256, l_700, l_1000, l_1024, l_3375, l_4095, l_8000, l_20000, l_60000, vp_nIs, zz0, zz1, e10, nI_leI, nI_ltI, nI_eq, nI_1, nI_1a, nI_add, nI_sub, nI_sub1, pk_mul, nI_clamp, nI_le1, nI_le1', nI_lt1, nI_lt1', nI_eq1, nI_eqm, m1_eqN, m1_le, m1_lt, m1_leN, m1_ltN, nI_am, not_true_eq_false, not_false_eq_true, oN_eqm, hm, m6]) <;> omega) | fail)) only [↓numW, ↓zb_t, ↓zb_f, ↓zb_tt, ↓zb_ff, ↓zb_i, ↓zb_z0, ↓zb_z1, ↓zb_z, ↓zb_l, ↓zb_v, pk_us, Int32.add_zero, Nat.add_sub_cancel, nI_add, nI_1, nI_1a, nI_clamp, k7, k7', k8, k8', k12, k12', k15, k15', k16, k16', nI_sub1, va_up_self, va_up_ne, ne_eq, reduceCtorEq, Nat.reduceEqDiff, not_false_eq_true, hm, m6]
    exact hexit σ μ p hX hM ha hp hs hm ht
  | succ d ih =>
    intro i p σ μ hi hX hM ha hp hs hm ht
    have hb := h0.c (fX_c (by omega) hX) (fM_c (by omega) hM)
    obtain ⟨x11, x12, x13, x14, x15, x16, x20, x21, x22, x23, x24, x25, x26, x27, x28, x29⟩ := hb.2.2.1
    obtain ⟨m4, m5, m6, m7, m8, m9, m10, m11, m12, m13, m14, m15, m16, m17, m18, m19, m20⟩ := hb.2.2.2.1
    have hw : σ.1 21 = -1 := ha.2.2.2.1
    unfold mp_X6_readClass_63 mp_X11_readClass_151
    simp (disch := (first | ((try simp (disch := omega) only [va_up_self, va_up_ne, ne_eq, reduceCtorEq, Nat.reduceEqDiff, not_false_eq_true, l_0, l_2, l_3, l_4, l_5, l_6, l_7, l_8, l_9, l_10, l_11, l_12, l_13, l_14, l_15, l_16, l_17, l_18, l_19, l_20, l_21, l_22, l_23, l_24, l_25, l_26, l_27, l_28, l_29, l_30, l_31, l_32, l_33, l_34, l_35, l_36, l_37, l_38, l_39, l_40, l_41, l_42, l_43, l_44, l_45, l_46, l_47, l_48, l_49, l_50, l_51, l_52, l_53, l_54, l_55, l_56, l_57, l_58, l_59, l_60, l_61, l_62, l_63, l_64, l_97, l_98, l_99, l_200, l_225, l_232, l_255, l_256, l_700, l_1000, l_1024, l_3375, l_4095, l_8000, l_20000, l_60000, vp_nIs, zz0, zz1, e10, nI_leI, nI_ltI, nI_eq, nI_1, nI_1a, nI_add, nI_sub, nI_sub1, pk_mul, nI_clamp, nI_le1, nI_le1', nI_lt1, nI_lt1', nI_eq1, nI_eqm, m1_eqN, m1_le, m1_lt, m1_leN, m1_ltN, nI_am, not_true_eq_false, not_false_eq_true, oN_eqm, hs, hm, hw, x11, x12, x13, x14, x15, x16, x20, x21, x22, x23, x24, x25, x26, x27, x28, x29, m4, m5, m6, m7, m8, m9, m10, m11, m12, m13, m14, m15, m16, m17, m18, m19, m20]) <;> omega) | fail)) only [↓numW, ↓zb_t, ↓zb_f, ↓zb_tt, ↓zb_ff, ↓zb_i, ↓zb_z0, ↓zb_z1, ↓zb_z, ↓zb_l, ↓zb_v, pk_us, Int32.add_zero, Nat.add_sub_cancel, nI_add, nI_1, nI_1a, nI_clamp, k7, k7', k8, k8', k12, k12', k15, k15', k16, k16', nI_sub1, va_up_self, va_up_ne, ne_eq, reduceCtorEq, Nat.reduceEqDiff, not_false_eq_true, hs, hm, hw, x11, x12, x13, x14, x15, x16, x20, x21, x22, x23, x24, x25, x26, x27, x28, x29, m4, m5, m6, m7, m8, m9, m10, m11, m12, m13, m14, m15, m16, m17, m18, m19, m20]
    refine jt_type (hb.rd ha) hb.2.2.2.2.1 hb.2.2.2.2.2.1 hb.2.2.2.2.2.2 ho_m z0F (fun hlt hty => ?_) ?_
    · simp (disch := (first | ((try simp (disch := omega) only [va_up_self, va_up_ne, ne_eq, reduceCtorEq, Nat.reduceEqDiff, not_false_eq_true, l_0, l_2, l_3, l_4, l_5, l_6, l_7, l_8, l_9, l_10, l_11, l_12, l_13, l_14, l_15, l_16, l_17, l_18, l_19, l_20, l_21, l_22, l_23, l_24, l_25, l_26, l_27, l_28, l_29, l_30, l_31, l_32, l_33, l_34, l_35, l_36, l_37, l_38, l_39, l_40, l_41, l_42, l_43, l_44, l_45, l_46, l_47, l_48, l_49, l_50, l_51, l_52, l_53, l_54, l_55, l_56, l_57, l_58, l_59, l_60, l_61, l_62, l_63, l_64, l_97, l_98, l_99, l_200, l_225, l_232, l_255, l_256, l_700, l_1000, l_1024, l_3375, l_4095, l_8000, l_20000, l_60000, vp_nIs, zz0, zz1, e10, nI_leI, nI_ltI, nI_eq, nI_1, nI_1a, nI_add, nI_sub, nI_sub1, pk_mul, nI_clamp, nI_le1, nI_le1', nI_lt1, nI_lt1', nI_eq1, nI_eqm, m1_eqN, m1_le, m1_lt, m1_leN, m1_ltN, nI_am, not_true_eq_false, not_false_eq_true, oN_eqm, hs, hm, hw, x11, x12, x13, x14, x15, x16, x20, x21, x22, x23, x24, x25, x26, x27, x28, x29, m4, m5, m6, m7, m8, m9, m10, m11, m12, m13, m14, m15, m16, m17, m18, m19, m20]) <;> omega) | fail)) only [↓numW, ↓zb_t, ↓zb_f, ↓zb_tt, ↓zb_ff, ↓zb_i, ↓zb_z0, ↓zb_z1, ↓zb_z, ↓zb_l, ↓zb_v, pk_us, Int32.add_zero, Nat.add_sub_cancel, nI_add, nI_1, nI_1a, nI_clamp, k7, k7', k8, k8', k12, k12', k15, k15', k16, k16', nI_sub1, va_up_self, va_up_ne, ne_eq, reduceCtorEq, Nat.reduceEqDiff, not_false_eq_true, hs, hm, hw, x11, x12, x13, x14, x15, x16, x20, x21, x22, x23, x24, x25, x26, x27, x28, x29, m4, m5, m6, m7, m8, m9, m10, m11, m12, m13, m14, m15, m16, m17, m18, m19, m20]
      refine jt_last (hM.i (v := nI (p + 1)) (k := 2) (by unfold IcM; omega) |>.bM (by unfold IcM; omega) (fun j => by unfold AfM; omega) h0.2.1) hlt sx_is ?_
      simp (disch := (first | ((try simp (disch := omega) only [va_up_self, va_up_ne, ne_eq, reduceCtorEq, Nat.reduceEqDiff, not_false_eq_true, l_0, l_2, l_3, l_4, l_5, l_6, l_7, l_8, l_9, l_10, l_11, l_12, l_13, l_14, l_15, l_16, l_17, l_18, l_19, l_20, l_21, l_22, l_23, l_24, l_25, l_26, l_27, l_28, l_29, l_30, l_31, l_32, l_33, l_34, l_35, l_36, l_37, l_38, l_39, l_40, l_41, l_42, l_43, l_44, l_45, l_46, l_47, l_48, l_49, l_50, l_51, l_52, l_53, l_54, l_55, l_56, l_57, l_58, l_59, l_60, l_61, l_62, l_63, l_64, l_97, l_98, l_99, l_200, l_225, l_232, l_255, l_256, l_700, l_1000, l_1024, l_3375, l_4095, l_8000, l_20000, l_60000, vp_nIs, zz0, zz1, e10, nI_leI, nI_ltI, nI_eq, nI_1, nI_1a, nI_add, nI_sub, nI_sub1, pk_mul, nI_clamp, nI_le1, nI_le1', nI_lt1, nI_lt1', nI_eq1, nI_eqm, m1_eqN, m1_le, m1_lt, m1_leN, m1_ltN, nI_am, not_true_eq_false, not_false_eq_true, oN_eqm, hs, hm, hw, x11, x12, x13, x14, x15, x16, x20, x21, x22, x23, x24, x25, x26, x27, x28, x29, m4, m5, m6, m7, m8, m9, m10, m11, m12, m13, m14, m15, m16, m17, m18, m19, m20]) <;> omega) | fail)) only [↓numW, ↓zb_t, ↓zb_f, ↓zb_tt, ↓zb_ff, ↓zb_i, ↓zb_z0, ↓zb_z1, ↓zb_z, ↓zb_l, ↓zb_v, pk_us, Int32.add_zero, Nat.add_sub_cancel, nI_add, nI_1, nI_1a, nI_clamp, k7, k7', k8, k8', k12, k12', k15, k15', k16, k16', nI_sub1, va_up_self, va_up_ne, ne_eq, reduceCtorEq, Nat.reduceEqDiff, not_false_eq_true, hs, hm, hw, x11, x12, x13, x14, x15, x16, x20, x21, x22, x23, x24, x25, x26, x27, x28, x29, m4, m5, m6, m7, m8, m9, m10, m11, m12, m13, m14, m15, m16, m17, m18, m19, m20]
      refine ih (i + 1) (p + 1) _ _ (by omega) (((hX.i (by unfold IcX; omega)).u rfl (by unfold AfX; omega)).u rfl (by unfold AfX; omega)) ((hM.i (by unfold IcM; omega)).u rfl (by unfold AfM; omega)) ⟨hlt, rfl, rfl, hw, ha.2.2.2.2⟩ (by omega) ?_ ?_ ?_
      · simp (disch := omega) only [va_up_self, va_up_ne, pk_us, pk_un, hs]; rfl
      · simp (disch := omega) only [va_up_self, va_up_ne, pk_us, pk_un, hm]
      · intro j hj
        by_cases hj2 : j < had + i
        · obtain ⟨t, t1, t2, t3⟩ := ht j hj2
          refine ⟨t, t1, ?_, ?_⟩
          · simp (disch := omega) only [va_up_self, va_up_ne, pk_us, pk_un, t2]
          · simp (disch := omega) only [va_up_self, va_up_ne, pk_us, pk_un, t3]
        · have e : j = had + i := by omega
          subst e
          exact ⟨b p, hty, by simp (disch := omega) only [va_up_self, va_up_ne, pk_us, pk_un, hs], by simp (disch := omega) only [va_up_self, va_up_ne, pk_us, pk_un, hs]⟩
    · simp (disch := (first | ((try simp (disch := omega) only [va_up_self, va_up_ne, ne_eq, reduceCtorEq, Nat.reduceEqDiff, not_false_eq_true, l_0, l_2, l_3, l_4, l_5, l_6, l_7, l_8, l_9, l_10, l_11, l_12, l_13, l_14, l_15, l_16, l_17, l_18, l_19, l_20, l_21, l_22, l_23, l_24, l_25, l_26, l_27, l_28, l_29, l_30, l_31, l_32, l_33, l_34, l_35, l_36, l_37, l_38, l_39, l_40, l_41, l_42, l_43, l_44, l_45, l_46, l_47, l_48, l_49, l_50, l_51, l_52, l_53, l_54, l_55, l_56, l_57, l_58, l_59, l_60, l_61, l_62, l_63, l_64, l_97, l_98, l_99, l_200, l_225, l_232, l_255, l_256, l_700, l_1000, l_1024, l_3375, l_4095, l_8000, l_20000, l_60000, vp_nIs, zz0, zz1, e10, nI_leI, nI_ltI, nI_eq, nI_1, nI_1a, nI_add, nI_sub, nI_sub1, pk_mul, nI_clamp, nI_le1, nI_le1', nI_lt1, nI_lt1', nI_eq1, nI_eqm, m1_eqN, m1_le, m1_lt, m1_leN, m1_ltN, nI_am, not_true_eq_false, not_false_eq_true, oN_eqm, hs, hm, hw, x11, x12, x13, x14, x15, x16, x20, x21, x22, x23, x24, x25, x26, x27, x28, x29, m4, m5, m6, m7, m8, m9, m10, m11, m12, m13, m14, m15, m16, m17, m18, m19, m20]) <;> omega) | fail)) only [↓numW, ↓zb_t, ↓zb_f, ↓zb_tt, ↓zb_ff, ↓zb_i, ↓zb_z0, ↓zb_z1, ↓zb_z, ↓zb_l, ↓zb_v, pk_us, Int32.add_zero, Nat.add_sub_cancel, nI_add, nI_1, nI_1a, nI_clamp, k7, k7', k8, k8', k12, k12', k15, k15', k16, k16', nI_sub1, va_up_self, va_up_ne, ne_eq, reduceCtorEq, Nat.reduceEqDiff, not_false_eq_true, hs, hm, hw, x11, x12, x13, x14, x15, x16, x20, x21, x22, x23, x24, x25, x26, x27, x28, x29, m4, m5, m6, m7, m8, m9, m10, m11, m12, m13, m14, m15, m16, m17, m18, m19, m20]
      refine jt_ee ⟨0, _, fun K q => w_63W ?_ q, hfail _ _ (((hX.i (by unfold IcX; omega)).u rfl (by unfold AfX; omega)).u rfl (by unfold AfX; omega)) (hM.i (by unfold IcM; omega)) ⟨p, ha.1, rfl, rfl⟩⟩
      exact nI_m1 (by have := hb.1.1; have := ha.1; omega)
/-- the slots of a class agree -/
def slq (σ μ : sm_S) (c : Nat) (v q : Nat → Nat) : Prop := ∀ s, s < 16 → σ.2.2.2.1 14 (16 * c + s) = oN (v s) ∧ μ.2.2.2.1 8 (16 * c + s) = oN (v s) ∧ σ.2.2.2.1 15 (16 * c + s) = oN (q s) ∧ μ.2.2.2.1 9 (16 * c + s) = oN (q s)
/-- what is known of them: hv is what was inherited -/
def slf (p0 p least : Nat) (hv v q : Nat → Nat) : Prop := (∀ s, s < 16 → v s ≤ 256) ∧ (∀ s, s < 16 → q s ≠ 0 → s < least ∧ v s ≠ 0 ∧ p0 < q s ∧ q s ≤ p) ∧ (∀ s, s < 16 → q s = 0 → v s = hv s) ∧ (∀ s t, s < t → t < 16 → q s ≠ 0 → q t ≠ 0 → q s < q t)
theorem jc_slots {n C c told p0 : Nat} {b hv : Nat → Nat} {R : Int32 → sm_S → Int32 → sm_S → Prop} {σ0 μ0 : sm_S} (h0 : rb σ0 μ0 n b C) (hc : c < 32) (ht : told ≤ 16)
    (hexit : ∀ (σ μ : sm_S) (p : Nat) (v q : Nat → Nat), fr IcX (AsX c) σ0 σ → fr IcM (AsM c) μ0 μ → at2 σ μ n p → p0 ≤ p → slq σ μ c v q → slf p0 p 16 hv v q → R 0 σ 1 μ)
    (hfail : ∀ (σ μ : sm_S), fr IcX (AsX c) σ0 σ → fr IcM (AsM c) μ0 μ → fail2 σ μ n → R 0 σ 0 μ) :
    ∀ (d i least p : Nat) (σ μ : sm_S) (v q : Nat → Nat), i + d = told → least ≤ 16 → fr IcX (AsX c) σ0 σ → fr IcM (AsM c) μ0 μ → at2 σ μ n p → p0 ≤ p → slq σ μ c v q → slf p0 p least hv v q →
      jt (fun K => mp_X6_readClass_139 (fun σ => K 0 σ) (d + 1) σ (nI c) (nI told) (nI least) (nI i)) (fun K => mp_X11_readClass_279 K (d + 1) μ (nI c) (nI told) (nI least) (nI i)) R := by
  intro d
  induction d with
  | zero =>
    intro i least p σ μ v q hi hle hX hM ha hp hs hf
    have e : i = told := by omega
    subst e
    have hb := h0.c (sX_c hX) (sM_c hM)
    unfold mp_X6_readClass_139 mp_X11_readClass_279 mp_X6_readClass_220
    have m6 : μ.2.2.1 6 = 32 := hb.2.2.2.1.2.2.1
    simp (disch := (first | ((try simp (disch := omega) only [va_up_self, va_up_ne, ne_eq, reduceCtorEq, Nat.reduceEqDiff, not_false_eq_true, l_0, l_2, l_3, l_4, l_5, l_6, l_7, l_8, l_9, l_10, l_11, l_12, l_13, l_14, l_15, l_16, l_17, l_18, l_19, l_20, l_21, l_22, l_23, l_24, l_25, l_26, l_27, l_28, l_29, l_30, l_31, l_32, l_33, l_34, l_35, l_36, l_37, l_38, l_39, l_40, l_41, l_42, l_43, l_44, l_45, l_46, l_47, l_48, l_49, l_50, l_51, l_52, l_53, l_54, l_55, l_56, l_57, l_58, l_59, l_60, l_61, l_62, l_63, l_64, l_97, l_98, l_99, l_200, l_225, l_232, l_255, l_256, l_700, l_1000, l_1024, l_3375, l_4095, l_8000, l_20000, l_60000, vp_nIs, zz0, zz1, e10, nI_leI, nI_ltI, nI_eq, nI_1, nI_1a, nI_add, nI_sub, nI_sub1, pk_mul, nI_clamp, nI_le1, nI_le1', nI_lt1, nI_lt1', nI_eq1, nI_eqm, m1_eqN, m1_le, m1_lt, m1_leN, m1_ltN, nI_am, not_true_eq_false, not_false_eq_true, oN_eqm, m6]) <;> omega) | fail)) only [↓numW, ↓zb_t, ↓zb_f, ↓zb_tt, ↓zb_ff, ↓zb_i, ↓zb_z0, ↓zb_z1, ↓zb_z, ↓zb_l, ↓zb_v, pk_us, Int32.add_zero, Nat.add_sub_cancel, nI_add, nI_1, nI_1a, nI_clamp, k7, k7', k8, k8', k12, k12', k15, k15', k16, k16', nI_sub1, va_up_self, va_up_ne, ne_eq, reduceCtorEq, Nat.reduceEqDiff, not_false_eq_true, m6]
    refine jt_e (hexit σ μ p v q hX hM ha hp hs ?_)
    obtain ⟨f1, f2, f3, f4⟩ := hf
    exact ⟨f1, fun s hs hq => ⟨hs, (f2 s hs hq).2⟩, f3, f4⟩
  | succ d ih =>
    intro i least p σ μ v q hi hle hX hM ha hp hs hf
    have hb := h0.c (sX_c hX) (sM_c hM)
    obtain ⟨x11, x12, x13, x14, x15, x16, x20, x21, x22, x23, x24, x25, x26, x27, x28, x29⟩ := hb.2.2.1
    obtain ⟨m4, m5, m6, m7, m8, m9, m10, m11, m12, m13, m14, m15, m16, m17, m18, m19, m20⟩ := hb.2.2.2.1
    have hw : σ.1 21 = -1 := ha.2.2.2.1
    have hn : n ≤ 8000 := hb.1.1
    have hpn : p ≤ n := ha.1
    unfold mp_X6_readClass_139 mp_X11_readClass_279 mp_X6_readClass_220
    simp (disch := (first | ((try simp (disch := omega) only [va_up_self, va_up_ne, ne_eq, reduceCtorEq, Nat.reduceEqDiff, not_false_eq_true, l_0, l_2, l_3, l_4, l_5, l_6, l_7, l_8, l_9, l_10, l_11, l_12, l_13, l_14, l_15, l_16, l_17, l_18, l_19, l_20, l_21, l_22, l_23, l_24, l_25, l_26, l_27, l_28, l_29, l_30, l_31, l_32, l_33, l_34, l_35, l_36, l_37, l_38, l_39, l_40, l_41, l_42, l_43, l_44, l_45, l_46, l_47, l_48, l_49, l_50, l_51, l_52, l_53, l_54, l_55, l_56, l_57, l_58, l_59, l_60, l_61, l_62, l_63, l_64, l_97, l_98, l_99, l_200, l_225, l_232, l_255, l_256, l_700, l_1000, l_1024, l_3375, l_4095, l_8000, l_20000, l_60000, vp_nIs, zz0, zz1, e10, nI_leI, nI_ltI, nI_eq, nI_1, nI_1a, nI_add, nI_sub, nI_sub1, pk_mul, nI_clamp, nI_le1, nI_le1', nI_lt1, nI_lt1', nI_eq1, nI_eqm, m1_eqN, m1_le, m1_lt, m1_leN, m1_ltN, nI_am, not_true_eq_false, not_false_eq_true, oN_eqm, hw, x11, x12, x13, x14, x15, x16, x20, x21, x22, x23, x24, x25, x26, x27, x28, x29, m4, m5, m6, m7, m8, m9, m10, m11, m12, m13, m14, m15, m16, m17, m18, m19, m20]) <;> omega) | fail)) only [↓numW, ↓zb_t, ↓zb_f, ↓zb_tt, ↓zb_ff, ↓zb_i, ↓zb_z0, ↓zb_z1, ↓zb_z, ↓zb_l, ↓zb_v, pk_us, Int32.add_zero, Nat.add_sub_cancel, nI_add, nI_1, nI_1a, nI_clamp, k7, k7', k8, k8', k12, k12', k15, k15', k16, k16', nI_sub1, va_up_self, va_up_ne, ne_eq, reduceCtorEq, Nat.reduceEqDiff, not_false_eq_true, hw, x11, x12, x13, x14, x15, x16, x20, x21, x22, x23, x24, x25, x26, x27, x28, x29, m4, m5, m6, m7, m8, m9, m10, m11, m12, m13, m14, m15, m16, m17, m18, m19, m20]
    refine jt_num (hb.rd ha) (fun hlt hlo hhi => ?_) ?_
    · have hbp : b p < 256 := hb.1.2.2.2.2.1 p
      have g1 : least ≤ b p := (nI_leI (by omega) (by omega)).mp hlo
      have g2 : b p ≤ 15 := (nI_leI (by omega) (by omega)).mp hhi
      simp (disch := (first | ((try simp (disch := omega) only [va_up_self, va_up_ne, ne_eq, reduceCtorEq, Nat.reduceEqDiff, not_false_eq_true, l_0, l_2, l_3, l_4, l_5, l_6, l_7, l_8, l_9, l_10, l_11, l_12, l_13, l_14, l_15, l_16, l_17, l_18, l_19, l_20, l_21, l_22, l_23, l_24, l_25, l_26, l_27, l_28, l_29, l_30, l_31, l_32, l_33, l_34, l_35, l_36, l_37, l_38, l_39, l_40, l_41, l_42, l_43, l_44, l_45, l_46, l_47, l_48, l_49, l_50, l_51, l_52, l_53, l_54, l_55, l_56, l_57, l_58, l_59, l_60, l_61, l_62, l_63, l_64, l_97, l_98, l_99, l_200, l_225, l_232, l_255, l_256, l_700, l_1000, l_1024, l_3375, l_4095, l_8000, l_20000, l_60000, vp_nIs, zz0, zz1, e10, nI_leI, nI_ltI, nI_eq, nI_1, nI_1a, nI_add, nI_sub, nI_sub1, pk_mul, nI_clamp, nI_le1, nI_le1', nI_lt1, nI_lt1', nI_eq1, nI_eqm, m1_eqN, m1_le, m1_lt, m1_leN, m1_ltN, nI_am, not_true_eq_false, not_false_eq_true, oN_eqm, hw, x11, x12, x13, x14, x15, x16, x20, x21, x22, x23, x24, x25, x26, x27, x28, x29, m4, m5, m6, m7, m8, m9, m10, m11, m12, m13, m14, m15, m16, m17, m18, m19, m20]) <;> omega) | fail)) only [↓numW, ↓zb_t, ↓zb_f, ↓zb_tt, ↓zb_ff, ↓zb_i, ↓zb_z0, ↓zb_z1, ↓zb_z, ↓zb_l, ↓zb_v, pk_us, Int32.add_zero, Nat.add_sub_cancel, nI_add, nI_1, nI_1a, nI_clamp, k7, k7', k8, k8', k12, k12', k15, k15', k16, k16', nI_sub1, va_up_self, va_up_ne, ne_eq, reduceCtorEq, Nat.reduceEqDiff, not_false_eq_true, hw, x11, x12, x13, x14, x15, x16, x20, x21, x22, x23, x24, x25, x26, x27, x28, x29, m4, m5, m6, m7, m8, m9, m10, m11, m12, m13, m14, m15, m16, m17, m18, m19, m20]
      refine jt_last ((hM.i (v := nI (p + 1)) (k := 2) (by unfold IcM; omega)) |>.bM (by unfold IcM; omega) (fun j => (by unfold AsM; omega)) h0.2.1) hlt sx_is ?_
      simp (disch := (first | ((try simp (disch := omega) only [va_up_self, va_up_ne, ne_eq, reduceCtorEq, Nat.reduceEqDiff, not_false_eq_true, l_0, l_2, l_3, l_4, l_5, l_6, l_7, l_8, l_9, l_10, l_11, l_12, l_13, l_14, l_15, l_16, l_17, l_18, l_19, l_20, l_21, l_22, l_23, l_24, l_25, l_26, l_27, l_28, l_29, l_30, l_31, l_32, l_33, l_34, l_35, l_36, l_37, l_38, l_39, l_40, l_41, l_42, l_43, l_44, l_45, l_46, l_47, l_48, l_49, l_50, l_51, l_52, l_53, l_54, l_55, l_56, l_57, l_58, l_59, l_60, l_61, l_62, l_63, l_64, l_97, l_98, l_99, l_200, l_225, l_232, l_255, l_256, l_700, l_1000, l_1024, l_3375, l_4095, l_8000, l_20000, l_60000, vp_nIs, zz0, zz1, e10, nI_leI, nI_ltI, nI_eq, nI_1, nI_1a, nI_add, nI_sub, nI_sub1, pk_mul, nI_clamp, nI_le1, nI_le1', nI_lt1, nI_lt1', nI_eq1, nI_eqm, m1_eqN, m1_le, m1_lt, m1_leN, m1_ltN, nI_am, not_true_eq_false, not_false_eq_true, oN_eqm, hw, x11, x12, x13, x14, x15, x16, x20, x21, x22, x23, x24, x25, x26, x27, x28, x29, m4, m5, m6, m7, m8, m9, m10, m11, m12, m13, m14, m15, m16, m17, m18, m19, m20]) <;> omega) | fail)) only [↓numW, ↓zb_t, ↓zb_f, ↓zb_tt, ↓zb_ff, ↓zb_i, ↓zb_z0, ↓zb_z1, ↓zb_z, ↓zb_l, ↓zb_v, pk_us, Int32.add_zero, Nat.add_sub_cancel, nI_add, nI_1, nI_1a, nI_clamp, k7, k7', k8, k8', k12, k12', k15, k15', k16, k16', nI_sub1, va_up_self, va_up_ne, ne_eq, reduceCtorEq, Nat.reduceEqDiff, not_false_eq_true, hw, x11, x12, x13, x14, x15, x16, x20, x21, x22, x23, x24, x25, x26, x27, x28, x29, m4, m5, m6, m7, m8, m9, m10, m11, m12, m13, m14, m15, m16, m17, m18, m19, m20]
      have hX2 : fr IcX (AsX c) σ0 (sm_r (sm_i σ 20 (nI (p + 1))) 15 (upd (σ.2.2.2.1 15) (16 * c + b p) (nI (p + 1)))) := (hX.i (by unfold IcX; omega)).u rfl (by unfold AsX; omega)
      have hM2 : fr IcM (AsM c) μ0 (sm_i μ 2 (nI (p + 1))) := hM.i (by unfold IcM; omega)
      have ha2 : at2 (sm_r (sm_i σ 20 (nI (p + 1))) 15 (upd (σ.2.2.2.1 15) (16 * c + b p) (nI (p + 1)))) (sm_i μ 2 (nI (p + 1))) n (p + 1) := ⟨hlt, rfl, rfl, hw, ha.2.2.2.2⟩
      refine jt_num ((h0.c (sX_c hX2) (sM_c hM2)).rd ha2) (fun hlt2 hlo2 hhi2 => ?_) ?_
      · have hbp2 : b (p + 1) < 256 := hb.1.2.2.2.2.1 (p + 1)
        simp (disch := (first | ((try simp (disch := omega) only [va_up_self, va_up_ne, ne_eq, reduceCtorEq, Nat.reduceEqDiff, not_false_eq_true, l_0, l_2, l_3, l_4, l_5, l_6, l_7, l_8, l_9, l_10, l_11, l_12, l_13, l_14, l_15, l_16, l_17, l_18, l_19, l_20, l_21, l_22, l_23, l_24, l_25, l_26, l_27, l_28, l_29, l_30, l_31, l_32, l_33, l_34, l_35, l_36, l_37, l_38, l_39, l_40, l_41, l_42, l_43, l_44, l_45, l_46, l_47, l_48, l_49, l_50, l_51, l_52, l_53, l_54, l_55, l_56, l_57, l_58, l_59, l_60, l_61, l_62, l_63, l_64, l_97, l_98, l_99, l_200, l_225, l_232, l_255, l_256, l_700, l_1000, l_1024, l_3375, l_4095, l_8000, l_20000, l_60000, vp_nIs, zz0, zz1, e10, nI_leI, nI_ltI, nI_eq, nI_1, nI_1a, nI_add, nI_sub, nI_sub1, pk_mul, nI_clamp, nI_le1, nI_le1', nI_lt1, nI_lt1', nI_eq1, nI_eqm, m1_eqN, m1_le, m1_lt, m1_leN, m1_ltN, nI_am, not_true_eq_false, not_false_eq_true, oN_eqm, hw, x11, x12, x13, x14, x15, x16, x20, x21, x22, x23, x24, x25, x26, x27, x28, x29, m4, m5, m6, m7, m8, m9, m10, m11, m12, m13, m14, m15, m16, m17, m18, m19, m20]) <;> omega) | fail)) only [↓numW, ↓zb_t, ↓zb_f, ↓zb_tt, ↓zb_ff, ↓zb_i, ↓zb_z0, ↓zb_z1, ↓zb_z, ↓zb_l, ↓zb_v, pk_us, Int32.add_zero, Nat.add_sub_cancel, nI_add, nI_1, nI_1a, nI_clamp, k7, k7', k8, k8', k12, k12', k15, k15', k16, k16', nI_sub1, va_up_self, va_up_ne, ne_eq, reduceCtorEq, Nat.reduceEqDiff, not_false_eq_true, hw, x11, x12, x13, x14, x15, x16, x20, x21, x22, x23, x24, x25, x26, x27, x28, x29, m4, m5, m6, m7, m8, m9, m10, m11, m12, m13, m14, m15, m16, m17, m18, m19, m20]
        refine jt_last ((hM2.i (v := nI (p + 1 + 1)) (k := 2) (by unfold IcM; omega)) |>.bM (by unfold IcM; omega) (fun j => (by unfold AsM; omega)) h0.2.1) hlt2 sx_is ?_
        simp (disch := (first | ((try simp (disch := omega) only [va_up_self, va_up_ne, ne_eq, reduceCtorEq, Nat.reduceEqDiff, not_false_eq_true, l_0, l_2, l_3, l_4, l_5, l_6, l_7, l_8, l_9, l_10, l_11, l_12, l_13, l_14, l_15, l_16, l_17, l_18, l_19, l_20, l_21, l_22, l_23, l_24, l_25, l_26, l_27, l_28, l_29, l_30, l_31, l_32, l_33, l_34, l_35, l_36, l_37, l_38, l_39, l_40, l_41, l_42, l_43, l_44, l_45, l_46, l_47, l_48, l_49, l_50, l_51, l_52, l_53, l_54, l_55, l_56, l_57, l_58, l_59, l_60, l_61, l_62, l_63, l_64, l_97, l_98, l_99, l_200, l_225, l_232, l_255, l_256, l_700, l_1000, l_1024, l_3375, l_4095, l_8000, l_20000, l_60000, vp_nIs, zz0, zz1, e10, nI_leI, nI_ltI, nI_eq, nI_1, nI_1a, nI_add, nI_sub, nI_sub1, pk_mul, nI_clamp, nI_le1, nI_le1', nI_lt1, nI_lt1', nI_eq1, nI_eqm, m1_eqN, m1_le, m1_lt, m1_leN, m1_ltN, nI_am, not_true_eq_false, not_false_eq_true, oN_eqm, hw, x11, x12, x13, x14, x15, x16, x20, x21, x22, x23, x24, x25, x26, x27, x28, x29, m4, m5, m6, m7, m8, m9, m10, m11, m12, m13, m14, m15, m16, m17, m18, m19, m20]) <;> omega) | fail)) only [↓numW, ↓zb_t, ↓zb_f, ↓zb_tt, ↓zb_ff, ↓zb_i, ↓zb_z0, ↓zb_z1, ↓zb_z, ↓zb_l, ↓zb_v, pk_us, Int32.add_zero, Nat.add_sub_cancel, nI_add, nI_1, nI_1a, nI_clamp, k7, k7', k8, k8', k12, k12', k15, k15', k16, k16', nI_sub1, va_up_self, va_up_ne, ne_eq, reduceCtorEq, Nat.reduceEqDiff, not_false_eq_true, hw, x11, x12, x13, x14, x15, x16, x20, x21, x22, x23, x24, x25, x26, x27, x28, x29, m4, m5, m6, m7, m8, m9, m10, m11, m12, m13, m14, m15, m16, m17, m18, m19, m20]
        refine ih (i + 1) (b p + 1) (p + 1 + 1) _ _ (fun s => if s = b p then b (p + 1) + 1 else v s) (fun s => if s = b p then p + 2 else q s) (by omega) (by omega) ((hX2.i (by unfold IcX; omega)).u rfl (by unfold AsX; omega)) (((hM2.i (by unfold IcM; omega)).u rfl (by unfold AsM; omega)).u rfl (by unfold AsM; omega)) ⟨hlt2, rfl, rfl, hw, ha.2.2.2.2⟩ (by omega) ?_ ?_
        · intro s h16
          obtain ⟨s1, s2, s3, s4⟩ := hs s h16
          by_cases e : s = b p
          · subst e
            simp (disch := omega) only [va_up_self, va_up_ne, pk_us, pk_un, ↓reduceIte, oN_s, and_self]
          · simp (disch := omega) only [va_up_self, va_up_ne, pk_us, pk_un, if_neg e, s1, s2, s3, s4, and_self]
        · obtain ⟨f1, f2, f3, f4⟩ := hf
          refine ⟨fun s h16 => ?_, fun s h16 => ?_, fun s h16 => ?_, fun s t hst h16 => ?_⟩
          · have := f1 s h16
            by_cases e : s = b p
            · simp only [if_pos e]; omega
            · simp only [if_neg e]; omega
          · have := f2 s h16
            by_cases e : s = b p
            · simp only [if_pos e]; omega
            · simp only [if_neg e]; omega
          · have := f3 s h16
            by_cases e : s = b p
            · simp only [if_pos e]; omega
            · simp only [if_neg e]; exact this
          · have := f2 s (by omega)
            have := f2 t h16
            have := f4 s t hst h16
            by_cases e : s = b p
            · by_cases e2 : t = b p
              · omega
              · simp only [if_pos e, if_neg e2]; omega
            · by_cases e2 : t = b p
              · simp only [if_neg e, if_pos e2]; omega
              · simp only [if_neg e, if_neg e2]; omega
      · simp (disch := (first | ((try simp (disch := omega) only [va_up_self, va_up_ne, ne_eq, reduceCtorEq, Nat.reduceEqDiff, not_false_eq_true, l_0, l_2, l_3, l_4, l_5, l_6, l_7, l_8, l_9, l_10, l_11, l_12, l_13, l_14, l_15, l_16, l_17, l_18, l_19, l_20, l_21, l_22, l_23, l_24, l_25, l_26, l_27, l_28, l_29, l_30, l_31, l_32, l_33, l_34, l_35, l_36, l_37, l_38, l_39, l_40, l_41, l_42, l_43, l_44, l_45, l_46, l_47, l_48, l_49, l_50, l_51, l_52, l_53, l_54, l_55, l_56, l_57, l_58, l_59, l_60, l_61, l_62, l_63, l_64, l_97, l_98, l_99, l_200, l_225, l_232, l_255, l_256, l_700, l_1000, l_1024, l_3375, l_4095, l_8000, l_20000, l_60000, vp_nIs, zz0, zz1, e10, nI_leI, nI_ltI, nI_eq, nI_1, nI_1a, nI_add, nI_sub, nI_sub1, pk_mul, nI_clamp, nI_le1, nI_le1', nI_lt1, nI_lt1', nI_eq1, nI_eqm, m1_eqN, m1_le, m1_lt, m1_leN, m1_ltN, nI_am, not_true_eq_false, not_false_eq_true, oN_eqm, hw, x11, x12, x13, x14, x15, x16, x20, x21, x22, x23, x24, x25, x26, x27, x28, x29, m4, m5, m6, m7, m8, m9, m10, m11, m12, m13, m14, m15, m16, m17, m18, m19, m20]) <;> omega) | fail)) only [↓numW, ↓zb_t, ↓zb_f, ↓zb_tt, ↓zb_ff, ↓zb_i, ↓zb_z0, ↓zb_z1, ↓zb_z, ↓zb_l, ↓zb_v, pk_us, Int32.add_zero, Nat.add_sub_cancel, nI_add, nI_1, nI_1a, nI_clamp, k7, k7', k8, k8', k12, k12', k15, k15', k16, k16', nI_sub1, va_up_self, va_up_ne, ne_eq, reduceCtorEq, Nat.reduceEqDiff, not_false_eq_true, hw, x11, x12, x13, x14, x15, x16, x20, x21, x22, x23, x24, x25, x26, x27, x28, x29, m4, m5, m6, m7, m8, m9, m10, m11, m12, m13, m14, m15, m16, m17, m18, m19, m20]
        refine jt_ee ⟨0, _, fun K q => w_139W ?_ q, hfail _ _ ((hX2.i (by unfold IcX; omega)).u rfl (by unfold AsX; omega)) (hM2.i (by unfold IcM; omega)) ⟨p + 1, hlt, rfl, rfl⟩⟩
        exact nI_m1 (by omega)
    · simp (disch := (first | ((try simp (disch := omega) only [va_up_self, va_up_ne, ne_eq, reduceCtorEq, Nat.reduceEqDiff, not_false_eq_true, l_0, l_2, l_3, l_4, l_5, l_6, l_7, l_8, l_9, l_10, l_11, l_12, l_13, l_14, l_15, l_16, l_17, l_18, l_19, l_20, l_21, l_22, l_23, l_24, l_25, l_26, l_27, l_28, l_29, l_30, l_31, l_32, l_33, l_34, l_35, l_36, l_37, l_38, l_39, l_40, l_41, l_42, l_43, l_44, l_45, l_46, l_47, l_48, l_49, l_50, l_51, l_52, l_53, l_54, l_55, l_56, l_57, l_58, l_59, l_60, l_61, l_62, l_63, l_64, l_97, l_98, l_99, l_200, l_225, l_232, l_255, l_256, l_700, l_1000, l_1024, l_3375, l_4095, l_8000, l_20000, l_60000, vp_nIs, zz0, zz1, e10, nI_leI, nI_ltI, nI_eq, nI_1, nI_1a, nI_add, nI_sub, nI_sub1, pk_mul, nI_clamp, nI_le1, nI_le1', nI_lt1, nI_lt1', nI_eq1, nI_eqm, m1_eqN, m1_le, m1_lt, m1_leN, m1_ltN, nI_am, not_true_eq_false, not_false_eq_true, oN_eqm, hw, x11, x12, x13, x14, x15, x16, x20, x21, x22, x23, x24, x25, x26, x27, x28, x29, m4, m5, m6, m7, m8, m9, m10, m11, m12, m13, m14, m15, m16, m17, m18, m19, m20]) <;> omega) | fail)) only [↓numW, ↓zb_t, ↓zb_f, ↓zb_tt, ↓zb_ff, ↓zb_i, ↓zb_z0, ↓zb_z1, ↓zb_z, ↓zb_l, ↓zb_v, pk_us, Int32.add_zero, Nat.add_sub_cancel, nI_add, nI_1, nI_1a, nI_clamp, k7, k7', k8, k8', k12, k12', k15, k15', k16, k16', nI_sub1, va_up_self, va_up_ne, ne_eq, reduceCtorEq, Nat.reduceEqDiff, not_false_eq_true, hw, x11, x12, x13, x14, x15, x16, x20, x21, x22, x23, x24, x25, x26, x27, x28, x29, m4, m5, m6, m7, m8, m9, m10, m11, m12, m13, m14, m15, m16, m17, m18, m19, m20]
      refine jt_ee ⟨0, _, fun K q => w_139W ?_ q, hfail _ _ (((hX.i (by unfold IcX; omega)).u rfl (by unfold AsX; omega)).u rfl (by unfold AsX; omega)) (hM.i (by unfold IcM; omega)) ⟨p, hpn, rfl, rfl⟩⟩
      exact nI_m1 (by omega)
/-- the reference: what is inherited -/
theorem l_197 {c u : Nat} {f g h : Nat → Int32} {K : jk} (hc : c < 32) (hu : u ≤ c) (hh : ∀ i, h i = if u = 0 then -1 else f (16 * (u - 1) + i)) : ∀ (d i : Nat) (μ : sm_S), i + d = 16 → μ.2.2.1 8 = 512 → μ.2.2.1 9 = 512 → μ.2.2.2.1 8 = tp_row f (16 * c) i h → μ.2.2.2.1 9 = tp_row g (16 * c) i (fun _ => -1) → mp_X11_readClass_197 K 1 (sm_r (sm_r μ 8 (tp_row f (16 * c) 16 h)) 9 (tp_row g (16 * c) 16 (fun _ => -1))) (nI c) (oN u) (nI 16) → mp_X11_readClass_197 K (d + 1) μ (nI c) (oN u) (nI i) := by
  intro d
  induction d with
  | zero =>
    intro i μ hi hl hl2 hf hg hK
    have e : i = 16 := by omega
    subst e
    rw [sx_r0 hf, sx_r0 hg] at hK
    exact hK
  | succ d ih =>
    intro i μ hi hl hl2 hf hg hK
    have hI := ih (i + 1) (sm_r (sm_r μ 8 (tp_row f (16 * c) (i + 1) h)) 9 (tp_row g (16 * c) (i + 1) (fun _ => -1))) (by omega) hl hl2 ((sx_rn (by decide)).trans sx_rs) sx_rs (by rw [sx_r4 _ _ _ _ _ (by decide)]; exact hK)
    unfold mp_X11_readClass_197 mp_X11_readClass_235
    rcases u with _ | u
    · rw [oN_0] at hI ⊢
      simp (disch := (first | ((try simp (disch := omega) only [va_up_self, va_up_ne, ne_eq, reduceCtorEq, Nat.reduceEqDiff, not_false_eq_true, l_0, l_2, l_3, l_4, l_5, l_6, l_7, l_8, l_9, l_10, l_11, l_12, l_13, l_14, l_15, l_16, l_17, l_18, l_19, l_20, l_21, l_22, l_23, l_24, l_25, l_26, l_27, l_28, l_29, l_30, l_31, l_32, l_33, l_34, l_35, l_36, l_37, l_38, l_39, l_40, l_41, l_42, l_43, l_44, l_45, l_46, l_47, l_48, l_49, l_50, l_51, l_52, l_53, l_54, l_55, l_56, l_57, l_58, l_59, l_60, l_61, l_62, l_63, l_64, l_97, l_98, l_99, l_200, l_225, l_232, l_255, l_256, l_700, l_1000, l_1024, l_3375, l_4095, l_8000, l_20000, l_60000, vp_nIs, zz0, zz1, e10, nI_leI, nI_ltI, nI_eq, nI_1, nI_1a, nI_add, nI_sub, nI_sub1, pk_mul, nI_clamp, nI_le1, nI_le1', nI_lt1, nI_lt1', nI_eq1, nI_eqm, m1_eqN, m1_le, m1_lt, m1_leN, m1_ltN, nI_am, not_true_eq_false, not_false_eq_true, oN_eqm, hl, hl2, hf, hg]) <;> omega) | fail)) only [↓numW, ↓zb_t, ↓zb_f, ↓zb_tt, ↓zb_ff, ↓zb_i, ↓zb_z0, ↓zb_z1, ↓zb_z, ↓zb_l, ↓zb_v, pk_us, Int32.add_zero, Nat.add_sub_cancel, nI_add, nI_1, nI_1a, nI_clamp, k7, k7', k8, k8', k12, k12', k15, k15', k16, k16', nI_sub1, va_up_self, va_up_ne, ne_eq, reduceCtorEq, Nat.reduceEqDiff, not_false_eq_true, hl, hl2, hf, hg]
      rw [tp_row1 f (16 * c) i h (by rw [hh]; rfl), tp_row1 g (16 * c) i _ rfl]
      exact hI
    · rw [oN_s] at hI ⊢
      simp (disch := (first | ((try simp (disch := omega) only [va_up_self, va_up_ne, ne_eq, reduceCtorEq, Nat.reduceEqDiff, not_false_eq_true, l_0, l_2, l_3, l_4, l_5, l_6, l_7, l_8, l_9, l_10, l_11, l_12, l_13, l_14, l_15, l_16, l_17, l_18, l_19, l_20, l_21, l_22, l_23, l_24, l_25, l_26, l_27, l_28, l_29, l_30, l_31, l_32, l_33, l_34, l_35, l_36, l_37, l_38, l_39, l_40, l_41, l_42, l_43, l_44, l_45, l_46, l_47, l_48, l_49, l_50, l_51, l_52, l_53, l_54, l_55, l_56, l_57, l_58, l_59, l_60, l_61, l_62, l_63, l_64, l_97, l_98, l_99, l_200, l_225, l_232, l_255, l_256, l_700, l_1000, l_1024, l_3375, l_4095, l_8000, l_20000, l_60000, vp_nIs, zz0, zz1, e10, nI_leI, nI_ltI, nI_eq, nI_1, nI_1a, nI_add, nI_sub, nI_sub1, pk_mul, nI_clamp, nI_le1, nI_le1', nI_lt1, nI_lt1', nI_eq1, nI_eqm, m1_eqN, m1_le, m1_lt, m1_leN, m1_ltN, nI_am, not_true_eq_false, not_false_eq_true, oN_eqm, hl, hl2, hf, hg]) <;> omega) | fail)) only [↓numW, ↓zb_t, ↓zb_f, ↓zb_tt, ↓zb_ff, ↓zb_i, ↓zb_z0, ↓zb_z1, ↓zb_z, ↓zb_l, ↓zb_v, pk_us, Int32.add_zero, Nat.add_sub_cancel, nI_add, nI_1, nI_1a, nI_clamp, k7, k7', k8, k8', k12, k12', k15, k15', k16, k16', nI_sub1, va_up_self, va_up_ne, ne_eq, reduceCtorEq, Nat.reduceEqDiff, not_false_eq_true, hl, hl2, hf, hg]
      rw [tp_ou (by omega), tp_row1 f (16 * c) i h (by rw [hh, if_neg (by omega)]; rfl), tp_row1 g (16 * c) i _ rfl]
      exact hI
theorem l_86 {c u had : Nat} {f h : Nat → Int32} {K : jk} (hc : c < 32) (hu : u < c) (hhad : had ≤ 15) (hh : ∀ i, h i = f (15 * u + i)) : ∀ (d i : Nat) (μ : sm_S), i + d = had → μ.2.2.1 7 = 480 → μ.2.2.2.1 7 = tp_row f (15 * c) i h → mp_X11_readClass_86 K 1 (sm_r μ 7 (tp_row f (15 * c) had h)) (nI c) (nI u) (nI had) (nI had) → mp_X11_readClass_86 K (d + 1) μ (nI c) (nI u) (nI had) (nI i) := by
  intro d
  induction d with
  | zero =>
    intro i μ hi hl hf hK
    have e : i = had := by omega
    subst e
    rw [sx_r0 hf] at hK
    exact hK
  | succ d ih =>
    intro i μ hi hl hf hK
    have hI := ih (i + 1) (sm_r μ 7 (tp_row f (15 * c) (i + 1) h)) (by omega) hl sx_rs (by rw [sx_rr]; exact hK)
    unfold mp_X11_readClass_86
    simp (disch := (first | ((try simp (disch := omega) only [va_up_self, va_up_ne, ne_eq, reduceCtorEq, Nat.reduceEqDiff, not_false_eq_true, l_0, l_2, l_3, l_4, l_5, l_6, l_7, l_8, l_9, l_10, l_11, l_12, l_13, l_14, l_15, l_16, l_17, l_18, l_19, l_20, l_21, l_22, l_23, l_24, l_25, l_26, l_27, l_28, l_29, l_30, l_31, l_32, l_33, l_34, l_35, l_36, l_37, l_38, l_39, l_40, l_41, l_42, l_43, l_44, l_45, l_46, l_47, l_48, l_49, l_50, l_51, l_52, l_53, l_54, l_55, l_56, l_57, l_58, l_59, l_60, l_61, l_62, l_63, l_64, l_97, l_98, l_99, l_200, l_225, l_232, l_255, l_256, l_700, l_1000, l_1024, l_3375, l_4095, l_8000, l_20000, l_60000, vp_nIs, zz0, zz1, e10, nI_leI, nI_ltI, nI_eq, nI_1, nI_1a, nI_add, nI_sub, nI_sub1, pk_mul, nI_clamp, nI_le1, nI_le1', nI_lt1, nI_lt1', nI_eq1, nI_eqm, m1_eqN, m1_le, m1_lt, m1_leN, m1_ltN, nI_am, not_true_eq_false, not_false_eq_true, oN_eqm, hl, hf]) <;> omega) | fail)) only [↓numW, ↓zb_t, ↓zb_f, ↓zb_tt, ↓zb_ff, ↓zb_i, ↓zb_z0, ↓zb_z1, ↓zb_z, ↓zb_l, ↓zb_v, pk_us, Int32.add_zero, Nat.add_sub_cancel, nI_add, nI_1, nI_1a, nI_clamp, k7, k7', k8, k8', k12, k12', k15, k15', k16, k16', nI_sub1, va_up_self, va_up_ne, ne_eq, reduceCtorEq, Nat.reduceEqDiff, not_false_eq_true, hl, hf]
    rw [tp_ou (by omega), tp_row1 f (15 * c) i h (by rw [hh])]
    exact hI
