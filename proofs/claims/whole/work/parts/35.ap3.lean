/-! ===== the class's apply: calls ===== -/
/-- what was taken of a call's values down to parameter j -/
def cpj (T : Nat → Nat → Nat) (b : Nat → Nat) (m p t : Nat) (w : Nat → Nat) (j : Nat) : Prop := T 12 (cmt T b p) - j ≤ t ∧ ∀ k, j ≤ k → k < T 12 (cmt T b p) → goesT T (w (T 15 m + (t - (T 12 (cmt T b p) - k)))) (cty T b p k)
/-- a call stands well: it names a method, and its types are good -/
def okc (T : Nat → Nat → Nat) (b : Nat → Nat) (p : Nat) : Prop := cmt T b p < T 0 1 ∧ (b p = 36 → b (p + 1) < T 0 0 ∧ b (p + 2) < 16 ∧ 1 ≤ T 12 (cmt T b p) ∧ T 8 (16 * b (p + 1) + b (p + 2)) ≠ 0)
theorem okc_v {T : Nat → Nat → Nat} {b : Nat → Nat} {p k : Nat} (hw : wf T b) (h : okc T b p) (hk : k < T 12 (cmt T b p)) : vt T (cty T b p k) := by
  unfold cty
  by_cases e : b p = 36 ∧ k = 0
  · rw [if_pos e]
    have := h.2 e.1
    exact Or.inl (by omega)
  · rw [if_neg e]
    exact vt_ty ((hw.2.2.2.2.2.2.2.2.1 _ h.1).2.2.2.1 k hk)
theorem oN_m (j : Nat) : nI j + (-1) = oN j := by
  unfold oN
  rw [Int32.sub_eq_add_neg]
theorem e_call {σ0 : sm_S} {T : Nat → Nat → Nat} {b : Nat → Nat} {m p t : Nat} {w : Nat → Nat} {x2 : Int32} (hb0 : bX σ0 T b m) (hw : wf T b) (hm : m < T 0 1) (hop : b p = 35 ∨ b p = 36) (hok : okc T b p) (hx2 : (b p = 35 → x2 = -1) ∧ (b p = 36 → x2 = nI (b (p + 1)))) (hst : t ≤ T 16 m) (hv : ∀ i, i < T 15 m + t → w i < 2 ^ 20 ∧ vt T (w i)) {c : Prop} {t' : Nat} {w' : Nat → Nat} (hav : avS T b m p t w c t' w') :
    ∀ (j : Nat) (σ : sm_S), j ≤ T 12 (cmt T b p) → fr IvX AvX σ0 σ → sX σ T m (cpj T b m p t w j) (t - (T 12 (cmt T b p) - j)) w → et (fun K => mp_X8_applyCall_12 (fun σ => K 0 σ) (j + 1) σ (nI (cmt T b p)) x2 (oN j)) (rZ σ0 T m c t' w') := by
  have w2 := hw.2.1
  have w4 := hw.2.2.2.1
  obtain ⟨-, q2, -, q4, q5, -⟩ := hw.2.2.2.2.2.2.2.2.1 _ hok.1
  have h12 := (hw.2.2.2.2.2.2.2.2.1 m hm).2.2.2.2.2.2.1
  have hg := ty_le q5 w2
  obtain ⟨-, -, -, -, -, -, -, -, -, -, -, -, -, -, -, -, -, -, -, -, -, -, -, a24, -⟩ := hav
  obtain ⟨e1, e2, e3⟩ := a24 hop
  intro j
  induction j with
  | zero =>
    intro σ hj f s
    have hb := hb0.v f
    have hL := hb.1.2.1
    obtain ⟨-, r21, r22, r23, -⟩ := hb.1.2.2.2.2.2.2.2.2 _ hok.1
    have hcp : cpj T b m p t w 0 ↔ T 12 (cmt T b p) ≤ t ∧ ∀ k, k < T 12 (cmt T b p) → goesT T (w (T 15 m + t - T 12 (cmt T b p) + k)) (cty T b p k) := by
      unfold cpj
      rw [Nat.sub_zero]
      exact ⟨fun z => ⟨z.1, fun k hk => by have := z.2 k (by omega) hk; rw [show T 15 m + (t - (T 12 (cmt T b p) - k)) = T 15 m + t - T 12 (cmt T b p) + k by omega] at this; exact this⟩, fun z => ⟨z.1, fun k _ hk => by have := z.2 k hk; rw [show T 15 m + t - T 12 (cmt T b p) + k = T 15 m + (t - (T 12 (cmt T b p) - k)) by omega] at this; exact this⟩⟩
    have hC8 : cmt T b p < 64 := by have := hok.1; omega
    rw [oN_0]
    unfold mp_X8_applyCall_12 mp_X8_applyCall_83
    by_cases c1 : T 14 (cmt T b p) = 255
    · refine et_x (P2 := fun K => K 0 σ) (fun K q => ⟨fun _ => ?_, fun z => absurd (by decide) z⟩) (et_e (rX.z ⟨f, s.c ?_ (fun z => ?_) (fun _ i _ => ?_)⟩))
      · simp (disch := (first | ((try simp (disch := omega) only [va_up_self, va_up_ne, ne_eq, reduceCtorEq, Nat.reduceEqDiff, not_false_eq_true, l_0, l_2, l_3, l_4, l_5, l_6, l_7, l_8, l_9, l_10, l_11, l_12, l_13, l_14, l_15, l_16, l_17, l_18, l_19, l_20, l_21, l_22, l_23, l_24, l_25, l_26, l_27, l_28, l_29, l_30, l_31, l_32, l_33, l_34, l_35, l_36, l_37, l_38, l_39, l_40, l_41, l_42, l_43, l_44, l_45, l_46, l_47, l_48, l_49, l_50, l_51, l_52, l_53, l_54, l_55, l_56, l_57, l_58, l_59, l_60, l_61, l_62, l_63, l_64, l_97, l_98, l_99, l_200, l_225, l_232, l_255, l_256, l_700, l_1000, l_1024, l_3375, l_4095, l_8000, l_20000, l_60000, vp_nIs, zz0, zz1, e10, nI_leI, nI_ltI, nI_eq, nI_1, nI_1a, nI_add, nI_sub, nI_sub1, pk_mul, nI_clamp, nI_le1, nI_le1', nI_lt1, nI_lt1', nI_eq1, nI_eqm, m1_eqN, m1_le, m1_lt, m1_leN, m1_ltN, nI_am, not_true_eq_false, not_false_eq_true, oN_eqm, r23, lx23 hL]) <;> omega) | fail)) only [↓numW, ↓zb_t, ↓zb_f, ↓zb_tt, ↓zb_ff, ↓zb_i, ↓zb_z0, ↓zb_z1, ↓zb_z, ↓zb_l, ↓zb_v, vi32, vi64, true_and, pk_us, Int32.add_zero, Nat.add_sub_cancel, nI_add, nI_1, nI_1a, nI_clamp, k7, k7', k8, k8', k12, k12', k15, k15', k16, k16', nI_sub1, va_up_self, va_up_ne, ne_eq, reduceCtorEq, Nat.reduceEqDiff, not_false_eq_true, r23, lx23 hL]
        exact q
      · rw [e1, hcp]
        exact ⟨fun z => ⟨z, fun y => absurd c1 y⟩, fun z => z.1⟩
      · rw [e2, if_pos c1]; omega
      · rw [e3, if_pos c1]
    · have vg := vt_g q5 c1
      refine et_x (P2 := fun K => mp_X8_push σ (nI (T 14 (cmt T b p))) (fun σ => K 0 σ)) (fun K q => ⟨fun _ => ?_, fun z => absurd (by decide) z⟩) (et_w (e_push (v := T 14 (cmt T b p)) hb hw hm s (okv_vt w2 vg) (fun _ => ⟨rfl, vg⟩)) (fun r σ' q => ((q.t f).c ?_ (fun z => ?_) (fun _ i _ => ?_)).z))
      · simp (disch := (first | ((try simp (disch := omega) only [va_up_self, va_up_ne, ne_eq, reduceCtorEq, Nat.reduceEqDiff, not_false_eq_true, l_0, l_2, l_3, l_4, l_5, l_6, l_7, l_8, l_9, l_10, l_11, l_12, l_13, l_14, l_15, l_16, l_17, l_18, l_19, l_20, l_21, l_22, l_23, l_24, l_25, l_26, l_27, l_28, l_29, l_30, l_31, l_32, l_33, l_34, l_35, l_36, l_37, l_38, l_39, l_40, l_41, l_42, l_43, l_44, l_45, l_46, l_47, l_48, l_49, l_50, l_51, l_52, l_53, l_54, l_55, l_56, l_57, l_58, l_59, l_60, l_61, l_62, l_63, l_64, l_97, l_98, l_99, l_200, l_225, l_232, l_255, l_256, l_700, l_1000, l_1024, l_3375, l_4095, l_8000, l_20000, l_60000, vp_nIs, zz0, zz1, e10, nI_leI, nI_ltI, nI_eq, nI_1, nI_1a, nI_add, nI_sub, nI_sub1, pk_mul, nI_clamp, nI_le1, nI_le1', nI_lt1, nI_lt1', nI_eq1, nI_eqm, m1_eqN, m1_le, m1_lt, m1_leN, m1_ltN, nI_am, not_true_eq_false, not_false_eq_true, oN_eqm, r23, lx23 hL]) <;> omega) | fail)) only [↓numW, ↓zb_t, ↓zb_f, ↓zb_tt, ↓zb_ff, ↓zb_i, ↓zb_z0, ↓zb_z1, ↓zb_z, ↓zb_l, ↓zb_v, vi32, vi64, true_and, pk_us, Int32.add_zero, Nat.add_sub_cancel, nI_add, nI_1, nI_1a, nI_clamp, k7, k7', k8, k8', k12, k12', k15, k15', k16, k16', nI_sub1, va_up_self, va_up_ne, ne_eq, reduceCtorEq, Nat.reduceEqDiff, not_false_eq_true, r23, lx23 hL]
        exact q
      · rw [e1, hcp, Nat.sub_zero]
        exact ⟨fun z => ⟨z.1, fun _ => z.2⟩, fun z => ⟨z.1, z.2 c1⟩⟩
      · rw [e2, if_neg c1, Nat.sub_zero]
      · rw [e3, if_neg c1, Nat.sub_zero]
  | succ j ih =>
    intro σ hj f s
    have hb := hb0.v f
    have hL := hb.1.2.1
    obtain ⟨-, r21, r22, r23, -⟩ := hb.1.2.2.2.2.2.2.2.2 _ hok.1
    have vk := okc_v hw hok (k := j) (by omega)
    have key : et (fun K => mp_X8_takeFor σ (nI (cty T b p j)) (fun σ1 => mp_X8_applyCall_12 (fun σ => K 0 σ) (j + 1) σ1 (nI (cmt T b p)) x2 (oN j))) (rZ σ0 T m c t' w') := by
      refine et_bv (e_takeFor hb hw hm s (okv_vt w2 vk)) (fun r σ1 q => ?_)
      obtain ⟨f1, s1⟩ := q
      refine ih σ1 (by omega) (f.t f1) (s1.c ?_ (fun z => by omega) (fun _ i _ => rfl))
      unfold cpj
      constructor
      · intro ⟨⟨z1, z2⟩, z3⟩
        refine ⟨by omega, fun k k1 k2 => ?_⟩
        by_cases e : k = j
        · rw [e]
          rw [show T 15 m + (t - (T 12 (cmt T b p) - (j + 1))) - 1 = T 15 m + (t - (T 12 (cmt T b p) - j)) by omega] at z3
          exact (goesI_T w2 (hv _ (by omega)).2 (by unfold vt at vk; omega) (by unfold vt at vk; omega)).mp z3
        · exact z1.2 k (by omega) k2
      · intro ⟨z1, z2⟩
        refine ⟨⟨⟨by omega, fun k k1 k2 => z2 k (by omega) k2⟩, by omega⟩, ?_⟩
        rw [show T 15 m + (t - (T 12 (cmt T b p) - (j + 1))) - 1 = T 15 m + (t - (T 12 (cmt T b p) - j)) by omega]
        exact (goesI_T w2 (hv _ (by omega)).2 (by unfold vt at vk; omega) (by unfold vt at vk; omega)).mpr (z2 j (by omega) (by omega))
    rw [oN_s]
    refine et_x (fun K q => ?_) key
    unfold mp_X8_applyCall_12 mp_X8_applyCall_32 mp_X8_applyCall_46
    have hC8 : cmt T b p < 64 := by have := hok.1; omega
    by_cases ej : j = 0
    · rcases hop with g | g
      · have ec : cty T b p j = T 13 (8 * cmt T b p + j) := by unfold cty; rw [if_neg (by omega)]
        have r22j := r22 j (by omega)
        rw [ec] at q
        rw [hx2.1 g] at q ⊢
        simp (disch := (first | ((try simp (disch := omega) only [va_up_self, va_up_ne, ne_eq, reduceCtorEq, Nat.reduceEqDiff, not_false_eq_true, l_0, l_2, l_3, l_4, l_5, l_6, l_7, l_8, l_9, l_10, l_11, l_12, l_13, l_14, l_15, l_16, l_17, l_18, l_19, l_20, l_21, l_22, l_23, l_24, l_25, l_26, l_27, l_28, l_29, l_30, l_31, l_32, l_33, l_34, l_35, l_36, l_37, l_38, l_39, l_40, l_41, l_42, l_43, l_44, l_45, l_46, l_47, l_48, l_49, l_50, l_51, l_52, l_53, l_54, l_55, l_56, l_57, l_58, l_59, l_60, l_61, l_62, l_63, l_64, l_97, l_98, l_99, l_200, l_225, l_232, l_255, l_256, l_700, l_1000, l_1024, l_3375, l_4095, l_8000, l_20000, l_60000, vp_nIs, zz0, zz1, e10, nI_leI, nI_ltI, nI_eq, nI_1, nI_1a, nI_add, nI_sub, nI_sub1, pk_mul, nI_clamp, nI_le1, nI_le1', nI_lt1, nI_lt1', nI_eq1, nI_eqm, m1_eqN, m1_le, m1_lt, m1_leN, m1_ltN, nI_am, not_true_eq_false, not_false_eq_true, oN_eqm, r22j, lx22 hL, oN_m, ↓zc1]) <;> omega) | fail)) only [↓numW, ↓zb_t, ↓zb_f, ↓zb_tt, ↓zb_ff, ↓zb_i, ↓zb_z0, ↓zb_z1, ↓zb_z, ↓zb_l, ↓zb_v, vi32, vi64, true_and, pk_us, Int32.add_zero, Nat.add_sub_cancel, nI_add, nI_1, nI_1a, nI_clamp, k7, k7', k8, k8', k12, k12', k15, k15', k16, k16', nI_sub1, va_up_self, va_up_ne, ne_eq, reduceCtorEq, Nat.reduceEqDiff, not_false_eq_true, r22j, lx22 hL, oN_m, ↓zc1]
        exact q
      · have ec : cty T b p j = b (p + 1) + 1 := by unfold cty; rw [if_pos ⟨g, ej⟩]
        have := (hok.2 g).1
        rw [ec] at q
        rw [hx2.2 g] at q ⊢
        simp (disch := (first | ((try simp (disch := omega) only [va_up_self, va_up_ne, ne_eq, reduceCtorEq, Nat.reduceEqDiff, not_false_eq_true, l_0, l_2, l_3, l_4, l_5, l_6, l_7, l_8, l_9, l_10, l_11, l_12, l_13, l_14, l_15, l_16, l_17, l_18, l_19, l_20, l_21, l_22, l_23, l_24, l_25, l_26, l_27, l_28, l_29, l_30, l_31, l_32, l_33, l_34, l_35, l_36, l_37, l_38, l_39, l_40, l_41, l_42, l_43, l_44, l_45, l_46, l_47, l_48, l_49, l_50, l_51, l_52, l_53, l_54, l_55, l_56, l_57, l_58, l_59, l_60, l_61, l_62, l_63, l_64, l_97, l_98, l_99, l_200, l_225, l_232, l_255, l_256, l_700, l_1000, l_1024, l_3375, l_4095, l_8000, l_20000, l_60000, vp_nIs, zz0, zz1, e10, nI_leI, nI_ltI, nI_eq, nI_1, nI_1a, nI_add, nI_sub, nI_sub1, pk_mul, nI_clamp, nI_le1, nI_le1', nI_lt1, nI_lt1', nI_eq1, nI_eqm, m1_eqN, m1_le, m1_lt, m1_leN, m1_ltN, nI_am, not_true_eq_false, not_false_eq_true, oN_eqm, oN_m]) <;> omega) | fail)) only [↓numW, ↓zb_t, ↓zb_f, ↓zb_tt, ↓zb_ff, ↓zb_i, ↓zb_z0, ↓zb_z1, ↓zb_z, ↓zb_l, ↓zb_v, vi32, vi64, true_and, pk_us, Int32.add_zero, Nat.add_sub_cancel, nI_add, nI_1, nI_1a, nI_clamp, k7, k7', k8, k8', k12, k12', k15, k15', k16, k16', nI_sub1, va_up_self, va_up_ne, ne_eq, reduceCtorEq, Nat.reduceEqDiff, not_false_eq_true, oN_m]
        exact q
    · have ec : cty T b p j = T 13 (8 * cmt T b p + j) := by unfold cty; rw [if_neg (by omega)]
      have r22j := r22 j (by omega)
      rw [ec] at q
      simp (disch := (first | ((try simp (disch := omega) only [va_up_self, va_up_ne, ne_eq, reduceCtorEq, Nat.reduceEqDiff, not_false_eq_true, l_0, l_2, l_3, l_4, l_5, l_6, l_7, l_8, l_9, l_10, l_11, l_12, l_13, l_14, l_15, l_16, l_17, l_18, l_19, l_20, l_21, l_22, l_23, l_24, l_25, l_26, l_27, l_28, l_29, l_30, l_31, l_32, l_33, l_34, l_35, l_36, l_37, l_38, l_39, l_40, l_41, l_42, l_43, l_44, l_45, l_46, l_47, l_48, l_49, l_50, l_51, l_52, l_53, l_54, l_55, l_56, l_57, l_58, l_59, l_60, l_61, l_62, l_63, l_64, l_97, l_98, l_99, l_200, l_225, l_232, l_255, l_256, l_700, l_1000, l_1024, l_3375, l_4095, l_8000, l_20000, l_60000, vp_nIs, zz0, zz1, e10, nI_leI, nI_ltI, nI_eq, nI_1, nI_1a, nI_add, nI_sub, nI_sub1, pk_mul, nI_clamp, nI_le1, nI_le1', nI_lt1, nI_lt1', nI_eq1, nI_eqm, m1_eqN, m1_le, m1_lt, m1_leN, m1_ltN, nI_am, not_true_eq_false, not_false_eq_true, oN_eqm, r22j, lx22 hL, oN_m]) <;> omega) | fail)) only [↓numW, ↓zb_t, ↓zb_f, ↓zb_tt, ↓zb_ff, ↓zb_i, ↓zb_z0, ↓zb_z1, ↓zb_z, ↓zb_l, ↓zb_v, vi32, vi64, true_and, pk_us, Int32.add_zero, Nat.add_sub_cancel, nI_add, nI_1, nI_1a, nI_clamp, k7, k7', k8, k8', k12, k12', k15, k15', k16, k16', nI_sub1, va_up_self, va_up_ne, ne_eq, reduceCtorEq, Nat.reduceEqDiff, not_false_eq_true, r22j, lx22 hL, oN_m]
      exact q
theorem eX_c {σ : sm_S} {T : Nat → Nat → Nat} {b : Nat → Nat} {m p t : Nat} {w : Nat → Nat} (hb : bX σ T b m) (hw : wf T b) (hm : m < T 0 1) (h : gX σ T m t w) (hp1 : T 17 m ≤ p) (hp2 : p < T 17 m + T 18 m) (hop : b p = 35 ∨ b p = 36) (hok : okc T b p) {c : Prop} {t' : Nat} {w' : Nat → Nat} (hav : avS T b m p t w c t' w') : et (fun K => mp_X8_apply σ (nI (b p)) (nI p) (fun σ => K 0 σ)) (rZ σ T m c t' w') := by
  have w2 := hw.2.1
  have w4 := hw.2.2.2.1
  have w5 := hw.2.2.2.2.1
  obtain ⟨-, -, -, -, y5, y6, h12, y8, y9, y10, y11, y12, -⟩ := hw.2.2.2.2.2.2.2.2.1 m hm
  have hbt : ∀ j, b j < 256 := hb.1.1.2.2.2.2.1
  have hv : ∀ i, i < T 15 m + t → w i < 2 ^ 20 ∧ vt T (w i) := fun i hi => by
    have := (h.2.2.2 i hi).2
    refine ⟨?_, this⟩
    unfold vt at this; omega
  have at1 : ∀ K : jk, K (nI (b (p + 1))) σ → mp_X2_at σ (nI (p + 1)) K := fun K q => w_at hb.1.1 (by omega) (fun _ => q) (fun z => absurd z (by omega))
  have at2' : ∀ K : jk, K (nI (b (p + 2))) σ → mp_X2_at σ (nI (p + 2)) K := fun K q => w_at hb.1.1 (by omega) (fun _ => q) (fun z => absurd z (by omega))
  have hLX := hb.1.2.1
  have hb1 := hbt (p + 1)
  have hb2 := hbt (p + 2)
  obtain ⟨-, r21, -⟩ := hb.1.2.2.2.2.2.2.2.2 _ hok.1
  have q2 := (hw.2.2.2.2.2.2.2.2.1 _ hok.1).2.1
  have hC8 : cmt T b p < 64 := by have := hok.1; omega
  have call : ∀ x2 : Int32, ((b p = 35 → x2 = -1) ∧ (b p = 36 → x2 = nI (b (p + 1)))) → et (fun K => mp_X8_apply_201 (fun σ => K 0 σ) σ (nI (cmt T b p)) x2) (rZ σ T m c t' w') := by
    intro x2 hx2
    have := e_call (σ0 := σ) (x2 := x2) hb hw hm hop hok hx2 h.2.1 hv hav (T 12 (cmt T b p)) σ (Nat.le_refl _) fr_r (Or.inl ⟨⟨by omega, fun k k1 k2 => absurd k2 (by omega)⟩, by rw [Nat.sub_self]; exact h⟩)
    unfold mp_X8_apply_201 mp_X8_apply_212 mp_X8_applyCall
    refine et_x (fun K q => ?_) this
    simp (disch := (first | ((try simp (disch := omega) only [va_up_self, va_up_ne, ne_eq, reduceCtorEq, Nat.reduceEqDiff, not_false_eq_true, l_0, l_2, l_3, l_4, l_5, l_6, l_7, l_8, l_9, l_10, l_11, l_12, l_13, l_14, l_15, l_16, l_17, l_18, l_19, l_20, l_21, l_22, l_23, l_24, l_25, l_26, l_27, l_28, l_29, l_30, l_31, l_32, l_33, l_34, l_35, l_36, l_37, l_38, l_39, l_40, l_41, l_42, l_43, l_44, l_45, l_46, l_47, l_48, l_49, l_50, l_51, l_52, l_53, l_54, l_55, l_56, l_57, l_58, l_59, l_60, l_61, l_62, l_63, l_64, l_97, l_98, l_99, l_200, l_225, l_232, l_255, l_256, l_700, l_1000, l_1024, l_3375, l_4095, l_8000, l_20000, l_60000, vp_nIs, zz0, zz1, e10, nI_leI, nI_ltI, nI_eq, nI_1, nI_1a, nI_add, nI_sub, nI_sub1, pk_mul, nI_clamp, nI_le1, nI_le1', nI_lt1, nI_lt1', nI_eq1, nI_eqm, m1_eqN, m1_le, m1_lt, m1_leN, m1_ltN, nI_am, not_true_eq_false, not_false_eq_true, oN_eqm, r21, lx21 hLX]) <;> omega) | fail)) only [↓numW, ↓zb_t, ↓zb_f, ↓zb_tt, ↓zb_ff, ↓zb_i, ↓zb_z0, ↓zb_z1, ↓zb_z, ↓zb_l, ↓zb_v, vi32, vi64, true_and, pk_us, Int32.add_zero, Nat.add_sub_cancel, nI_add, nI_1, nI_1a, nI_clamp, k7, k7', k8, k8', k12, k12', k15, k15', k16, k16', nI_sub1, va_up_self, va_up_ne, ne_eq, reduceCtorEq, Nat.reduceEqDiff, not_false_eq_true, r21, lx21 hLX]
    exact ⟨_, q⟩
  unfold mp_X8_apply mp_X8_apply_212
  rcases hop with g | g
  · have ec : cmt T b p = b (p + 1) := by unfold cmt; rw [if_pos g]
    have := call (-1) ⟨fun _ => rfl, fun q => absurd q (by omega)⟩
    rw [ec] at this
    simp (disch := (first | ((try simp (disch := omega) only [va_up_self, va_up_ne, ne_eq, reduceCtorEq, Nat.reduceEqDiff, not_false_eq_true, l_0, l_2, l_3, l_4, l_5, l_6, l_7, l_8, l_9, l_10, l_11, l_12, l_13, l_14, l_15, l_16, l_17, l_18, l_19, l_20, l_21, l_22, l_23, l_24, l_25, l_26, l_27, l_28, l_29, l_30, l_31, l_32, l_33, l_34, l_35, l_36, l_37, l_38, l_39, l_40, l_41, l_42, l_43, l_44, l_45, l_46, l_47, l_48, l_49, l_50, l_51, l_52, l_53, l_54, l_55, l_56, l_57, l_58, l_59, l_60, l_61, l_62, l_63, l_64, l_97, l_98, l_99, l_200, l_225, l_232, l_255, l_256, l_700, l_1000, l_1024, l_3375, l_4095, l_8000, l_20000, l_60000, vp_nIs, zz0, zz1, e10, nI_leI, nI_ltI, nI_eq, nI_1, nI_1a, nI_add, nI_sub, nI_sub1, pk_mul, nI_clamp, nI_le1, nI_le1', nI_lt1, nI_lt1', nI_eq1, nI_eqm, m1_eqN, m1_le, m1_lt, m1_leN, m1_ltN, nI_am, not_true_eq_false, not_false_eq_true, oN_eqm, k_p2]) <;> omega) | fail)) only [↓numW, ↓zb_t, ↓zb_f, ↓zb_tt, ↓zb_ff, ↓zb_i, ↓zb_z0, ↓zb_z1, ↓zb_z, ↓zb_l, ↓zb_v, vi32, vi64, true_and, pk_us, Int32.add_zero, Nat.add_sub_cancel, nI_add, nI_1, nI_1a, nI_clamp, k7, k7', k8, k8', k12, k12', k15, k15', k16, k16', nI_sub1, va_up_self, va_up_ne, ne_eq, reduceCtorEq, Nat.reduceEqDiff, not_false_eq_true, k_p2]
    refine et_k at1 ?_
    unfold mp_X8_apply_190
    refine et_x (fun K q => ?_) this
    simp (disch := (first | ((try simp (disch := omega) only [va_up_self, va_up_ne, ne_eq, reduceCtorEq, Nat.reduceEqDiff, not_false_eq_true, l_0, l_2, l_3, l_4, l_5, l_6, l_7, l_8, l_9, l_10, l_11, l_12, l_13, l_14, l_15, l_16, l_17, l_18, l_19, l_20, l_21, l_22, l_23, l_24, l_25, l_26, l_27, l_28, l_29, l_30, l_31, l_32, l_33, l_34, l_35, l_36, l_37, l_38, l_39, l_40, l_41, l_42, l_43, l_44, l_45, l_46, l_47, l_48, l_49, l_50, l_51, l_52, l_53, l_54, l_55, l_56, l_57, l_58, l_59, l_60, l_61, l_62, l_63, l_64, l_97, l_98, l_99, l_200, l_225, l_232, l_255, l_256, l_700, l_1000, l_1024, l_3375, l_4095, l_8000, l_20000, l_60000, vp_nIs, zz0, zz1, e10, nI_leI, nI_ltI, nI_eq, nI_1, nI_1a, nI_add, nI_sub, nI_sub1, pk_mul, nI_clamp, nI_le1, nI_le1', nI_lt1, nI_lt1', nI_eq1, nI_eqm, m1_eqN, m1_le, m1_lt, m1_leN, m1_ltN, nI_am, not_true_eq_false, not_false_eq_true, oN_eqm, hw]) <;> omega) | fail)) only [↓numW, ↓zb_t, ↓zb_f, ↓zb_tt, ↓zb_ff, ↓zb_i, ↓zb_z0, ↓zb_z1, ↓zb_z, ↓zb_l, ↓zb_v, vi32, vi64, true_and, pk_us, Int32.add_zero, Nat.add_sub_cancel, nI_add, nI_1, nI_1a, nI_clamp, k7, k7', k8, k8', k12, k12', k15, k15', k16, k16', nI_sub1, va_up_self, va_up_ne, ne_eq, reduceCtorEq, Nat.reduceEqDiff, not_false_eq_true, hw]
    exact q
  · have hs := hok.2 g
    have ec : cmt T b p = T 8 (16 * b (p + 1) + b (p + 2)) - 1 := by unfold cmt; rw [if_neg (by omega)]
    have := call (nI (b (p + 1))) ⟨fun q => absurd q (by omega), fun _ => rfl⟩
    have s14 := (hb.1.2.2.2.2.2.2.2.1.2.1 _ _ hs.1 hs.2.1).1
    rw [oN_p (by have := hs.2.2.2; omega)] at s14
    rw [ec] at this
    simp (disch := (first | ((try simp (disch := omega) only [va_up_self, va_up_ne, ne_eq, reduceCtorEq, Nat.reduceEqDiff, not_false_eq_true, l_0, l_2, l_3, l_4, l_5, l_6, l_7, l_8, l_9, l_10, l_11, l_12, l_13, l_14, l_15, l_16, l_17, l_18, l_19, l_20, l_21, l_22, l_23, l_24, l_25, l_26, l_27, l_28, l_29, l_30, l_31, l_32, l_33, l_34, l_35, l_36, l_37, l_38, l_39, l_40, l_41, l_42, l_43, l_44, l_45, l_46, l_47, l_48, l_49, l_50, l_51, l_52, l_53, l_54, l_55, l_56, l_57, l_58, l_59, l_60, l_61, l_62, l_63, l_64, l_97, l_98, l_99, l_200, l_225, l_232, l_255, l_256, l_700, l_1000, l_1024, l_3375, l_4095, l_8000, l_20000, l_60000, vp_nIs, zz0, zz1, e10, nI_leI, nI_ltI, nI_eq, nI_1, nI_1a, nI_add, nI_sub, nI_sub1, pk_mul, nI_clamp, nI_le1, nI_le1', nI_lt1, nI_lt1', nI_eq1, nI_eqm, m1_eqN, m1_le, m1_lt, m1_leN, m1_ltN, nI_am, not_true_eq_false, not_false_eq_true, oN_eqm, k_p2]) <;> omega) | fail)) only [↓numW, ↓zb_t, ↓zb_f, ↓zb_tt, ↓zb_ff, ↓zb_i, ↓zb_z0, ↓zb_z1, ↓zb_z, ↓zb_l, ↓zb_v, vi32, vi64, true_and, pk_us, Int32.add_zero, Nat.add_sub_cancel, nI_add, nI_1, nI_1a, nI_clamp, k7, k7', k8, k8', k12, k12', k15, k15', k16, k16', nI_sub1, va_up_self, va_up_ne, ne_eq, reduceCtorEq, Nat.reduceEqDiff, not_false_eq_true, k_p2]
    refine et_k at1 ?_
    simp (disch := (first | ((try simp (disch := omega) only [va_up_self, va_up_ne, ne_eq, reduceCtorEq, Nat.reduceEqDiff, not_false_eq_true, l_0, l_2, l_3, l_4, l_5, l_6, l_7, l_8, l_9, l_10, l_11, l_12, l_13, l_14, l_15, l_16, l_17, l_18, l_19, l_20, l_21, l_22, l_23, l_24, l_25, l_26, l_27, l_28, l_29, l_30, l_31, l_32, l_33, l_34, l_35, l_36, l_37, l_38, l_39, l_40, l_41, l_42, l_43, l_44, l_45, l_46, l_47, l_48, l_49, l_50, l_51, l_52, l_53, l_54, l_55, l_56, l_57, l_58, l_59, l_60, l_61, l_62, l_63, l_64, l_97, l_98, l_99, l_200, l_225, l_232, l_255, l_256, l_700, l_1000, l_1024, l_3375, l_4095, l_8000, l_20000, l_60000, vp_nIs, zz0, zz1, e10, nI_leI, nI_ltI, nI_eq, nI_1, nI_1a, nI_add, nI_sub, nI_sub1, pk_mul, nI_clamp, nI_le1, nI_le1', nI_lt1, nI_lt1', nI_eq1, nI_eqm, m1_eqN, m1_le, m1_lt, m1_leN, m1_ltN, nI_am, not_true_eq_false, not_false_eq_true, oN_eqm, k_p2]) <;> omega) | fail)) only [↓numW, ↓zb_t, ↓zb_f, ↓zb_tt, ↓zb_ff, ↓zb_i, ↓zb_z0, ↓zb_z1, ↓zb_z, ↓zb_l, ↓zb_v, vi32, vi64, true_and, pk_us, Int32.add_zero, Nat.add_sub_cancel, nI_add, nI_1, nI_1a, nI_clamp, k7, k7', k8, k8', k12, k12', k15, k15', k16, k16', nI_sub1, va_up_self, va_up_ne, ne_eq, reduceCtorEq, Nat.reduceEqDiff, not_false_eq_true, k_p2]
    refine et_k at2' ?_
    have hC32 := hs.1
    unfold mp_X8_apply_190
    refine et_x (fun K q => ?_) this
    simp (disch := (first | ((try simp (disch := omega) only [va_up_self, va_up_ne, ne_eq, reduceCtorEq, Nat.reduceEqDiff, not_false_eq_true, l_0, l_2, l_3, l_4, l_5, l_6, l_7, l_8, l_9, l_10, l_11, l_12, l_13, l_14, l_15, l_16, l_17, l_18, l_19, l_20, l_21, l_22, l_23, l_24, l_25, l_26, l_27, l_28, l_29, l_30, l_31, l_32, l_33, l_34, l_35, l_36, l_37, l_38, l_39, l_40, l_41, l_42, l_43, l_44, l_45, l_46, l_47, l_48, l_49, l_50, l_51, l_52, l_53, l_54, l_55, l_56, l_57, l_58, l_59, l_60, l_61, l_62, l_63, l_64, l_97, l_98, l_99, l_200, l_225, l_232, l_255, l_256, l_700, l_1000, l_1024, l_3375, l_4095, l_8000, l_20000, l_60000, vp_nIs, zz0, zz1, e10, nI_leI, nI_ltI, nI_eq, nI_1, nI_1a, nI_add, nI_sub, nI_sub1, pk_mul, nI_clamp, nI_le1, nI_le1', nI_lt1, nI_lt1', nI_eq1, nI_eqm, m1_eqN, m1_le, m1_lt, m1_leN, m1_ltN, nI_am, not_true_eq_false, not_false_eq_true, oN_eqm, s14, lx14 hLX]) <;> omega) | fail)) only [↓numW, ↓zb_t, ↓zb_f, ↓zb_tt, ↓zb_ff, ↓zb_i, ↓zb_z0, ↓zb_z1, ↓zb_z, ↓zb_l, ↓zb_v, vi32, vi64, true_and, pk_us, Int32.add_zero, Nat.add_sub_cancel, nI_add, nI_1, nI_1a, nI_clamp, k7, k7', k8, k8', k12, k12', k15, k15', k16, k16', nI_sub1, va_up_self, va_up_ne, ne_eq, reduceCtorEq, Nat.reduceEqDiff, not_false_eq_true, s14, lx14 hLX]
    exact q
/-- apply, all of it -/
theorem eX_apply {σ : sm_S} {T : Nat → Nat → Nat} {b : Nat → Nat} {m p t : Nat} {w : Nat → Nat} (hb : bX σ T b m) (hw : wf T b) (hm : m < T 0 1) (h : gX σ T m t w) (hp1 : T 17 m ≤ p) (hp2 : p < T 17 m + T 18 m) (ho : opT T b (T 15 m) p) (hok : (b p = 35 ∨ b p = 36) → okc T b p) {c : Prop} {t' : Nat} {w' : Nat → Nat} (hav : avS T b m p t w c t' w') : et (fun K => mp_X8_apply σ (nI (b p)) (nI p) (fun σ => K 0 σ)) (rZ σ T m c t' w') := by
  by_cases g1 : b p ≤ 25
  · exact et_w (eX_a hb hw hm h hp1 hp2 ho g1 hav) (fun r σ' q => q.z)
  by_cases g2 : b p ≤ 30
  · exact eX_b1 hb hw hm h hp1 hp2 ho (by omega) g2 hav
  by_cases g3 : b p ≤ 33
  · exact eX_b2 hb hw hm h hp1 hp2 ho (by omega) g3 hav
  by_cases g4 : b p = 34
  · exact eX_b3 hb hw hm h hp1 hp2 ho g4 hav
  by_cases g5 : b p = 35 ∨ b p = 36
  · exact eX_c hb hw hm h hp1 hp2 g5 (hok g5) hav
  · exact eX_b4 hb hw hm h hp1 hp2 ho (by omega) hav
