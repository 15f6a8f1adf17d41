/-! ===== the class's apply, first half ===== -/
theorem sX.s {σ : sm_S} {T : Nat → Nat → Nat} {m t x v : Nat} {c : Prop} {w : Nat → Nat} {r : Int32} (h : sX σ T m c t w) (hr : okv T r) (hv : c → r = nI v ∧ vt T v) : sX (sm_r σ 35 (upd (σ.2.2.2.1 35) x r)) T m c t (va_up w x v) := by
  rcases h with ⟨h1, h2, h3, h4, h5⟩ | ⟨h1, h2, t', h3, h4, h5⟩
  · refine Or.inl ⟨h1, h2, h3, h4, fun i hi => ?_⟩
    by_cases e : i = x
    · subst e
      rw [va_up_self]
      refine ⟨?_, (hv h1).2⟩
      simp (disch := omega) only [va_up_self, va_up_ne, pk_us, pk_un, pk_us]
      exact (hv h1).1
    · rw [va_up_ne _ _ e]
      refine ⟨?_, (h5 i hi).2⟩
      simp (disch := omega) only [va_up_self, va_up_ne, pk_us, pk_un, pk_us]
      exact (h5 i hi).1
  · refine Or.inr ⟨h1, h2, t', h3, h4, fun i hi => ?_⟩
    by_cases e : i = x
    · subst e
      simp (disch := omega) only [va_up_self, va_up_ne, pk_us, pk_un, pk_us]
      exact hr
    · simp (disch := omega) only [va_up_self, va_up_ne, pk_us, pk_un, pk_us]
      exact h5 i hi
theorem eX_a {σ : sm_S} {T : Nat → Nat → Nat} {b : Nat → Nat} {m p t : Nat} {w : Nat → Nat} (hb : bX σ T b m) (hw : wf T b) (hm : m < T 0 1) (h : gX σ T m t w) (hp1 : T 17 m ≤ p) (hp2 : p < T 17 m + T 18 m) (ho : opT T b (T 15 m) p) (hlt : b p ≤ 25) {c : Prop} {t' : Nat} {w' : Nat → Nat} (hav : avS T b m p t w c t' w') : et (fun K => mp_X8_apply σ (nI (b p)) (nI p) (fun σ => K 0 σ)) (rX σ T m c t' w') := by
  have w2 := hw.2.1
  have w5 := hw.2.2.2.2.1
  obtain ⟨-, -, -, -, -, y6, h12, y8, y9, y10, y11, y12, -⟩ := hw.2.2.2.2.2.2.2.2.1 m hm
  have hbt : ∀ j, b j < 256 := hb.1.1.2.2.2.2.1
  have s0 : sX σ T m True t w := Or.inl ⟨trivial, h⟩
  have v0 : vt T 0 := Or.inl (by omega)
  have v97 : vt T 97 := Or.inr (Or.inr (Or.inl rfl))
  have k0 : okv T 0 := Or.inr (Or.inl (by decide))
  have k97 : okv T 97 := Or.inr (Or.inr (by decide))
  have hst := h.2.1
  have hv : ∀ i, i < T 15 m + t → w i < 2 ^ 20 ∧ vt T (w i) := fun i hi => by
    have := (h.2.2.2 i hi).2
    refine ⟨?_, this⟩
    unfold vt at this; omega
  have at1 : ∀ K : jk, K (nI (b (p + 1))) σ → mp_X2_at σ (nI (p + 1)) K := fun K q => w_at hb.1.1 (by omega) (fun _ => q) (fun z => absurd z (by omega))
  obtain ⟨a1, a2, a3, a4, a5, a6, a7, a8, a9, a10, a11, a12, a13, a14, -⟩ := hav
  have hb1 := hbt (p + 1)
  have z0 : ∀ u, 1 ≤ u → u ≤ t → (goesI T (w (T 15 m + u - 1)) 0 ↔ w (T 15 m + u - 1) = 0) := fun u u1 u2 => goesI_0 w2 (hv _ (by omega)).1
  have e12 : 2 ≤ t → T 15 m + (t - 1) - 1 = T 15 m + t - 2 := fun _ => by omega
  unfold mp_X8_apply mp_X8_apply_212
  by_cases g6 : b p ≤ 6
  · simp (disch := (first | ((try simp (disch := omega) only [va_up_self, va_up_ne, ne_eq, reduceCtorEq, Nat.reduceEqDiff, not_false_eq_true, l_0, l_2, l_3, l_4, l_5, l_6, l_7, l_8, l_9, l_10, l_11, l_12, l_13, l_14, l_15, l_16, l_17, l_18, l_19, l_20, l_21, l_22, l_23, l_24, l_25, l_26, l_27, l_28, l_29, l_30, l_31, l_32, l_33, l_34, l_35, l_36, l_37, l_38, l_39, l_40, l_41, l_42, l_43, l_44, l_45, l_46, l_47, l_48, l_49, l_50, l_51, l_52, l_53, l_54, l_55, l_56, l_57, l_58, l_59, l_60, l_61, l_62, l_63, l_64, l_97, l_98, l_99, l_200, l_225, l_232, l_255, l_256, l_700, l_1000, l_1024, l_3375, l_4095, l_8000, l_20000, l_60000, vp_nIs, zz0, zz1, e10, nI_leI, nI_ltI, nI_eq, nI_1, nI_1a, nI_add, nI_sub, nI_sub1, pk_mul, nI_clamp, nI_le1, nI_le1', nI_lt1, nI_lt1', nI_eq1, nI_eqm, m1_eqN, m1_le, m1_lt, m1_leN, m1_ltN, nI_am, not_true_eq_false, not_false_eq_true, oN_eqm, hw]) <;> omega) | fail)) only [↓numW, ↓zb_t, ↓zb_f, ↓zb_tt, ↓zb_ff, ↓zb_i, ↓zb_z0, ↓zb_z1, ↓zb_z, ↓zb_l, ↓zb_v, vi32, vi64, true_and, pk_us, Int32.add_zero, Nat.add_sub_cancel, nI_add, nI_1, nI_1a, nI_clamp, k7, k7', k8, k8', k12, k12', k15, k15', k16, k16', nI_sub1, va_up_self, va_up_ne, ne_eq, reduceCtorEq, Nat.reduceEqDiff, not_false_eq_true, hw]
    refine et_k at1 ?_
    by_cases g0 : b p = 0
    · obtain ⟨e1, e2, e3⟩ := a1 (Or.inl g0)
      refine et_x (fun K q => sw_mv_0 g0 q) ?_
      unfold mp_X8_applyMove_153
      exact et_w (e_push (v := 0) hb hw hm s0 k0 (fun _ => ⟨rfl, v0⟩)) (fun r σ' q => q.c ⟨fun z => e1.mpr z.2, fun z => ⟨trivial, e1.mp z⟩⟩ (fun _ => e2.symm) (fun _ i _ => by rw [e3]))
    by_cases g1 : b p = 1
    · obtain ⟨e1, e2, e3⟩ := a2 g1
      refine et_x (fun K q => sw_mv_1 g1 q) ?_
      unfold mp_X8_applyMove_153
      exact et_w (e_push (v := 97) hb hw hm s0 k97 (fun _ => ⟨rfl, v97⟩)) (fun r σ' q => q.c ⟨fun z => e1.mpr z.2, fun z => ⟨trivial, e1.mp z⟩⟩ (fun _ => e2.symm) (fun _ i _ => by rw [e3]))
    by_cases g2 : b p = 2
    · obtain ⟨e1, e2, e3⟩ := a3 g2
      have hx := ho.2.1 (Or.inl g2)
      have r35 := (h.2.2.2 (b (p + 1)) (by omega)).1
      have hwx := hv (b (p + 1)) (by omega)
      refine et_x (fun K q => sw_mv_2 g2 q) ?_
      unfold mp_X8_applyMove_74 mp_X8_applyMove_153
      have l35 := hb.2.2.2
      by_cases c9 : w (b (p + 1)) = 99
      · simp (disch := (first | ((try simp (disch := omega) only [va_up_self, va_up_ne, ne_eq, reduceCtorEq, Nat.reduceEqDiff, not_false_eq_true, l_0, l_2, l_3, l_4, l_5, l_6, l_7, l_8, l_9, l_10, l_11, l_12, l_13, l_14, l_15, l_16, l_17, l_18, l_19, l_20, l_21, l_22, l_23, l_24, l_25, l_26, l_27, l_28, l_29, l_30, l_31, l_32, l_33, l_34, l_35, l_36, l_37, l_38, l_39, l_40, l_41, l_42, l_43, l_44, l_45, l_46, l_47, l_48, l_49, l_50, l_51, l_52, l_53, l_54, l_55, l_56, l_57, l_58, l_59, l_60, l_61, l_62, l_63, l_64, l_97, l_98, l_99, l_200, l_225, l_232, l_255, l_256, l_700, l_1000, l_1024, l_3375, l_4095, l_8000, l_20000, l_60000, vp_nIs, zz0, zz1, e10, nI_leI, nI_ltI, nI_eq, nI_1, nI_1a, nI_add, nI_sub, nI_sub1, pk_mul, nI_clamp, nI_le1, nI_le1', nI_lt1, nI_lt1', nI_eq1, nI_eqm, m1_eqN, m1_le, m1_lt, m1_leN, m1_ltN, nI_am, not_true_eq_false, not_false_eq_true, oN_eqm, r35, l35]) <;> omega) | fail)) only [↓numW, ↓zb_t, ↓zb_f, ↓zb_tt, ↓zb_ff, ↓zb_i, ↓zb_z0, ↓zb_z1, ↓zb_z, ↓zb_l, ↓zb_v, vi32, vi64, true_and, pk_us, Int32.add_zero, Nat.add_sub_cancel, nI_add, nI_1, nI_1a, nI_clamp, k7, k7', k8, k8', k12, k12', k15, k15', k16, k16', nI_sub1, va_up_self, va_up_ne, ne_eq, reduceCtorEq, Nat.reduceEqDiff, not_false_eq_true, r35, l35]
        have s1 : sX (sm_i σ 33 0) T m (True ∧ w (b (p + 1)) ≠ 99) t w := s0.z w2 (fun q => absurd c9 q.2) (fun _ => rfl)
        exact et_w (e_push (v := w (b (p + 1))) (hb.v (by repeat' (first | exact fr_r | assumption | refine fr.i ?_ (by unfold IvX; omega) | refine fr.u ?_ (by rfl) (by unfold AvX; omega)))) hw hm s1 (okv_vt w2 hwx.2) (fun _ => ⟨rfl, hwx.2⟩)) (fun r σ' q => (q.t (by repeat' (first | exact fr_r | assumption | refine fr.i ?_ (by unfold IvX; omega) | refine fr.u ?_ (by rfl) (by unfold AvX; omega)))).c ⟨fun z => e1.mpr ⟨z.1.2, z.2⟩, fun z => ⟨⟨trivial, (e1.mp z).1⟩, (e1.mp z).2⟩⟩ (fun _ => e2.symm) (fun _ i _ => by rw [e3]))
      · simp (disch := (first | ((try simp (disch := omega) only [va_up_self, va_up_ne, ne_eq, reduceCtorEq, Nat.reduceEqDiff, not_false_eq_true, l_0, l_2, l_3, l_4, l_5, l_6, l_7, l_8, l_9, l_10, l_11, l_12, l_13, l_14, l_15, l_16, l_17, l_18, l_19, l_20, l_21, l_22, l_23, l_24, l_25, l_26, l_27, l_28, l_29, l_30, l_31, l_32, l_33, l_34, l_35, l_36, l_37, l_38, l_39, l_40, l_41, l_42, l_43, l_44, l_45, l_46, l_47, l_48, l_49, l_50, l_51, l_52, l_53, l_54, l_55, l_56, l_57, l_58, l_59, l_60, l_61, l_62, l_63, l_64, l_97, l_98, l_99, l_200, l_225, l_232, l_255, l_256, l_700, l_1000, l_1024, l_3375, l_4095, l_8000, l_20000, l_60000, vp_nIs, zz0, zz1, e10, nI_leI, nI_ltI, nI_eq, nI_1, nI_1a, nI_add, nI_sub, nI_sub1, pk_mul, nI_clamp, nI_le1, nI_le1', nI_lt1, nI_lt1', nI_eq1, nI_eqm, m1_eqN, m1_le, m1_lt, m1_leN, m1_ltN, nI_am, not_true_eq_false, not_false_eq_true, oN_eqm, r35, l35]) <;> omega) | fail)) only [↓numW, ↓zb_t, ↓zb_f, ↓zb_tt, ↓zb_ff, ↓zb_i, ↓zb_z0, ↓zb_z1, ↓zb_z, ↓zb_l, ↓zb_v, vi32, vi64, true_and, pk_us, Int32.add_zero, Nat.add_sub_cancel, nI_add, nI_1, nI_1a, nI_clamp, k7, k7', k8, k8', k12, k12', k15, k15', k16, k16', nI_sub1, va_up_self, va_up_ne, ne_eq, reduceCtorEq, Nat.reduceEqDiff, not_false_eq_true, r35, l35]
        have s1 : sX (sm_i σ 33 1) T m (True ∧ w (b (p + 1)) ≠ 99) t w := s0.z w2 (fun _ => rfl) (fun q => absurd ⟨trivial, c9⟩ q)
        exact et_w (e_push (v := w (b (p + 1))) (hb.v (by repeat' (first | exact fr_r | assumption | refine fr.i ?_ (by unfold IvX; omega) | refine fr.u ?_ (by rfl) (by unfold AvX; omega)))) hw hm s1 (okv_vt w2 hwx.2) (fun _ => ⟨rfl, hwx.2⟩)) (fun r σ' q => (q.t (by repeat' (first | exact fr_r | assumption | refine fr.i ?_ (by unfold IvX; omega) | refine fr.u ?_ (by rfl) (by unfold AvX; omega)))).c ⟨fun z => e1.mpr ⟨z.1.2, z.2⟩, fun z => ⟨⟨trivial, (e1.mp z).1⟩, (e1.mp z).2⟩⟩ (fun _ => e2.symm) (fun _ i _ => by rw [e3]))
    by_cases g3 : b p = 3
    · obtain ⟨e1, e2, e3⟩ := a4 g3
      have hx := ho.2.1 (Or.inr g3)
      refine et_x (fun K q => sw_mv_3 g3 q) ?_
      unfold mp_X8_applyMove_153
      refine et_b (e_take hb hw hm s0) (fun r σ1 q => ?_)
      obtain ⟨⟨f1, s1⟩, ok, hr⟩ := q
      have l35 := (hb.v f1).2.2.2
      simp (disch := (first | ((try simp (disch := omega) only [va_up_self, va_up_ne, ne_eq, reduceCtorEq, Nat.reduceEqDiff, not_false_eq_true, l_0, l_2, l_3, l_4, l_5, l_6, l_7, l_8, l_9, l_10, l_11, l_12, l_13, l_14, l_15, l_16, l_17, l_18, l_19, l_20, l_21, l_22, l_23, l_24, l_25, l_26, l_27, l_28, l_29, l_30, l_31, l_32, l_33, l_34, l_35, l_36, l_37, l_38, l_39, l_40, l_41, l_42, l_43, l_44, l_45, l_46, l_47, l_48, l_49, l_50, l_51, l_52, l_53, l_54, l_55, l_56, l_57, l_58, l_59, l_60, l_61, l_62, l_63, l_64, l_97, l_98, l_99, l_200, l_225, l_232, l_255, l_256, l_700, l_1000, l_1024, l_3375, l_4095, l_8000, l_20000, l_60000, vp_nIs, zz0, zz1, e10, nI_leI, nI_ltI, nI_eq, nI_1, nI_1a, nI_add, nI_sub, nI_sub1, pk_mul, nI_clamp, nI_le1, nI_le1', nI_lt1, nI_lt1', nI_eq1, nI_eqm, m1_eqN, m1_le, m1_lt, m1_leN, m1_ltN, nI_am, not_true_eq_false, not_false_eq_true, oN_eqm, l35]) <;> omega) | fail)) only [↓numW, ↓zb_t, ↓zb_f, ↓zb_tt, ↓zb_ff, ↓zb_i, ↓zb_z0, ↓zb_z1, ↓zb_z, ↓zb_l, ↓zb_v, vi32, vi64, true_and, pk_us, Int32.add_zero, Nat.add_sub_cancel, nI_add, nI_1, nI_1a, nI_clamp, k7, k7', k8, k8', k12, k12', k15, k15', k16, k16', nI_sub1, va_up_self, va_up_ne, ne_eq, reduceCtorEq, Nat.reduceEqDiff, not_false_eq_true, l35]
      exact et_e ⟨f1.t (by repeat' (first | exact fr_r | assumption | refine fr.i ?_ (by unfold IvX; omega) | refine fr.u ?_ (by rfl) (by unfold AvX; omega))), (s1.s (v := w (T 15 m + t - 1)) ok hr).c ⟨fun z => e1.mpr z.2, fun z => ⟨trivial, e1.mp z⟩⟩ (fun _ => e2.symm) (fun _ i _ => by rw [e3])⟩
    by_cases g4 : b p = 4
    · obtain ⟨e1, e2, e3⟩ := a5 g4
      refine et_x (fun K q => sw_mv_4 g4 q) ?_
      unfold mp_X8_applyMove_153
      refine et_b (e_take hb hw hm s0) (fun r σ1 q => ?_)
      exact et_e (q.1.c (r := 0) ⟨fun z => e1.mpr z.2, fun z => ⟨trivial, e1.mp z⟩⟩ (fun _ => e2.symm) (fun _ i _ => by rw [e3]))
    by_cases g5 : b p = 5
    · obtain ⟨e1, e2, e3⟩ := a6 g5
      refine et_x (fun K q => sw_mv_5 g5 q) ?_
      unfold mp_X8_applyMove_153
      refine et_b (e_take hb hw hm s0) (fun r σ1 q => ?_)
      obtain ⟨⟨f1, s1⟩, ok, hr⟩ := q
      refine et_bv (e_push (v := w (T 15 m + t - 1)) (hb.v f1) hw hm s1 ok hr) (fun _ σ2 q2 => ?_)
      obtain ⟨f2, s2⟩ := q2
      refine et_w (e_push (v := w (T 15 m + t - 1)) (hb.v (f1.t f2)) hw hm s2 ok (fun z => hr z.1)) (fun r σ' q => ((q.t f2).t f1).c ⟨fun z => e1.mpr ⟨z.1.1.2, by omega⟩, fun z => ⟨⟨⟨trivial, (e1.mp z).1⟩, by have := e1.mp z; omega⟩, by have := e1.mp z; omega⟩⟩ (fun z => by omega) (fun z i hi => ?_))
      rw [e3]
      have e4 : T 15 m + (t - 1 + 1) = T 15 m + t := by have := z.1.1.2; omega
      have e5 : T 15 m + (t - 1) = T 15 m + t - 1 := by have := z.1.1.2; omega
      rw [e4, e5]
      by_cases c1 : i = T 15 m + t
      · rw [c1, va_up_self, va_up_self]
      · rw [va_up_ne _ _ c1, va_up_ne _ _ c1]
        by_cases c2 : i = T 15 m + t - 1
        · rw [c2, va_up_self]
        · rw [va_up_ne _ _ c2]
    have g7 : b p = 6 := by omega
    obtain ⟨e1, e2, e3⟩ := a7 g7
    refine et_x (fun K q => sw_mv_d (by omega) q) ?_
    unfold mp_X8_applyMove_153
    refine et_b (e_take hb hw hm s0) (fun r σ1 q => ?_)
    obtain ⟨⟨f1, s1⟩, ok, hr⟩ := q
    refine et_b (e_take (hb.v f1) hw hm s1) (fun r2 σ2 q => ?_)
    obtain ⟨⟨f2, s2⟩, ok2, hr2⟩ := q
    have f12 := f1.t f2
    refine et_bv (e_push (v := w (T 15 m + t - 1)) (hb.v f12) hw hm s2 ok (fun z => hr z.1)) (fun _ σ3 q2 => ?_)
    obtain ⟨f3, s3⟩ := q2
    refine et_w (e_push (v := w (T 15 m + (t - 1) - 1)) (hb.v (f12.t f3)) hw hm s3 ok2 (fun z => hr2 z.1)) (fun r σ' q => ((q.t f3).t f12).c ⟨fun z => e1.mpr (by have := z.1.1.2; omega), fun z => by have := e1.mp z; exact ⟨⟨⟨⟨trivial, by omega⟩, by omega⟩, by omega⟩, by omega⟩⟩ (fun z => by have := z.1.1.2; omega) (fun z i hi => ?_))
    have hz := z.1.1.2
    rw [e3, show T 15 m + (t - 1 - 1 + 1) = T 15 m + t - 1 by omega, show T 15 m + (t - 1 - 1) = T 15 m + t - 2 by omega, show T 15 m + (t - 1) - 1 = T 15 m + t - 2 by omega]
  by_cases g18 : b p ≤ 18
  · by_cases g8 : b p = 18
    · obtain ⟨e1, e2, e3⟩ := a9 g8
      unfold mp_X8_apply_46 mp_X8_apply_212
      simp (disch := (first | ((try simp (disch := omega) only [va_up_self, va_up_ne, ne_eq, reduceCtorEq, Nat.reduceEqDiff, not_false_eq_true, l_0, l_2, l_3, l_4, l_5, l_6, l_7, l_8, l_9, l_10, l_11, l_12, l_13, l_14, l_15, l_16, l_17, l_18, l_19, l_20, l_21, l_22, l_23, l_24, l_25, l_26, l_27, l_28, l_29, l_30, l_31, l_32, l_33, l_34, l_35, l_36, l_37, l_38, l_39, l_40, l_41, l_42, l_43, l_44, l_45, l_46, l_47, l_48, l_49, l_50, l_51, l_52, l_53, l_54, l_55, l_56, l_57, l_58, l_59, l_60, l_61, l_62, l_63, l_64, l_97, l_98, l_99, l_200, l_225, l_232, l_255, l_256, l_700, l_1000, l_1024, l_3375, l_4095, l_8000, l_20000, l_60000, vp_nIs, zz0, zz1, e10, nI_leI, nI_ltI, nI_eq, nI_1, nI_1a, nI_add, nI_sub, nI_sub1, pk_mul, nI_clamp, nI_le1, nI_le1', nI_lt1, nI_lt1', nI_eq1, nI_eqm, m1_eqN, m1_le, m1_lt, m1_leN, m1_ltN, nI_am, not_true_eq_false, not_false_eq_true, oN_eqm, hw]) <;> omega) | fail)) only [↓numW, ↓zb_t, ↓zb_f, ↓zb_tt, ↓zb_ff, ↓zb_i, ↓zb_z0, ↓zb_z1, ↓zb_z, ↓zb_l, ↓zb_v, vi32, vi64, true_and, pk_us, Int32.add_zero, Nat.add_sub_cancel, nI_add, nI_1, nI_1a, nI_clamp, k7, k7', k8, k8', k12, k12', k15, k15', k16, k16', nI_sub1, va_up_self, va_up_ne, ne_eq, reduceCtorEq, Nat.reduceEqDiff, not_false_eq_true, hw]
      refine et_bv (e_takeFor hb hw hm s0 k0) (fun r σ1 q => ?_)
      obtain ⟨f1, s1⟩ := q
      refine et_x (P2 := fun K => mp_X8_push σ1 0 (fun σ => K 0 σ)) (fun K q => q) ?_
      refine et_w (e_push (v := 0) (hb.v f1) hw hm s1 k0 (fun _ => ⟨rfl, v0⟩)) (fun r σ' q => (q.t f1).c ⟨fun z => e1.mpr ⟨z.1.1.2, (z0 t z.1.1.2 (by omega)).mp z.1.2⟩, fun z => by have := e1.mp z; exact ⟨⟨⟨trivial, this.1⟩, (z0 t this.1 (by omega)).mpr this.2⟩, by omega⟩⟩ (fun z => by have := z.1.1.2; omega) (fun z i hi => ?_))
      rw [e3]
      have hz := z.1.1.2
      have e5 : T 15 m + (t - 1) = T 15 m + t - 1 := by omega
      by_cases c1 : i = T 15 m + t - 1
      · rw [c1, e5, va_up_self]
        exact ((z0 t hz (by omega)).mp z.1.2).symm
      · rw [e5, va_up_ne _ _ c1]
    · obtain ⟨e1, e2, e3⟩ := a8 (by omega)
      unfold mp_X8_apply_46 mp_X8_apply_212
      simp (disch := (first | ((try simp (disch := omega) only [va_up_self, va_up_ne, ne_eq, reduceCtorEq, Nat.reduceEqDiff, not_false_eq_true, l_0, l_2, l_3, l_4, l_5, l_6, l_7, l_8, l_9, l_10, l_11, l_12, l_13, l_14, l_15, l_16, l_17, l_18, l_19, l_20, l_21, l_22, l_23, l_24, l_25, l_26, l_27, l_28, l_29, l_30, l_31, l_32, l_33, l_34, l_35, l_36, l_37, l_38, l_39, l_40, l_41, l_42, l_43, l_44, l_45, l_46, l_47, l_48, l_49, l_50, l_51, l_52, l_53, l_54, l_55, l_56, l_57, l_58, l_59, l_60, l_61, l_62, l_63, l_64, l_97, l_98, l_99, l_200, l_225, l_232, l_255, l_256, l_700, l_1000, l_1024, l_3375, l_4095, l_8000, l_20000, l_60000, vp_nIs, zz0, zz1, e10, nI_leI, nI_ltI, nI_eq, nI_1, nI_1a, nI_add, nI_sub, nI_sub1, pk_mul, nI_clamp, nI_le1, nI_le1', nI_lt1, nI_lt1', nI_eq1, nI_eqm, m1_eqN, m1_le, m1_lt, m1_leN, m1_ltN, nI_am, not_true_eq_false, not_false_eq_true, oN_eqm, hw]) <;> omega) | fail)) only [↓numW, ↓zb_t, ↓zb_f, ↓zb_tt, ↓zb_ff, ↓zb_i, ↓zb_z0, ↓zb_z1, ↓zb_z, ↓zb_l, ↓zb_v, vi32, vi64, true_and, pk_us, Int32.add_zero, Nat.add_sub_cancel, nI_add, nI_1, nI_1a, nI_clamp, k7, k7', k8, k8', k12, k12', k15, k15', k16, k16', nI_sub1, va_up_self, va_up_ne, ne_eq, reduceCtorEq, Nat.reduceEqDiff, not_false_eq_true, hw]
      refine et_bv (e_takeFor hb hw hm s0 k0) (fun r σ1 q => ?_)
      obtain ⟨f1, s1⟩ := q
      refine et_x (P2 := fun K => mp_X8_takeFor σ1 0 (fun σ30 => mp_X8_push σ30 0 (fun σ => K 0 σ))) (fun K q => q) ?_
      refine et_bv (e_takeFor (hb.v f1) hw hm s1 k0) (fun r σ2 q => ?_)
      obtain ⟨f2, s2⟩ := q
      refine et_w (e_push (v := 0) (hb.v (f1.t f2)) hw hm s2 k0 (fun _ => ⟨rfl, v0⟩)) (fun r σ' q => ((q.t f2).t f1).c ⟨fun z => e1.mpr ?_, fun z => ?_⟩ (fun z => by have := z.1.1.2; omega) (fun z i hi => ?_))
      · have h1 := z.1.1.1.1.2
        have h2 := z.1.1.2
        refine ⟨by omega, (z0 t h1 (by omega)).mp z.1.1.1.2, ?_⟩
        rw [← e12 (by omega)]
        exact (z0 (t - 1) h2 (by omega)).mp z.1.2
      · obtain ⟨h1, h2, h3⟩ := e1.mp z
        refine ⟨⟨⟨⟨⟨trivial, by omega⟩, (z0 t (by omega) (by omega)).mpr h2⟩, by omega⟩, (z0 (t - 1) (by omega) (by omega)).mpr ?_⟩, by omega⟩
        rw [e12 h1]; exact h3
      · rw [e3]
        have h2 := z.1.1.2
        have e5 : T 15 m + (t - 1 - 1) = T 15 m + (t - 1) - 1 := by omega
        by_cases c1 : i = T 15 m + (t - 1) - 1
        · rw [c1, e5, va_up_self]
          exact ((z0 (t - 1) h2 (by omega)).mp z.1.2).symm
        · rw [e5, va_up_ne _ _ c1]
  simp (disch := (first | ((try simp (disch := omega) only [va_up_self, va_up_ne, ne_eq, reduceCtorEq, Nat.reduceEqDiff, not_false_eq_true, l_0, l_2, l_3, l_4, l_5, l_6, l_7, l_8, l_9, l_10, l_11, l_12, l_13, l_14, l_15, l_16, l_17, l_18, l_19, l_20, l_21, l_22, l_23, l_24, l_25, l_26, l_27, l_28, l_29, l_30, l_31, l_32, l_33, l_34, l_35, l_36, l_37, l_38, l_39, l_40, l_41, l_42, l_43, l_44, l_45, l_46, l_47, l_48, l_49, l_50, l_51, l_52, l_53, l_54, l_55, l_56, l_57, l_58, l_59, l_60, l_61, l_62, l_63, l_64, l_97, l_98, l_99, l_200, l_225, l_232, l_255, l_256, l_700, l_1000, l_1024, l_3375, l_4095, l_8000, l_20000, l_60000, vp_nIs, zz0, zz1, e10, nI_leI, nI_ltI, nI_eq, nI_1, nI_1a, nI_add, nI_sub, nI_sub1, pk_mul, nI_clamp, nI_le1, nI_le1', nI_lt1, nI_lt1', nI_eq1, nI_eqm, m1_eqN, m1_le, m1_lt, m1_leN, m1_ltN, nI_am, not_true_eq_false, not_false_eq_true, oN_eqm, hw]) <;> omega) | fail)) only [↓numW, ↓zb_t, ↓zb_f, ↓zb_tt, ↓zb_ff, ↓zb_i, ↓zb_z0, ↓zb_z1, ↓zb_z, ↓zb_l, ↓zb_v, vi32, vi64, true_and, pk_us, Int32.add_zero, Nat.add_sub_cancel, nI_add, nI_1, nI_1a, nI_clamp, k7, k7', k8, k8', k12, k12', k15, k15', k16, k16', nI_sub1, va_up_self, va_up_ne, ne_eq, reduceCtorEq, Nat.reduceEqDiff, not_false_eq_true, hw]
  by_cases g19 : b p = 19
  · obtain ⟨e1, e2, e3⟩ := a10 (Or.inl g19)
    refine et_x (fun K q => sw_jp_19 g19 q) ?_
    unfold mp_X8_applyJump_79
    exact et_w (e_takeFor hb hw hm s0 k0) (fun r σ' q => q.c ⟨fun z => e1.mpr ⟨z.1.2, (z0 t z.1.2 (by omega)).mp z.2⟩, fun z => by have := e1.mp z; exact ⟨⟨trivial, this.1⟩, (z0 t this.1 (by omega)).mpr this.2⟩⟩ (fun _ => e2.symm) (fun _ i _ => by rw [e3]))
  by_cases g20 : b p = 20
  · obtain ⟨e1, e2, e3⟩ := a11 g20
    refine et_x (fun K q => sw_jp_20 g20 q) ?_
    unfold mp_X8_applyJump_79
    refine et_bv (e_takeFor hb hw hm s0 k0) (fun r σ1 q => ?_)
    obtain ⟨f1, s1⟩ := q
    refine et_w (e_takeFor (hb.v f1) hw hm s1 k0) (fun r σ' q => (q.t f1).c ⟨fun z => e1.mpr ?_, fun z => ?_⟩ (fun z => by have := z.1.2; omega) (fun _ i _ => by rw [e3]))
    · have h1 := z.1.1.1.2
      have h2 := z.1.2
      refine ⟨by omega, (z0 t h1 (by omega)).mp z.1.1.2, ?_⟩
      rw [← e12 (by omega)]
      exact (z0 (t - 1) h2 (by omega)).mp z.2
    · obtain ⟨h1, h2, h3⟩ := e1.mp z
      refine ⟨⟨⟨⟨trivial, by omega⟩, (z0 t (by omega) (by omega)).mpr h2⟩, by omega⟩, (z0 (t - 1) (by omega) (by omega)).mpr ?_⟩
      rw [e12 h1]; exact h3
  by_cases g21 : b p = 21 ∨ b p = 22
  · obtain ⟨e1, e2, e3⟩ := a12 g21
    refine et_x (P2 := fun K => mp_X8_takeReference σ (fun σ => K 0 σ)) (fun K q => by
      rcases g21 with g | g
      · exact sw_jp_21 g q
      · exact sw_jp_22 g q) ?_
    exact et_w (e_takeRef hb hw hm s0) (fun r σ' q => q.c ⟨fun z => e1.mpr ⟨z.1.2, z.2⟩, fun z => by have := e1.mp z; exact ⟨⟨trivial, this.1⟩, this.2⟩⟩ (fun _ => e2.symm) (fun _ i _ => by rw [e3]))
  by_cases g23 : b p = 23 ∨ b p = 24
  · obtain ⟨e1, e2, e3⟩ := a13 g23
    refine et_x (P2 := fun K => mp_X8_takeReference σ (fun σ1 => mp_X8_takeReference σ1 (fun σ => K 0 σ))) (fun K q => by
      rcases g23 with g | g
      · exact sw_jp_23 g q
      · exact sw_jp_24 g q) ?_
    refine et_bv (e_takeRef hb hw hm s0) (fun r σ1 q => ?_)
    obtain ⟨f1, s1⟩ := q
    refine et_w (e_takeRef (hb.v f1) hw hm s1) (fun r σ' q => (q.t f1).c ⟨fun z => e1.mpr ?_, fun z => ?_⟩ (fun z => by have := z.1.2; omega) (fun _ i _ => by rw [e3]))
    · have h1 := z.1.1.1.2
      have h2 := z.1.2
      refine ⟨by omega, z.1.1.2, ?_⟩
      rw [← e12 (by omega)]
      exact z.2
    · obtain ⟨h1, h2, h3⟩ := e1.mp z
      refine ⟨⟨⟨⟨trivial, by omega⟩, h2⟩, by omega⟩, ?_⟩
      rw [e12 h1]; exact h3
  have g25 : b p = 25 := by omega
  obtain ⟨e1, e2, e3⟩ := a14 g25
  refine et_x (fun K q => sw_jp_d (by omega) q) ?_
  unfold mp_X8_applyJump_79
  exact et_e ⟨fr_r, s0.c ⟨fun _ => e1.mpr trivial, fun _ => trivial⟩ (fun _ => e2.symm) (fun _ i _ => by rw [e3])⟩
