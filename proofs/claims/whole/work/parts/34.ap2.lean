/-! ===== the class's apply, second half ===== -/
def rZ (σ : sm_S) (T : Nat → Nat → Nat) (m : Nat) (c : Prop) (t : Nat) (w : Nat → Nat) (_ : Int32) (σ' : sm_S) : Prop := fr IvX AvX σ σ' ∧ ((c ∧ gX σ' T m t w) ∨ (¬ c ∧ σ'.1 33 = 0))
theorem rX.z {σ σ' : sm_S} {T : Nat → Nat → Nat} {m t : Nat} {c : Prop} {w : Nat → Nat} {r : Int32} (h : rX σ T m c t w r σ') : rZ σ T m c t w r σ' := ⟨h.1, h.2.elim Or.inl (fun q => Or.inr ⟨q.1, q.2.1⟩)⟩
theorem e_pushJ {σ : sm_S} {T : Nat → Nat → Nat} {b : Nat → Nat} {m t v : Nat} {c : Prop} {w : Nat → Nat} {x : Int32} (hb : bX σ T b m) (hw : wf T b) (hm : m < T 0 1) (h : sX σ T m c t w) (hv : c → x = nI v ∧ vt T v) : et (fun K => mp_X8_push σ x (fun σ => K 0 σ)) (rZ σ T m (c ∧ t < T 16 m) (t + 1) (va_up w (T 15 m + t) v)) := by
  by_cases hc : c
  · have hx : okv T x := by rw [(hv hc).1]; exact okv_vt hw.2.1 (hv hc).2
    exact et_w (e_push hb hw hm h hx hv) (fun r σ' q => q.z)
  · have w4 := hw.2.2.2.1
    have h12 := (hw.2.2.2.2.2.2.2.2.1 m hm).2.2.2.2.2.2.1
    obtain ⟨b1, b2, b3, b4⟩ := hb
    have r25 := (b1.2.2.2.2.2.2.2.2 m hm).2.2.2.2.2.1
    have l25 := lx25 b1.2.1
    rcases h with ⟨h1, -⟩ | ⟨h1, h2, t', h3, h4, h5⟩
    · exact absurd h1 hc
    · unfold mp_X8_push
      by_cases e : t' < T 16 m
      · simp (disch := (first | ((try simp (disch := omega) only [va_up_self, va_up_ne, ne_eq, reduceCtorEq, Nat.reduceEqDiff, not_false_eq_true, l_0, l_2, l_3, l_4, l_5, l_6, l_7, l_8, l_9, l_10, l_11, l_12, l_13, l_14, l_15, l_16, l_17, l_18, l_19, l_20, l_21, l_22, l_23, l_24, l_25, l_26, l_27, l_28, l_29, l_30, l_31, l_32, l_33, l_34, l_35, l_36, l_37, l_38, l_39, l_40, l_41, l_42, l_43, l_44, l_45, l_46, l_47, l_48, l_49, l_50, l_51, l_52, l_53, l_54, l_55, l_56, l_57, l_58, l_59, l_60, l_61, l_62, l_63, l_64, l_97, l_98, l_99, l_200, l_225, l_232, l_255, l_256, l_700, l_1000, l_1024, l_3375, l_4095, l_8000, l_20000, l_60000, vp_nIs, zz0, zz1, e10, nI_leI, nI_ltI, nI_eq, nI_1, nI_1a, nI_add, nI_sub, nI_sub1, pk_mul, nI_clamp, nI_le1, nI_le1', nI_lt1, nI_lt1', nI_eq1, nI_eqm, m1_eqN, m1_le, m1_lt, m1_leN, m1_ltN, nI_am, not_true_eq_false, not_false_eq_true, oN_eqm, h3, b2, b3, b4, r25, l25]) <;> omega) | fail)) only [↓numW, ↓zb_t, ↓zb_f, ↓zb_tt, ↓zb_ff, ↓zb_i, ↓zb_z0, ↓zb_z1, ↓zb_z, ↓zb_l, ↓zb_v, vi32, vi64, true_and, pk_us, Int32.add_zero, Nat.add_sub_cancel, nI_add, nI_1, nI_1a, nI_clamp, k7, k7', k8, k8', k12, k12', k15, k15', k16, k16', nI_sub1, va_up_self, va_up_ne, ne_eq, reduceCtorEq, Nat.reduceEqDiff, not_false_eq_true, h3, b2, b3, b4, r25, l25]
        exact et_e ⟨(by repeat' (first | exact fr_r | assumption | refine fr.i ?_ (by unfold IvX; omega) | refine fr.u ?_ (by rfl) (by unfold AvX; omega))), Or.inr ⟨fun q => hc q.1, h2⟩⟩
      · simp (disch := (first | ((try simp (disch := omega) only [va_up_self, va_up_ne, ne_eq, reduceCtorEq, Nat.reduceEqDiff, not_false_eq_true, l_0, l_2, l_3, l_4, l_5, l_6, l_7, l_8, l_9, l_10, l_11, l_12, l_13, l_14, l_15, l_16, l_17, l_18, l_19, l_20, l_21, l_22, l_23, l_24, l_25, l_26, l_27, l_28, l_29, l_30, l_31, l_32, l_33, l_34, l_35, l_36, l_37, l_38, l_39, l_40, l_41, l_42, l_43, l_44, l_45, l_46, l_47, l_48, l_49, l_50, l_51, l_52, l_53, l_54, l_55, l_56, l_57, l_58, l_59, l_60, l_61, l_62, l_63, l_64, l_97, l_98, l_99, l_200, l_225, l_232, l_255, l_256, l_700, l_1000, l_1024, l_3375, l_4095, l_8000, l_20000, l_60000, vp_nIs, zz0, zz1, e10, nI_leI, nI_ltI, nI_eq, nI_1, nI_1a, nI_add, nI_sub, nI_sub1, pk_mul, nI_clamp, nI_le1, nI_le1', nI_lt1, nI_lt1', nI_eq1, nI_eqm, m1_eqN, m1_le, m1_lt, m1_leN, m1_ltN, nI_am, not_true_eq_false, not_false_eq_true, oN_eqm, h3, b2, b3, b4, r25, l25]) <;> omega) | fail)) only [↓numW, ↓zb_t, ↓zb_f, ↓zb_tt, ↓zb_ff, ↓zb_i, ↓zb_z0, ↓zb_z1, ↓zb_z, ↓zb_l, ↓zb_v, vi32, vi64, true_and, pk_us, Int32.add_zero, Nat.add_sub_cancel, nI_add, nI_1, nI_1a, nI_clamp, k7, k7', k8, k8', k12, k12', k15, k15', k16, k16', nI_sub1, va_up_self, va_up_ne, ne_eq, reduceCtorEq, Nat.reduceEqDiff, not_false_eq_true, h3, b2, b3, b4, r25, l25]
        exact et_e ⟨(by repeat' (first | exact fr_r | assumption | refine fr.i ?_ (by unfold IvX; omega) | refine fr.u ?_ (by rfl) (by unfold AvX; omega))), Or.inr ⟨fun q => hc q.1, rfl⟩⟩
theorem vt_ty {T : Nat → Nat → Nat} {t : Nat} (h : ty_ok (T 0 0) False t) : vt T t := by
  unfold ty_ok at h
  unfold vt
  rcases h with h | h | h
  · exact Or.inl h
  · exact Or.inr (Or.inl h)
  · exact h.1.elim
theorem vt_g {T : Nat → Nat → Nat} {t : Nat} (h : ty_ok (T 0 0) True t) (h2 : t ≠ 255) : vt T t := by
  unfold ty_ok at h
  unfold vt
  rcases h with h | h | h
  · exact Or.inl h
  · exact Or.inr (Or.inl h)
  · exact absurd h.2 h2
theorem eX_b1 {σ : sm_S} {T : Nat → Nat → Nat} {b : Nat → Nat} {m p t : Nat} {w : Nat → Nat} (hb : bX σ T b m) (hw : wf T b) (hm : m < T 0 1) (h : gX σ T m t w) (hp1 : T 17 m ≤ p) (hp2 : p < T 17 m + T 18 m) (ho : opT T b (T 15 m) p) (hlt : 26 ≤ b p) (g30 : b p ≤ 30) {c : Prop} {t' : Nat} {w' : Nat → Nat} (hav : avS T b m p t w c t' w') : et (fun K => mp_X8_apply σ (nI (b p)) (nI p) (fun σ => K 0 σ)) (rZ σ T m c t' w') := by
  have w2 := hw.2.1
  have w4 := hw.2.2.2.1
  have w5 := hw.2.2.2.2.1
  obtain ⟨-, -, -, -, y5, y6, h12, y8, y9, y10, y11, y12, -⟩ := hw.2.2.2.2.2.2.2.2.1 m hm
  have hbt : ∀ j, b j < 256 := hb.1.1.2.2.2.2.1
  have s0 : sX σ T m True t w := Or.inl ⟨trivial, h⟩
  have v0 : vt T 0 := Or.inl (by omega)
  have v97 : vt T 97 := Or.inr (Or.inr (Or.inl rfl))
  have k0 : okv T 0 := Or.inr (Or.inl (by decide))
  have k97 : okv T 97 := Or.inr (Or.inr (by decide))
  have hst := h.2.1
  have hv : ∀ i, i < T 15 m + t → w i < 2 ^ 20 ∧ vt T (w i) := fun i hi => by
    have := (h.2.2.2 i hi).2
    refine ⟨?_, this⟩
    unfold vt at this; omega
  have at1 : ∀ K : jk, K (nI (b (p + 1))) σ → mp_X2_at σ (nI (p + 1)) K := fun K q => w_at hb.1.1 (by omega) (fun _ => q) (fun z => absurd z (by omega))
  have at2' : ∀ K : jk, K (nI (b (p + 2))) σ → mp_X2_at σ (nI (p + 2)) K := fun K q => w_at hb.1.1 (by omega) (fun _ => q) (fun z => absurd z (by omega))
  obtain ⟨a1, -, -, -, -, -, -, -, -, a10, -, -, -, -, a15, a16, a17, a18, a19, a20, a21, a22, a23, -, a25, a26, a27⟩ := hav
  have hb1 := hbt (p + 1)
  have hb2 := hbt (p + 2)
  have z0 : ∀ u, 1 ≤ u → u ≤ t → (goesI T (w (T 15 m + u - 1)) 0 ↔ w (T 15 m + u - 1) = 0) := fun u u1 u2 => goesI_0 w2 (hv _ (by omega)).1
  have zT : ∀ u ty, 1 ≤ u → u ≤ t → vt T ty → (goesI T (w (T 15 m + u - 1)) (nI ty) ↔ goesT T (w (T 15 m + u - 1)) ty) := fun u ty u1 u2 hy => goesI_T w2 (hv _ (by omega)).2 (by unfold vt at hy; omega) (by unfold vt at hy; omega)
  have e12 : 2 ≤ t → T 15 m + (t - 1) - 1 = T 15 m + t - 2 := fun _ => by omega
  have hLX := hb.1.2.1
  unfold mp_X8_apply mp_X8_apply_212
  simp (disch := (first | ((try simp (disch := omega) only [va_up_self, va_up_ne, ne_eq, reduceCtorEq, Nat.reduceEqDiff, not_false_eq_true, l_0, l_2, l_3, l_4, l_5, l_6, l_7, l_8, l_9, l_10, l_11, l_12, l_13, l_14, l_15, l_16, l_17, l_18, l_19, l_20, l_21, l_22, l_23, l_24, l_25, l_26, l_27, l_28, l_29, l_30, l_31, l_32, l_33, l_34, l_35, l_36, l_37, l_38, l_39, l_40, l_41, l_42, l_43, l_44, l_45, l_46, l_47, l_48, l_49, l_50, l_51, l_52, l_53, l_54, l_55, l_56, l_57, l_58, l_59, l_60, l_61, l_62, l_63, l_64, l_97, l_98, l_99, l_200, l_225, l_232, l_255, l_256, l_700, l_1000, l_1024, l_3375, l_4095, l_8000, l_20000, l_60000, vp_nIs, zz0, zz1, e10, nI_leI, nI_ltI, nI_eq, nI_1, nI_1a, nI_add, nI_sub, nI_sub1, pk_mul, nI_clamp, nI_le1, nI_le1', nI_lt1, nI_lt1', nI_eq1, nI_eqm, m1_eqN, m1_le, m1_lt, m1_leN, m1_ltN, nI_am, not_true_eq_false, not_false_eq_true, oN_eqm, k_p2]) <;> omega) | fail)) only [↓numW, ↓zb_t, ↓zb_f, ↓zb_tt, ↓zb_ff, ↓zb_i, ↓zb_z0, ↓zb_z1, ↓zb_z, ↓zb_l, ↓zb_v, vi32, vi64, true_and, pk_us, Int32.add_zero, Nat.add_sub_cancel, nI_add, nI_1, nI_1a, nI_clamp, k7, k7', k8, k8', k12, k12', k15, k15', k16, k16', nI_sub1, va_up_self, va_up_ne, ne_eq, reduceCtorEq, Nat.reduceEqDiff, not_false_eq_true, k_p2]
  refine et_k at1 ?_
  refine et_k at2' ?_
  by_cases g26 : b p = 26
  · obtain ⟨e1, e2, e3⟩ := a15 g26
    have hx := ho.2.2.2.1 (Or.inl g26)
    refine et_x (fun K q => sw_ob_26 g26 q) ?_
    unfold mp_X8_applyObject_121
    rw [nI_1]
    have vx : vt T (b (p + 1) + 1) := Or.inl (by omega)
    exact et_w (e_push (v := b (p + 1) + 1) hb hw hm s0 (okv_vt w2 vx) (fun _ => ⟨rfl, vx⟩)) (fun r σ' q => (q.c ⟨fun z => e1.mpr z.2, fun z => ⟨trivial, e1.mp z⟩⟩ (fun _ => e2.symm) (fun _ i _ => by rw [e3])).z)
  by_cases g27 : b p = 27
  · obtain ⟨e1, e2, e3⟩ := a16 g27
    obtain ⟨hx, hy⟩ := ho.2.2.2.2.1 (Or.inl g27)
    have vx : vt T (b (p + 1) + 1) := Or.inl (by omega)
    obtain ⟨u1, u2, u3, -⟩ := hw.2.2.2.2.2.2.1 _ hx
    have v7 := vt_ty (u3 _ hy)
    refine et_x (fun K q => sw_ob_27 g27 q) ?_
    unfold mp_X8_applyObject_121
    rw [nI_1]
    refine et_bv (e_takeFor hb hw hm s0 (okv_vt w2 vx)) (fun r σ1 q => ?_)
    obtain ⟨f1, s1⟩ := q
    have hL1 := (hb.v f1).1.2.1
    have r13 : σ1.2.2.2.1 13 (15 * b (p + 1) + b (p + 2)) = nI (T 7 (15 * b (p + 1) + b (p + 2))) := (((hb.v f1).1.2.2.2.2.2.2.2.1.1 _ hx).2.2 _ hy)
    simp (disch := (first | ((try simp (disch := omega) only [va_up_self, va_up_ne, ne_eq, reduceCtorEq, Nat.reduceEqDiff, not_false_eq_true, l_0, l_2, l_3, l_4, l_5, l_6, l_7, l_8, l_9, l_10, l_11, l_12, l_13, l_14, l_15, l_16, l_17, l_18, l_19, l_20, l_21, l_22, l_23, l_24, l_25, l_26, l_27, l_28, l_29, l_30, l_31, l_32, l_33, l_34, l_35, l_36, l_37, l_38, l_39, l_40, l_41, l_42, l_43, l_44, l_45, l_46, l_47, l_48, l_49, l_50, l_51, l_52, l_53, l_54, l_55, l_56, l_57, l_58, l_59, l_60, l_61, l_62, l_63, l_64, l_97, l_98, l_99, l_200, l_225, l_232, l_255, l_256, l_700, l_1000, l_1024, l_3375, l_4095, l_8000, l_20000, l_60000, vp_nIs, zz0, zz1, e10, nI_leI, nI_ltI, nI_eq, nI_1, nI_1a, nI_add, nI_sub, nI_sub1, pk_mul, nI_clamp, nI_le1, nI_le1', nI_lt1, nI_lt1', nI_eq1, nI_eqm, m1_eqN, m1_le, m1_lt, m1_leN, m1_ltN, nI_am, not_true_eq_false, not_false_eq_true, oN_eqm, r13, lx13 hL1]) <;> omega) | fail)) only [↓numW, ↓zb_t, ↓zb_f, ↓zb_tt, ↓zb_ff, ↓zb_i, ↓zb_z0, ↓zb_z1, ↓zb_z, ↓zb_l, ↓zb_v, vi32, vi64, true_and, pk_us, Int32.add_zero, Nat.add_sub_cancel, nI_add, nI_1, nI_1a, nI_clamp, k7, k7', k8, k8', k12, k12', k15, k15', k16, k16', nI_sub1, va_up_self, va_up_ne, ne_eq, reduceCtorEq, Nat.reduceEqDiff, not_false_eq_true, r13, lx13 hL1]
    refine et_w (e_push (v := T 7 (15 * b (p + 1) + b (p + 2))) (hb.v f1) hw hm s1 (okv_vt w2 v7) (fun _ => ⟨rfl, v7⟩)) (fun r σ' q => ((q.t f1).c ⟨fun z => e1.mpr ⟨z.1.1.2, (zT t _ z.1.1.2 (by omega) vx).mp z.1.2⟩, fun z => by have := e1.mp z; exact ⟨⟨⟨trivial, this.1⟩, (zT t _ this.1 (by omega) vx).mpr this.2⟩, by omega⟩⟩ (fun z => by have := z.1.1.2; omega) (fun z i hi => ?_)).z)
    have hz := z.1.1.2
    rw [e3, show T 15 m + (t - 1) = T 15 m + t - 1 by omega]
  by_cases g28 : b p = 28
  · obtain ⟨e1, e2, e3⟩ := a17 g28
    obtain ⟨hx, hy⟩ := ho.2.2.2.2.1 (Or.inr g28)
    have vx : vt T (b (p + 1) + 1) := Or.inl (by omega)
    obtain ⟨u1, u2, u3, -⟩ := hw.2.2.2.2.2.2.1 _ hx
    have v7 := vt_ty (u3 _ hy)
    refine et_x (fun K q => sw_ob_28 g28 q) ?_
    unfold mp_X8_applyObject_121
    rw [nI_1]
    have r13 : σ.2.2.2.1 13 (15 * b (p + 1) + b (p + 2)) = nI (T 7 (15 * b (p + 1) + b (p + 2))) := ((hb.1.2.2.2.2.2.2.2.1.1 _ hx).2.2 _ hy)
    simp (disch := (first | ((try simp (disch := omega) only [va_up_self, va_up_ne, ne_eq, reduceCtorEq, Nat.reduceEqDiff, not_false_eq_true, l_0, l_2, l_3, l_4, l_5, l_6, l_7, l_8, l_9, l_10, l_11, l_12, l_13, l_14, l_15, l_16, l_17, l_18, l_19, l_20, l_21, l_22, l_23, l_24, l_25, l_26, l_27, l_28, l_29, l_30, l_31, l_32, l_33, l_34, l_35, l_36, l_37, l_38, l_39, l_40, l_41, l_42, l_43, l_44, l_45, l_46, l_47, l_48, l_49, l_50, l_51, l_52, l_53, l_54, l_55, l_56, l_57, l_58, l_59, l_60, l_61, l_62, l_63, l_64, l_97, l_98, l_99, l_200, l_225, l_232, l_255, l_256, l_700, l_1000, l_1024, l_3375, l_4095, l_8000, l_20000, l_60000, vp_nIs, zz0, zz1, e10, nI_leI, nI_ltI, nI_eq, nI_1, nI_1a, nI_add, nI_sub, nI_sub1, pk_mul, nI_clamp, nI_le1, nI_le1', nI_lt1, nI_lt1', nI_eq1, nI_eqm, m1_eqN, m1_le, m1_lt, m1_leN, m1_ltN, nI_am, not_true_eq_false, not_false_eq_true, oN_eqm, r13, lx13 hLX]) <;> omega) | fail)) only [↓numW, ↓zb_t, ↓zb_f, ↓zb_tt, ↓zb_ff, ↓zb_i, ↓zb_z0, ↓zb_z1, ↓zb_z, ↓zb_l, ↓zb_v, vi32, vi64, true_and, pk_us, Int32.add_zero, Nat.add_sub_cancel, nI_add, nI_1, nI_1a, nI_clamp, k7, k7', k8, k8', k12, k12', k15, k15', k16, k16', nI_sub1, va_up_self, va_up_ne, ne_eq, reduceCtorEq, Nat.reduceEqDiff, not_false_eq_true, r13, lx13 hLX]
    refine et_bv (e_takeFor hb hw hm s0 (okv_vt w2 v7)) (fun r σ1 q => ?_)
    obtain ⟨f1, s1⟩ := q
    refine et_w (e_takeFor (hb.v f1) hw hm s1 (okv_vt w2 vx)) (fun r σ' q => ((q.t f1).c ⟨fun z => e1.mpr ?_, fun z => ?_⟩ (fun z => by have := z.1.2; omega) (fun _ i _ => by rw [e3])).z)
    · have h1 := z.1.1.1.2
      have h2 := z.1.2
      refine ⟨by omega, (zT t _ h1 (by omega) v7).mp z.1.1.2, ?_⟩
      rw [← e12 (by omega)]
      exact (zT (t - 1) _ h2 (by omega) vx).mp z.2
    · obtain ⟨h1, h2, h3⟩ := e1.mp z
      refine ⟨⟨⟨⟨trivial, by omega⟩, (zT t _ (by omega) (by omega) v7).mpr h2⟩, by omega⟩, (zT (t - 1) _ (by omega) (by omega) vx).mpr ?_⟩
      rw [e12 h1]; exact h3
  by_cases g29 : b p = 29
  · obtain ⟨e1, e2, e3⟩ := a18 g29
    refine et_x (fun K q => sw_ob_29 g29 q) ?_
    unfold mp_X8_applyObject_121
    refine et_bv (e_takeRef hb hw hm s0) (fun r σ1 q => ?_)
    obtain ⟨f1, s1⟩ := q
    refine et_w (e_push (v := 0) (hb.v f1) hw hm s1 k0 (fun _ => ⟨rfl, v0⟩)) (fun r σ' q => ((q.t f1).c ⟨fun z => e1.mpr ⟨z.1.1.2, z.1.2⟩, fun z => by have := e1.mp z; exact ⟨⟨⟨trivial, this.1⟩, this.2⟩, by omega⟩⟩ (fun z => by have := z.1.1.2; omega) (fun z i hi => ?_)).z)
    have hz := z.1.1.2
    rw [e3, show T 15 m + (t - 1) = T 15 m + t - 1 by omega]
  have g30b : b p = 30 := by omega
  obtain ⟨e1, e2, e3⟩ := a19 g30b
  have hx := ho.2.2.2.1 (by omega)
  have vx : vt T (b (p + 1) + 1) := Or.inl (by omega)
  refine et_x (fun K q => sw_ob_d (by omega) q) ?_
  unfold mp_X8_applyObject_121
  rw [nI_1]
  refine et_bv (e_takeRef hb hw hm s0) (fun r σ1 q => ?_)
  obtain ⟨f1, s1⟩ := q
  refine et_w (e_push (v := b (p + 1) + 1) (hb.v f1) hw hm s1 (okv_vt w2 vx) (fun _ => ⟨rfl, vx⟩)) (fun r σ' q => ((q.t f1).c ⟨fun z => e1.mpr ⟨z.1.1.2, z.1.2⟩, fun z => by have := e1.mp z; exact ⟨⟨⟨trivial, this.1⟩, this.2⟩, by omega⟩⟩ (fun z => by have := z.1.1.2; omega) (fun z i hi => ?_)).z)
  have hz := z.1.1.2
  rw [e3, show T 15 m + (t - 1) = T 15 m + t - 1 by omega]
theorem eX_b2 {σ : sm_S} {T : Nat → Nat → Nat} {b : Nat → Nat} {m p t : Nat} {w : Nat → Nat} (hb : bX σ T b m) (hw : wf T b) (hm : m < T 0 1) (h : gX σ T m t w) (hp1 : T 17 m ≤ p) (hp2 : p < T 17 m + T 18 m) (ho : opT T b (T 15 m) p) (hlt : 31 ≤ b p) (g33 : b p ≤ 33) {c : Prop} {t' : Nat} {w' : Nat → Nat} (hav : avS T b m p t w c t' w') : et (fun K => mp_X8_apply σ (nI (b p)) (nI p) (fun σ => K 0 σ)) (rZ σ T m c t' w') := by
  have w2 := hw.2.1
  have w4 := hw.2.2.2.1
  have w5 := hw.2.2.2.2.1
  obtain ⟨-, -, -, -, y5, y6, h12, y8, y9, y10, y11, y12, -⟩ := hw.2.2.2.2.2.2.2.2.1 m hm
  have hbt : ∀ j, b j < 256 := hb.1.1.2.2.2.2.1
  have s0 : sX σ T m True t w := Or.inl ⟨trivial, h⟩
  have v0 : vt T 0 := Or.inl (by omega)
  have v97 : vt T 97 := Or.inr (Or.inr (Or.inl rfl))
  have k0 : okv T 0 := Or.inr (Or.inl (by decide))
  have k97 : okv T 97 := Or.inr (Or.inr (by decide))
  have hst := h.2.1
  have hv : ∀ i, i < T 15 m + t → w i < 2 ^ 20 ∧ vt T (w i) := fun i hi => by
    have := (h.2.2.2 i hi).2
    refine ⟨?_, this⟩
    unfold vt at this; omega
  have at1 : ∀ K : jk, K (nI (b (p + 1))) σ → mp_X2_at σ (nI (p + 1)) K := fun K q => w_at hb.1.1 (by omega) (fun _ => q) (fun z => absurd z (by omega))
  have at2' : ∀ K : jk, K (nI (b (p + 2))) σ → mp_X2_at σ (nI (p + 2)) K := fun K q => w_at hb.1.1 (by omega) (fun _ => q) (fun z => absurd z (by omega))
  obtain ⟨a1, -, -, -, -, -, -, -, -, a10, -, -, -, -, a15, a16, a17, a18, a19, a20, a21, a22, a23, -, a25, a26, a27⟩ := hav
  have hb1 := hbt (p + 1)
  have hb2 := hbt (p + 2)
  have z0 : ∀ u, 1 ≤ u → u ≤ t → (goesI T (w (T 15 m + u - 1)) 0 ↔ w (T 15 m + u - 1) = 0) := fun u u1 u2 => goesI_0 w2 (hv _ (by omega)).1
  have zT : ∀ u ty, 1 ≤ u → u ≤ t → vt T ty → (goesI T (w (T 15 m + u - 1)) (nI ty) ↔ goesT T (w (T 15 m + u - 1)) ty) := fun u ty u1 u2 hy => goesI_T w2 (hv _ (by omega)).2 (by unfold vt at hy; omega) (by unfold vt at hy; omega)
  have e12 : 2 ≤ t → T 15 m + (t - 1) - 1 = T 15 m + t - 2 := fun _ => by omega
  have hLX := hb.1.2.1
  unfold mp_X8_apply mp_X8_apply_212
  simp (disch := (first | ((try simp (disch := omega) only [va_up_self, va_up_ne, ne_eq, reduceCtorEq, Nat.reduceEqDiff, not_false_eq_true, l_0, l_2, l_3, l_4, l_5, l_6, l_7, l_8, l_9, l_10, l_11, l_12, l_13, l_14, l_15, l_16, l_17, l_18, l_19, l_20, l_21, l_22, l_23, l_24, l_25, l_26, l_27, l_28, l_29, l_30, l_31, l_32, l_33, l_34, l_35, l_36, l_37, l_38, l_39, l_40, l_41, l_42, l_43, l_44, l_45, l_46, l_47, l_48, l_49, l_50, l_51, l_52, l_53, l_54, l_55, l_56, l_57, l_58, l_59, l_60, l_61, l_62, l_63, l_64, l_97, l_98, l_99, l_200, l_225, l_232, l_255, l_256, l_700, l_1000, l_1024, l_3375, l_4095, l_8000, l_20000, l_60000, vp_nIs, zz0, zz1, e10, nI_leI, nI_ltI, nI_eq, nI_1, nI_1a, nI_add, nI_sub, nI_sub1, pk_mul, nI_clamp, nI_le1, nI_le1', nI_lt1, nI_lt1', nI_eq1, nI_eqm, m1_eqN, m1_le, m1_lt, m1_leN, m1_ltN, nI_am, not_true_eq_false, not_false_eq_true, oN_eqm, hw]) <;> omega) | fail)) only [↓numW, ↓zb_t, ↓zb_f, ↓zb_tt, ↓zb_ff, ↓zb_i, ↓zb_z0, ↓zb_z1, ↓zb_z, ↓zb_l, ↓zb_v, vi32, vi64, true_and, pk_us, Int32.add_zero, Nat.add_sub_cancel, nI_add, nI_1, nI_1a, nI_clamp, k7, k7', k8, k8', k12, k12', k15, k15', k16, k16', nI_sub1, va_up_self, va_up_ne, ne_eq, reduceCtorEq, Nat.reduceEqDiff, not_false_eq_true, hw]
  refine et_k at1 ?_
  by_cases g31 : b p = 31
  · obtain ⟨e1, e2, e3⟩ := a20 g31
    have hx := ho.2.2.2.2.2.1 g31
    have vx : vt T (64 + b (p + 1)) := Or.inr (Or.inl ⟨by omega, by omega⟩)
    refine et_x (fun K q => sw_rw_31 g31 q) ?_
    unfold mp_X8_applyRow_86
    rw [l_64, nI_add]
    refine et_bv (e_takeFor hb hw hm s0 k0) (fun r σ1 q => ?_)
    obtain ⟨f1, s1⟩ := q
    refine et_w (e_push (v := 64 + b (p + 1)) (hb.v f1) hw hm s1 (okv_vt w2 vx) (fun _ => ⟨rfl, vx⟩)) (fun r σ' q => ((q.t f1).c ⟨fun z => e1.mpr ⟨z.1.1.2, (z0 t z.1.1.2 (by omega)).mp z.1.2⟩, fun z => by have := e1.mp z; exact ⟨⟨⟨trivial, this.1⟩, (z0 t this.1 (by omega)).mpr this.2⟩, by omega⟩⟩ (fun z => by have := z.1.1.2; omega) (fun z i hi => ?_)).z)
    have hz := z.1.1.2
    rw [e3, show T 15 m + (t - 1) = T 15 m + t - 1 by omega]
  by_cases g32 : b p = 32
  · obtain ⟨e1, e2, e3⟩ := a21 g32
    refine et_x (fun K q => sw_rw_32 g32 q) ?_
    unfold mp_X8_applyRow_86
    refine et_b (e_takeRow hb hw hm s0) (fun r σ1 q => ?_)
    obtain ⟨⟨f1, s1⟩, -⟩ := q
    refine et_w (e_push (v := 0) (hb.v f1) hw hm s1 k0 (fun _ => ⟨rfl, v0⟩)) (fun r σ' q => ((q.t f1).c ⟨fun z => e1.mpr ⟨z.1.1.2, z.1.2⟩, fun z => by have := e1.mp z; exact ⟨⟨⟨trivial, this.1⟩, this.2⟩, by omega⟩⟩ (fun z => by have := z.1.1.2; omega) (fun z i hi => ?_)).z)
    have hz := z.1.1.2
    rw [e3, show T 15 m + (t - 1) = T 15 m + t - 1 by omega]
  have g33b : b p = 33 := by omega
  obtain ⟨e1, e2, e3⟩ := a22 g33b
  refine et_x (fun K q => sw_rw_d (by omega) q) ?_
  unfold mp_X8_applyRow_83 mp_X8_applyRow_86
  refine et_bv (e_takeFor hb hw hm s0 k0) (fun r σ1 q => ?_)
  obtain ⟨f1, s1⟩ := q
  refine et_b (e_takeRow (hb.v f1) hw hm s1) (fun r σ2 q => ?_)
  obtain ⟨⟨f2, s2⟩, ok, hr⟩ := q
  have f12 := f1.t f2
  have fin : ∀ x : Int32, ((((True ∧ 1 ≤ t) ∧ goesI T (w (T 15 m + t - 1)) 0) ∧ 1 ≤ t - 1) ∧ 64 ≤ w (T 15 m + (t - 1) - 1) ∧ w (T 15 m + (t - 1) - 1) ≤ 97 → x = nI (if w (T 15 m + t - 2) = 97 then 97 else w (T 15 m + t - 2) - 64)) → et (fun K => mp_X8_push σ2 x (fun σ => K 0 σ)) (rZ σ T m c t' w') := by
    intro x hx
    refine et_w (e_pushJ (v := if w (T 15 m + t - 2) = 97 then 97 else w (T 15 m + t - 2) - 64) (hb.v f12) hw hm s2 (fun z => ⟨hx z, ?_⟩)) (fun r σ' q => ?_)
    · have hz := z.1.2
      have hv2 := (hv (T 15 m + t - 2) (by omega)).2
      have e5 := e12 (by omega)
      have z2 := z.2
      rw [e5] at z2
      by_cases c97 : w (T 15 m + t - 2) = 97
      · rw [if_pos c97]; exact v97
      · rw [if_neg c97]
        unfold vt at hv2 ⊢
        omega
    · refine ⟨f12.t q.1, ?_⟩
      rcases q.2 with ⟨q1, q2, q3, q4, q5⟩ | ⟨q1, q2⟩
      · have hz1 := q1.1.1.1.1.2
        have hz := q1.1.1.2
        have e5 := e12 (by omega)
        have hc : c := e1.mpr ⟨by omega, (z0 t hz1 (by omega)).mp q1.1.1.1.2, by have := q1.1.2; rw [e5] at this; exact this⟩
        refine Or.inl ⟨hc, by rw [q2, e2]; exact congrArg nI (by omega), by omega, q4, fun i hi => ?_⟩
        have := q5 i (by omega)
        rw [e3, ← show T 15 m + (t - 1 - 1) = T 15 m + t - 2 by omega]
        rw [show T 15 m + (t - 1 - 1) = T 15 m + t - 2 by omega] at this ⊢
        exact this
      · refine Or.inr ⟨fun hc => q1 ?_, q2⟩
        obtain ⟨h1, h2, h3⟩ := e1.mp hc
        refine ⟨⟨⟨⟨⟨trivial, by omega⟩, (z0 t (by omega) (by omega)).mpr h2⟩, by omega⟩, ?_⟩, by omega⟩
        rw [e12 h1]; exact h3
  by_cases c97 : r = 97
  · refine et_x (fun K q => ⟨fun z => absurd c97 z, fun _ => q⟩) (fin 97 (fun z => ?_))
    have hz := z.1.2
    have e5 := e12 (by omega)
    have hr2 := (hr z.1).1
    rw [e5] at hr2
    have hvv := (hv (T 15 m + t - 2) (by omega)).1
    have := (nI_eq (b := 97) (by omega) (by omega)).mp (hr2.symm.trans c97)
    rw [if_pos this]; rfl
  · refine et_x (fun K q => ⟨fun _ => q, fun z => absurd z c97⟩) (fin (r - 64) (fun z => ?_))
    have hz := z.1.2
    have e5 := e12 (by omega)
    have hr2 := (hr z.1).1
    have z2 := z.2
    rw [e5] at hr2 z2
    have : ¬ w (T 15 m + t - 2) = 97 := fun q => c97 (by rw [hr2, q]; rfl)
    rw [if_neg this, hr2, l_64, nI_sub z2.1]
theorem eX_b3 {σ : sm_S} {T : Nat → Nat → Nat} {b : Nat → Nat} {m p t : Nat} {w : Nat → Nat} (hb : bX σ T b m) (hw : wf T b) (hm : m < T 0 1) (h : gX σ T m t w) (hp1 : T 17 m ≤ p) (hp2 : p < T 17 m + T 18 m) (ho : opT T b (T 15 m) p) (g34 : b p = 34) {c : Prop} {t' : Nat} {w' : Nat → Nat} (hav : avS T b m p t w c t' w') : et (fun K => mp_X8_apply σ (nI (b p)) (nI p) (fun σ => K 0 σ)) (rZ σ T m c t' w') := by
  have w2 := hw.2.1
  have w4 := hw.2.2.2.1
  have w5 := hw.2.2.2.2.1
  obtain ⟨-, -, -, -, y5, y6, h12, y8, y9, y10, y11, y12, -⟩ := hw.2.2.2.2.2.2.2.2.1 m hm
  have hbt : ∀ j, b j < 256 := hb.1.1.2.2.2.2.1
  have s0 : sX σ T m True t w := Or.inl ⟨trivial, h⟩
  have v0 : vt T 0 := Or.inl (by omega)
  have v97 : vt T 97 := Or.inr (Or.inr (Or.inl rfl))
  have k0 : okv T 0 := Or.inr (Or.inl (by decide))
  have k97 : okv T 97 := Or.inr (Or.inr (by decide))
  have hst := h.2.1
  have hv : ∀ i, i < T 15 m + t → w i < 2 ^ 20 ∧ vt T (w i) := fun i hi => by
    have := (h.2.2.2 i hi).2
    refine ⟨?_, this⟩
    unfold vt at this; omega
  have at1 : ∀ K : jk, K (nI (b (p + 1))) σ → mp_X2_at σ (nI (p + 1)) K := fun K q => w_at hb.1.1 (by omega) (fun _ => q) (fun z => absurd z (by omega))
  have at2' : ∀ K : jk, K (nI (b (p + 2))) σ → mp_X2_at σ (nI (p + 2)) K := fun K q => w_at hb.1.1 (by omega) (fun _ => q) (fun z => absurd z (by omega))
  obtain ⟨a1, -, -, -, -, -, -, -, -, a10, -, -, -, -, a15, a16, a17, a18, a19, a20, a21, a22, a23, -, a25, a26, a27⟩ := hav
  have hb1 := hbt (p + 1)
  have hb2 := hbt (p + 2)
  have z0 : ∀ u, 1 ≤ u → u ≤ t → (goesI T (w (T 15 m + u - 1)) 0 ↔ w (T 15 m + u - 1) = 0) := fun u u1 u2 => goesI_0 w2 (hv _ (by omega)).1
  have zT : ∀ u ty, 1 ≤ u → u ≤ t → vt T ty → (goesI T (w (T 15 m + u - 1)) (nI ty) ↔ goesT T (w (T 15 m + u - 1)) ty) := fun u ty u1 u2 hy => goesI_T w2 (hv _ (by omega)).2 (by unfold vt at hy; omega) (by unfold vt at hy; omega)
  have e12 : 2 ≤ t → T 15 m + (t - 1) - 1 = T 15 m + t - 2 := fun _ => by omega
  have hLX := hb.1.2.1
  unfold mp_X8_apply mp_X8_apply_212
  obtain ⟨e1, e2, e3⟩ := a23 g34
  have s29 := h.1
  have b31 := hb.2.2.1
  have l35 := hb.2.2.2
  simp (disch := (first | ((try simp (disch := omega) only [va_up_self, va_up_ne, ne_eq, reduceCtorEq, Nat.reduceEqDiff, not_false_eq_true, l_0, l_2, l_3, l_4, l_5, l_6, l_7, l_8, l_9, l_10, l_11, l_12, l_13, l_14, l_15, l_16, l_17, l_18, l_19, l_20, l_21, l_22, l_23, l_24, l_25, l_26, l_27, l_28, l_29, l_30, l_31, l_32, l_33, l_34, l_35, l_36, l_37, l_38, l_39, l_40, l_41, l_42, l_43, l_44, l_45, l_46, l_47, l_48, l_49, l_50, l_51, l_52, l_53, l_54, l_55, l_56, l_57, l_58, l_59, l_60, l_61, l_62, l_63, l_64, l_97, l_98, l_99, l_200, l_225, l_232, l_255, l_256, l_700, l_1000, l_1024, l_3375, l_4095, l_8000, l_20000, l_60000, vp_nIs, zz0, zz1, e10, nI_leI, nI_ltI, nI_eq, nI_1, nI_1a, nI_add, nI_sub, nI_sub1, pk_mul, nI_clamp, nI_le1, nI_le1', nI_lt1, nI_lt1', nI_eq1, nI_eqm, m1_eqN, m1_le, m1_lt, m1_leN, m1_ltN, nI_am, not_true_eq_false, not_false_eq_true, oN_eqm, hw]) <;> omega) | fail)) only [↓numW, ↓zb_t, ↓zb_f, ↓zb_tt, ↓zb_ff, ↓zb_i, ↓zb_z0, ↓zb_z1, ↓zb_z, ↓zb_l, ↓zb_v, vi32, vi64, true_and, pk_us, Int32.add_zero, Nat.add_sub_cancel, nI_add, nI_1, nI_1a, nI_clamp, k7, k7', k8, k8', k12, k12', k15, k15', k16, k16', nI_sub1, va_up_self, va_up_ne, ne_eq, reduceCtorEq, Nat.reduceEqDiff, not_false_eq_true, hw]
  unfold mp_X8_applyTo
  -- the two that follow
  have rest : ∀ (σ1 : sm_S) (c1 : Prop), fr IvX AvX σ σ1 → sX σ1 T m c1 (t - 1) w → (c ↔ (((c1 ∧ 1 ≤ t - 1) ∧ goesI T (w (T 15 m + (t - 1) - 1)) 0) ∧ 1 ≤ t - 1 - 1) ∧ 64 ≤ w (T 15 m + (t - 1 - 1) - 1) ∧ w (T 15 m + (t - 1 - 1) - 1) ≤ 97) → et (fun K => mp_X8_applyTo_52 (fun σ => K 0 σ) σ1) (rZ σ T m c t' w') := by
    intro σ1 c1 f1 s1 hc
    unfold mp_X8_applyTo_52
    refine et_bv (e_takeFor (hb.v f1) hw hm s1 k0) (fun r σ2 q => ?_)
    obtain ⟨f2, s2⟩ := q
    refine et_b (e_takeRow (hb.v (f1.t f2)) hw hm s2) (fun r σ3 q => ?_)
    refine et_e (((q.1.t (f1.t f2)).c (r := 0) hc.symm (fun z => ?_) (fun _ i _ => by rw [e3])).z)
    have := z.1.2
    omega
  by_cases t3 : 3 ≤ t
  · have ev : T 15 m + t - 3 = T 15 m + (t - 1 - 1) - 1 := by omega
    have hv3 := hv (T 15 m + t - 3) (by omega)
    have r35 := (h.2.2.2 (T 15 m + t - 3) (by omega)).1
    have eI : nI (T 15 m + t) - 3 = nI (T 15 m + t - 3) := by rw [l_3, nI_sub (by omega)]
    simp (disch := (first | ((try simp (disch := omega) only [va_up_self, va_up_ne, ne_eq, reduceCtorEq, Nat.reduceEqDiff, not_false_eq_true, l_0, l_2, l_3, l_4, l_5, l_6, l_7, l_8, l_9, l_10, l_11, l_12, l_13, l_14, l_15, l_16, l_17, l_18, l_19, l_20, l_21, l_22, l_23, l_24, l_25, l_26, l_27, l_28, l_29, l_30, l_31, l_32, l_33, l_34, l_35, l_36, l_37, l_38, l_39, l_40, l_41, l_42, l_43, l_44, l_45, l_46, l_47, l_48, l_49, l_50, l_51, l_52, l_53, l_54, l_55, l_56, l_57, l_58, l_59, l_60, l_61, l_62, l_63, l_64, l_97, l_98, l_99, l_200, l_225, l_232, l_255, l_256, l_700, l_1000, l_1024, l_3375, l_4095, l_8000, l_20000, l_60000, vp_nIs, zz0, zz1, e10, nI_leI, nI_ltI, nI_eq, nI_1, nI_1a, nI_add, nI_sub, nI_sub1, pk_mul, nI_clamp, nI_le1, nI_le1', nI_lt1, nI_lt1', nI_eq1, nI_eqm, m1_eqN, m1_le, m1_lt, m1_leN, m1_ltN, nI_am, not_true_eq_false, not_false_eq_true, oN_eqm, s29, b31, l35, eI, r35]) <;> omega) | fail)) only [↓numW, ↓zb_t, ↓zb_f, ↓zb_tt, ↓zb_ff, ↓zb_i, ↓zb_z0, ↓zb_z1, ↓zb_z, ↓zb_l, ↓zb_v, vi32, vi64, true_and, pk_us, Int32.add_zero, Nat.add_sub_cancel, nI_add, nI_1, nI_1a, nI_clamp, k7, k7', k8, k8', k12, k12', k15, k15', k16, k16', nI_sub1, va_up_self, va_up_ne, ne_eq, reduceCtorEq, Nat.reduceEqDiff, not_false_eq_true, s29, b31, l35, eI, r35]
    unfold mp_X8_applyTo_29
    by_cases c97 : w (T 15 m + t - 3) = 97
    · refine et_x (P2 := fun K => mp_X8_take σ (fun r7 σ6 => mp_X8_applyTo_52 (fun σ => K 0 σ) σ6)) (fun K q => ⟨fun z => absurd (by rw [c97]; rfl) z, fun _ => q⟩) ?_
      refine et_b (e_take hb hw hm s0) (fun r σ1 q => ?_)
      obtain ⟨⟨f1, s1⟩, -⟩ := q
      refine rest σ1 _ f1 s1 ?_
      rw [e1, ← ev, e12 (by omega)]
      have z1 := z0 (t - 1) (by omega) (by omega)
      rw [e12 (by omega)] at z1
      rw [z1]
      exact ⟨fun z => ⟨⟨⟨⟨⟨trivial, by omega⟩, by omega⟩, z.2.1⟩, by omega⟩, z.2.2.1⟩, fun z => ⟨t3, z.1.1.2, z.2, Or.inl c97⟩⟩
    · have n97 : ¬ nI (w (T 15 m + t - 3)) = 97 := fun q => c97 ((nI_eq (b := 97) (by omega) (by omega)).mp q)
      have hok : okv T (nI (w (T 15 m + t - 3)) - 64) := by
        have hv4 := hv3.2
        by_cases c64 : 64 ≤ w (T 15 m + t - 3)
        · rw [l_64, nI_sub c64]
          by_cases cC : w (T 15 m + t - 3) ≤ 64 + T 0 0
          · exact okv_vt w2 (Or.inl (by omega))
          · right; right
            show nI 32 < _
            rw [nI_ltI (by omega) (by unfold vt at hv4; omega)]
            unfold vt at hv4; omega
        · right; left
          have := pk_sneg (a := w (T 15 m + t - 3)) (b := 64) (by omega) (by omega)
          exact Int32.lt_trans this (by decide)
      refine et_x (P2 := fun K => mp_X8_takeFor σ (nI (w (T 15 m + t - 3)) - 64) (fun σ5 => mp_X8_applyTo_52 (fun σ => K 0 σ) σ5)) (fun K q => ⟨fun _ => q, fun z => absurd z n97⟩) ?_
      refine et_bv (e_takeFor hb hw hm s0 hok) (fun r σ1 q => ?_)
      obtain ⟨f1, s1⟩ := q
      refine rest σ1 _ f1 s1 ?_
      rw [e1, ← ev, e12 (by omega)]
      have z1 := z0 (t - 1) (by omega) (by omega)
      rw [e12 (by omega)] at z1
      rw [z1]
      have zg : 64 ≤ w (T 15 m + t - 3) ∧ w (T 15 m + t - 3) ≤ 97 → (goesI T (w (T 15 m + t - 1)) (nI (w (T 15 m + t - 3)) - 64) ↔ goesT T (w (T 15 m + t - 1)) (w (T 15 m + t - 3) - 64)) := fun z => by
        have hv4 := hv3.2
        rw [l_64, nI_sub z.1]
        exact zT t _ (by omega) (by omega) (Or.inl (by unfold vt at hv4; omega))
      constructor
      · intro z
        exact ⟨⟨⟨⟨⟨⟨trivial, by omega⟩, (zg z.2.2.1).mpr (z.2.2.2.elim (fun y => absurd y c97) (fun y => y))⟩, by omega⟩, z.2.1⟩, by omega⟩, z.2.2.1⟩
      · intro z
        exact ⟨t3, z.1.1.2, z.2, Or.inr ((zg z.2).mp z.1.1.1.1.2)⟩
  · simp (disch := (first | ((try simp (disch := omega) only [va_up_self, va_up_ne, ne_eq, reduceCtorEq, Nat.reduceEqDiff, not_false_eq_true, l_0, l_2, l_3, l_4, l_5, l_6, l_7, l_8, l_9, l_10, l_11, l_12, l_13, l_14, l_15, l_16, l_17, l_18, l_19, l_20, l_21, l_22, l_23, l_24, l_25, l_26, l_27, l_28, l_29, l_30, l_31, l_32, l_33, l_34, l_35, l_36, l_37, l_38, l_39, l_40, l_41, l_42, l_43, l_44, l_45, l_46, l_47, l_48, l_49, l_50, l_51, l_52, l_53, l_54, l_55, l_56, l_57, l_58, l_59, l_60, l_61, l_62, l_63, l_64, l_97, l_98, l_99, l_200, l_225, l_232, l_255, l_256, l_700, l_1000, l_1024, l_3375, l_4095, l_8000, l_20000, l_60000, vp_nIs, zz0, zz1, e10, nI_leI, nI_ltI, nI_eq, nI_1, nI_1a, nI_add, nI_sub, nI_sub1, pk_mul, nI_clamp, nI_le1, nI_le1', nI_lt1, nI_lt1', nI_eq1, nI_eqm, m1_eqN, m1_le, m1_lt, m1_leN, m1_ltN, nI_am, not_true_eq_false, not_false_eq_true, oN_eqm, s29, b31, l35]) <;> omega) | fail)) only [↓numW, ↓zb_t, ↓zb_f, ↓zb_tt, ↓zb_ff, ↓zb_i, ↓zb_z0, ↓zb_z1, ↓zb_z, ↓zb_l, ↓zb_v, vi32, vi64, true_and, pk_us, Int32.add_zero, Nat.add_sub_cancel, nI_add, nI_1, nI_1a, nI_clamp, k7, k7', k8, k8', k12, k12', k15, k15', k16, k16', nI_sub1, va_up_self, va_up_ne, ne_eq, reduceCtorEq, Nat.reduceEqDiff, not_false_eq_true, s29, b31, l35]
    unfold mp_X8_applyTo_29
    refine et_x (P2 := fun K => mp_X8_takeFor σ (99 - 64) (fun σ5 => mp_X8_applyTo_52 (fun σ => K 0 σ) σ5)) (fun K q => ⟨fun _ => q, fun z => absurd z (by decide)⟩) ?_
    refine et_bv (e_takeFor hb hw hm s0 (Or.inr (Or.inr (by decide)))) (fun r σ1 q => ?_)
    obtain ⟨f1, s1⟩ := q
    refine rest σ1 _ f1 s1 ?_
    rw [e1]
    exact ⟨fun z => absurd z.1 t3, fun z => by have h1 := z.1.1.1.1.1.2; have h2 := z.1.2; omega⟩
theorem eX_b4 {σ : sm_S} {T : Nat → Nat → Nat} {b : Nat → Nat} {m p t : Nat} {w : Nat → Nat} (hb : bX σ T b m) (hw : wf T b) (hm : m < T 0 1) (h : gX σ T m t w) (hp1 : T 17 m ≤ p) (hp2 : p < T 17 m + T 18 m) (ho : opT T b (T 15 m) p) (hlt : 37 ≤ b p) {c : Prop} {t' : Nat} {w' : Nat → Nat} (hav : avS T b m p t w c t' w') : et (fun K => mp_X8_apply σ (nI (b p)) (nI p) (fun σ => K 0 σ)) (rZ σ T m c t' w') := by
  have w2 := hw.2.1
  have w4 := hw.2.2.2.1
  have w5 := hw.2.2.2.2.1
  obtain ⟨-, -, -, -, y5, y6, h12, y8, y9, y10, y11, y12, -⟩ := hw.2.2.2.2.2.2.2.2.1 m hm
  have hbt : ∀ j, b j < 256 := hb.1.1.2.2.2.2.1
  have s0 : sX σ T m True t w := Or.inl ⟨trivial, h⟩
  have v0 : vt T 0 := Or.inl (by omega)
  have v97 : vt T 97 := Or.inr (Or.inr (Or.inl rfl))
  have k0 : okv T 0 := Or.inr (Or.inl (by decide))
  have k97 : okv T 97 := Or.inr (Or.inr (by decide))
  have hst := h.2.1
  have hv : ∀ i, i < T 15 m + t → w i < 2 ^ 20 ∧ vt T (w i) := fun i hi => by
    have := (h.2.2.2 i hi).2
    refine ⟨?_, this⟩
    unfold vt at this; omega
  have at1 : ∀ K : jk, K (nI (b (p + 1))) σ → mp_X2_at σ (nI (p + 1)) K := fun K q => w_at hb.1.1 (by omega) (fun _ => q) (fun z => absurd z (by omega))
  have at2' : ∀ K : jk, K (nI (b (p + 2))) σ → mp_X2_at σ (nI (p + 2)) K := fun K q => w_at hb.1.1 (by omega) (fun _ => q) (fun z => absurd z (by omega))
  obtain ⟨a1, -, -, -, -, -, -, -, -, a10, -, -, -, -, a15, a16, a17, a18, a19, a20, a21, a22, a23, -, a25, a26, a27⟩ := hav
  have hb1 := hbt (p + 1)
  have hb2 := hbt (p + 2)
  have z0 : ∀ u, 1 ≤ u → u ≤ t → (goesI T (w (T 15 m + u - 1)) 0 ↔ w (T 15 m + u - 1) = 0) := fun u u1 u2 => goesI_0 w2 (hv _ (by omega)).1
  have zT : ∀ u ty, 1 ≤ u → u ≤ t → vt T ty → (goesI T (w (T 15 m + u - 1)) (nI ty) ↔ goesT T (w (T 15 m + u - 1)) ty) := fun u ty u1 u2 hy => goesI_T w2 (hv _ (by omega)).2 (by unfold vt at hy; omega) (by unfold vt at hy; omega)
  have e12 : 2 ≤ t → T 15 m + (t - 1) - 1 = T 15 m + t - 2 := fun _ => by omega
  have hLX := hb.1.2.1
  unfold mp_X8_apply mp_X8_apply_212
  have hop := ho.1
  simp (disch := (first | ((try simp (disch := omega) only [va_up_self, va_up_ne, ne_eq, reduceCtorEq, Nat.reduceEqDiff, not_false_eq_true, l_0, l_2, l_3, l_4, l_5, l_6, l_7, l_8, l_9, l_10, l_11, l_12, l_13, l_14, l_15, l_16, l_17, l_18, l_19, l_20, l_21, l_22, l_23, l_24, l_25, l_26, l_27, l_28, l_29, l_30, l_31, l_32, l_33, l_34, l_35, l_36, l_37, l_38, l_39, l_40, l_41, l_42, l_43, l_44, l_45, l_46, l_47, l_48, l_49, l_50, l_51, l_52, l_53, l_54, l_55, l_56, l_57, l_58, l_59, l_60, l_61, l_62, l_63, l_64, l_97, l_98, l_99, l_200, l_225, l_232, l_255, l_256, l_700, l_1000, l_1024, l_3375, l_4095, l_8000, l_20000, l_60000, vp_nIs, zz0, zz1, e10, nI_leI, nI_ltI, nI_eq, nI_1, nI_1a, nI_add, nI_sub, nI_sub1, pk_mul, nI_clamp, nI_le1, nI_le1', nI_lt1, nI_lt1', nI_eq1, nI_eqm, m1_eqN, m1_le, m1_lt, m1_leN, m1_ltN, nI_am, not_true_eq_false, not_false_eq_true, oN_eqm, hw]) <;> omega) | fail)) only [↓numW, ↓zb_t, ↓zb_f, ↓zb_tt, ↓zb_ff, ↓zb_i, ↓zb_z0, ↓zb_z1, ↓zb_z, ↓zb_l, ↓zb_v, vi32, vi64, true_and, pk_us, Int32.add_zero, Nat.add_sub_cancel, nI_add, nI_1, nI_1a, nI_clamp, k7, k7', k8, k8', k12, k12', k15, k15', k16, k16', nI_sub1, va_up_self, va_up_ne, ne_eq, reduceCtorEq, Nat.reduceEqDiff, not_false_eq_true, hw]
  by_cases g37 : b p = 37
  · obtain ⟨e1, e2, e3⟩ := a25 g37
    have b30 := hb.2.1
    have r23 := (hb.1.2.2.2.2.2.2.2.2 m hm).2.2.2.1
    have ty := ty_le y5 w2
    refine et_x (fun K q => sw_en_37 g37 q) ?_
    unfold mp_X8_applyEnd_56 mp_X8_applyEnd_158
    by_cases c1 : T 14 m = 255
    · simp (disch := (first | ((try simp (disch := omega) only [va_up_self, va_up_ne, ne_eq, reduceCtorEq, Nat.reduceEqDiff, not_false_eq_true, l_0, l_2, l_3, l_4, l_5, l_6, l_7, l_8, l_9, l_10, l_11, l_12, l_13, l_14, l_15, l_16, l_17, l_18, l_19, l_20, l_21, l_22, l_23, l_24, l_25, l_26, l_27, l_28, l_29, l_30, l_31, l_32, l_33, l_34, l_35, l_36, l_37, l_38, l_39, l_40, l_41, l_42, l_43, l_44, l_45, l_46, l_47, l_48, l_49, l_50, l_51, l_52, l_53, l_54, l_55, l_56, l_57, l_58, l_59, l_60, l_61, l_62, l_63, l_64, l_97, l_98, l_99, l_200, l_225, l_232, l_255, l_256, l_700, l_1000, l_1024, l_3375, l_4095, l_8000, l_20000, l_60000, vp_nIs, zz0, zz1, e10, nI_leI, nI_ltI, nI_eq, nI_1, nI_1a, nI_add, nI_sub, nI_sub1, pk_mul, nI_clamp, nI_le1, nI_le1', nI_lt1, nI_lt1', nI_eq1, nI_eqm, m1_eqN, m1_le, m1_lt, m1_leN, m1_ltN, nI_am, not_true_eq_false, not_false_eq_true, oN_eqm, b30, r23, lx23 hLX]) <;> omega) | fail)) only [↓numW, ↓zb_t, ↓zb_f, ↓zb_tt, ↓zb_ff, ↓zb_i, ↓zb_z0, ↓zb_z1, ↓zb_z, ↓zb_l, ↓zb_v, vi32, vi64, true_and, pk_us, Int32.add_zero, Nat.add_sub_cancel, nI_add, nI_1, nI_1a, nI_clamp, k7, k7', k8, k8', k12, k12', k15, k15', k16, k16', nI_sub1, va_up_self, va_up_ne, ne_eq, reduceCtorEq, Nat.reduceEqDiff, not_false_eq_true, b30, r23, lx23 hLX]
      exact et_e (rX.z ⟨(by repeat' (first | exact fr_r | assumption | refine fr.i ?_ (by unfold IvX; omega) | refine fr.u ?_ (by rfl) (by unfold AvX; omega))), (s0.z (d := T 14 m = 255) w2 (fun _ => rfl) (fun q => absurd ⟨trivial, c1⟩ q)).c ⟨fun z => e1.mpr z.2, fun z => ⟨trivial, e1.mp z⟩⟩ (fun _ => e2.symm) (fun _ i _ => by rw [e3])⟩)
    · simp (disch := (first | ((try simp (disch := omega) only [va_up_self, va_up_ne, ne_eq, reduceCtorEq, Nat.reduceEqDiff, not_false_eq_true, l_0, l_2, l_3, l_4, l_5, l_6, l_7, l_8, l_9, l_10, l_11, l_12, l_13, l_14, l_15, l_16, l_17, l_18, l_19, l_20, l_21, l_22, l_23, l_24, l_25, l_26, l_27, l_28, l_29, l_30, l_31, l_32, l_33, l_34, l_35, l_36, l_37, l_38, l_39, l_40, l_41, l_42, l_43, l_44, l_45, l_46, l_47, l_48, l_49, l_50, l_51, l_52, l_53, l_54, l_55, l_56, l_57, l_58, l_59, l_60, l_61, l_62, l_63, l_64, l_97, l_98, l_99, l_200, l_225, l_232, l_255, l_256, l_700, l_1000, l_1024, l_3375, l_4095, l_8000, l_20000, l_60000, vp_nIs, zz0, zz1, e10, nI_leI, nI_ltI, nI_eq, nI_1, nI_1a, nI_add, nI_sub, nI_sub1, pk_mul, nI_clamp, nI_le1, nI_le1', nI_lt1, nI_lt1', nI_eq1, nI_eqm, m1_eqN, m1_le, m1_lt, m1_leN, m1_ltN, nI_am, not_true_eq_false, not_false_eq_true, oN_eqm, b30, r23, lx23 hLX]) <;> omega) | fail)) only [↓numW, ↓zb_t, ↓zb_f, ↓zb_tt, ↓zb_ff, ↓zb_i, ↓zb_z0, ↓zb_z1, ↓zb_z, ↓zb_l, ↓zb_v, vi32, vi64, true_and, pk_us, Int32.add_zero, Nat.add_sub_cancel, nI_add, nI_1, nI_1a, nI_clamp, k7, k7', k8, k8', k12, k12', k15, k15', k16, k16', nI_sub1, va_up_self, va_up_ne, ne_eq, reduceCtorEq, Nat.reduceEqDiff, not_false_eq_true, b30, r23, lx23 hLX]
      exact et_e (rX.z ⟨(by repeat' (first | exact fr_r | assumption | refine fr.i ?_ (by unfold IvX; omega) | refine fr.u ?_ (by rfl) (by unfold AvX; omega))), (s0.z (d := T 14 m = 255) w2 (fun q => absurd q.2 c1) (fun _ => rfl)).c ⟨fun z => e1.mpr z.2, fun z => ⟨trivial, e1.mp z⟩⟩ (fun _ => e2.symm) (fun _ i _ => by rw [e3])⟩)
  by_cases g38 : b p = 38
  · obtain ⟨e1, e2, e3⟩ := a26 g38
    have b30 := hb.2.1
    have r23 := (hb.1.2.2.2.2.2.2.2.2 m hm).2.2.2.1
    have ty := ty_le y5 w2
    refine et_x (fun K q => sw_en_38 g38 q) ?_
    unfold mp_X8_applyEnd_86 mp_X8_applyEnd_158
    by_cases c1 : T 14 m = 255
    · have s1 : sX (sm_i σ 33 0) T m (True ∧ T 14 m ≠ 255) t w := s0.z w2 (fun q => absurd c1 q.2) (fun _ => rfl)
      have ok : okv T (nI (T 14 m)) := by rw [c1]; exact Or.inr (Or.inr (by decide))
      simp (disch := (first | ((try simp (disch := omega) only [va_up_self, va_up_ne, ne_eq, reduceCtorEq, Nat.reduceEqDiff, not_false_eq_true, l_0, l_2, l_3, l_4, l_5, l_6, l_7, l_8, l_9, l_10, l_11, l_12, l_13, l_14, l_15, l_16, l_17, l_18, l_19, l_20, l_21, l_22, l_23, l_24, l_25, l_26, l_27, l_28, l_29, l_30, l_31, l_32, l_33, l_34, l_35, l_36, l_37, l_38, l_39, l_40, l_41, l_42, l_43, l_44, l_45, l_46, l_47, l_48, l_49, l_50, l_51, l_52, l_53, l_54, l_55, l_56, l_57, l_58, l_59, l_60, l_61, l_62, l_63, l_64, l_97, l_98, l_99, l_200, l_225, l_232, l_255, l_256, l_700, l_1000, l_1024, l_3375, l_4095, l_8000, l_20000, l_60000, vp_nIs, zz0, zz1, e10, nI_leI, nI_ltI, nI_eq, nI_1, nI_1a, nI_add, nI_sub, nI_sub1, pk_mul, nI_clamp, nI_le1, nI_le1', nI_lt1, nI_lt1', nI_eq1, nI_eqm, m1_eqN, m1_le, m1_lt, m1_leN, m1_ltN, nI_am, not_true_eq_false, not_false_eq_true, oN_eqm, b30, r23, lx23 hLX]) <;> omega) | fail)) only [↓numW, ↓zb_t, ↓zb_f, ↓zb_tt, ↓zb_ff, ↓zb_i, ↓zb_z0, ↓zb_z1, ↓zb_z, ↓zb_l, ↓zb_v, vi32, vi64, true_and, pk_us, Int32.add_zero, Nat.add_sub_cancel, nI_add, nI_1, nI_1a, nI_clamp, k7, k7', k8, k8', k12, k12', k15, k15', k16, k16', nI_sub1, va_up_self, va_up_ne, ne_eq, reduceCtorEq, Nat.reduceEqDiff, not_false_eq_true, b30, r23, lx23 hLX]
      exact et_w (e_takeFor (hb.v (by repeat' (first | exact fr_r | assumption | refine fr.i ?_ (by unfold IvX; omega) | refine fr.u ?_ (by rfl) (by unfold AvX; omega)))) hw hm s1 ok) (fun r σ' q => ((q.t (by repeat' (first | exact fr_r | assumption | refine fr.i ?_ (by unfold IvX; omega) | refine fr.u ?_ (by rfl) (by unfold AvX; omega)))).c ⟨fun z => absurd c1 z.1.1.2, fun z => absurd c1 (e1.mp z).1⟩ (fun z => absurd c1 z.1.1.2) (fun _ i _ => by rw [e3])).z)
    · have s1 : sX (sm_i σ 33 1) T m (True ∧ T 14 m ≠ 255) t w := s0.z w2 (fun _ => rfl) (fun q => absurd ⟨trivial, c1⟩ q)
      have vg := vt_g y5 c1
      simp (disch := (first | ((try simp (disch := omega) only [va_up_self, va_up_ne, ne_eq, reduceCtorEq, Nat.reduceEqDiff, not_false_eq_true, l_0, l_2, l_3, l_4, l_5, l_6, l_7, l_8, l_9, l_10, l_11, l_12, l_13, l_14, l_15, l_16, l_17, l_18, l_19, l_20, l_21, l_22, l_23, l_24, l_25, l_26, l_27, l_28, l_29, l_30, l_31, l_32, l_33, l_34, l_35, l_36, l_37, l_38, l_39, l_40, l_41, l_42, l_43, l_44, l_45, l_46, l_47, l_48, l_49, l_50, l_51, l_52, l_53, l_54, l_55, l_56, l_57, l_58, l_59, l_60, l_61, l_62, l_63, l_64, l_97, l_98, l_99, l_200, l_225, l_232, l_255, l_256, l_700, l_1000, l_1024, l_3375, l_4095, l_8000, l_20000, l_60000, vp_nIs, zz0, zz1, e10, nI_leI, nI_ltI, nI_eq, nI_1, nI_1a, nI_add, nI_sub, nI_sub1, pk_mul, nI_clamp, nI_le1, nI_le1', nI_lt1, nI_lt1', nI_eq1, nI_eqm, m1_eqN, m1_le, m1_lt, m1_leN, m1_ltN, nI_am, not_true_eq_false, not_false_eq_true, oN_eqm, b30, r23, lx23 hLX]) <;> omega) | fail)) only [↓numW, ↓zb_t, ↓zb_f, ↓zb_tt, ↓zb_ff, ↓zb_i, ↓zb_z0, ↓zb_z1, ↓zb_z, ↓zb_l, ↓zb_v, vi32, vi64, true_and, pk_us, Int32.add_zero, Nat.add_sub_cancel, nI_add, nI_1, nI_1a, nI_clamp, k7, k7', k8, k8', k12, k12', k15, k15', k16, k16', nI_sub1, va_up_self, va_up_ne, ne_eq, reduceCtorEq, Nat.reduceEqDiff, not_false_eq_true, b30, r23, lx23 hLX]
      exact et_w (e_takeFor (hb.v (by repeat' (first | exact fr_r | assumption | refine fr.i ?_ (by unfold IvX; omega) | refine fr.u ?_ (by rfl) (by unfold AvX; omega)))) hw hm s1 (okv_vt w2 vg)) (fun r σ' q => ((q.t (by repeat' (first | exact fr_r | assumption | refine fr.i ?_ (by unfold IvX; omega) | refine fr.u ?_ (by rfl) (by unfold AvX; omega)))).c ⟨fun z => e1.mpr ⟨c1, z.1.2, (zT t _ z.1.2 (by omega) vg).mp z.2⟩, fun z => by have := e1.mp z; exact ⟨⟨⟨trivial, c1⟩, this.2.1⟩, (zT t _ this.2.1 (by omega) vg).mpr this.2.2⟩⟩ (fun _ => e2.symm) (fun _ i _ => by rw [e3])).z)
  by_cases g39 : b p = 39
  · obtain ⟨e1, e2, e3⟩ := a27 g39
    refine et_x (fun K q => sw_en_39 g39 q) ?_
    refine et_b (e_take hb hw hm s0) (fun r σ1 q => ?_)
    obtain ⟨⟨f1, s1⟩, ok, hr⟩ := q
    have hf := s1.f
    have fin : ∀ y : Int32, (y = 0 ∨ y = 1) → (c → y = 1) → (¬ c → y = 0) → et (fun K => mp_X8_applyEnd_139 (fun σ => K 0 σ) σ1 y) (rZ σ T m c t' w') := by
      intro y hy h1 h0
      have hz : sm_z y := by
        rcases hy with e | e
        · rw [e]; exact sm_z0
        · rw [e]; exact sm_z1
      unfold mp_X8_applyEnd_139 mp_X8_applyEnd_158
      have hcc : c ↔ (True ∧ 1 ≤ t) ∧ ((1 ≤ w (T 15 m + t - 1) ∧ w (T 15 m + t - 1) ≤ 32) ∨ w (T 15 m + t - 1) = 97) := by rw [e1]; exact ⟨fun z => ⟨⟨trivial, z.1⟩, z.2⟩, fun z => ⟨z.1.2, z.2⟩⟩
      refine et_x (fun K z => ⟨hz, fun σ2 e => ?_⟩) (et_e (r := 0) (σ := sm_i σ1 33 y) (rX.z ⟨f1.t (by repeat' (first | exact fr_r | assumption | refine fr.i ?_ (by unfold IvX; omega) | refine fr.u ?_ (by rfl) (by unfold AvX; omega))), (s1.z (d := (1 ≤ w (T 15 m + t - 1) ∧ w (T 15 m + t - 1) ≤ 32) ∨ w (T 15 m + t - 1) = 97) w2 (fun z => h1 (hcc.mpr z)) (fun z => h0 (fun y => z (hcc.mp y)))).c hcc.symm (fun _ => e2.symm) (fun _ i _ => by rw [e3])⟩))
      rw [e]; exact z
    by_cases t1 : 1 ≤ t
    · have ne : ¬ σ1.1 33 = 0 := by rw [hf.1 ⟨trivial, t1⟩]; decide
      obtain ⟨er, ev⟩ := hr ⟨trivial, t1⟩
      have hvv := hv (T 15 m + t - 1) (by omega)
      by_cases c1 : 1 ≤ w (T 15 m + t - 1) ∧ w (T 15 m + t - 1) ≤ 32
      · refine et_x (fun K q => ⟨fun z => absurd z ne, fun _ => w_isClass (fun _ _ => ⟨fun _ => q, fun z => absurd z (by decide)⟩) (fun z => ?_)⟩) (fin 1 (Or.inr rfl) (fun _ => rfl) (fun z => absurd (e1.mpr ⟨t1, Or.inl c1⟩) z))
        rw [er] at z
        exfalso
        rcases z with z | z
        · have := (nI_lt1' (by omega)).mp z; omega
        · have := (nI_ltI (a := 32) (by omega) (by omega)).mp z; omega
      · by_cases c97 : w (T 15 m + t - 1) = 97
        · refine et_x (fun K q => ⟨fun z => absurd z ne, fun _ => w_isClass (fun _ _ => ⟨fun _ => q, fun z => absurd z (by decide)⟩) (fun _ => ⟨fun z => absurd rfl z, fun _ => ⟨fun z => absurd (by rw [er, c97]; rfl) z, fun _ => q⟩⟩)⟩) (fin 1 (Or.inr rfl) (fun _ => rfl) (fun z => absurd (e1.mpr ⟨t1, Or.inr c97⟩) z))
        · refine et_x (fun K q => ⟨fun z => absurd z ne, fun _ => w_isClass (fun z1 z2 => ?_) (fun _ => ⟨fun z => absurd rfl z, fun _ => ⟨fun _ => q, fun z => ?_⟩⟩)⟩) (fin 0 (Or.inl rfl) (fun z => by have := (e1.mp z).2; omega) (fun _ => rfl))
          · rw [er] at z1 z2
            exfalso
            apply c1
            constructor
            · exact Classical.byContradiction (fun y => z1 ((nI_lt1' (by omega)).mpr (by omega)))
            · exact Classical.byContradiction (fun y => z2 ((nI_ltI (a := 32) (by omega) (by omega)).mpr (by omega)))
          · rw [er] at z
            exact absurd ((nI_eq (b := 97) (by omega) (by omega)).mp z) c97
    · have g0 := hf.2 (fun z => t1 z.2)
      exact et_x (fun K q => ⟨fun _ => q, fun z => absurd g0 z⟩) (fin 0 (Or.inl rfl) (fun z => absurd (e1.mp z).1 t1) (fun _ => rfl))
  by_cases g40 : b p = 40
  · obtain ⟨e1, e2, e3⟩ := a1 (Or.inr g40)
    refine et_x (fun K q => sw_en_40 g40 q) ?_
    unfold mp_X8_applyEnd_158
    exact et_w (e_push (v := 0) hb hw hm s0 k0 (fun _ => ⟨rfl, v0⟩)) (fun r σ' q => (q.c ⟨fun z => e1.mpr z.2, fun z => ⟨trivial, e1.mp z⟩⟩ (fun _ => e2.symm) (fun _ i _ => by rw [e3])).z)
  obtain ⟨e1, e2, e3⟩ := a10 (Or.inr (by omega))
  refine et_x (fun K q => sw_en_d (by omega) q) ?_
  unfold mp_X8_applyEnd_158
  exact et_w (e_takeFor hb hw hm s0 k0) (fun r σ' q => (q.c ⟨fun z => e1.mpr ⟨z.1.2, (z0 t z.1.2 (by omega)).mp z.2⟩, fun z => by have := e1.mp z; exact ⟨⟨trivial, this.1⟩, (z0 t this.1 (by omega)).mpr this.2⟩⟩ (fun _ => e2.symm) (fun _ i _ => by rw [e3])).z)
