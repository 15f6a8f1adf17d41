/-! ===== come, the reference ===== -/
def IwM (k : Nat) : Prop := k = 10
def AwM (r _ : Nat) : Prop := r = 21 ∨ r = 22 ∨ r = 23
def chg (T : Nat → Nat → Nat) (p n : Nat) (h ty w : Nat → Nat) : Prop := h p = 0 ∨ ∃ i, i < n ∧ nwT T p h ty w i ≠ ty (12 * p + i)
def rkM (μ0 : sm_S) (T : Nat → Nat → Nat) (lo p t : Nat) (h ty w : Nat → Nat) (r : Int32) (μ' : sm_S) : Prop := fr IwM AwM μ0 μ' ∧ ((¬ cbd T lo p t h ty w ∧ r = 1 ∧ μ'.1 10 = μ0.1 10 ∧ μ'.2.2.2.1 21 = upd (μ0.2.2.2.1 21) p (nI t) ∧ μ'.2.2.2.1 22 = tp_row (μ0.2.2.2.1 22) (12 * p) (lo + t) (fun k => nI (nwT T p h ty w k)) ∧ ((chg T p (lo + t) h ty w ∧ μ'.2.2.2.1 23 = upd (μ0.2.2.2.1 23) p 1) ∨ (¬ chg T p (lo + t) h ty w ∧ μ'.2.2.2.1 23 = μ0.2.2.2.1 23))) ∨ (cbd T lo p t h ty w ∧ r = 0 ∧ μ'.1 10 = nI p))
theorem imM.w {μ μ' : sm_S} {T : Nat → Nat → Nat} {b : Nat → Nat} (h : imM μ T b) (hX : fr IwM AwM μ μ') : imM μ' T b := h.f hX (fun k q => by unfold IwM; omega) (fun r j a c => by unfold AwM; omega)
theorem l_come62 {μ0 : sm_S} {T : Nat → Nat → Nat} {lo p t : Nat} {w : Nat → Nat} (hp : p < 8000) (h12 : lo + t ≤ 12) (s9 : μ0.1 9 = nI t) (l24 : μ0.2.2.1 24 = 12) (l22 : μ0.2.2.1 22 = 96000) (l23 : μ0.2.2.1 23 = 8000) (hr : ∀ i, i < lo + t → μ0.2.2.2.1 24 i = nI (w i) ∧ w i ≤ 99) :
    ∀ (d i : Nat) (K : jk), i + d = lo + t → K 1 (sm_r (sm_r μ0 22 (tp_row (μ0.2.2.2.1 22) (12 * p) (lo + t) (fun k => nI (w k)))) 23 (upd (μ0.2.2.2.1 23) p 1)) → mp_X12_come_62 K (d + 1) (sm_r μ0 22 (tp_row (μ0.2.2.2.1 22) (12 * p) i (fun k => nI (w k)))) (nI lo) (nI p) (nI i) := by
  intro d
  induction d with
  | zero =>
    intro i K hid hK
    have e : i = lo + t := by omega
    subst e
    unfold mp_X12_come_62
    simp (disch := (first | ((try simp (disch := omega) only [va_up_self, va_up_ne, ne_eq, reduceCtorEq, Nat.reduceEqDiff, not_false_eq_true, l_0, l_2, l_3, l_4, l_5, l_6, l_7, l_8, l_9, l_10, l_11, l_12, l_13, l_14, l_15, l_16, l_17, l_18, l_19, l_20, l_21, l_22, l_23, l_24, l_25, l_26, l_27, l_28, l_29, l_30, l_31, l_32, l_33, l_34, l_35, l_36, l_37, l_38, l_39, l_40, l_41, l_42, l_43, l_44, l_45, l_46, l_47, l_48, l_49, l_50, l_51, l_52, l_53, l_54, l_55, l_56, l_57, l_58, l_59, l_60, l_61, l_62, l_63, l_64, l_97, l_98, l_99, l_200, l_225, l_232, l_255, l_256, l_700, l_1000, l_1024, l_3375, l_4095, l_8000, l_20000, l_60000, vp_nIs, zz0, zz1, e10, nI_leI, nI_ltI, nI_eq, nI_1, nI_1a, nI_add, nI_sub, nI_sub1, pk_mul, nI_clamp, nI_le1, nI_le1', nI_lt1, nI_lt1', nI_eq1, nI_eqm, m1_eqN, m1_le, m1_lt, m1_leN, m1_ltN, nI_am, not_true_eq_false, not_false_eq_true, oN_eqm, s9, l23]) <;> omega) | fail)) only [↓numW, ↓zb_t, ↓zb_f, ↓zb_tt, ↓zb_ff, ↓zb_i, ↓zb_z0, ↓zb_z1, ↓zb_z, ↓zb_l, ↓zb_v, vi32, vi64, true_and, pk_us, Int32.add_zero, Nat.add_sub_cancel, nI_add, nI_1, nI_1a, nI_clamp, k7, k7', k8, k8', k12, k12', k15, k15', k16, k16', nI_sub1, va_up_self, va_up_ne, ne_eq, reduceCtorEq, Nat.reduceEqDiff, not_false_eq_true, s9, l23]
    exact hK
  | succ d ih =>
    intro i K hid hK
    have := ih (i + 1) K (by omega) hK
    obtain ⟨r24, hwi⟩ := hr i (by omega)
    unfold mp_X12_come_62
    simp (disch := (first | ((try simp (disch := omega) only [va_up_self, va_up_ne, ne_eq, reduceCtorEq, Nat.reduceEqDiff, not_false_eq_true, l_0, l_2, l_3, l_4, l_5, l_6, l_7, l_8, l_9, l_10, l_11, l_12, l_13, l_14, l_15, l_16, l_17, l_18, l_19, l_20, l_21, l_22, l_23, l_24, l_25, l_26, l_27, l_28, l_29, l_30, l_31, l_32, l_33, l_34, l_35, l_36, l_37, l_38, l_39, l_40, l_41, l_42, l_43, l_44, l_45, l_46, l_47, l_48, l_49, l_50, l_51, l_52, l_53, l_54, l_55, l_56, l_57, l_58, l_59, l_60, l_61, l_62, l_63, l_64, l_97, l_98, l_99, l_200, l_225, l_232, l_255, l_256, l_700, l_1000, l_1024, l_3375, l_4095, l_8000, l_20000, l_60000, vp_nIs, zz0, zz1, e10, nI_leI, nI_ltI, nI_eq, nI_1, nI_1a, nI_add, nI_sub, nI_sub1, pk_mul, nI_clamp, nI_le1, nI_le1', nI_lt1, nI_lt1', nI_eq1, nI_eqm, m1_eqN, m1_le, m1_lt, m1_leN, m1_ltN, nI_am, not_true_eq_false, not_false_eq_true, oN_eqm, s9, l22, l24, r24, nb8' (show w i < 128 by omega)]) <;> omega) | fail)) only [↓numW, ↓zb_t, ↓zb_f, ↓zb_tt, ↓zb_ff, ↓zb_i, ↓zb_z0, ↓zb_z1, ↓zb_z, ↓zb_l, ↓zb_v, vi32, vi64, true_and, pk_us, Int32.add_zero, Nat.add_sub_cancel, nI_add, nI_1, nI_1a, nI_clamp, k7, k7', k8, k8', k12, k12', k15, k15', k16, k16', nI_sub1, va_up_self, va_up_ne, ne_eq, reduceCtorEq, Nat.reduceEqDiff, not_false_eq_true, s9, l22, l24, r24, nb8' (show w i < 128 by omega)]
    rw [tp_row1 (μ0.2.2.2.1 22) (12 * p) i _ rfl, sx_rr]
    exact this
theorem l_come135 {μ0 : sm_S} {T : Nat → Nat → Nat} {b : Nat → Nat} {lo p t mk : Nat} {h ty w : Nat → Nat} (hi : imM μ0 T b) (hw : wf T b) (h4 : μ0.1 4 = 1) (hp : p < 8000) (h12 : lo + t ≤ 12) (s9 : μ0.1 9 = nI t) (l24 : μ0.2.2.1 24 = 12) (l22 : μ0.2.2.1 22 = 96000) (l23 : μ0.2.2.1 23 = 8000) (l21 : μ0.2.2.1 21 = 8000) (hp0 : h p ≠ 0) (r23 : μ0.2.2.2.1 23 p = nI mk) (hmk : mk ≤ 1) (hh : μ0.2.2.2.1 21 p = nI t) (hht : h p = t + 1)
    (hr : ∀ i, i < lo + t → μ0.2.2.2.1 24 i = nI (w i) ∧ vt T (w i)) (hty : ∀ i, i < lo + t → μ0.2.2.2.1 22 (12 * p + i) = nI (ty (12 * p + i)) ∧ vt T (ty (12 * p + i))) :
    ∀ (d i : Nat) (X : Nat → Int32), i + d = lo + t → (∀ k, lo ≤ k → k < i → nwT T p h ty w k ≠ 99) → ((∃ k, k < i ∧ nwT T p h ty w k ≠ ty (12 * p + k)) ∧ X = upd (μ0.2.2.2.1 23) p 1 ∨ (¬ ∃ k, k < i ∧ nwT T p h ty w k ≠ ty (12 * p + k)) ∧ X = μ0.2.2.2.1 23) →
      et (fun K => mp_X12_come_135 K (d + 1) (sm_r (sm_r μ0 23 X) 22 (tp_row (μ0.2.2.2.1 22) (12 * p) i (fun k => nI (nwT T p h ty w k)))) (nI lo) (nI p) (nI i)) (rkM μ0 T lo p t h ty w) := by
  have w2 := hw.2.1
  intro d
  induction d with
  | zero =>
    intro i X hid hno hX
    have e : i = lo + t := by omega
    subst e
    unfold mp_X12_come_135
    simp (disch := (first | ((try simp (disch := omega) only [va_up_self, va_up_ne, ne_eq, reduceCtorEq, Nat.reduceEqDiff, not_false_eq_true, l_0, l_2, l_3, l_4, l_5, l_6, l_7, l_8, l_9, l_10, l_11, l_12, l_13, l_14, l_15, l_16, l_17, l_18, l_19, l_20, l_21, l_22, l_23, l_24, l_25, l_26, l_27, l_28, l_29, l_30, l_31, l_32, l_33, l_34, l_35, l_36, l_37, l_38, l_39, l_40, l_41, l_42, l_43, l_44, l_45, l_46, l_47, l_48, l_49, l_50, l_51, l_52, l_53, l_54, l_55, l_56, l_57, l_58, l_59, l_60, l_61, l_62, l_63, l_64, l_97, l_98, l_99, l_200, l_225, l_232, l_255, l_256, l_700, l_1000, l_1024, l_3375, l_4095, l_8000, l_20000, l_60000, vp_nIs, zz0, zz1, e10, nI_leI, nI_ltI, nI_eq, nI_1, nI_1a, nI_add, nI_sub, nI_sub1, pk_mul, nI_clamp, nI_le1, nI_le1', nI_lt1, nI_lt1', nI_eq1, nI_eqm, m1_eqN, m1_le, m1_lt, m1_leN, m1_ltN, nI_am, not_true_eq_false, not_false_eq_true, oN_eqm, s9]) <;> omega) | fail)) only [↓numW, ↓zb_t, ↓zb_f, ↓zb_tt, ↓zb_ff, ↓zb_i, ↓zb_z0, ↓zb_z1, ↓zb_z, ↓zb_l, ↓zb_v, vi32, vi64, true_and, pk_us, Int32.add_zero, Nat.add_sub_cancel, nI_add, nI_1, nI_1a, nI_clamp, k7, k7', k8, k8', k12, k12', k15, k15', k16, k16', nI_sub1, va_up_self, va_up_ne, ne_eq, reduceCtorEq, Nat.reduceEqDiff, not_false_eq_true, s9]
    refine et_e ⟨(fr_r.w (fun j q => absurd (by unfold AwM; omega) q)).w (fun j q => absurd (by unfold AwM; omega) q), Or.inl ⟨fun z => ?_, rfl, rfl, ?_, sx_rs, ?_⟩⟩
    · rcases z with z | ⟨k, k1, k2, k3⟩
      · exact z.2 hht
      · exact hno k k1 k2 k3
    · rw [upd_id hh]; rfl
    · rcases hX with ⟨x1, x2⟩ | ⟨x1, x2⟩
      · exact Or.inl ⟨Or.inr x1, x2⟩
      · exact Or.inr ⟨fun z => z.elim hp0 x1, x2⟩
  | succ d ih =>
    intro i X hid hno hX
    have hii : i < lo + t := by omega
    obtain ⟨r24, vi⟩ := hr i hii
    obtain ⟨rt, vt'⟩ := hty i hii
    have htl : ty (12 * p + i) ≤ 99 := by unfold vt at vt'; omega
    have en : nwT T p h ty w i = meetT T (ty (12 * p + i)) (w i) := by unfold nwT; rw [if_neg hp0]
    have hnw := meet_le hw vt' vi
    rw [← en] at hnw
    obtain ⟨μ1, e1⟩ : ∃ μ1, μ1 = sm_r (sm_r μ0 23 X) 22 (tp_row (μ0.2.2.2.1 22) (12 * p) i (fun k => nI (nwT T p h ty w k))) := ⟨_, rfl⟩
    have f1 : fr IwM AwM μ0 μ1 := by rw [e1]; exact (fr_r.w (fun j q => absurd (by unfold AwM; omega) q)).w (fun j q => absurd (by unfold AwM; omega) q)
    have g9 : μ1.1 9 = nI t := by rw [e1]; exact s9
    have g4 : μ1.1 4 = 1 := by rw [e1]; exact h4
    have k24 : μ1.2.2.1 24 = 12 := by rw [e1]; exact l24
    have k22 : μ1.2.2.1 22 = 96000 := by rw [e1]; exact l22
    have k23 : μ1.2.2.1 23 = 8000 := by rw [e1]; exact l23
    have v22 : μ1.2.2.2.1 22 (12 * p + i) = nI (ty (12 * p + i)) := by rw [e1, sx_rs, tp_ou (by omega)]; exact rt
    have v24 : μ1.2.2.2.1 24 i = nI (w i) := by rw [e1]; exact r24
    have v23 : μ1.2.2.2.1 23 = X := by rw [e1]; rfl
    have i1 : imM μ1 T b := hi.w f1
    -- on with y
    have nx : ∀ y : Nat, y ≤ 1 → ((∃ k, k < i + 1 ∧ nwT T p h ty w k ≠ ty (12 * p + k)) ∧ upd X p (nI y) = upd (μ0.2.2.2.1 23) p 1 ∨ (¬ ∃ k, k < i + 1 ∧ nwT T p h ty w k ≠ ty (12 * p + k)) ∧ upd X p (nI y) = μ0.2.2.2.1 23) → (lo ≤ i → nwT T p h ty w i ≠ 99) → et (fun K => mp_X12_come_135 K (d + 1) (sm_r (sm_r μ1 23 (upd X p (nI y))) 22 (upd (μ1.2.2.2.1 22) (12 * p + i) (nI (nwT T p h ty w i)))) (nI lo) (nI p) (nI (i + 1))) (rkM μ0 T lo p t h ty w) := by
      intro y hy hx h99
      have := ih (i + 1) (upd X p (nI y)) (by omega) (fun k k1 k2 => by
        by_cases e : k = i
        · rw [e]; exact h99 (by omega)
        · exact hno k k1 (by omega)) hx
      have e2 : sm_r (sm_r μ1 23 (upd X p (nI y))) 22 (upd (μ1.2.2.2.1 22) (12 * p + i) (nI (nwT T p h ty w i))) = sm_r (sm_r μ0 23 (upd X p (nI y))) 22 (tp_row (μ0.2.2.2.1 22) (12 * p) (i + 1) (fun k => nI (nwT T p h ty w k))) := by
        rw [e1, sx_rs, tp_row1 (μ0.2.2.2.1 22) (12 * p) i _ rfl, sx_r4 _ _ _ _ _ (by decide)]
      rw [e2]
      exact this
    have uu : ∀ (f : Nat → Int32) (a c : Int32), upd (upd f p a) p c = upd f p c := fun f a c => by
      funext j
      unfold upd
      by_cases e : j = p
      · rw [if_pos e, if_pos e]
      · rw [if_neg e, if_neg e, if_neg e]
    have k197 : (lo ≤ i → nwT T p h ty w i ≠ 99) → et (fun K => mp_X12_come_197 (mp_X12_come_135 K (d + 1)) K μ1 (nI lo) (nI p) (nI i) (nI (ty (12 * p + i))) (nI (nwT T p h ty w i))) (rkM μ0 T lo p t h ty w) := by
      intro h99
      unfold mp_X12_come_197 mp_X12_come_220 mp_X12_come_225
      have nb := nb8' (show nwT T p h ty w i < 128 by omega)
      have vb1 : vp_nar .boolean 1 = (1 : Int32) := rfl
      have vb0 : vp_nar .boolean 0 = (0 : Int32) := rfl
      -- with 1
      have go1 : (nwT T p h ty w i ≠ ty (12 * p + i) ∨ X = upd (μ0.2.2.2.1 23) p 1 ∧ (∃ k, k < i ∧ nwT T p h ty w k ≠ ty (12 * p + k)) ∨ X p = 1) → et (fun K => mp_X12_come_135 K (d + 1) (sm_r (sm_r μ1 23 (upd X p (nI 1))) 22 (upd (μ1.2.2.2.1 22) (12 * p + i) (nI (nwT T p h ty w i)))) (nI lo) (nI p) (nI (i + 1))) (rkM μ0 T lo p t h ty w) := by
        intro hz
        refine nx 1 (by omega) ?_ h99
        rcases hX with ⟨⟨k, x1, x1'⟩, x2⟩ | ⟨x1, x2⟩
        · exact Or.inl ⟨⟨k, by omega, x1'⟩, by rw [x2, uu]; rfl⟩
        · by_cases ce : nwT T p h ty w i = ty (12 * p + i)
          · have xp : X p = 1 := by
              rcases hz with z | z | z
              · exact absurd ce z
              · exact absurd z.2 x1
              · exact z
            refine Or.inr ⟨fun ⟨k, k1, k2⟩ => ?_, ?_⟩
            · by_cases ek : k = i
              · rw [ek] at k2; exact k2 ce
              · exact x1 ⟨k, by omega, k2⟩
            · rw [upd_id (show X p = nI 1 from xp)]; exact x2
          · exact Or.inl ⟨⟨i, by omega, ce⟩, by rw [x2]; rfl⟩
      by_cases cx : X p = 0
      · have xm : ¬ (∃ k, k < i ∧ nwT T p h ty w k ≠ ty (12 * p + k)) ∧ X = μ0.2.2.2.1 23 := by
          rcases hX with ⟨x1, x2⟩ | x
          · rw [x2, pk_us] at cx; exact absurd cx (by decide)
          · exact x
        have cx' : μ1.2.2.2.1 23 p = 0 := by rw [v23]; exact cx
        by_cases ce : nwT T p h ty w i = ty (12 * p + i)
        · have := nx 0 (by omega) (Or.inr ⟨fun ⟨k, k1, k2⟩ => by
            by_cases ek : k = i
            · rw [ek] at k2; exact k2 ce
            · exact xm.1 ⟨k, by omega, k2⟩, by rw [upd_id (show X p = nI 0 from cx)]; exact xm.2⟩) h99
          refine et_x (fun K q => ⟨by rw [k23]; exact vp_in_nI (by omega) (by decide), fun z => ?_, fun _ => ⟨fun _ => ?_, fun z => absurd (by rw [ce]) z⟩⟩) this
          · rw [nI_clamp (by omega)] at z; exact absurd cx' z
          · simp (disch := (first | ((try simp (disch := omega) only [va_up_self, va_up_ne, ne_eq, reduceCtorEq, Nat.reduceEqDiff, not_false_eq_true, l_0, l_2, l_3, l_4, l_5, l_6, l_7, l_8, l_9, l_10, l_11, l_12, l_13, l_14, l_15, l_16, l_17, l_18, l_19, l_20, l_21, l_22, l_23, l_24, l_25, l_26, l_27, l_28, l_29, l_30, l_31, l_32, l_33, l_34, l_35, l_36, l_37, l_38, l_39, l_40, l_41, l_42, l_43, l_44, l_45, l_46, l_47, l_48, l_49, l_50, l_51, l_52, l_53, l_54, l_55, l_56, l_57, l_58, l_59, l_60, l_61, l_62, l_63, l_64, l_97, l_98, l_99, l_200, l_225, l_232, l_255, l_256, l_700, l_1000, l_1024, l_3375, l_4095, l_8000, l_20000, l_60000, vp_nIs, zz0, zz1, e10, nI_leI, nI_ltI, nI_eq, nI_1, nI_1a, nI_add, nI_sub, nI_sub1, pk_mul, nI_clamp, nI_le1, nI_le1', nI_lt1, nI_lt1', nI_eq1, nI_eqm, m1_eqN, m1_le, m1_lt, m1_leN, m1_ltN, nI_am, not_true_eq_false, not_false_eq_true, oN_eqm, k22, k23, v23, nb, vb0]) <;> omega) | fail)) only [↓numW, ↓zb_t, ↓zb_f, ↓zb_tt, ↓zb_ff, ↓zb_i, ↓zb_z0, ↓zb_z1, ↓zb_z, ↓zb_l, ↓zb_v, vi32, vi64, true_and, pk_us, Int32.add_zero, Nat.add_sub_cancel, nI_add, nI_1, nI_1a, nI_clamp, k7, k7', k8, k8', k12, k12', k15, k15', k16, k16', nI_sub1, va_up_self, va_up_ne, ne_eq, reduceCtorEq, Nat.reduceEqDiff, not_false_eq_true, k22, k23, v23, nb, vb0]
            exact q
        · have := go1 (Or.inl ce)
          refine et_x (fun K q => ⟨by rw [k23]; exact vp_in_nI (by omega) (by decide), fun z => ?_, fun _ => ⟨fun z => ?_, fun _ => ?_⟩⟩) this
          · rw [nI_clamp (by omega)] at z; exact absurd cx' z
          · exact absurd ((nI_eq (by omega) (by omega)).mp z) ce
          · simp (disch := (first | ((try simp (disch := omega) only [va_up_self, va_up_ne, ne_eq, reduceCtorEq, Nat.reduceEqDiff, not_false_eq_true, l_0, l_2, l_3, l_4, l_5, l_6, l_7, l_8, l_9, l_10, l_11, l_12, l_13, l_14, l_15, l_16, l_17, l_18, l_19, l_20, l_21, l_22, l_23, l_24, l_25, l_26, l_27, l_28, l_29, l_30, l_31, l_32, l_33, l_34, l_35, l_36, l_37, l_38, l_39, l_40, l_41, l_42, l_43, l_44, l_45, l_46, l_47, l_48, l_49, l_50, l_51, l_52, l_53, l_54, l_55, l_56, l_57, l_58, l_59, l_60, l_61, l_62, l_63, l_64, l_97, l_98, l_99, l_200, l_225, l_232, l_255, l_256, l_700, l_1000, l_1024, l_3375, l_4095, l_8000, l_20000, l_60000, vp_nIs, zz0, zz1, e10, nI_leI, nI_ltI, nI_eq, nI_1, nI_1a, nI_add, nI_sub, nI_sub1, pk_mul, nI_clamp, nI_le1, nI_le1', nI_lt1, nI_lt1', nI_eq1, nI_eqm, m1_eqN, m1_le, m1_lt, m1_leN, m1_ltN, nI_am, not_true_eq_false, not_false_eq_true, oN_eqm, k22, k23, v23, nb, vb1]) <;> omega) | fail)) only [↓numW, ↓zb_t, ↓zb_f, ↓zb_tt, ↓zb_ff, ↓zb_i, ↓zb_z0, ↓zb_z1, ↓zb_z, ↓zb_l, ↓zb_v, vi32, vi64, true_and, pk_us, Int32.add_zero, Nat.add_sub_cancel, nI_add, nI_1, nI_1a, nI_clamp, k7, k7', k8, k8', k12, k12', k15, k15', k16, k16', nI_sub1, va_up_self, va_up_ne, ne_eq, reduceCtorEq, Nat.reduceEqDiff, not_false_eq_true, k22, k23, v23, nb, vb1]
            exact q
      · have cx' : ¬ μ1.2.2.2.1 23 p = 0 := by rw [v23]; exact cx
        have xp : X = upd (μ0.2.2.2.1 23) p 1 ∧ (∃ k, k < i ∧ nwT T p h ty w k ≠ ty (12 * p + k)) ∨ X p = 1 := by
          rcases hX with ⟨x1, x2⟩ | ⟨x1, x2⟩
          · exact Or.inl ⟨x2, x1⟩
          · right
            rw [x2, r23] at cx ⊢
            have : mk = 1 := Classical.byContradiction (fun z => cx (by rw [show mk = 0 by omega]; rfl))
            rw [this]; rfl
        have := go1 (Or.inr xp)
        refine et_x (fun K q => ⟨by rw [k23]; exact vp_in_nI (by omega) (by decide), fun _ => ?_, fun z => ?_⟩) this
        · simp (disch := (first | ((try simp (disch := omega) only [va_up_self, va_up_ne, ne_eq, reduceCtorEq, Nat.reduceEqDiff, not_false_eq_true, l_0, l_2, l_3, l_4, l_5, l_6, l_7, l_8, l_9, l_10, l_11, l_12, l_13, l_14, l_15, l_16, l_17, l_18, l_19, l_20, l_21, l_22, l_23, l_24, l_25, l_26, l_27, l_28, l_29, l_30, l_31, l_32, l_33, l_34, l_35, l_36, l_37, l_38, l_39, l_40, l_41, l_42, l_43, l_44, l_45, l_46, l_47, l_48, l_49, l_50, l_51, l_52, l_53, l_54, l_55, l_56, l_57, l_58, l_59, l_60, l_61, l_62, l_63, l_64, l_97, l_98, l_99, l_200, l_225, l_232, l_255, l_256, l_700, l_1000, l_1024, l_3375, l_4095, l_8000, l_20000, l_60000, vp_nIs, zz0, zz1, e10, nI_leI, nI_ltI, nI_eq, nI_1, nI_1a, nI_add, nI_sub, nI_sub1, pk_mul, nI_clamp, nI_le1, nI_le1', nI_lt1, nI_lt1', nI_eq1, nI_eqm, m1_eqN, m1_le, m1_lt, m1_leN, m1_ltN, nI_am, not_true_eq_false, not_false_eq_true, oN_eqm, k22, k23, v23, nb, vb1]) <;> omega) | fail)) only [↓numW, ↓zb_t, ↓zb_f, ↓zb_tt, ↓zb_ff, ↓zb_i, ↓zb_z0, ↓zb_z1, ↓zb_z, ↓zb_l, ↓zb_v, vi32, vi64, true_and, pk_us, Int32.add_zero, Nat.add_sub_cancel, nI_add, nI_1, nI_1a, nI_clamp, k7, k7', k8, k8', k12, k12', k15, k15', k16, k16', nI_sub1, va_up_self, va_up_ne, ne_eq, reduceCtorEq, Nat.reduceEqDiff, not_false_eq_true, k22, k23, v23, nb, vb1]
          exact q
        · rw [nI_clamp (by omega)] at z; exact absurd z cx'
    rw [← e1]
    unfold mp_X12_come_135
    by_cases c9 : lo ≤ i ∧ nwT T p h ty w i = 99
    · refine et_x (P2 := fun K => K 0 (sm_i μ1 10 (nI p))) (fun K q => ?_) (et_e ⟨f1.i (by unfold IwM; omega), Or.inr ⟨Or.inr ⟨i, c9.1, hii, c9.2⟩, rfl, rfl⟩⟩)
      simp (disch := (first | ((try simp (disch := omega) only [va_up_self, va_up_ne, ne_eq, reduceCtorEq, Nat.reduceEqDiff, not_false_eq_true, l_0, l_2, l_3, l_4, l_5, l_6, l_7, l_8, l_9, l_10, l_11, l_12, l_13, l_14, l_15, l_16, l_17, l_18, l_19, l_20, l_21, l_22, l_23, l_24, l_25, l_26, l_27, l_28, l_29, l_30, l_31, l_32, l_33, l_34, l_35, l_36, l_37, l_38, l_39, l_40, l_41, l_42, l_43, l_44, l_45, l_46, l_47, l_48, l_49, l_50, l_51, l_52, l_53, l_54, l_55, l_56, l_57, l_58, l_59, l_60, l_61, l_62, l_63, l_64, l_97, l_98, l_99, l_200, l_225, l_232, l_255, l_256, l_700, l_1000, l_1024, l_3375, l_4095, l_8000, l_20000, l_60000, vp_nIs, zz0, zz1, e10, nI_leI, nI_ltI, nI_eq, nI_1, nI_1a, nI_add, nI_sub, nI_sub1, pk_mul, nI_clamp, nI_le1, nI_le1', nI_lt1, nI_lt1', nI_eq1, nI_eqm, m1_eqN, m1_le, m1_lt, m1_leN, m1_ltN, nI_am, not_true_eq_false, not_false_eq_true, oN_eqm, g9, v22, v24, k22, k24]) <;> omega) | fail)) only [↓numW, ↓zb_t, ↓zb_f, ↓zb_tt, ↓zb_ff, ↓zb_i, ↓zb_z0, ↓zb_z1, ↓zb_z, ↓zb_l, ↓zb_v, vi32, vi64, true_and, pk_us, Int32.add_zero, Nat.add_sub_cancel, nI_add, nI_1, nI_1a, nI_clamp, k7, k7', k8, k8', k12, k12', k15, k15', k16, k16', nI_sub1, va_up_self, va_up_ne, ne_eq, reduceCtorEq, Nat.reduceEqDiff, not_false_eq_true, g9, v22, v24, k22, k24]
      refine w_meetM i1 hw g4 vt' vi ?_
      rw [← en]
      have c99 := c9.2
      simp (disch := (first | ((try simp (disch := omega) only [va_up_self, va_up_ne, ne_eq, reduceCtorEq, Nat.reduceEqDiff, not_false_eq_true, l_0, l_2, l_3, l_4, l_5, l_6, l_7, l_8, l_9, l_10, l_11, l_12, l_13, l_14, l_15, l_16, l_17, l_18, l_19, l_20, l_21, l_22, l_23, l_24, l_25, l_26, l_27, l_28, l_29, l_30, l_31, l_32, l_33, l_34, l_35, l_36, l_37, l_38, l_39, l_40, l_41, l_42, l_43, l_44, l_45, l_46, l_47, l_48, l_49, l_50, l_51, l_52, l_53, l_54, l_55, l_56, l_57, l_58, l_59, l_60, l_61, l_62, l_63, l_64, l_97, l_98, l_99, l_200, l_225, l_232, l_255, l_256, l_700, l_1000, l_1024, l_3375, l_4095, l_8000, l_20000, l_60000, vp_nIs, zz0, zz1, e10, nI_leI, nI_ltI, nI_eq, nI_1, nI_1a, nI_add, nI_sub, nI_sub1, pk_mul, nI_clamp, nI_le1, nI_le1', nI_lt1, nI_lt1', nI_eq1, nI_eqm, m1_eqN, m1_le, m1_lt, m1_leN, m1_ltN, nI_am, not_true_eq_false, not_false_eq_true, oN_eqm, g9]) <;> omega) | fail)) only [↓numW, ↓zb_t, ↓zb_f, ↓zb_tt, ↓zb_ff, ↓zb_i, ↓zb_z0, ↓zb_z1, ↓zb_z, ↓zb_l, ↓zb_v, vi32, vi64, true_and, pk_us, Int32.add_zero, Nat.add_sub_cancel, nI_add, nI_1, nI_1a, nI_clamp, k7, k7', k8, k8', k12, k12', k15, k15', k16, k16', nI_sub1, va_up_self, va_up_ne, ne_eq, reduceCtorEq, Nat.reduceEqDiff, not_false_eq_true, g9]
      exact q
    · refine et_x (fun K q => ?_) (k197 (fun z1 z2 => c9 ⟨z1, z2⟩))
      simp (disch := (first | ((try simp (disch := omega) only [va_up_self, va_up_ne, ne_eq, reduceCtorEq, Nat.reduceEqDiff, not_false_eq_true, l_0, l_2, l_3, l_4, l_5, l_6, l_7, l_8, l_9, l_10, l_11, l_12, l_13, l_14, l_15, l_16, l_17, l_18, l_19, l_20, l_21, l_22, l_23, l_24, l_25, l_26, l_27, l_28, l_29, l_30, l_31, l_32, l_33, l_34, l_35, l_36, l_37, l_38, l_39, l_40, l_41, l_42, l_43, l_44, l_45, l_46, l_47, l_48, l_49, l_50, l_51, l_52, l_53, l_54, l_55, l_56, l_57, l_58, l_59, l_60, l_61, l_62, l_63, l_64, l_97, l_98, l_99, l_200, l_225, l_232, l_255, l_256, l_700, l_1000, l_1024, l_3375, l_4095, l_8000, l_20000, l_60000, vp_nIs, zz0, zz1, e10, nI_leI, nI_ltI, nI_eq, nI_1, nI_1a, nI_add, nI_sub, nI_sub1, pk_mul, nI_clamp, nI_le1, nI_le1', nI_lt1, nI_lt1', nI_eq1, nI_eqm, m1_eqN, m1_le, m1_lt, m1_leN, m1_ltN, nI_am, not_true_eq_false, not_false_eq_true, oN_eqm, g9, v22, v24, k22, k24]) <;> omega) | fail)) only [↓numW, ↓zb_t, ↓zb_f, ↓zb_tt, ↓zb_ff, ↓zb_i, ↓zb_z0, ↓zb_z1, ↓zb_z, ↓zb_l, ↓zb_v, vi32, vi64, true_and, pk_us, Int32.add_zero, Nat.add_sub_cancel, nI_add, nI_1, nI_1a, nI_clamp, k7, k7', k8, k8', k12, k12', k15, k15', k16, k16', nI_sub1, va_up_self, va_up_ne, ne_eq, reduceCtorEq, Nat.reduceEqDiff, not_false_eq_true, g9, v22, v24, k22, k24]
      refine w_meetM i1 hw g4 vt' vi ?_
      rw [← en]
      by_cases cl : i < lo
      · simp (disch := (first | ((try simp (disch := omega) only [va_up_self, va_up_ne, ne_eq, reduceCtorEq, Nat.reduceEqDiff, not_false_eq_true, l_0, l_2, l_3, l_4, l_5, l_6, l_7, l_8, l_9, l_10, l_11, l_12, l_13, l_14, l_15, l_16, l_17, l_18, l_19, l_20, l_21, l_22, l_23, l_24, l_25, l_26, l_27, l_28, l_29, l_30, l_31, l_32, l_33, l_34, l_35, l_36, l_37, l_38, l_39, l_40, l_41, l_42, l_43, l_44, l_45, l_46, l_47, l_48, l_49, l_50, l_51, l_52, l_53, l_54, l_55, l_56, l_57, l_58, l_59, l_60, l_61, l_62, l_63, l_64, l_97, l_98, l_99, l_200, l_225, l_232, l_255, l_256, l_700, l_1000, l_1024, l_3375, l_4095, l_8000, l_20000, l_60000, vp_nIs, zz0, zz1, e10, nI_leI, nI_ltI, nI_eq, nI_1, nI_1a, nI_add, nI_sub, nI_sub1, pk_mul, nI_clamp, nI_le1, nI_le1', nI_lt1, nI_lt1', nI_eq1, nI_eqm, m1_eqN, m1_le, m1_lt, m1_leN, m1_ltN, nI_am, not_true_eq_false, not_false_eq_true, oN_eqm, g9]) <;> omega) | fail)) only [↓numW, ↓zb_t, ↓zb_f, ↓zb_tt, ↓zb_ff, ↓zb_i, ↓zb_z0, ↓zb_z1, ↓zb_z, ↓zb_l, ↓zb_v, vi32, vi64, true_and, pk_us, Int32.add_zero, Nat.add_sub_cancel, nI_add, nI_1, nI_1a, nI_clamp, k7, k7', k8, k8', k12, k12', k15, k15', k16, k16', nI_sub1, va_up_self, va_up_ne, ne_eq, reduceCtorEq, Nat.reduceEqDiff, not_false_eq_true, g9]
        exact q
      · have c99 : nwT T p h ty w i ≠ 99 := fun z => c9 ⟨by omega, z⟩
        simp (disch := (first | ((try simp (disch := omega) only [va_up_self, va_up_ne, ne_eq, reduceCtorEq, Nat.reduceEqDiff, not_false_eq_true, l_0, l_2, l_3, l_4, l_5, l_6, l_7, l_8, l_9, l_10, l_11, l_12, l_13, l_14, l_15, l_16, l_17, l_18, l_19, l_20, l_21, l_22, l_23, l_24, l_25, l_26, l_27, l_28, l_29, l_30, l_31, l_32, l_33, l_34, l_35, l_36, l_37, l_38, l_39, l_40, l_41, l_42, l_43, l_44, l_45, l_46, l_47, l_48, l_49, l_50, l_51, l_52, l_53, l_54, l_55, l_56, l_57, l_58, l_59, l_60, l_61, l_62, l_63, l_64, l_97, l_98, l_99, l_200, l_225, l_232, l_255, l_256, l_700, l_1000, l_1024, l_3375, l_4095, l_8000, l_20000, l_60000, vp_nIs, zz0, zz1, e10, nI_leI, nI_ltI, nI_eq, nI_1, nI_1a, nI_add, nI_sub, nI_sub1, pk_mul, nI_clamp, nI_le1, nI_le1', nI_lt1, nI_lt1', nI_eq1, nI_eqm, m1_eqN, m1_le, m1_lt, m1_leN, m1_ltN, nI_am, not_true_eq_false, not_false_eq_true, oN_eqm, g9]) <;> omega) | fail)) only [↓numW, ↓zb_t, ↓zb_f, ↓zb_tt, ↓zb_ff, ↓zb_i, ↓zb_z0, ↓zb_z1, ↓zb_z, ↓zb_l, ↓zb_v, vi32, vi64, true_and, pk_us, Int32.add_zero, Nat.add_sub_cancel, nI_add, nI_1, nI_1a, nI_clamp, k7, k7', k8, k8', k12, k12', k15, k15', k16, k16', nI_sub1, va_up_self, va_up_ne, ne_eq, reduceCtorEq, Nat.reduceEqDiff, not_false_eq_true, g9]
        exact q
theorem eM_come {μ0 : sm_S} {T : Nat → Nat → Nat} {b : Nat → Nat} {m a p t mk : Nat} {h ty w : Nat → Nat} (hb : bM μ0 T b) (hw : wf T b) (hm : m < T 0 1) (ha : a < T 18 m) (hpa : p = T 17 m + a) (g : gM μ0 T m t w) (n9 : ∀ i, T 15 m ≤ i → i < T 15 m + t → w i ≠ 99) (l22 : μ0.2.2.1 22 = 96000) (l23 : μ0.2.2.1 23 = 8000) (l21 : μ0.2.2.1 21 = 8000) (r23 : μ0.2.2.2.1 23 p = nI mk) (hmk : mk ≤ 1) (hh : μ0.2.2.2.1 21 p = oN (h p)) (hh2 : h p ≤ 13) (hty : h p ≠ 0 → ∀ i, i < T 15 m + (h p - 1) → μ0.2.2.2.1 22 (12 * p + i) = nI (ty (12 * p + i)) ∧ vt T (ty (12 * p + i))) :
    et (fun K => mp_X12_come μ0 (nI m) (nI a) K) (rkM μ0 T (T 15 m) p t h ty w) := by
  have w2 := hw.2.1
  have w4 := hw.2.2.2.1
  have w5 := hw.2.2.2.2.1
  obtain ⟨-, -, -, -, -, -, h12, y8, y9, y10, y11, y12, -⟩ := hw.2.2.2.2.2.2.2.2.1 m hm
  obtain ⟨b1, b2, b3⟩ := hb
  have hLM := b1.2.1
  obtain ⟨-, -, -, -, r15, r16, r17, r18, -⟩ := b1.2.2.2.2.2.2.2 m hm
  obtain ⟨g1, g2, g3⟩ := g
  unfold mp_X12_come
  rw [hpa] at *
  by_cases c0 : h (T 17 m + a) = 0
  · rw [c0, oN_0] at hh
    have hwle : ∀ i, i < T 15 m + t → μ0.2.2.2.1 24 i = nI (w i) ∧ w i ≤ 99 := fun i hi => ⟨(g3 i hi).1, by have := (g3 i hi).2; unfold vt at this; omega⟩
    have key := fun (K : jk) => l_come62 (T := T) (μ0 := sm_r μ0 21 (upd (μ0.2.2.2.1 21) (T 17 m + a) (nI t))) (lo := T 15 m) (p := T 17 m + a) (t := t) (w := w) (by omega) (by omega) g1 b3 l22 l23 hwle (T 15 m + t) 0 K (by omega)
    refine et_x (fun K q => ?_) (et_e (r := 1) (σ := sm_r (sm_r (sm_r μ0 21 (upd (μ0.2.2.2.1 21) (T 17 m + a) (nI t))) 22 (tp_row (μ0.2.2.2.1 22) (12 * (T 17 m + a)) (T 15 m + t) (fun k => nI (w k)))) 23 (upd (μ0.2.2.2.1 23) (T 17 m + a) 1)) ⟨((fr_r.w (fun j q => absurd (by unfold AwM; omega) q)).w (fun j q => absurd (by unfold AwM; omega) q)).w (fun j q => absurd (by unfold AwM; omega) q), Or.inl ⟨fun z => ?_, rfl, rfl, rfl, ?_, Or.inl ⟨Or.inl c0, rfl⟩⟩⟩)
    · have := key K q
      rw [show tp_row ((sm_r μ0 21 (upd (μ0.2.2.2.1 21) (T 17 m + a) (nI t))).2.2.2.1 22) (12 * (T 17 m + a)) 0 (fun k => nI (w k)) = μ0.2.2.2.1 22 from tp_row0 _ _ _, sx_r0 (show (sm_r μ0 21 (upd (μ0.2.2.2.1 21) (T 17 m + a) (nI t))).2.2.2.1 22 = μ0.2.2.2.1 22 from sx_rn (by decide))] at this
      simp (disch := (first | ((try simp (disch := omega) only [va_up_self, va_up_ne, ne_eq, reduceCtorEq, Nat.reduceEqDiff, not_false_eq_true, l_0, l_2, l_3, l_4, l_5, l_6, l_7, l_8, l_9, l_10, l_11, l_12, l_13, l_14, l_15, l_16, l_17, l_18, l_19, l_20, l_21, l_22, l_23, l_24, l_25, l_26, l_27, l_28, l_29, l_30, l_31, l_32, l_33, l_34, l_35, l_36, l_37, l_38, l_39, l_40, l_41, l_42, l_43, l_44, l_45, l_46, l_47, l_48, l_49, l_50, l_51, l_52, l_53, l_54, l_55, l_56, l_57, l_58, l_59, l_60, l_61, l_62, l_63, l_64, l_97, l_98, l_99, l_200, l_225, l_232, l_255, l_256, l_700, l_1000, l_1024, l_3375, l_4095, l_8000, l_20000, l_60000, vp_nIs, zz0, zz1, e10, nI_leI, nI_ltI, nI_eq, nI_1, nI_1a, nI_add, nI_sub, nI_sub1, pk_mul, nI_clamp, nI_le1, nI_le1', nI_lt1, nI_lt1', nI_eq1, nI_eqm, m1_eqN, m1_le, m1_lt, m1_leN, m1_ltN, nI_am, not_true_eq_false, not_false_eq_true, oN_eqm, r15, r17, r18, g1, hh, l21, lm15 hLM, lm17 hLM, lm18 hLM]) <;> omega) | fail)) only [↓numW, ↓zb_t, ↓zb_f, ↓zb_tt, ↓zb_ff, ↓zb_i, ↓zb_z0, ↓zb_z1, ↓zb_z, ↓zb_l, ↓zb_v, vi32, vi64, true_and, pk_us, Int32.add_zero, Nat.add_sub_cancel, nI_add, nI_1, nI_1a, nI_clamp, k7, k7', k8, k8', k12, k12', k15, k15', k16, k16', nI_sub1, va_up_self, va_up_ne, ne_eq, reduceCtorEq, Nat.reduceEqDiff, not_false_eq_true, r15, r17, r18, g1, hh, l21, lm15 hLM, lm17 hLM, lm18 hLM]
      exact ⟨_, this⟩
    · rcases z with z | ⟨k, k1, k2, k3⟩
      · exact z.1 c0
      · unfold nwT at k3; rw [if_pos c0] at k3; exact n9 k k1 k2 k3
    · rw [sx_rn (by decide), sx_rs]
      congr 1
      funext k
      unfold nwT
      rw [if_pos c0]
  · have hh' := hh
    rw [oN_p (by omega)] at hh'
    by_cases c1 : h (T 17 m + a) = t + 1
    · have hht : μ0.2.2.2.1 21 (T 17 m + a) = nI t := by rw [hh', c1]; rfl
      have key := l_come135 (μ0 := μ0) (T := T) (b := b) (lo := T 15 m) (p := T 17 m + a) (t := t) (mk := mk) (h := h) (ty := ty) (w := w) b1 hw b2 (by omega) (by omega) g1 b3 l22 l23 l21 c0 r23 hmk hht c1 g3 (fun i hi => hty c0 i (by omega)) (T 15 m + t) 0 (μ0.2.2.2.1 23) (by omega) (fun k _ k2 => absurd k2 (by omega)) (Or.inr ⟨fun ⟨k, k1, _⟩ => absurd k1 (by omega), rfl⟩)
      rw [tp_row0, sx_r0 rfl, sx_r0 rfl] at key
      refine et_x (fun K q => ?_) key
      simp (disch := (first | ((try simp (disch := omega) only [va_up_self, va_up_ne, ne_eq, reduceCtorEq, Nat.reduceEqDiff, not_false_eq_true, l_0, l_2, l_3, l_4, l_5, l_6, l_7, l_8, l_9, l_10, l_11, l_12, l_13, l_14, l_15, l_16, l_17, l_18, l_19, l_20, l_21, l_22, l_23, l_24, l_25, l_26, l_27, l_28, l_29, l_30, l_31, l_32, l_33, l_34, l_35, l_36, l_37, l_38, l_39, l_40, l_41, l_42, l_43, l_44, l_45, l_46, l_47, l_48, l_49, l_50, l_51, l_52, l_53, l_54, l_55, l_56, l_57, l_58, l_59, l_60, l_61, l_62, l_63, l_64, l_97, l_98, l_99, l_200, l_225, l_232, l_255, l_256, l_700, l_1000, l_1024, l_3375, l_4095, l_8000, l_20000, l_60000, vp_nIs, zz0, zz1, e10, nI_leI, nI_ltI, nI_eq, nI_1, nI_1a, nI_add, nI_sub, nI_sub1, pk_mul, nI_clamp, nI_le1, nI_le1', nI_lt1, nI_lt1', nI_eq1, nI_eqm, m1_eqN, m1_le, m1_lt, m1_leN, m1_ltN, nI_am, not_true_eq_false, not_false_eq_true, oN_eqm, r15, r17, r18, g1, hht, l21, lm15 hLM, lm17 hLM, lm18 hLM]) <;> omega) | fail)) only [↓numW, ↓zb_t, ↓zb_f, ↓zb_tt, ↓zb_ff, ↓zb_i, ↓zb_z0, ↓zb_z1, ↓zb_z, ↓zb_l, ↓zb_v, vi32, vi64, true_and, pk_us, Int32.add_zero, Nat.add_sub_cancel, nI_add, nI_1, nI_1a, nI_clamp, k7, k7', k8, k8', k12, k12', k15, k15', k16, k16', nI_sub1, va_up_self, va_up_ne, ne_eq, reduceCtorEq, Nat.reduceEqDiff, not_false_eq_true, r15, r17, r18, g1, hht, l21, lm15 hLM, lm17 hLM, lm18 hLM]
      exact ⟨_, q⟩
    · refine et_x (P2 := fun K => K 0 (sm_i μ0 10 (nI (T 17 m + a)))) (fun K q => ?_) (et_e ⟨fr_r.i (by unfold IwM; omega), Or.inr ⟨Or.inl ⟨c0, c1⟩, rfl, rfl⟩⟩)
      simp (disch := (first | ((try simp (disch := omega) only [va_up_self, va_up_ne, ne_eq, reduceCtorEq, Nat.reduceEqDiff, not_false_eq_true, l_0, l_2, l_3, l_4, l_5, l_6, l_7, l_8, l_9, l_10, l_11, l_12, l_13, l_14, l_15, l_16, l_17, l_18, l_19, l_20, l_21, l_22, l_23, l_24, l_25, l_26, l_27, l_28, l_29, l_30, l_31, l_32, l_33, l_34, l_35, l_36, l_37, l_38, l_39, l_40, l_41, l_42, l_43, l_44, l_45, l_46, l_47, l_48, l_49, l_50, l_51, l_52, l_53, l_54, l_55, l_56, l_57, l_58, l_59, l_60, l_61, l_62, l_63, l_64, l_97, l_98, l_99, l_200, l_225, l_232, l_255, l_256, l_700, l_1000, l_1024, l_3375, l_4095, l_8000, l_20000, l_60000, vp_nIs, zz0, zz1, e10, nI_leI, nI_ltI, nI_eq, nI_1, nI_1a, nI_add, nI_sub, nI_sub1, pk_mul, nI_clamp, nI_le1, nI_le1', nI_lt1, nI_lt1', nI_eq1, nI_eqm, m1_eqN, m1_le, m1_lt, m1_leN, m1_ltN, nI_am, not_true_eq_false, not_false_eq_true, oN_eqm, r15, r17, r18, g1, hh', l21, lm15 hLM, lm17 hLM, lm18 hLM]) <;> omega) | fail)) only [↓numW, ↓zb_t, ↓zb_f, ↓zb_tt, ↓zb_ff, ↓zb_i, ↓zb_z0, ↓zb_z1, ↓zb_z, ↓zb_l, ↓zb_v, vi32, vi64, true_and, pk_us, Int32.add_zero, Nat.add_sub_cancel, nI_add, nI_1, nI_1a, nI_clamp, k7, k7', k8, k8', k12, k12', k15, k15', k16, k16', nI_sub1, va_up_self, va_up_ne, ne_eq, reduceCtorEq, Nat.reduceEqDiff, not_false_eq_true, r15, r17, r18, g1, hh', l21, lm15 hLM, lm17 hLM, lm18 hLM]
      exact q
