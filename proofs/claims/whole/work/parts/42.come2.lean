/-! ===== come, the class ===== -/
theorem upd_id {f : Nat → Int32} {k : Nat} {v : Int32} (h : f k = v) : upd f k v = f := by
  funext j
  unfold upd
  by_cases e : j = k
  · rw [if_pos e, e, h]
  · rw [if_neg e]
def rkX (σ0 : sm_S) (T : Nat → Nat → Nat) (lo p t l0 : Nat) (h ty w : Nat → Nat) (_ : Int32) (σ' : sm_S) : Prop := fr IwX AwX σ0 σ' ∧ ((¬ cbd T lo p t h ty w ∧ σ'.2.2.2.1 32 = upd (σ0.2.2.2.1 32) p (nI t) ∧ σ'.2.2.2.1 33 = tp_row (σ0.2.2.2.1 33) (12 * p) (lo + t) (fun k => nI (nwT T p h ty w k)) ∧ σ'.1 34 = σ0.1 34 ∧ (((h p = 0 ∨ ∃ i, i < lo + t ∧ nwT T p h ty w i ≠ ty (12 * p + i)) ∧ σ'.2.2.2.1 34 = upd (σ0.2.2.2.1 34) p 1 ∧ σ'.1 32 = nI (if p < l0 then p else l0)) ∨ (¬ (h p = 0 ∨ ∃ i, i < lo + t ∧ nwT T p h ty w i ≠ ty (12 * p + i)) ∧ σ'.2.2.2.1 34 = σ0.2.2.2.1 34 ∧ σ'.1 32 = σ0.1 32))) ∨ (cbd T lo p t h ty w ∧ σ'.1 34 = nI p))
theorem e_come {σ0 : sm_S} {T : Nat → Nat → Nat} {b : Nat → Nat} {lo p t n l0 : Nat} {h ty w : Nat → Nat} (hi : imX σ0 T b) (hw : wf T b) (hl : lwX σ0 n) (hp : p < n) (hn : n ≤ 8000) (h12 : lo + t ≤ 12) (s31 : σ0.1 31 = nI lo) (l35 : σ0.2.2.1 35 = 12) (s32 : σ0.1 32 = nI l0) (hl0 : l0 ≤ 8000) (hr : ∀ i, i < lo + t → σ0.2.2.2.1 35 i = nI (w i) ∧ vt T (w i)) (hh : σ0.2.2.2.1 32 p = oN (h p)) (hh2 : h p ≤ 13) (hty : h p ≠ 0 → ∀ i, i < lo + (h p - 1) → σ0.2.2.2.1 33 (12 * p + i) = nI (ty (12 * p + i)) ∧ vt T (ty (12 * p + i))) :
    et (fun K => mp_X8_come σ0 (nI p) (nI t) (fun σ => K 0 σ)) (rkX σ0 T lo p t l0 h ty w) := by
  have hl' := hl
  obtain ⟨b1, b2, b3, b4, b5, b6⟩ := hl'
  unfold mp_X8_come mp_X8_come_15 mp_X8_come_50
  by_cases c0 : h p = 0
  · have hh' := hh
    rw [c0, oN_0] at hh'
    obtain ⟨σ1, e1⟩ : ∃ σ1, σ1 = sm_r σ0 32 (upd (σ0.2.2.2.1 32) p (nI t)) := ⟨_, rfl⟩
    have f1 : fr IwX AwX σ0 σ1 := by rw [e1]; exact fr_r.u rfl (Or.inl rfl)
    have := l_come (σ0 := σ1) (T := T) (b := b) (lo := lo) (p := p) (t := t) (n := n) (l0 := l0) (h := h) (ty := ty) (w := w) (x4 := 1) (hi.f f1 (fun k q => by unfold IwX; omega) (fun r j a c d => by unfold AwX; omega)) hw (by unfold lwX; rw [f1.2.1]; exact hl) hp hn h12 (by rw [e1]; exact s31) (by rw [e1]; exact l35) (by rw [e1]; exact s32) hl0 (by rw [e1]; exact hr) (fun z => absurd c0 z) ⟨fun _ => rfl, fun z => absurd c0 z⟩ (lo + t) 0 1 σ1 (by omega) (by rw [tp_row0]; exact (sx_r0 rfl).symm) (Or.inl ⟨rfl, Or.inl c0⟩) (fun k _ k2 => absurd k2 (by omega))
    have e33 : σ1.2.2.2.1 33 = σ0.2.2.2.1 33 := by rw [e1]; exact sx_rn (by decide)
    have e32 : σ1.2.2.2.1 32 = upd (σ0.2.2.2.1 32) p (nI t) := by rw [e1]; exact sx_rs
    have e34 : σ1.2.2.2.1 34 = σ0.2.2.2.1 34 := by rw [e1]; exact sx_rn (by decide)
    have i34 : σ1.1 34 = σ0.1 34 := by rw [e1]
    have i32 : σ1.1 32 = σ0.1 32 := by rw [e1]
    refine et_x (fun K q => ?_) (et_w (et_n (A := fun n K => mp_X8_come_53 (fun σ => K 0 σ) n σ1 (nI p) (nI t) 1 1 (nI 0)) _ this) (fun r σ' q => ?_))
    · simp (disch := (first | ((try simp (disch := omega) only [va_up_self, va_up_ne, ne_eq, reduceCtorEq, Nat.reduceEqDiff, not_false_eq_true, l_0, l_2, l_3, l_4, l_5, l_6, l_7, l_8, l_9, l_10, l_11, l_12, l_13, l_14, l_15, l_16, l_17, l_18, l_19, l_20, l_21, l_22, l_23, l_24, l_25, l_26, l_27, l_28, l_29, l_30, l_31, l_32, l_33, l_34, l_35, l_36, l_37, l_38, l_39, l_40, l_41, l_42, l_43, l_44, l_45, l_46, l_47, l_48, l_49, l_50, l_51, l_52, l_53, l_54, l_55, l_56, l_57, l_58, l_59, l_60, l_61, l_62, l_63, l_64, l_97, l_98, l_99, l_200, l_225, l_232, l_255, l_256, l_700, l_1000, l_1024, l_3375, l_4095, l_8000, l_20000, l_60000, vp_nIs, zz0, zz1, e10, nI_leI, nI_ltI, nI_eq, nI_1, nI_1a, nI_add, nI_sub, nI_sub1, pk_mul, nI_clamp, nI_le1, nI_le1', nI_lt1, nI_lt1', nI_eq1, nI_eqm, m1_eqN, m1_le, m1_lt, m1_leN, m1_ltN, nI_am, not_true_eq_false, not_false_eq_true, oN_eqm, hh', nb8' (show t < 128 by omega)]) <;> omega) | fail)) only [↓numW, ↓zb_t, ↓zb_f, ↓zb_tt, ↓zb_ff, ↓zb_i, ↓zb_z0, ↓zb_z1, ↓zb_z, ↓zb_l, ↓zb_v, vi32, vi64, true_and, pk_us, Int32.add_zero, Nat.add_sub_cancel, nI_add, nI_1, nI_1a, nI_clamp, k7, k7', k8, k8', k12, k12', k15, k15', k16, k16', nI_sub1, va_up_self, va_up_ne, ne_eq, reduceCtorEq, Nat.reduceEqDiff, not_false_eq_true, hh', nb8' (show t < 128 by omega)]
      rw [← e1]
      exact q
    · obtain ⟨q1, q2⟩ := q
      refine ⟨f1.t q1, ?_⟩
      rcases q2 with ⟨a1, a2, a3, a4, a5⟩ | ⟨a1, a2⟩
      · refine Or.inl ⟨fun z => ?_, a3.trans e32, by rw [← e33]; exact a2, a4.trans i34, ?_⟩
        · rcases z with z | ⟨k, k1, k2, k3⟩
          · exact z.1 c0
          · exact a1 k k1 k2 k3
        · rw [← e34, ← i32]; exact a5
      · exact Or.inr ⟨Or.inr a1, a2⟩
  · have hh' := hh
    rw [oN_p (by omega)] at hh'
    by_cases c1 : h p = t + 1
    · have := l_come (σ0 := σ0) (T := T) (b := b) (lo := lo) (p := p) (t := t) (n := n) (l0 := l0) (h := h) (ty := ty) (w := w) (x4 := 0) hi hw hl hp hn h12 s31 l35 s32 hl0 hr (fun z i hi => hty z i (by omega)) ⟨fun z => absurd z c0, fun _ => rfl⟩ (lo + t) 0 0 σ0 (by omega) (by rw [tp_row0]; exact (sx_r0 rfl).symm) (Or.inr ⟨rfl, fun z => z.elim c0 (fun ⟨k, k1, _⟩ => absurd k1 (by omega))⟩) (fun k _ k2 => absurd k2 (by omega))
      refine et_x (fun K q => ?_) (et_w (et_n (A := fun n K => mp_X8_come_53 (fun σ => K 0 σ) n σ0 (nI p) (nI t) 0 0 (nI 0)) _ this) (fun r σ' q => ?_))
      · simp (disch := (first | ((try simp (disch := omega) only [va_up_self, va_up_ne, ne_eq, reduceCtorEq, Nat.reduceEqDiff, not_false_eq_true, l_0, l_2, l_3, l_4, l_5, l_6, l_7, l_8, l_9, l_10, l_11, l_12, l_13, l_14, l_15, l_16, l_17, l_18, l_19, l_20, l_21, l_22, l_23, l_24, l_25, l_26, l_27, l_28, l_29, l_30, l_31, l_32, l_33, l_34, l_35, l_36, l_37, l_38, l_39, l_40, l_41, l_42, l_43, l_44, l_45, l_46, l_47, l_48, l_49, l_50, l_51, l_52, l_53, l_54, l_55, l_56, l_57, l_58, l_59, l_60, l_61, l_62, l_63, l_64, l_97, l_98, l_99, l_200, l_225, l_232, l_255, l_256, l_700, l_1000, l_1024, l_3375, l_4095, l_8000, l_20000, l_60000, vp_nIs, zz0, zz1, e10, nI_leI, nI_ltI, nI_eq, nI_1, nI_1a, nI_add, nI_sub, nI_sub1, pk_mul, nI_clamp, nI_le1, nI_le1', nI_lt1, nI_lt1', nI_eq1, nI_eqm, m1_eqN, m1_le, m1_lt, m1_leN, m1_ltN, nI_am, not_true_eq_false, not_false_eq_true, oN_eqm, hh']) <;> omega) | fail)) only [↓numW, ↓zb_t, ↓zb_f, ↓zb_tt, ↓zb_ff, ↓zb_i, ↓zb_z0, ↓zb_z1, ↓zb_z, ↓zb_l, ↓zb_v, vi32, vi64, true_and, pk_us, Int32.add_zero, Nat.add_sub_cancel, nI_add, nI_1, nI_1a, nI_clamp, k7, k7', k8, k8', k12, k12', k15, k15', k16, k16', nI_sub1, va_up_self, va_up_ne, ne_eq, reduceCtorEq, Nat.reduceEqDiff, not_false_eq_true, hh']
        exact q
      · obtain ⟨q1, q2⟩ := q
        refine ⟨q1, ?_⟩
        rcases q2 with ⟨a1, a2, a3, a4, a5⟩ | ⟨a1, a2⟩
        · refine Or.inl ⟨fun z => ?_, ?_, a2, a4, a5⟩
          · rcases z with z | ⟨k, k1, k2, k3⟩
            · exact z.2 c1
            · exact a1 k k1 k2 k3
          · rw [a3, upd_id]
            rw [hh', c1]; rfl
        · exact Or.inr ⟨Or.inr a1, a2⟩
    · refine et_x (P2 := fun K => K 0 (sm_i σ0 34 (nI p))) (fun K q => ?_) (et_e ⟨fr_r.i (by unfold IwX; omega), Or.inr ⟨Or.inl ⟨c0, c1⟩, rfl⟩⟩)
      simp (disch := (first | ((try simp (disch := omega) only [va_up_self, va_up_ne, ne_eq, reduceCtorEq, Nat.reduceEqDiff, not_false_eq_true, l_0, l_2, l_3, l_4, l_5, l_6, l_7, l_8, l_9, l_10, l_11, l_12, l_13, l_14, l_15, l_16, l_17, l_18, l_19, l_20, l_21, l_22, l_23, l_24, l_25, l_26, l_27, l_28, l_29, l_30, l_31, l_32, l_33, l_34, l_35, l_36, l_37, l_38, l_39, l_40, l_41, l_42, l_43, l_44, l_45, l_46, l_47, l_48, l_49, l_50, l_51, l_52, l_53, l_54, l_55, l_56, l_57, l_58, l_59, l_60, l_61, l_62, l_63, l_64, l_97, l_98, l_99, l_200, l_225, l_232, l_255, l_256, l_700, l_1000, l_1024, l_3375, l_4095, l_8000, l_20000, l_60000, vp_nIs, zz0, zz1, e10, nI_leI, nI_ltI, nI_eq, nI_1, nI_1a, nI_add, nI_sub, nI_sub1, pk_mul, nI_clamp, nI_le1, nI_le1', nI_lt1, nI_lt1', nI_eq1, nI_eqm, m1_eqN, m1_le, m1_lt, m1_leN, m1_ltN, nI_am, not_true_eq_false, not_false_eq_true, oN_eqm, hh']) <;> omega) | fail)) only [↓numW, ↓zb_t, ↓zb_f, ↓zb_tt, ↓zb_ff, ↓zb_i, ↓zb_z0, ↓zb_z1, ↓zb_z, ↓zb_l, ↓zb_v, vi32, vi64, true_and, pk_us, Int32.add_zero, Nat.add_sub_cancel, nI_add, nI_1, nI_1a, nI_clamp, k7, k7', k8, k8', k12, k12', k15, k15', k16, k16', nI_sub1, va_up_self, va_up_ne, ne_eq, reduceCtorEq, Nat.reduceEqDiff, not_false_eq_true, hh']
      exact q
