/-! ===== come: types flow on, the class ===== -/
theorem nb8 : ∀ v, v < 128 → (nI v).toInt8.toInt32 = nI v := by decide +kernel
theorem nb8' {v : Nat} (h : v < 128) : vp_nar .byte (nI v).toInt8.toInt32 = nI v := by rw [pk_vb, nb8 v h]
def IwX (k : Nat) : Prop := k = 32 ∨ k = 34
def AwX (r _ : Nat) : Prop := r = 32 ∨ r = 33 ∨ r = 34
/-- the rows of the verifier's tables are long enough -/
def lwX (σ : sm_S) (n : Nat) : Prop := n ≤ σ.2.2.1 32 ∧ σ.2.2.1 32 < 2 ^ 27 ∧ 12 * n ≤ σ.2.2.1 33 ∧ σ.2.2.1 33 < 2 ^ 31 ∧ n ≤ σ.2.2.1 34 ∧ σ.2.2.1 34 < 2 ^ 31
/-- what comes to place i of p -/
def nwT (T : Nat → Nat → Nat) (p : Nat) (h ty w : Nat → Nat) (i : Nat) : Nat := if h p = 0 then w i else meetT T (ty (12 * p + i)) (w i)
theorem meet_le {T : Nat → Nat → Nat} {b : Nat → Nat} {x y : Nat} (hw : wf T b) (hx : vt T x) (hy : vt T y) : vt T (meetT T x y) ∧ meetT T x y ≤ 99 := by
  have w2 := hw.2.1
  have h5 := fun c (hc : c < T 0 0) => (hw.2.2.2.2.2.2.1 c hc).1
  have key : vt T (meetT T x y) := by
    unfold meetT
    by_cases e1 : x = y
    · rw [if_pos e1]; exact hx
    rw [if_neg e1]
    by_cases e2 : x = 0 ∨ x = 99 ∨ y = 0 ∨ y = 99
    · rw [if_pos e2]; exact Or.inr (Or.inr (Or.inr (Or.inr rfl)))
    rw [if_neg e2]
    by_cases e3 : x = 97
    · rw [if_pos e3]; exact hy
    rw [if_neg e3]
    by_cases e4 : y = 97
    · rw [if_pos e4]; exact hx
    rw [if_neg e4]
    by_cases e5 : x ≤ 32 ∧ y ≤ 32
    · rw [if_pos e5]
      by_cases e6 : lca T x y = 0
      · rw [if_pos e6]; exact Or.inr (Or.inr (Or.inr (Or.inl rfl)))
      · rw [if_neg e6]
        unfold vt at hx hy
        have := isL_le h5 w2 (show x ≤ T 0 0 by omega) (lca_l h5 w2 (x := x) (y := y) (by omega) (by omega) (by omega))
        exact Or.inl (by omega)
    · rw [if_neg e5]; exact Or.inr (Or.inr (Or.inr (Or.inl rfl)))
  exact ⟨key, by unfold vt at key; omega⟩
/-- types can't come to p -/
def cbd (T : Nat → Nat → Nat) (lo p t : Nat) (h ty w : Nat → Nat) : Prop := (h p ≠ 0 ∧ h p ≠ t + 1) ∨ ∃ i, lo ≤ i ∧ i < lo + t ∧ nwT T p h ty w i = 99
/-- what the loop of come leaves -/
def rcX (σ0 : sm_S) (T : Nat → Nat → Nat) (lo p t l0 : Nat) (h ty w : Nat → Nat) (_ : Int32) (σ' : sm_S) : Prop := fr IwX AwX σ0 σ' ∧ ((∀ k, lo ≤ k → k < lo + t → nwT T p h ty w k ≠ 99) ∧ σ'.2.2.2.1 33 = tp_row (σ0.2.2.2.1 33) (12 * p) (lo + t) (fun k => nI (nwT T p h ty w k)) ∧ σ'.2.2.2.1 32 = σ0.2.2.2.1 32 ∧ σ'.1 34 = σ0.1 34 ∧ (((h p = 0 ∨ ∃ i, i < lo + t ∧ nwT T p h ty w i ≠ ty (12 * p + i)) ∧ σ'.2.2.2.1 34 = upd (σ0.2.2.2.1 34) p 1 ∧ σ'.1 32 = nI (if p < l0 then p else l0)) ∨ (¬ (h p = 0 ∨ ∃ i, i < lo + t ∧ nwT T p h ty w i ≠ ty (12 * p + i)) ∧ σ'.2.2.2.1 34 = σ0.2.2.2.1 34 ∧ σ'.1 32 = σ0.1 32)) ∨ (∃ k, lo ≤ k ∧ k < lo + t ∧ nwT T p h ty w k = 99) ∧ σ'.1 34 = nI p)
theorem l_come {σ0 : sm_S} {T : Nat → Nat → Nat} {b : Nat → Nat} {lo p t n l0 : Nat} {h ty w : Nat → Nat} {x4 : Int32} (hi : imX σ0 T b) (hw : wf T b) (hl : lwX σ0 n) (hp : p < n) (hn : n ≤ 8000) (h12 : lo + t ≤ 12) (s31 : σ0.1 31 = nI lo) (l35 : σ0.2.2.1 35 = 12) (s32 : σ0.1 32 = nI l0) (hl0 : l0 ≤ 8000) (hr : ∀ i, i < lo + t → σ0.2.2.2.1 35 i = nI (w i) ∧ vt T (w i)) (hty : h p ≠ 0 → ∀ i, i < lo + t → σ0.2.2.2.1 33 (12 * p + i) = nI (ty (12 * p + i)) ∧ vt T (ty (12 * p + i))) (hx4 : (h p = 0 → x4 = 1) ∧ (h p ≠ 0 → x4 = 0)) :
    ∀ (d i : Nat) (x5 : Int32) (σ : sm_S), i + d = lo + t → σ = sm_r σ0 33 (tp_row (σ0.2.2.2.1 33) (12 * p) i (fun k => nI (nwT T p h ty w k))) → (x5 = 1 ∧ (h p = 0 ∨ ∃ k, k < i ∧ nwT T p h ty w k ≠ ty (12 * p + k)) ∨ x5 = 0 ∧ ¬ (h p = 0 ∨ ∃ k, k < i ∧ nwT T p h ty w k ≠ ty (12 * p + k))) → (∀ k, lo ≤ k → k < i → nwT T p h ty w k ≠ 99) →
      et (fun K => mp_X8_come_53 (fun σ => K 0 σ) (d + 1) σ (nI p) (nI t) x4 x5 (nI i)) (rcX σ0 T lo p t l0 h ty w) := by
  have w2 := hw.2.1
  obtain ⟨b1, b2, b3, b4, b5, b6⟩ := hl
  intro d
  induction d with
  | zero =>
    intro i x5 σ hid eσ h5 hno
    have e : i = lo + t := by omega
    subst e
    have fσ : fr IwX AwX σ0 σ := by rw [eσ]; exact fr_r.w (fun j q => absurd (by unfold AwX; omega) q)
    have g31 : σ.1 31 = nI lo := by rw [eσ]; exact s31
    have g32 : σ.1 32 = nI l0 := by rw [eσ]; exact s32
    have r33 : σ.2.2.2.1 33 = tp_row (σ0.2.2.2.1 33) (12 * p) (lo + t) (fun k => nI (nwT T p h ty w k)) := by rw [eσ]; exact sx_rs
    have r32 : σ.2.2.2.1 32 = σ0.2.2.2.1 32 := by rw [eσ]; exact sx_rn (by decide)
    have r34 : σ.2.2.2.1 34 = σ0.2.2.2.1 34 := by rw [eσ]; exact sx_rn (by decide)
    have l34 : σ.2.2.1 34 = σ0.2.2.1 34 := by rw [eσ]
    have i34 : σ.1 34 = σ0.1 34 := by rw [eσ]
    have i32 : σ.1 32 = σ0.1 32 := by rw [eσ]
    clear eσ
    unfold mp_X8_come_53 mp_X8_come_193
    rcases h5 with ⟨e5, c5⟩ | ⟨e5, c5⟩
    · rw [e5]
      simp (disch := (first | ((try simp (disch := omega) only [va_up_self, va_up_ne, ne_eq, reduceCtorEq, Nat.reduceEqDiff, not_false_eq_true, l_0, l_2, l_3, l_4, l_5, l_6, l_7, l_8, l_9, l_10, l_11, l_12, l_13, l_14, l_15, l_16, l_17, l_18, l_19, l_20, l_21, l_22, l_23, l_24, l_25, l_26, l_27, l_28, l_29, l_30, l_31, l_32, l_33, l_34, l_35, l_36, l_37, l_38, l_39, l_40, l_41, l_42, l_43, l_44, l_45, l_46, l_47, l_48, l_49, l_50, l_51, l_52, l_53, l_54, l_55, l_56, l_57, l_58, l_59, l_60, l_61, l_62, l_63, l_64, l_97, l_98, l_99, l_200, l_225, l_232, l_255, l_256, l_700, l_1000, l_1024, l_3375, l_4095, l_8000, l_20000, l_60000, vp_nIs, zz0, zz1, e10, nI_leI, nI_ltI, nI_eq, nI_1, nI_1a, nI_add, nI_sub, nI_sub1, pk_mul, nI_clamp, nI_le1, nI_le1', nI_lt1, nI_lt1', nI_eq1, nI_eqm, m1_eqN, m1_le, m1_lt, m1_leN, m1_ltN, nI_am, not_true_eq_false, not_false_eq_true, oN_eqm, g31, l34]) <;> omega) | fail)) only [↓numW, ↓zb_t, ↓zb_f, ↓zb_tt, ↓zb_ff, ↓zb_i, ↓zb_z0, ↓zb_z1, ↓zb_z, ↓zb_l, ↓zb_v, vi32, vi64, true_and, pk_us, Int32.add_zero, Nat.add_sub_cancel, nI_add, nI_1, nI_1a, nI_clamp, k7, k7', k8, k8', k12, k12', k15, k15', k16, k16', nI_sub1, va_up_self, va_up_ne, ne_eq, reduceCtorEq, Nat.reduceEqDiff, not_false_eq_true, g31, l34]
      refine et_e ⟨(fσ.w (fun j q => absurd (by unfold AwX; omega) q)).i (by unfold IwX; omega), Or.inl ⟨hno, r33, r32, i34, Or.inl ⟨c5, ?_, ?_⟩⟩⟩
      · simp (disch := omega) only [va_up_self, va_up_ne, pk_us, pk_un, pk_us]
        rw [r34]; rfl
      · show (if nI p < σ.1 32 then nI p else σ.1 32) = _
        rw [g32]
        by_cases c : p < l0
        · rw [if_pos ((nI_ltI (by omega) (by omega)).mpr c), if_pos c]
        · rw [if_neg (fun z => c ((nI_ltI (by omega) (by omega)).mp z)), if_neg c]
    · rw [e5]
      simp (disch := (first | ((try simp (disch := omega) only [va_up_self, va_up_ne, ne_eq, reduceCtorEq, Nat.reduceEqDiff, not_false_eq_true, l_0, l_2, l_3, l_4, l_5, l_6, l_7, l_8, l_9, l_10, l_11, l_12, l_13, l_14, l_15, l_16, l_17, l_18, l_19, l_20, l_21, l_22, l_23, l_24, l_25, l_26, l_27, l_28, l_29, l_30, l_31, l_32, l_33, l_34, l_35, l_36, l_37, l_38, l_39, l_40, l_41, l_42, l_43, l_44, l_45, l_46, l_47, l_48, l_49, l_50, l_51, l_52, l_53, l_54, l_55, l_56, l_57, l_58, l_59, l_60, l_61, l_62, l_63, l_64, l_97, l_98, l_99, l_200, l_225, l_232, l_255, l_256, l_700, l_1000, l_1024, l_3375, l_4095, l_8000, l_20000, l_60000, vp_nIs, zz0, zz1, e10, nI_leI, nI_ltI, nI_eq, nI_1, nI_1a, nI_add, nI_sub, nI_sub1, pk_mul, nI_clamp, nI_le1, nI_le1', nI_lt1, nI_lt1', nI_eq1, nI_eqm, m1_eqN, m1_le, m1_lt, m1_leN, m1_ltN, nI_am, not_true_eq_false, not_false_eq_true, oN_eqm, g31, l34]) <;> omega) | fail)) only [↓numW, ↓zb_t, ↓zb_f, ↓zb_tt, ↓zb_ff, ↓zb_i, ↓zb_z0, ↓zb_z1, ↓zb_z, ↓zb_l, ↓zb_v, vi32, vi64, true_and, pk_us, Int32.add_zero, Nat.add_sub_cancel, nI_add, nI_1, nI_1a, nI_clamp, k7, k7', k8, k8', k12, k12', k15, k15', k16, k16', nI_sub1, va_up_self, va_up_ne, ne_eq, reduceCtorEq, Nat.reduceEqDiff, not_false_eq_true, g31, l34]
      exact et_e ⟨fσ, Or.inl ⟨hno, r33, r32, i34, Or.inr ⟨c5, r34, i32⟩⟩⟩
  | succ d ih =>
    intro i x5 σ hid eσ h5 hno
    have hii : i < lo + t := by omega
    have fσ : fr IwX AwX σ0 σ := by rw [eσ]; exact fr_r.w (fun j q => absurd (by unfold AwX; omega) q)
    have g31 : σ.1 31 = nI lo := by rw [eσ]; exact s31
    have r33 : σ.2.2.2.1 33 = tp_row (σ0.2.2.2.1 33) (12 * p) i (fun k => nI (nwT T p h ty w k)) := by rw [eσ]; exact sx_rs
    have r35 : σ.2.2.2.1 35 = σ0.2.2.2.1 35 := by rw [eσ]; exact sx_rn (by decide)
    have l33 : σ.2.2.1 33 = σ0.2.2.1 33 := by rw [eσ]
    have l35' : σ.2.2.1 35 = 12 := by rw [eσ]; exact l35
    have iσ : imX σ T b := hi.f fσ (fun k q => by unfold IwX; omega) (fun r j a c d => by unfold AwX; omega)
    have v33 : σ.2.2.2.1 33 (12 * p + i) = σ0.2.2.2.1 33 (12 * p + i) := by rw [r33, tp_ou (by omega)]
    obtain ⟨ri, vi⟩ := hr i hii
    have hwi : w i ≤ 99 := by unfold vt at vi; omega
    have hnw : vt T (nwT T p h ty w i) ∧ nwT T p h ty w i ≤ 99 := by
      unfold nwT
      by_cases c : h p = 0
      · rw [if_pos c]; exact ⟨vi, hwi⟩
      · rw [if_neg c]; exact meet_le hw (hty c i hii).2 vi
    -- the value that comes is nwT
    have s103 : et (fun K => mp_X8_come_105 (mp_X8_come_53 (fun σ => K 0 σ) (d + 1)) (fun σ => K 0 σ) σ (nI p) (nI t) x4 x5 (nI i) (σ0.2.2.2.1 33 (12 * p + i)) (nI (nwT T p h ty w i))) (rcX σ0 T lo p t l0 h ty w) := by
      unfold mp_X8_come_105
      by_cases c9 : lo ≤ i ∧ nwT T p h ty w i = 99
      · refine et_x (P2 := fun K => K 0 (sm_i σ 34 (nI p))) (fun K q => ?_) (et_e ⟨fσ.i (by unfold IwX; omega), Or.inr ⟨⟨i, c9.1, hii, c9.2⟩, rfl⟩⟩)
        simp (disch := (first | ((try simp (disch := omega) only [va_up_self, va_up_ne, ne_eq, reduceCtorEq, Nat.reduceEqDiff, not_false_eq_true, l_0, l_2, l_3, l_4, l_5, l_6, l_7, l_8, l_9, l_10, l_11, l_12, l_13, l_14, l_15, l_16, l_17, l_18, l_19, l_20, l_21, l_22, l_23, l_24, l_25, l_26, l_27, l_28, l_29, l_30, l_31, l_32, l_33, l_34, l_35, l_36, l_37, l_38, l_39, l_40, l_41, l_42, l_43, l_44, l_45, l_46, l_47, l_48, l_49, l_50, l_51, l_52, l_53, l_54, l_55, l_56, l_57, l_58, l_59, l_60, l_61, l_62, l_63, l_64, l_97, l_98, l_99, l_200, l_225, l_232, l_255, l_256, l_700, l_1000, l_1024, l_3375, l_4095, l_8000, l_20000, l_60000, vp_nIs, zz0, zz1, e10, nI_leI, nI_ltI, nI_eq, nI_1, nI_1a, nI_add, nI_sub, nI_sub1, pk_mul, nI_clamp, nI_le1, nI_le1', nI_lt1, nI_lt1', nI_eq1, nI_eqm, m1_eqN, m1_le, m1_lt, m1_leN, m1_ltN, nI_am, not_true_eq_false, not_false_eq_true, oN_eqm, g31]) <;> omega) | fail)) only [↓numW, ↓zb_t, ↓zb_f, ↓zb_tt, ↓zb_ff, ↓zb_i, ↓zb_z0, ↓zb_z1, ↓zb_z, ↓zb_l, ↓zb_v, vi32, vi64, true_and, pk_us, Int32.add_zero, Nat.add_sub_cancel, nI_add, nI_1, nI_1a, nI_clamp, k7, k7', k8, k8', k12, k12', k15, k15', k16, k16', nI_sub1, va_up_self, va_up_ne, ne_eq, reduceCtorEq, Nat.reduceEqDiff, not_false_eq_true, g31]
        exact q
      · have nx : ∀ y : Int32, (y = 1 ∧ (h p = 0 ∨ ∃ k, k < i + 1 ∧ nwT T p h ty w k ≠ ty (12 * p + k)) ∨ y = 0 ∧ ¬ (h p = 0 ∨ ∃ k, k < i + 1 ∧ nwT T p h ty w k ≠ ty (12 * p + k))) → et (fun K => mp_X8_come_146 (mp_X8_come_53 (fun σ => K 0 σ) (d + 1)) (fun σ => K 0 σ) σ (nI p) (nI t) x4 (nI i) (nI (nwT T p h ty w i)) y) (rcX σ0 T lo p t l0 h ty w) := by
          intro y hy
          have := ih (i + 1) y (sm_r σ0 33 (tp_row (σ0.2.2.2.1 33) (12 * p) (i + 1) (fun k => nI (nwT T p h ty w k)))) (by omega) rfl hy (fun k k1 k2 => by
            by_cases e : k = i
            · rw [e]; exact fun z => c9 ⟨by omega, z⟩
            · exact hno k k1 (by omega))
          unfold mp_X8_come_146
          refine et_x (fun K q => ?_) this
          simp (disch := (first | ((try simp (disch := omega) only [va_up_self, va_up_ne, ne_eq, reduceCtorEq, Nat.reduceEqDiff, not_false_eq_true, l_0, l_2, l_3, l_4, l_5, l_6, l_7, l_8, l_9, l_10, l_11, l_12, l_13, l_14, l_15, l_16, l_17, l_18, l_19, l_20, l_21, l_22, l_23, l_24, l_25, l_26, l_27, l_28, l_29, l_30, l_31, l_32, l_33, l_34, l_35, l_36, l_37, l_38, l_39, l_40, l_41, l_42, l_43, l_44, l_45, l_46, l_47, l_48, l_49, l_50, l_51, l_52, l_53, l_54, l_55, l_56, l_57, l_58, l_59, l_60, l_61, l_62, l_63, l_64, l_97, l_98, l_99, l_200, l_225, l_232, l_255, l_256, l_700, l_1000, l_1024, l_3375, l_4095, l_8000, l_20000, l_60000, vp_nIs, zz0, zz1, e10, nI_leI, nI_ltI, nI_eq, nI_1, nI_1a, nI_add, nI_sub, nI_sub1, pk_mul, nI_clamp, nI_le1, nI_le1', nI_lt1, nI_lt1', nI_eq1, nI_eqm, m1_eqN, m1_le, m1_lt, m1_leN, m1_ltN, nI_am, not_true_eq_false, not_false_eq_true, oN_eqm, l33, nb8' (show nwT T p h ty w i < 128 by omega)]) <;> omega) | fail)) only [↓numW, ↓zb_t, ↓zb_f, ↓zb_tt, ↓zb_ff, ↓zb_i, ↓zb_z0, ↓zb_z1, ↓zb_z, ↓zb_l, ↓zb_v, vi32, vi64, true_and, pk_us, Int32.add_zero, Nat.add_sub_cancel, nI_add, nI_1, nI_1a, nI_clamp, k7, k7', k8, k8', k12, k12', k15, k15', k16, k16', nI_sub1, va_up_self, va_up_ne, ne_eq, reduceCtorEq, Nat.reduceEqDiff, not_false_eq_true, l33, nb8' (show nwT T p h ty w i < 128 by omega)]
          rw [r33, tp_row1 (σ0.2.2.2.1 33) (12 * p) i _ rfl, eσ, sx_rr]
          exact q
        have g127 : et (fun K => mp_X8_come_129 (mp_X8_come_53 (fun σ => K 0 σ) (d + 1)) (fun σ => K 0 σ) σ (nI p) (nI t) x4 x5 (nI i) (σ0.2.2.2.1 33 (12 * p + i)) (nI (nwT T p h ty w i))) (rcX σ0 T lo p t l0 h ty w) := by
          unfold mp_X8_come_129 mp_X8_come_141
          rcases h5 with ⟨e5, c5⟩ | ⟨e5, c5⟩
          · refine et_x (fun K q => ⟨fun _ => q, fun z => absurd (e5.symm.trans z) (by decide)⟩) (nx 1 (Or.inl ⟨rfl, c5.elim Or.inl (fun ⟨k, k1, k2⟩ => Or.inr ⟨k, by omega, k2⟩)⟩))
          · have hp0 : h p ≠ 0 := fun z => c5 (Or.inl z)
            obtain ⟨rt, vt'⟩ := hty hp0 i hii
            have htl : ty (12 * p + i) ≤ 99 := by unfold vt at vt'; omega
            by_cases ce : nwT T p h ty w i = ty (12 * p + i)
            · refine et_x (fun K q => ⟨fun z => absurd e5 z, fun _ => ⟨fun _ => q, fun z => absurd (by rw [rt, ce]) z⟩⟩) (nx 0 (Or.inr ⟨rfl, fun z => z.elim hp0 (fun ⟨k, k1, k2⟩ => by
                by_cases ek : k = i
                · rw [ek] at k2; exact k2 ce
                · exact c5 (Or.inr ⟨k, by omega, k2⟩))⟩))
            · refine et_x (fun K q => ⟨fun z => absurd e5 z, fun _ => ⟨fun z => ?_, fun _ => q⟩⟩) (nx 1 (Or.inl ⟨rfl, Or.inr ⟨i, by omega, ce⟩⟩))
              rw [rt] at z
              exact absurd ((nI_eq (by omega) (by omega)).mp z) ce
        refine et_x (fun K q => ?_) g127
        by_cases cl : i < lo
        · simp (disch := (first | ((try simp (disch := omega) only [va_up_self, va_up_ne, ne_eq, reduceCtorEq, Nat.reduceEqDiff, not_false_eq_true, l_0, l_2, l_3, l_4, l_5, l_6, l_7, l_8, l_9, l_10, l_11, l_12, l_13, l_14, l_15, l_16, l_17, l_18, l_19, l_20, l_21, l_22, l_23, l_24, l_25, l_26, l_27, l_28, l_29, l_30, l_31, l_32, l_33, l_34, l_35, l_36, l_37, l_38, l_39, l_40, l_41, l_42, l_43, l_44, l_45, l_46, l_47, l_48, l_49, l_50, l_51, l_52, l_53, l_54, l_55, l_56, l_57, l_58, l_59, l_60, l_61, l_62, l_63, l_64, l_97, l_98, l_99, l_200, l_225, l_232, l_255, l_256, l_700, l_1000, l_1024, l_3375, l_4095, l_8000, l_20000, l_60000, vp_nIs, zz0, zz1, e10, nI_leI, nI_ltI, nI_eq, nI_1, nI_1a, nI_add, nI_sub, nI_sub1, pk_mul, nI_clamp, nI_le1, nI_le1', nI_lt1, nI_lt1', nI_eq1, nI_eqm, m1_eqN, m1_le, m1_lt, m1_leN, m1_ltN, nI_am, not_true_eq_false, not_false_eq_true, oN_eqm, g31]) <;> omega) | fail)) only [↓numW, ↓zb_t, ↓zb_f, ↓zb_tt, ↓zb_ff, ↓zb_i, ↓zb_z0, ↓zb_z1, ↓zb_z, ↓zb_l, ↓zb_v, vi32, vi64, true_and, pk_us, Int32.add_zero, Nat.add_sub_cancel, nI_add, nI_1, nI_1a, nI_clamp, k7, k7', k8, k8', k12, k12', k15, k15', k16, k16', nI_sub1, va_up_self, va_up_ne, ne_eq, reduceCtorEq, Nat.reduceEqDiff, not_false_eq_true, g31]
          exact q
        · have c99 : nwT T p h ty w i ≠ 99 := fun z => c9 ⟨by omega, z⟩
          simp (disch := (first | ((try simp (disch := omega) only [va_up_self, va_up_ne, ne_eq, reduceCtorEq, Nat.reduceEqDiff, not_false_eq_true, l_0, l_2, l_3, l_4, l_5, l_6, l_7, l_8, l_9, l_10, l_11, l_12, l_13, l_14, l_15, l_16, l_17, l_18, l_19, l_20, l_21, l_22, l_23, l_24, l_25, l_26, l_27, l_28, l_29, l_30, l_31, l_32, l_33, l_34, l_35, l_36, l_37, l_38, l_39, l_40, l_41, l_42, l_43, l_44, l_45, l_46, l_47, l_48, l_49, l_50, l_51, l_52, l_53, l_54, l_55, l_56, l_57, l_58, l_59, l_60, l_61, l_62, l_63, l_64, l_97, l_98, l_99, l_200, l_225, l_232, l_255, l_256, l_700, l_1000, l_1024, l_3375, l_4095, l_8000, l_20000, l_60000, vp_nIs, zz0, zz1, e10, nI_leI, nI_ltI, nI_eq, nI_1, nI_1a, nI_add, nI_sub, nI_sub1, pk_mul, nI_clamp, nI_le1, nI_le1', nI_lt1, nI_lt1', nI_eq1, nI_eqm, m1_eqN, m1_le, m1_lt, m1_leN, m1_ltN, nI_am, not_true_eq_false, not_false_eq_true, oN_eqm, g31]) <;> omega) | fail)) only [↓numW, ↓zb_t, ↓zb_f, ↓zb_tt, ↓zb_ff, ↓zb_i, ↓zb_z0, ↓zb_z1, ↓zb_z, ↓zb_l, ↓zb_v, vi32, vi64, true_and, pk_us, Int32.add_zero, Nat.add_sub_cancel, nI_add, nI_1, nI_1a, nI_clamp, k7, k7', k8, k8', k12, k12', k15, k15', k16, k16', nI_sub1, va_up_self, va_up_ne, ne_eq, reduceCtorEq, Nat.reduceEqDiff, not_false_eq_true, g31]
          exact q
    unfold mp_X8_come_53
    have rw35 : σ.2.2.2.1 35 i = nI (w i) := by rw [r35]; exact ri
    by_cases c : h p = 0
    · have en : nwT T p h ty w i = w i := by unfold nwT; rw [if_pos c]
      rw [en] at s103
      rw [hx4.1 c] at s103 ⊢
      refine et_x (fun K q => ?_) s103
      simp (disch := (first | ((try simp (disch := omega) only [va_up_self, va_up_ne, ne_eq, reduceCtorEq, Nat.reduceEqDiff, not_false_eq_true, l_0, l_2, l_3, l_4, l_5, l_6, l_7, l_8, l_9, l_10, l_11, l_12, l_13, l_14, l_15, l_16, l_17, l_18, l_19, l_20, l_21, l_22, l_23, l_24, l_25, l_26, l_27, l_28, l_29, l_30, l_31, l_32, l_33, l_34, l_35, l_36, l_37, l_38, l_39, l_40, l_41, l_42, l_43, l_44, l_45, l_46, l_47, l_48, l_49, l_50, l_51, l_52, l_53, l_54, l_55, l_56, l_57, l_58, l_59, l_60, l_61, l_62, l_63, l_64, l_97, l_98, l_99, l_200, l_225, l_232, l_255, l_256, l_700, l_1000, l_1024, l_3375, l_4095, l_8000, l_20000, l_60000, vp_nIs, zz0, zz1, e10, nI_leI, nI_ltI, nI_eq, nI_1, nI_1a, nI_add, nI_sub, nI_sub1, pk_mul, nI_clamp, nI_le1, nI_le1', nI_lt1, nI_lt1', nI_eq1, nI_eqm, m1_eqN, m1_le, m1_lt, m1_leN, m1_ltN, nI_am, not_true_eq_false, not_false_eq_true, oN_eqm, g31, v33, rw35, l33, l35']) <;> omega) | fail)) only [↓numW, ↓zb_t, ↓zb_f, ↓zb_tt, ↓zb_ff, ↓zb_i, ↓zb_z0, ↓zb_z1, ↓zb_z, ↓zb_l, ↓zb_v, vi32, vi64, true_and, pk_us, Int32.add_zero, Nat.add_sub_cancel, nI_add, nI_1, nI_1a, nI_clamp, k7, k7', k8, k8', k12, k12', k15, k15', k16, k16', nI_sub1, va_up_self, va_up_ne, ne_eq, reduceCtorEq, Nat.reduceEqDiff, not_false_eq_true, g31, v33, rw35, l33, l35']
      exact q
    · have en : nwT T p h ty w i = meetT T (ty (12 * p + i)) (w i) := by unfold nwT; rw [if_neg c]
      obtain ⟨rt, vt'⟩ := hty c i hii
      rw [rt, en] at s103
      rw [hx4.2 c] at s103 ⊢
      rw [rt] at v33
      refine et_x (fun K q => ?_) s103
      simp (disch := (first | ((try simp (disch := omega) only [va_up_self, va_up_ne, ne_eq, reduceCtorEq, Nat.reduceEqDiff, not_false_eq_true, l_0, l_2, l_3, l_4, l_5, l_6, l_7, l_8, l_9, l_10, l_11, l_12, l_13, l_14, l_15, l_16, l_17, l_18, l_19, l_20, l_21, l_22, l_23, l_24, l_25, l_26, l_27, l_28, l_29, l_30, l_31, l_32, l_33, l_34, l_35, l_36, l_37, l_38, l_39, l_40, l_41, l_42, l_43, l_44, l_45, l_46, l_47, l_48, l_49, l_50, l_51, l_52, l_53, l_54, l_55, l_56, l_57, l_58, l_59, l_60, l_61, l_62, l_63, l_64, l_97, l_98, l_99, l_200, l_225, l_232, l_255, l_256, l_700, l_1000, l_1024, l_3375, l_4095, l_8000, l_20000, l_60000, vp_nIs, zz0, zz1, e10, nI_leI, nI_ltI, nI_eq, nI_1, nI_1a, nI_add, nI_sub, nI_sub1, pk_mul, nI_clamp, nI_le1, nI_le1', nI_lt1, nI_lt1', nI_eq1, nI_eqm, m1_eqN, m1_le, m1_lt, m1_leN, m1_ltN, nI_am, not_true_eq_false, not_false_eq_true, oN_eqm, g31, v33, rw35, l33, l35']) <;> omega) | fail)) only [↓numW, ↓zb_t, ↓zb_f, ↓zb_tt, ↓zb_ff, ↓zb_i, ↓zb_z0, ↓zb_z1, ↓zb_z, ↓zb_l, ↓zb_v, vi32, vi64, true_and, pk_us, Int32.add_zero, Nat.add_sub_cancel, nI_add, nI_1, nI_1a, nI_clamp, k7, k7', k8, k8', k12, k12', k15, k15', k16, k16', nI_sub1, va_up_self, va_up_ne, ne_eq, reduceCtorEq, Nat.reduceEqDiff, not_false_eq_true, g31, v33, rw35, l33, l35']
      exact w_meetX iσ hw vt' vi q
