/-! ===== the whole image, both sides ===== -/
def rg (σ μ : sm_S) (n : Nat) (b : Nat → Nat) : Prop := iv_bX σ n b ∧ iv_bM μ n b ∧ lnX σ ∧ lnM μ
theorem rg.a {σ μ σ' μ' : sm_S} {n : Nat} {b : Nat → Nat} (h : rg σ μ n b) (hX : fr IX AX σ σ') (hM : fr IM AM μ μ') : rg σ' μ' n b := ⟨hX.bX (by unfold IX; omega) (fun j => (by unfold AX; omega)) h.1, hM.bM (by unfold IM; omega) (fun j => (by unfold AM; omega)) h.2.1, hX.lX h.2.2.1, hM.lM h.2.2.2⟩
theorem rg.rd {σ μ : sm_S} {n p : Nat} {b : Nat → Nat} (h : rg σ μ n b) (h2 : at2 σ μ n p) : iv_rd σ μ n b p := ⟨h.1, h.2.1, h2⟩
/-- behind a wrong byte: the reader's end -/
theorem w_141W {S : sm_S} (hw : ¬ S.1 21 = -1) : et (fun K => mp_X6_firstWrong_141 K S) (fun r σ' => r = S.1 21 ∧ fr IX AX S σ' ∧ σ'.1 21 = S.1 21) := by
  unfold mp_X6_firstWrong_141 mp_X6_firstWrong_175 mp_X6_readFirst mp_X6_readFirst_61
  simp (disch := (first | ((try simp (disch := omega) only [va_up_self, va_up_ne, ne_eq, reduceCtorEq, Nat.reduceEqDiff, not_false_eq_true, l_0, l_2, l_3, l_4, l_5, l_6, l_7, l_8, l_9, l_10, l_11, l_12, l_13, l_14, l_15, l_16, l_17, l_18, l_19, l_20, l_21, l_22, l_23, l_24, l_25, l_26, l_27, l_28, l_29, l_30, l_31, l_32, l_33, l_34, l_35, l_36, l_37, l_38, l_39, l_40, l_41, l_42, l_43, l_44, l_45, l_46, l_47, l_48, l_49, l_50, l_51, l_52, l_53, l_54, l_55, l_56, l_57, l_58, l_59, l_60, l_61, l_62, l_63, l_64, l_97, l_98, l_99, l_200, l_225, l_232, l_255, l_256, l_700, l_1000, l_1024, l_3375, l_4095, l_8000, l_20000, l_60000, vp_nIs, zz0, zz1, e10, nI_leI, nI_ltI, nI_eq, nI_1, nI_1a, nI_add, nI_sub, nI_sub1, pk_mul, nI_clamp, nI_le1, nI_le1', nI_lt1, nI_lt1', nI_eq1, nI_eqm, m1_eqN, m1_le, m1_lt, m1_leN, m1_ltN, nI_am, not_true_eq_false, not_false_eq_true, oN_eqm, hw]) <;> omega) | fail)) only [↓numW, ↓zb_t, ↓zb_f, ↓zb_tt, ↓zb_ff, ↓zb_i, ↓zb_z0, ↓zb_z1, ↓zb_z, ↓zb_l, ↓zb_v, vi32, vi64, true_and, pk_us, Int32.add_zero, Nat.add_sub_cancel, nI_add, nI_1, nI_1a, nI_clamp, k7, k7', k8, k8', k12, k12', k15, k15', k16, k16', nI_sub1, va_up_self, va_up_ne, ne_eq, reduceCtorEq, Nat.reduceEqDiff, not_false_eq_true, hw]
  exact et_e ⟨rfl, (by repeat' (first | exact fr_r | assumption | refine fr.i ?_ (by unfold IX; omega) | refine fr.u ?_ (by rfl) (by unfold AX; omega))), rfl⟩
theorem w_111W {S : sm_S} {x : Int32} {d : Nat} (hw : ¬ S.1 21 = -1) : et (fun K => mp_X6_firstWrong_111 K (d + 1) S x) (fun r σ' => r = S.1 21 ∧ fr IX AX S σ' ∧ σ'.1 21 = S.1 21) := by
  unfold mp_X6_firstWrong_111
  exact et_x (fun K q => ⟨fun _ => q, fun _ => ⟨fun _ => q, fun z => absurd z hw⟩⟩) (w_141W hw)
theorem w_59W : ∀ (d i : Nat) (S : sm_S), i + d = 5 → lnX S → ¬ S.1 21 = -1 → et (fun K => mp_X6_firstWrong_59 K (d + 1) S (nI i)) (fun r σ' => r = S.1 21 ∧ fr IX AX S σ' ∧ σ'.1 21 = S.1 21) := by
  intro d
  induction d with
  | zero =>
    intro i S hi hLX hw
    have e : i = 5 := by omega
    unfold mp_X6_firstWrong_59
    simp (disch := (first | ((try simp (disch := omega) only [va_up_self, va_up_ne, ne_eq, reduceCtorEq, Nat.reduceEqDiff, not_false_eq_true, l_0, l_2, l_3, l_4, l_5, l_6, l_7, l_8, l_9, l_10, l_11, l_12, l_13, l_14, l_15, l_16, l_17, l_18, l_19, l_20, l_21, l_22, l_23, l_24, l_25, l_26, l_27, l_28, l_29, l_30, l_31, l_32, l_33, l_34, l_35, l_36, l_37, l_38, l_39, l_40, l_41, l_42, l_43, l_44, l_45, l_46, l_47, l_48, l_49, l_50, l_51, l_52, l_53, l_54, l_55, l_56, l_57, l_58, l_59, l_60, l_61, l_62, l_63, l_64, l_97, l_98, l_99, l_200, l_225, l_232, l_255, l_256, l_700, l_1000, l_1024, l_3375, l_4095, l_8000, l_20000, l_60000, vp_nIs, zz0, zz1, e10, nI_leI, nI_ltI, nI_eq, nI_1, nI_1a, nI_add, nI_sub, nI_sub1, pk_mul, nI_clamp, nI_le1, nI_le1', nI_lt1, nI_lt1', nI_eq1, nI_eqm, m1_eqN, m1_le, m1_lt, m1_leN, m1_ltN, nI_am, not_true_eq_false, not_false_eq_true, oN_eqm, hw, lx11 hLX, lx12 hLX, lx13 hLX, lx14 hLX, lx15 hLX, lx16 hLX, lx20 hLX, lx21 hLX, lx22 hLX, lx23 hLX, lx24 hLX, lx25 hLX, lx26 hLX, lx27 hLX, lx28 hLX, lx29 hLX]) <;> omega) | fail)) only [↓numW, ↓zb_t, ↓zb_f, ↓zb_tt, ↓zb_ff, ↓zb_i, ↓zb_z0, ↓zb_z1, ↓zb_z, ↓zb_l, ↓zb_v, vi32, vi64, true_and, pk_us, Int32.add_zero, Nat.add_sub_cancel, nI_add, nI_1, nI_1a, nI_clamp, k7, k7', k8, k8', k12, k12', k15, k15', k16, k16', nI_sub1, va_up_self, va_up_ne, ne_eq, reduceCtorEq, Nat.reduceEqDiff, not_false_eq_true, hw, lx11 hLX, lx12 hLX, lx13 hLX, lx14 hLX, lx15 hLX, lx16 hLX, lx20 hLX, lx21 hLX, lx22 hLX, lx23 hLX, lx24 hLX, lx25 hLX, lx26 hLX, lx27 hLX, lx28 hLX, lx29 hLX]
    refine et_n 1 (et_w (w_111W (S := sm_i S 16 0) hw) (fun r σ' q => ⟨q.1, fr.t (b := _) (by repeat' (first | exact fr_r | assumption | refine fr.i ?_ (by unfold IX; omega) | refine fr.u ?_ (by rfl) (by unfold AX; omega))) q.2.1, q.2.2⟩))
  | succ d ih =>
    intro i S hi hLX hw
    unfold mp_X6_firstWrong_59
    simp (disch := (first | ((try simp (disch := omega) only [va_up_self, va_up_ne, ne_eq, reduceCtorEq, Nat.reduceEqDiff, not_false_eq_true, l_0, l_2, l_3, l_4, l_5, l_6, l_7, l_8, l_9, l_10, l_11, l_12, l_13, l_14, l_15, l_16, l_17, l_18, l_19, l_20, l_21, l_22, l_23, l_24, l_25, l_26, l_27, l_28, l_29, l_30, l_31, l_32, l_33, l_34, l_35, l_36, l_37, l_38, l_39, l_40, l_41, l_42, l_43, l_44, l_45, l_46, l_47, l_48, l_49, l_50, l_51, l_52, l_53, l_54, l_55, l_56, l_57, l_58, l_59, l_60, l_61, l_62, l_63, l_64, l_97, l_98, l_99, l_200, l_225, l_232, l_255, l_256, l_700, l_1000, l_1024, l_3375, l_4095, l_8000, l_20000, l_60000, vp_nIs, zz0, zz1, e10, nI_leI, nI_ltI, nI_eq, nI_1, nI_1a, nI_add, nI_sub, nI_sub1, pk_mul, nI_clamp, nI_le1, nI_le1', nI_lt1, nI_lt1', nI_eq1, nI_eqm, m1_eqN, m1_le, m1_lt, m1_leN, m1_ltN, nI_am, not_true_eq_false, not_false_eq_true, oN_eqm, hw, lx11 hLX, lx12 hLX, lx13 hLX, lx14 hLX, lx15 hLX, lx16 hLX, lx20 hLX, lx21 hLX, lx22 hLX, lx23 hLX, lx24 hLX, lx25 hLX, lx26 hLX, lx27 hLX, lx28 hLX, lx29 hLX]) <;> omega) | fail)) only [↓numW, ↓zb_t, ↓zb_f, ↓zb_tt, ↓zb_ff, ↓zb_i, ↓zb_z0, ↓zb_z1, ↓zb_z, ↓zb_l, ↓zb_v, vi32, vi64, true_and, pk_us, Int32.add_zero, Nat.add_sub_cancel, nI_add, nI_1, nI_1a, nI_clamp, k7, k7', k8, k8', k12, k12', k15, k15', k16, k16', nI_sub1, va_up_self, va_up_ne, ne_eq, reduceCtorEq, Nat.reduceEqDiff, not_false_eq_true, hw, lx11 hLX, lx12 hLX, lx13 hLX, lx14 hLX, lx15 hLX, lx16 hLX, lx20 hLX, lx21 hLX, lx22 hLX, lx23 hLX, lx24 hLX, lx25 hLX, lx26 hLX, lx27 hLX, lx28 hLX, lx29 hLX]
    refine et_w (ih (i + 1) (sm_r S 16 (upd (S.2.2.2.1 16) i 0)) (by omega) hLX hw) (fun r σ' q => ⟨q.1, fr.t (b := _) (by repeat' (first | exact fr_r | assumption | refine fr.i ?_ (by unfold IX; omega) | refine fr.u ?_ (by rfl) (by unfold AX; omega))) q.2.1, q.2.2⟩)
theorem w_57W {S : sm_S} (hLX : lnX S) (hw : ¬ S.1 21 = -1) : et (fun K => mp_X6_firstWrong_57 K S) (fun r σ' => r = S.1 21 ∧ fr IX AX S σ' ∧ σ'.1 21 = S.1 21) := by
  unfold mp_X6_firstWrong_57
  exact et_n 6 (w_59W 5 0 S (by omega) hLX hw)
/-- the classes up to c are read, p bytes of the image -/
def clo (σ μ : sm_S) (C c p : Nat) : Prop := ∃ pl : Nat → Nat, pl c = p ∧ ∀ i, i < c → pl i < pl (i + 1) ∧ clq σ μ C i (pl i) (pl (i + 1))
theorem clo.f {I J : Nat → Prop} {A B : Nat → Nat → Prop} {σ μ σ' μ' : sm_S} {C c p : Nat} (h : clo σ μ C c p) (hX : fr I A σ σ') (hM : fr J B μ μ') (hA : ∀ r j, 11 ≤ r → r ≤ 15 → ¬ A r j) (hB : ∀ r j, 5 ≤ r → r ≤ 9 → ¬ B r j) : clo σ' μ' C c p := by
  obtain ⟨pl, h1, h2⟩ := h
  exact ⟨pl, h1, fun i hi => ⟨(h2 i hi).1, (h2 i hi).2.f hX hM hA hB⟩⟩
theorem clo.g {σ μ : sm_S} {C c p : Nat} (h : clo σ μ C c p) : ∀ i, i < c → ∃ p0 p1, clq σ μ C i p0 p1 := by
  obtain ⟨pl, h1, h2⟩ := h
  exact fun i hi => ⟨_, _, (h2 i hi).2⟩
theorem clo.s {σ μ σ' μ' : sm_S} {C c p p' : Nat} (h : clo σ μ C c p) (hX : fr IcX (AcX c) σ σ') (hM : fr IcM (AcM c) μ μ') (hp : p < p') (hc : clq σ' μ' C c p p') : clo σ' μ' C (c + 1) p' := by
  obtain ⟨pl, h1, h2⟩ := h
  refine ⟨fun i => if i ≤ c then pl i else p', if_neg (show ¬ c + 1 ≤ c by omega), fun i hi => ?_⟩
  by_cases e : i < c
  · simp only [if_pos (show i ≤ c by omega), if_pos (show i + 1 ≤ c by omega)]
    exact ⟨(h2 i e).1, (h2 i e).2.c e hX hM⟩
  · have e2 : i = c := by omega
    subst e2
    simp only [if_pos (Nat.le_refl i), if_neg (show ¬ i + 1 ≤ i by omega), h1]
    exact ⟨hp, hc⟩
theorem jc_classes {n C : Nat} {b : Nat → Nat} {R : Int32 → sm_S → Int32 → sm_S → Prop} {σ0 μ0 : sm_S} (h0 : rb σ0 μ0 n b C)
    (hexit : ∀ (σ μ : sm_S) (p : Nat), fr IX AX σ0 σ → fr IM AM μ0 μ → rb σ μ n b C → at2 σ μ n p → clo σ μ C C p → (σ.2.2.2.1 19 = σ0.2.2.2.1 19 ∧ μ.2.2.2.1 4 = μ0.2.2.2.1 4 ∧ σ.1 15 = σ0.1 15 ∧ μ.1 7 = μ0.1 7) → jt (fun K => mp_X6_firstWrong_57 K σ) (fun K => ∃ n48 : Nat, mp_X11_readAll_48 K n48 μ 0) R)
    (hfail : ∀ (σ μ : sm_S) (w : Nat), fr IX AX σ0 σ → fr IM AM μ0 μ → w ≤ n → σ.1 21 = nI w → μ.1 3 = nI w → R (nI w) σ 0 μ) :
    ∀ (d c p : Nat) (σ μ : sm_S), c + d = C → fr IX AX σ0 σ → fr IM AM μ0 μ → rb σ μ n b C → at2 σ μ n p → clo σ μ C c p → (σ.2.2.2.1 19 = σ0.2.2.2.1 19 ∧ μ.2.2.2.1 4 = μ0.2.2.2.1 4 ∧ σ.1 15 = σ0.1 15 ∧ μ.1 7 = μ0.1 7) →
      jt (fun K => mp_X6_firstWrong_27 K (d + 1) σ (nI c)) (fun K => mp_X11_readAll_22 K (d + 1) μ (nI c)) R := by
  have hn : n ≤ 8000 := h0.1.1
  have hC2 : C ≤ 32 := h0.2.2.2.2.2.2
  intro d
  induction d with
  | zero =>
    intro c p σ μ hc hX hM hr ha hq hs
    have e : c = C := by omega
    subst e
    have h00 : σ.1 0 = nI c := hr.2.2.2.2.1
    have h05 : μ.1 5 = nI c := hr.2.2.2.2.2.1
    unfold mp_X6_firstWrong_27 mp_X11_readAll_22
    simp (disch := (first | ((try simp (disch := omega) only [va_up_self, va_up_ne, ne_eq, reduceCtorEq, Nat.reduceEqDiff, not_false_eq_true, l_0, l_2, l_3, l_4, l_5, l_6, l_7, l_8, l_9, l_10, l_11, l_12, l_13, l_14, l_15, l_16, l_17, l_18, l_19, l_20, l_21, l_22, l_23, l_24, l_25, l_26, l_27, l_28, l_29, l_30, l_31, l_32, l_33, l_34, l_35, l_36, l_37, l_38, l_39, l_40, l_41, l_42, l_43, l_44, l_45, l_46, l_47, l_48, l_49, l_50, l_51, l_52, l_53, l_54, l_55, l_56, l_57, l_58, l_59, l_60, l_61, l_62, l_63, l_64, l_97, l_98, l_99, l_200, l_225, l_232, l_255, l_256, l_700, l_1000, l_1024, l_3375, l_4095, l_8000, l_20000, l_60000, vp_nIs, zz0, zz1, e10, nI_leI, nI_ltI, nI_eq, nI_1, nI_1a, nI_add, nI_sub, nI_sub1, pk_mul, nI_clamp, nI_le1, nI_le1', nI_lt1, nI_lt1', nI_eq1, nI_eqm, m1_eqN, m1_le, m1_lt, m1_leN, m1_ltN, nI_am, not_true_eq_false, not_false_eq_true, oN_eqm, h00, h05]) <;> omega) | fail)) only [↓numW, ↓zb_t, ↓zb_f, ↓zb_tt, ↓zb_ff, ↓zb_i, ↓zb_z0, ↓zb_z1, ↓zb_z, ↓zb_l, ↓zb_v, vi32, vi64, true_and, pk_us, Int32.add_zero, Nat.add_sub_cancel, nI_add, nI_1, nI_1a, nI_clamp, k7, k7', k8, k8', k12, k12', k15, k15', k16, k16', nI_sub1, va_up_self, va_up_ne, ne_eq, reduceCtorEq, Nat.reduceEqDiff, not_false_eq_true, h00, h05]
    exact hexit σ μ p hX hM hr ha hq hs
  | succ d ih =>
    intro c p σ μ hc hX hM hr ha hq hs
    have h00 : σ.1 0 = nI C := hr.2.2.2.2.1
    have h05 : μ.1 5 = nI C := hr.2.2.2.2.2.1
    have hw : σ.1 21 = -1 := ha.2.2.2.1
    unfold mp_X6_firstWrong_27 mp_X11_readAll_22
    simp (disch := (first | ((try simp (disch := omega) only [va_up_self, va_up_ne, ne_eq, reduceCtorEq, Nat.reduceEqDiff, not_false_eq_true, l_0, l_2, l_3, l_4, l_5, l_6, l_7, l_8, l_9, l_10, l_11, l_12, l_13, l_14, l_15, l_16, l_17, l_18, l_19, l_20, l_21, l_22, l_23, l_24, l_25, l_26, l_27, l_28, l_29, l_30, l_31, l_32, l_33, l_34, l_35, l_36, l_37, l_38, l_39, l_40, l_41, l_42, l_43, l_44, l_45, l_46, l_47, l_48, l_49, l_50, l_51, l_52, l_53, l_54, l_55, l_56, l_57, l_58, l_59, l_60, l_61, l_62, l_63, l_64, l_97, l_98, l_99, l_200, l_225, l_232, l_255, l_256, l_700, l_1000, l_1024, l_3375, l_4095, l_8000, l_20000, l_60000, vp_nIs, zz0, zz1, e10, nI_leI, nI_ltI, nI_eq, nI_1, nI_1a, nI_add, nI_sub, nI_sub1, pk_mul, nI_clamp, nI_le1, nI_le1', nI_lt1, nI_lt1', nI_eq1, nI_eqm, m1_eqN, m1_le, m1_lt, m1_leN, m1_ltN, nI_am, not_true_eq_false, not_false_eq_true, oN_eqm, h00, h05, hw]) <;> omega) | fail)) only [↓numW, ↓zb_t, ↓zb_f, ↓zb_tt, ↓zb_ff, ↓zb_i, ↓zb_z0, ↓zb_z1, ↓zb_z, ↓zb_l, ↓zb_v, vi32, vi64, true_and, pk_us, Int32.add_zero, Nat.add_sub_cancel, nI_add, nI_1, nI_1a, nI_clamp, k7, k7', k8, k8', k12, k12', k15, k15', k16, k16', nI_sub1, va_up_self, va_up_ne, ne_eq, reduceCtorEq, Nat.reduceEqDiff, not_false_eq_true, h00, h05, hw]
    refine jt_bv (jc_class hr (by omega) ha hq.g) (fun r σ' r' μ' hRC => ?_)
    obtain ⟨f1, f2, hRC⟩ := hRC
    have g1 : fr IX AX σ0 σ' := hX.t (f1.m (fun _ q => by unfold IcX at q; unfold IX; omega) (fun r j q => by unfold AcX at q; unfold AX; omega))
    have g2 : fr IM AM μ0 μ' := hM.t (f2.m (fun _ q => by unfold IcM at q; unfold IM; omega) (fun r j q => by unfold AcM at q; unfold AM; omega))
    rcases hRC with ⟨er, p', hp, a', hcq⟩ | ⟨er, w, w1, w2, w3⟩
    · subst er
      simp (disch := (first | ((try simp (disch := omega) only [va_up_self, va_up_ne, ne_eq, reduceCtorEq, Nat.reduceEqDiff, not_false_eq_true, l_0, l_2, l_3, l_4, l_5, l_6, l_7, l_8, l_9, l_10, l_11, l_12, l_13, l_14, l_15, l_16, l_17, l_18, l_19, l_20, l_21, l_22, l_23, l_24, l_25, l_26, l_27, l_28, l_29, l_30, l_31, l_32, l_33, l_34, l_35, l_36, l_37, l_38, l_39, l_40, l_41, l_42, l_43, l_44, l_45, l_46, l_47, l_48, l_49, l_50, l_51, l_52, l_53, l_54, l_55, l_56, l_57, l_58, l_59, l_60, l_61, l_62, l_63, l_64, l_97, l_98, l_99, l_200, l_225, l_232, l_255, l_256, l_700, l_1000, l_1024, l_3375, l_4095, l_8000, l_20000, l_60000, vp_nIs, zz0, zz1, e10, nI_leI, nI_ltI, nI_eq, nI_1, nI_1a, nI_add, nI_sub, nI_sub1, pk_mul, nI_clamp, nI_le1, nI_le1', nI_lt1, nI_lt1', nI_eq1, nI_eqm, m1_eqN, m1_le, m1_lt, m1_leN, m1_ltN, nI_am, not_true_eq_false, not_false_eq_true, oN_eqm, hw]) <;> omega) | fail)) only [↓numW, ↓zb_t, ↓zb_f, ↓zb_tt, ↓zb_ff, ↓zb_i, ↓zb_z0, ↓zb_z1, ↓zb_z, ↓zb_l, ↓zb_v, vi32, vi64, true_and, pk_us, Int32.add_zero, Nat.add_sub_cancel, nI_add, nI_1, nI_1a, nI_clamp, k7, k7', k8, k8', k12, k12', k15, k15', k16, k16', nI_sub1, va_up_self, va_up_ne, ne_eq, reduceCtorEq, Nat.reduceEqDiff, not_false_eq_true, hw]
      refine ih (c + 1) p' σ' μ' (by omega) g1 g2 (hr.c f1 f2) a' (hq.s f1 f2 hp hcq) ⟨?_, ?_, ?_, ?_⟩
      · rw [f1.row (fun j => (by unfold AcX; omega))]; exact hs.1
      · rw [f2.row (fun j => (by unfold AcM; omega))]; exact hs.2.1
      · rw [f1.2.2.2.1 15 (by unfold IcX; omega)]; exact hs.2.2.1
      · rw [f2.2.2.2.1 7 (by unfold IcM; omega)]; exact hs.2.2.2
    · subst er
      have hwS : ¬ σ'.1 21 = -1 := by rw [w2]; exact nI_m1 (by omega)
      simp (disch := (first | ((try simp (disch := omega) only [va_up_self, va_up_ne, ne_eq, reduceCtorEq, Nat.reduceEqDiff, not_false_eq_true, l_0, l_2, l_3, l_4, l_5, l_6, l_7, l_8, l_9, l_10, l_11, l_12, l_13, l_14, l_15, l_16, l_17, l_18, l_19, l_20, l_21, l_22, l_23, l_24, l_25, l_26, l_27, l_28, l_29, l_30, l_31, l_32, l_33, l_34, l_35, l_36, l_37, l_38, l_39, l_40, l_41, l_42, l_43, l_44, l_45, l_46, l_47, l_48, l_49, l_50, l_51, l_52, l_53, l_54, l_55, l_56, l_57, l_58, l_59, l_60, l_61, l_62, l_63, l_64, l_97, l_98, l_99, l_200, l_225, l_232, l_255, l_256, l_700, l_1000, l_1024, l_3375, l_4095, l_8000, l_20000, l_60000, vp_nIs, zz0, zz1, e10, nI_leI, nI_ltI, nI_eq, nI_1, nI_1a, nI_add, nI_sub, nI_sub1, pk_mul, nI_clamp, nI_le1, nI_le1', nI_lt1, nI_lt1', nI_eq1, nI_eqm, m1_eqN, m1_le, m1_lt, m1_leN, m1_ltN, nI_am, not_true_eq_false, not_false_eq_true, oN_eqm, hw]) <;> omega) | fail)) only [↓numW, ↓zb_t, ↓zb_f, ↓zb_tt, ↓zb_ff, ↓zb_i, ↓zb_z0, ↓zb_z1, ↓zb_z, ↓zb_l, ↓zb_v, vi32, vi64, true_and, pk_us, Int32.add_zero, Nat.add_sub_cancel, nI_add, nI_1, nI_1a, nI_clamp, k7, k7', k8, k8', k12, k12', k15, k15', k16, k16', nI_sub1, va_up_self, va_up_ne, ne_eq, reduceCtorEq, Nat.reduceEqDiff, not_false_eq_true, hw]
      refine jt_x (P2 := fun K => mp_X6_firstWrong_57 K σ') (fun K q => ?_) (jt_ee (et_w (w_57W (f1.lX hr.2.2.1) hwS) (fun r σ5 q => ?_)))
      · unfold mp_X6_firstWrong_27
        exact ⟨fun _ => q, fun _ => ⟨fun _ => q, fun z => absurd z hwS⟩⟩
      · rw [q.1, w2]
        exact hfail σ5 μ' w (g1.t q.2.1) g2 w1 (by rw [q.2.2]; exact w2) w3
theorem mtq.f {I J : Nat → Prop} {A B : Nat → Nat → Prop} {σ μ σ' μ' : sm_S} {b : Nat → Nat} {C n i p p' : Nat} (h : mtq σ μ b C n i p p') (hX : fr I A σ σ') (hM : fr J B μ μ') (hA : ∀ r, 20 ≤ r → r ≤ 29 → r ≠ 22 → ¬ A r i) (hA2 : ∀ j, 8 * i ≤ j → j < 8 * i + 8 → ¬ A 22 j) (hA3 : ∀ j, j < p' → ¬ A 19 j) (hB : ∀ r, 11 ≤ r → r ≤ 20 → r ≠ 13 → ¬ B r i) (hB2 : ∀ j, 8 * i ≤ j → j < 8 * i + 8 → ¬ B 13 j) (hB3 : ∀ j, j < p' → ¬ B 4 j) (b6 : ∀ j, ¬ B 6 j) (b8 : ∀ j, ¬ B 8 j) : mtq σ' μ' b C n i p p' := by
  obtain ⟨o, np, g, lo, st, ca, cl, h, h1, h2, h3, h4, h5, h6, h7, h8⟩ := h
  have rx : ∀ r, 20 ≤ r → r ≤ 29 → r ≠ 22 → σ'.2.2.2.1 r i = σ.2.2.2.1 r i := fun r a c d => hX.2.2.2.2 r i (hA r a c d)
  have rm : ∀ r, 11 ≤ r → r ≤ 20 → r ≠ 13 → μ'.2.2.2.1 r i = μ.2.2.2.1 r i := fun r a c d => hM.2.2.2.2 r i (hB r a c d)
  refine ⟨o, np, g, lo, st, ca, cl, h, h1, ?_, ?_, h4, fun q => ⟨(h5 q).1, ?_⟩, ?_, fun j hj => ?_, ?_⟩
  · rw [rx 20 (by decide) (by decide) (by decide)]; exact h2
  · rw [rm 11 (by decide) (by decide) (by decide)]; exact h3
  · rw [hM.2.2.2.2 13 _ (hB2 _ (by omega) (by omega))]; exact (h5 q).2
  · rw [rx 21 (by decide) (by decide) (by decide)]; exact h6
  · rw [hX.2.2.2.2 22 _ (hA2 _ (by omega) (by omega)), hM.2.2.2.2 13 _ (hB2 _ (by omega) (by omega))]; exact h7 j hj
  · unfold m1f at h8 ⊢
    rw [rx 23 (by decide) (by decide) (by decide), rx 24 (by decide) (by decide) (by decide), rx 25 (by decide) (by decide) (by decide), rx 26 (by decide) (by decide) (by decide), rx 27 (by decide) (by decide) (by decide), rx 28 (by decide) (by decide) (by decide), rx 29 (by decide) (by decide) (by decide), rm 12 (by decide) (by decide) (by decide), rm 14 (by decide) (by decide) (by decide), rm 15 (by decide) (by decide) (by decide), rm 16 (by decide) (by decide) (by decide), rm 17 (by decide) (by decide) (by decide), rm 18 (by decide) (by decide) (by decide), rm 19 (by decide) (by decide) (by decide), rm 20 (by decide) (by decide) (by decide)]
    obtain ⟨q1, q2, q3, q4, q5, q6, q7, q8, q9, q10, q11, q12, q13, q14, q15, q16, q17, q18, q19, q20, q21, q22, q23, q24, q25, q26⟩ := h8
    exact ⟨q1, q2, q3, q4, q5, q6, q7, q8, q9, q10, q11, q12, q13, q14, q15, q16, q17, q18, q19, q20, q21, q22, q23, q24, q25.f hX hM (fun j _ j2 => hA3 j (by omega)) (fun j _ j2 => hB3 j (by omega)) b6 b8, q26⟩
/-- the methods up to m are read, p bytes of the image -/
def mto (σ μ : sm_S) (b : Nat → Nat) (C n m p0 p : Nat) : Prop := ∃ pl : Nat → Nat, pl 0 = p0 ∧ pl m = p ∧ ∀ i, i < m → pl i < pl (i + 1) ∧ mtq σ μ b C n i (pl i) (pl (i + 1))
theorem pl_mono {pl : Nat → Nat} {m : Nat} (h : ∀ i, i < m → pl i < pl (i + 1)) : ∀ d i, i + d ≤ m → pl i ≤ pl (i + d) := by
  intro d
  induction d with
  | zero => intro i _; exact Nat.le_refl _
  | succ d ih =>
    intro i hi
    have h1 := ih i (by omega)
    have h2 := h (i + d) (by omega)
    have e : i + (d + 1) = i + d + 1 := by omega
    rw [e]; omega
theorem mto.s {σ μ σ' μ' : sm_S} {b : Nat → Nat} {C n m p0 p p' : Nat} (h : mto σ μ b C n m p0 p) (hX : fr IkX (AmX m p) σ σ') (hM : fr IkM (AmM m p) μ μ') (hp : p < p') (hc : mtq σ' μ' b C n m p p') : mto σ' μ' b C n (m + 1) p0 p' := by
  obtain ⟨pl, h0, h1, h2⟩ := h
  refine ⟨fun i => if i ≤ m then pl i else p', (if_pos (Nat.zero_le m)).trans h0, if_neg (show ¬ m + 1 ≤ m by omega), fun i hi => ?_⟩
  by_cases e : i < m
  · simp only [if_pos (show i ≤ m by omega), if_pos (show i + 1 ≤ m by omega)]
    have hm := pl_mono (fun j hj => (h2 j hj).1) (m - (i + 1)) (i + 1) (by omega)
    rw [show i + 1 + (m - (i + 1)) = m by omega, h1] at hm
    exact ⟨(h2 i e).1, (h2 i e).2.f hX hM (fun r _ _ _ => by unfold AmX; omega) (fun j _ _ => by unfold AmX; omega) (fun j _ => by unfold AmX; omega) (fun r _ _ _ => by unfold AmM; omega) (fun j _ _ => by unfold AmM; omega) (fun j _ => by unfold AmM; omega) (fun j => by unfold AmM; omega) (fun j => by unfold AmM; omega)⟩
  · have e2 : i = m := by omega
    subst e2
    simp only [if_pos (Nat.le_refl i), if_neg (show ¬ i + 1 ≤ i by omega), h1]
    exact ⟨hp, hc⟩
theorem jc_methods {n C M p0 p1 : Nat} {b : Nat → Nat} {R : Int32 → sm_S → Int32 → sm_S → Prop} {σ0 μ0 : sm_S} (h0 : rb σ0 μ0 n b C) (hC : 1 ≤ C) (hM2 : M ≤ 64) (hcl : clo σ0 μ0 C C p0) (h19 : n ≤ σ0.2.2.1 19) (h19b : σ0.2.2.1 19 < 2 ^ 31) (s16 : σ0.1 16 = nI M) (s6 : μ0.1 6 = nI M)
    (hexit : ∀ (σ μ : sm_S) (p k : Nat), fr IX AX σ0 σ → fr IM AM μ0 μ → rb σ μ n b C → at2 σ μ n p → clo σ μ C C p0 → mto σ μ b C n M p1 p → σ.1 15 = nI k → μ.1 7 = nI k → k ≤ p → σ.1 16 = nI M → μ.1 6 = nI M → (σ.2.2.2.1 16 = σ0.2.2.2.1 16 ∧ μ.2.2.2.1 10 = μ0.2.2.2.1 10) → jt (fun K => mp_X6_firstWrong_141 K σ) (fun K => mp_X11_readAll_100 K 1 μ (nI M)) R)
    (hfail : ∀ (σ μ : sm_S) (w : Nat), fr IX AX σ0 σ → fr IM AM μ0 μ → w ≤ n → σ.1 21 = nI w → μ.1 3 = nI w → R (nI w) σ 0 μ) :
    ∀ (d m p k : Nat) (σ μ : sm_S), m + d = M → fr IX AX σ0 σ → fr IM AM μ0 μ → rb σ μ n b C → at2 σ μ n p → clo σ μ C C p0 → mto σ μ b C n m p1 p → (∀ j, p ≤ j → j < n → σ.2.2.2.1 19 j = 0 ∧ μ.2.2.2.1 4 j = 0) → σ.1 15 = nI k → μ.1 7 = nI k → k ≤ p → σ.1 16 = nI M → μ.1 6 = nI M → (σ.2.2.2.1 16 = σ0.2.2.2.1 16 ∧ μ.2.2.2.1 10 = μ0.2.2.2.1 10) →
      jt (fun K => mp_X6_firstWrong_111 K (d + 1) σ (nI m)) (fun K => mp_X11_readAll_100 K (d + 1) μ (nI m)) R := by
  have hn : n ≤ 8000 := h0.1.1
  intro d
  induction d with
  | zero =>
    intro m p k σ μ hm hX hM hr ha hc hq hz k1 k2 hk c16 c6 hs
    have e : m = M := by omega
    subst e
    have hx := hexit σ μ p k hX hM hr ha hc hq k1 k2 hk c16 c6 hs
    unfold mp_X6_firstWrong_111
    simp (disch := (first | ((try simp (disch := omega) only [va_up_self, va_up_ne, ne_eq, reduceCtorEq, Nat.reduceEqDiff, not_false_eq_true, l_0, l_2, l_3, l_4, l_5, l_6, l_7, l_8, l_9, l_10, l_11, l_12, l_13, l_14, l_15, l_16, l_17, l_18, l_19, l_20, l_21, l_22, l_23, l_24, l_25, l_26, l_27, l_28, l_29, l_30, l_31, l_32, l_33, l_34, l_35, l_36, l_37, l_38, l_39, l_40, l_41, l_42, l_43, l_44, l_45, l_46, l_47, l_48, l_49, l_50, l_51, l_52, l_53, l_54, l_55, l_56, l_57, l_58, l_59, l_60, l_61, l_62, l_63, l_64, l_97, l_98, l_99, l_200, l_225, l_232, l_255, l_256, l_700, l_1000, l_1024, l_3375, l_4095, l_8000, l_20000, l_60000, vp_nIs, zz0, zz1, e10, nI_leI, nI_ltI, nI_eq, nI_1, nI_1a, nI_add, nI_sub, nI_sub1, pk_mul, nI_clamp, nI_le1, nI_le1', nI_lt1, nI_lt1', nI_eq1, nI_eqm, m1_eqN, m1_le, m1_lt, m1_leN, m1_ltN, nI_am, not_true_eq_false, not_false_eq_true, oN_eqm, c16]) <;> omega) | fail)) only [↓numW, ↓zb_t, ↓zb_f, ↓zb_tt, ↓zb_ff, ↓zb_i, ↓zb_z0, ↓zb_z1, ↓zb_z, ↓zb_l, ↓zb_v, vi32, vi64, true_and, pk_us, Int32.add_zero, Nat.add_sub_cancel, nI_add, nI_1, nI_1a, nI_clamp, k7, k7', k8, k8', k12, k12', k15, k15', k16, k16', nI_sub1, va_up_self, va_up_ne, ne_eq, reduceCtorEq, Nat.reduceEqDiff, not_false_eq_true, c16]
    exact hx
  | succ d ih =>
    intro m p k σ μ hm hX hM hr ha hc hq hz k1 k2 hk c16 c6 hs
    have hw : σ.1 21 = -1 := ha.2.2.2.1
    unfold mp_X6_firstWrong_111 mp_X11_readAll_100
    simp (disch := (first | ((try simp (disch := omega) only [va_up_self, va_up_ne, ne_eq, reduceCtorEq, Nat.reduceEqDiff, not_false_eq_true, l_0, l_2, l_3, l_4, l_5, l_6, l_7, l_8, l_9, l_10, l_11, l_12, l_13, l_14, l_15, l_16, l_17, l_18, l_19, l_20, l_21, l_22, l_23, l_24, l_25, l_26, l_27, l_28, l_29, l_30, l_31, l_32, l_33, l_34, l_35, l_36, l_37, l_38, l_39, l_40, l_41, l_42, l_43, l_44, l_45, l_46, l_47, l_48, l_49, l_50, l_51, l_52, l_53, l_54, l_55, l_56, l_57, l_58, l_59, l_60, l_61, l_62, l_63, l_64, l_97, l_98, l_99, l_200, l_225, l_232, l_255, l_256, l_700, l_1000, l_1024, l_3375, l_4095, l_8000, l_20000, l_60000, vp_nIs, zz0, zz1, e10, nI_leI, nI_ltI, nI_eq, nI_1, nI_1a, nI_add, nI_sub, nI_sub1, pk_mul, nI_clamp, nI_le1, nI_le1', nI_lt1, nI_lt1', nI_eq1, nI_eqm, m1_eqN, m1_le, m1_lt, m1_leN, m1_ltN, nI_am, not_true_eq_false, not_false_eq_true, oN_eqm, c16, c6, hw]) <;> omega) | fail)) only [↓numW, ↓zb_t, ↓zb_f, ↓zb_tt, ↓zb_ff, ↓zb_i, ↓zb_z0, ↓zb_z1, ↓zb_z, ↓zb_l, ↓zb_v, vi32, vi64, true_and, pk_us, Int32.add_zero, Nat.add_sub_cancel, nI_add, nI_1, nI_1a, nI_clamp, k7, k7', k8, k8', k12, k12', k15, k15', k16, k16', nI_sub1, va_up_self, va_up_ne, ne_eq, reduceCtorEq, Nat.reduceEqDiff, not_false_eq_true, c16, c6, hw]
    refine jt_bv (jc_method (k := k) hr ha (by omega) hC hc.g (by rw [hX.ln]; exact h19) (by rw [hX.ln]; exact h19b) hz k1 k2 hk) (fun r σ' r' μ' hRC => ?_)
    obtain ⟨f1, f2, hRC⟩ := hRC
    have g1 : fr IX AX σ0 σ' := hX.t (f1.m (fun _ q => by unfold IkX at q; unfold IX; omega) (fun r j q => by unfold AmX at q; unfold AX; omega))
    have g2 : fr IM AM μ0 μ' := hM.t (f2.m (fun _ q => by unfold IkM at q; unfold IM; omega) (fun r j q => by unfold AmM at q; unfold AM; omega))
    rcases hRC with ⟨er, p', k', hp, a', hcq, hz', c1, c2, hk'⟩ | ⟨er, w, w1, w2, w3⟩
    · subst er
      simp (disch := (first | ((try simp (disch := omega) only [va_up_self, va_up_ne, ne_eq, reduceCtorEq, Nat.reduceEqDiff, not_false_eq_true, l_0, l_2, l_3, l_4, l_5, l_6, l_7, l_8, l_9, l_10, l_11, l_12, l_13, l_14, l_15, l_16, l_17, l_18, l_19, l_20, l_21, l_22, l_23, l_24, l_25, l_26, l_27, l_28, l_29, l_30, l_31, l_32, l_33, l_34, l_35, l_36, l_37, l_38, l_39, l_40, l_41, l_42, l_43, l_44, l_45, l_46, l_47, l_48, l_49, l_50, l_51, l_52, l_53, l_54, l_55, l_56, l_57, l_58, l_59, l_60, l_61, l_62, l_63, l_64, l_97, l_98, l_99, l_200, l_225, l_232, l_255, l_256, l_700, l_1000, l_1024, l_3375, l_4095, l_8000, l_20000, l_60000, vp_nIs, zz0, zz1, e10, nI_leI, nI_ltI, nI_eq, nI_1, nI_1a, nI_add, nI_sub, nI_sub1, pk_mul, nI_clamp, nI_le1, nI_le1', nI_lt1, nI_lt1', nI_eq1, nI_eqm, m1_eqN, m1_le, m1_lt, m1_leN, m1_ltN, nI_am, not_true_eq_false, not_false_eq_true, oN_eqm, hw]) <;> omega) | fail)) only [↓numW, ↓zb_t, ↓zb_f, ↓zb_tt, ↓zb_ff, ↓zb_i, ↓zb_z0, ↓zb_z1, ↓zb_z, ↓zb_l, ↓zb_v, vi32, vi64, true_and, pk_us, Int32.add_zero, Nat.add_sub_cancel, nI_add, nI_1, nI_1a, nI_clamp, k7, k7', k8, k8', k12, k12', k15, k15', k16, k16', nI_sub1, va_up_self, va_up_ne, ne_eq, reduceCtorEq, Nat.reduceEqDiff, not_false_eq_true, hw]
      refine ih (m + 1) p' k' σ' μ' (by omega) g1 g2 (hr.k f1 f2 (by unfold IkX; omega) (by unfold IkX; omega) (fun j => (by unfold AmX; omega)) (by unfold IkM; omega) (by unfold IkM; omega) (fun j => (by unfold AmM; omega))) a' (hc.f f1 f2 (fun r j _ _ => by unfold AmX; omega) (fun r j _ _ => by unfold AmM; omega)) (hq.s f1 f2 hp hcq) hz' c1 c2 hk' ?_ ?_ ⟨?_, ?_⟩
      · rw [f1.2.2.2.1 16 (by unfold IkX; omega)]; exact c16
      · rw [f2.2.2.2.1 6 (by unfold IkM; omega)]; exact c6
      · rw [f1.row (fun j => (by unfold AmX; omega))]; exact hs.1
      · rw [f2.row (fun j => (by unfold AmM; omega))]; exact hs.2
    · subst er
      have hwS : ¬ σ'.1 21 = -1 := by rw [w2]; exact nI_m1 (by omega)
      simp (disch := (first | ((try simp (disch := omega) only [va_up_self, va_up_ne, ne_eq, reduceCtorEq, Nat.reduceEqDiff, not_false_eq_true, l_0, l_2, l_3, l_4, l_5, l_6, l_7, l_8, l_9, l_10, l_11, l_12, l_13, l_14, l_15, l_16, l_17, l_18, l_19, l_20, l_21, l_22, l_23, l_24, l_25, l_26, l_27, l_28, l_29, l_30, l_31, l_32, l_33, l_34, l_35, l_36, l_37, l_38, l_39, l_40, l_41, l_42, l_43, l_44, l_45, l_46, l_47, l_48, l_49, l_50, l_51, l_52, l_53, l_54, l_55, l_56, l_57, l_58, l_59, l_60, l_61, l_62, l_63, l_64, l_97, l_98, l_99, l_200, l_225, l_232, l_255, l_256, l_700, l_1000, l_1024, l_3375, l_4095, l_8000, l_20000, l_60000, vp_nIs, zz0, zz1, e10, nI_leI, nI_ltI, nI_eq, nI_1, nI_1a, nI_add, nI_sub, nI_sub1, pk_mul, nI_clamp, nI_le1, nI_le1', nI_lt1, nI_lt1', nI_eq1, nI_eqm, m1_eqN, m1_le, m1_lt, m1_leN, m1_ltN, nI_am, not_true_eq_false, not_false_eq_true, oN_eqm, hw]) <;> omega) | fail)) only [↓numW, ↓zb_t, ↓zb_f, ↓zb_tt, ↓zb_ff, ↓zb_i, ↓zb_z0, ↓zb_z1, ↓zb_z, ↓zb_l, ↓zb_v, vi32, vi64, true_and, pk_us, Int32.add_zero, Nat.add_sub_cancel, nI_add, nI_1, nI_1a, nI_clamp, k7, k7', k8, k8', k12, k12', k15, k15', k16, k16', nI_sub1, va_up_self, va_up_ne, ne_eq, reduceCtorEq, Nat.reduceEqDiff, not_false_eq_true, hw]
      refine jt_ee (et_w (w_111W hwS) (fun r σ5 q => ?_))
      rw [q.1, w2]
      exact hfail σ5 μ' w (g1.t q.2.1) g2 w1 (by rw [q.2.2]; exact w2) w3
