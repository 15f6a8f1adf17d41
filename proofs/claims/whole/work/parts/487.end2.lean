/-! ===== end, both sides: put together ===== -/
theorem imX.g {R I : Nat → Prop} {A : Nat → Nat → Prop} {σ σ' : sm_S} {T : Nat → Nat → Nat} {b : Nat → Nat} (h : imX σ T b) (hX : frg R I A σ σ') (hR : ∀ r, 11 ≤ r → r ≤ 29 → ¬ R r) (hI : ∀ k, k = 0 ∨ k = 14 ∨ k = 15 ∨ k = 16 ∨ k = 17 → ¬ I k) (hA : ∀ r j, 11 ≤ r → r ≤ 29 → r ≠ 17 → ¬ A r j) : imX σ' T b := by
  -- the same state with the old lengths
  have e : fr I A σ (σ'.1, σ'.2.1, σ.2.2.1, σ'.2.2.2) := ⟨hX.1, rfl, hX.2.2.1, hX.2.2.2.1, hX.2.2.2.2⟩
  have k := h.f e hI hA
  have ll : ∀ r, 11 ≤ r → r ≤ 29 → σ'.2.2.1 r = σ.2.2.1 r := fun r a b => hX.2.1 r (hR r a b)
  obtain ⟨h1, h2, h3, h4⟩ := k
  obtain ⟨c1, c2, c3, c4, c5, c6⟩ := h1
  refine ⟨⟨c1, c2, by rw [ll 18 (by decide) (by decide)]; exact c3, by rw [ll 18 (by decide) (by decide)]; exact c4, c5, c6⟩, ?_, by rw [ll 19 (by decide) (by decide)]; exact h3, h4⟩
  unfold lnX at h2 ⊢
  rw [ll 11 (by decide) (by decide), ll 12 (by decide) (by decide), ll 13 (by decide) (by decide), ll 14 (by decide) (by decide), ll 15 (by decide) (by decide), ll 16 (by decide) (by decide), ll 20 (by decide) (by decide), ll 21 (by decide) (by decide), ll 22 (by decide) (by decide), ll 23 (by decide) (by decide), ll 24 (by decide) (by decide), ll 25 (by decide) (by decide), ll 26 (by decide) (by decide), ll 27 (by decide) (by decide), ll 28 (by decide) (by decide), ll 29 (by decide) (by decide)]
  exact h2
def A34 (r _ : Nat) : Prop := r = 3 ∨ r = 4
theorem l_mcp {n : Nat} (hn : n ≤ 8000) : ∀ (d i : Nat) (μ : sm_S), i + d = n → μ.2.2.1 2 = 8000 → μ.2.2.1 3 = 8000 → μ.2.2.1 4 = 8000 → (∀ j, j < i → μ.2.2.2.1 3 j = μ.2.2.2.1 2 j ∧ μ.2.2.2.1 4 j = 0) → ∃ μ', fr I0 A34 μ μ' ∧ (∀ j, j < n → μ'.2.2.2.1 3 j = μ.2.2.2.1 2 j ∧ μ'.2.2.2.1 4 j = 0) ∧ ∀ K : jk, mp_X11_readAll (sm_i (sm_i (sm_i (sm_i (sm_i μ' 0 0) 2 0) 3 (-1)) 7 0) 4 0) (fun r15 σ14 => ((r15 = 0 → (mp_X11_end_113 K σ14)) ∧ (¬ r15 = 0 → (mp_X11_checkSlots σ14 (fun σ17 => ∃ n94 : Nat, mp_X11_end_94 K n94 σ17 0))))) → mp_X11_end_26 K (d + 1) μ (nI n) (nI i) := by
  intro d
  induction d with
  | zero =>
    intro i μ hi l2 l3 l4 hf
    have e : i = n := by omega
    subst e
    refine ⟨μ, fr_r, hf, fun K z => ?_⟩
    unfold mp_X11_end_26
    simp (disch := (first | ((try simp (disch := omega) only [va_up_self, va_up_ne, ne_eq, reduceCtorEq, Nat.reduceEqDiff, not_false_eq_true, l_0, l_2, l_3, l_4, l_5, l_6, l_7, l_8, l_9, l_10, l_11, l_12, l_13, l_14, l_15, l_16, l_17, l_18, l_19, l_20, l_21, l_22, l_23, l_24, l_25, l_26, l_27, l_28, l_29, l_30, l_31, l_32, l_33, l_34, l_35, l_36, l_37, l_38, l_39, l_40, l_41, l_42, l_43, l_44, l_45, l_46, l_47, l_48, l_49, l_50, l_51, l_52, l_53, l_54, l_55, l_56, l_57, l_58, l_59, l_60, l_61, l_62, l_63, l_64, l_97, l_98, l_99, l_200, l_225, l_232, l_255, l_256, l_700, l_1000, l_1024, l_3375, l_4095, l_8000, l_20000, l_60000, vp_nIs, zz0, zz1, e10, nI_leI, nI_ltI, nI_eq, nI_1, nI_1a, nI_add, nI_sub, nI_sub1, pk_mul, nI_clamp, nI_le1, nI_le1', nI_lt1, nI_lt1', nI_eq1, nI_eqm, m1_eqN, m1_le, m1_lt, m1_leN, m1_ltN, nI_am, not_true_eq_false, not_false_eq_true, oN_eqm, l2]) <;> omega) | fail)) only [↓numW, ↓zb_t, ↓zb_f, ↓zb_tt, ↓zb_ff, ↓zb_i, ↓zb_z0, ↓zb_z1, ↓zb_z, ↓zb_l, ↓zb_v, vi32, vi64, true_and, pk_us, Int32.add_zero, Nat.add_sub_cancel, nI_add, nI_1, nI_1a, nI_clamp, k7, k7', k8, k8', k12, k12', k15, k15', k16, k16', nI_sub1, va_up_self, va_up_ne, ne_eq, reduceCtorEq, Nat.reduceEqDiff, not_false_eq_true, l2]
    exact z
  | succ d ih =>
    intro i μ hi l2 l3 l4 hf
    obtain ⟨μ1, e1⟩ : ∃ μ1, μ1 = sm_r (sm_r μ 3 (upd (μ.2.2.2.1 3) i (μ.2.2.2.1 2 i))) 4 (upd (μ.2.2.2.1 4) i 0) := ⟨_, rfl⟩
    have f1 : fr I0 A34 μ μ1 := by rw [e1]; exact (fr_r.u rfl (by unfold A34; omega)).u rfl (by unfold A34; omega)
    have x2 : μ1.2.2.2.1 2 = μ.2.2.2.1 2 := by rw [e1]; rfl
    have x3 : μ1.2.2.2.1 3 = upd (μ.2.2.2.1 3) i (μ.2.2.2.1 2 i) := by rw [e1]; rfl
    have x4 : μ1.2.2.2.1 4 = upd (μ.2.2.2.1 4) i 0 := by rw [e1]; rfl
    obtain ⟨μ', g1, g2, g3⟩ := ih (i + 1) μ1 (by omega) (by rw [e1]; exact l2) (by rw [e1]; exact l3) (by rw [e1]; exact l4) (fun j hj => by
      rw [x2, x3, x4]
      by_cases e : j = i
      · rw [e, pk_us, pk_us]; exact ⟨rfl, rfl⟩
      · rw [pk_un e, pk_un e]; exact hf j (by omega))
    rw [x2] at g2
    refine ⟨μ', f1.t g1, g2, fun K z => ?_⟩
    have z := g3 K z
    rw [e1] at z
    have nb0 : vp_nar .boolean 0 = (0 : Int32) := by decide
    unfold mp_X11_end_26
    simp (disch := (first | ((try simp (disch := omega) only [va_up_self, va_up_ne, ne_eq, reduceCtorEq, Nat.reduceEqDiff, not_false_eq_true, l_0, l_2, l_3, l_4, l_5, l_6, l_7, l_8, l_9, l_10, l_11, l_12, l_13, l_14, l_15, l_16, l_17, l_18, l_19, l_20, l_21, l_22, l_23, l_24, l_25, l_26, l_27, l_28, l_29, l_30, l_31, l_32, l_33, l_34, l_35, l_36, l_37, l_38, l_39, l_40, l_41, l_42, l_43, l_44, l_45, l_46, l_47, l_48, l_49, l_50, l_51, l_52, l_53, l_54, l_55, l_56, l_57, l_58, l_59, l_60, l_61, l_62, l_63, l_64, l_97, l_98, l_99, l_200, l_225, l_232, l_255, l_256, l_700, l_1000, l_1024, l_3375, l_4095, l_8000, l_20000, l_60000, vp_nIs, zz0, zz1, e10, nI_leI, nI_ltI, nI_eq, nI_1, nI_1a, nI_add, nI_sub, nI_sub1, pk_mul, nI_clamp, nI_le1, nI_le1', nI_lt1, nI_lt1', nI_eq1, nI_eqm, m1_eqN, m1_le, m1_lt, m1_leN, m1_ltN, nI_am, not_true_eq_false, not_false_eq_true, oN_eqm, l2, l3, l4, nb0]) <;> omega) | fail)) only [↓numW, ↓zb_t, ↓zb_f, ↓zb_tt, ↓zb_ff, ↓zb_i, ↓zb_z0, ↓zb_z1, ↓zb_z, ↓zb_l, ↓zb_v, vi32, vi64, true_and, pk_us, Int32.add_zero, Nat.add_sub_cancel, nI_add, nI_1, nI_1a, nI_clamp, k7, k7', k8, k8', k12, k12', k15, k15', k16, k16', nI_sub1, va_up_self, va_up_ne, ne_eq, reduceCtorEq, Nat.reduceEqDiff, not_false_eq_true, l2, l3, l4, nb0]
    exact z
theorem mn_ex {S : Nat → Prop} (h : ∀ w, S w → w < 2 ^ 31) : ∃ r, mn r S := by
  by_cases c : ∃ w, S w
  · obtain ⟨w, hw⟩ := c
    have key : ∀ n, (∃ w, w ≤ n ∧ S w) → ∃ w, S w ∧ ∀ w', S w' → w ≤ w' := by
      intro n
      induction n with
      | zero =>
        rintro ⟨w, h1, h2⟩
        exact ⟨w, h2, fun w' _ => by omega⟩
      | succ n ih =>
        rintro ⟨w, h1, h2⟩
        by_cases e : ∃ w, w ≤ n ∧ S w
        · exact ih e
        · refine ⟨w, h2, fun w' h3 => Classical.byContradiction (fun q => e ⟨w', by omega, h3⟩)⟩
    obtain ⟨v, h1, h2⟩ := key w ⟨w, Nat.le_refl _, hw⟩
    exact ⟨nI v, Or.inr ⟨v, h v h1, rfl, h1, h2⟩⟩
  · exact ⟨-1, Or.inl ⟨rfl, fun w q => c ⟨w, q⟩⟩⟩
theorem bad_lt {T : Nat → Nat → Nat} {b : Nat → Nat} {w : Nat} (hw : wf T b) (h : bad T b w) : w < 8000 := by
  have w5 := hw.2.2.2.2.1
  rcases h with ⟨c, s, h1, h2, h3, -⟩ | ⟨m, h1, h2⟩
  · have := ((hw.2.2.2.2.2.2.1 c h1).2.2.2.1 s h2).2.1
    omega
  · have := (bd_le hw h1 h2).2.2
    omega
theorem n3_neg {w : Nat} (h : w < 2 ^ 30) : ¬ (0 : Int32) ≤ -3 - nI w := by
  intro q
  have h1 := Int32.le_iff_toInt_le.mp q
  have h3 : (-3 : Int32).toInt = -3 := by decide
  have h0 : (0 : Int32).toInt = 0 := by decide
  rw [Int32.toInt_sub, nI_toInt (by omega), h3, h0, Int.bmod_eq_of_le (by omega) (by omega)] at h1
  omega
theorem fin.r {σ μ σ' μ' : sm_S} {T : Nat → Nat → Nat} {b : Nat → Nat} {m : Nat} (h : fin σ μ T b m) (x : σ'.2.2.2.1 = σ.2.2.2.1) (y : μ'.2.2.2.1 = μ.2.2.2.1) : fin σ' μ' T b m := by
  obtain ⟨h, ty, mk, v1, v2⟩ := h
  exact ⟨h, ty, mk, v1.f (by rw [x]) (by rw [x]) (by rw [x]) (by rw [y]) (by rw [y]) (by rw [y]), v2⟩
def I36 (k : Nat) : Prop := k = 36
theorem j_end0 {σ μ : sm_S} {mc1 ms1 mc2 ms2 t : Nat} {a : Int32} {K : Int32 → sm_S → Int32 → sm_S → Prop} (hs : σ.1 35 = nI t) (hm : μ.1 0 = nI t) (ha : a < 0 ∨ ¬ a ≤ nI t) (hK : K (-1) (sm_i σ 35 0) (-1) (sm_i μ 0 0)) : mp_X10_end mc1 ms1 mc2 ms2 σ a (fun r σ' => mp_X12_end μ a (fun r' μ' => K r σ' r' μ')) := by
  have kM : mp_X12_end μ a (fun r' μ' => K (-1) (sm_i σ 35 0) r' μ') := by
    unfold mp_X12_end mp_X12_end_15
    refine ⟨fun _ s es => by rw [es]; exact hK, fun q => ⟨fun q2 => ?_, fun _ s es => by rw [es]; exact hK⟩⟩
    rcases ha with z | z
    · exact absurd z q
    · rw [hm] at q2; exact absurd q2 z
  unfold mp_X10_end mp_X10_end_19
  intro v ev s es
  rw [hs] at ev
  rw [es, ev]
  refine ⟨fun _ => kM, fun q => ⟨fun q2 => ?_, fun _ => kM⟩⟩
  rcases ha with z | z
  · exact absurd z q
  · exact absurd q2 z
