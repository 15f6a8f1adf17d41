/-! ===== settling a frame, and moving on ===== -/
theorem tcl'.m {ml ml' : List (Nat × Nat)} {nb : List Nat} {z y : Nat → Nat} {x : Nat} (h : tcl' ml nb z y x) (hm : ∀ q, q ∈ ml → q ∈ ml') : tcl' ml' nb z y x := by
  rcases h with ⟨q, i, h1, h2⟩ | h
  · exact Or.inl ⟨q, i, hm q h1, h2⟩
  · exact Or.inr h
/-- a frame leads into the half in use alone -/
def stl (hf B : Nat) (C : Nat → Int64) (tp : Nat) : Prop := ∀ i w, i < 16 → w < 2 ^ 30 → C (tp + i) = mkc 1 (nI w) → ¬ ldb hf B 1 w
theorem e_settle {T : Nat → Nat → Nat} {b : Nat → Nat} {hf B S R fr tp : Nat} {C0 : Nat → Int64} {s0 : List Nat} {nb : List Nat} {z lv y : Nat → Nat} {Q : (Nat → Int64) → List (Nat × Nat) → Prop} (hw : wf T b) (hQ : clQ hf B C0 s0 nb z lv y Q) (htp : tp < 2 ^ 29) :
    ∀ (d i l F : Nat) (σ : sm_S) (C : Nat → Int64) (ml : List (Nat × Nat)), i + d = 16 → 3 ≤ i → HS σ T b hf B F S R fr C C0 s0 ml nb z lv y → Q C ml → (∀ j, j < 16 → tcl' ml nb z y (tp + j)) → (∀ j w, j < i → w < 2 ^ 30 → C (tp + j) = mkc 1 (nI w) → ¬ ldb hf B 1 w) → σ.1 13 = nI l → l + 36 * d < 2 ^ 26 →
    ∃ σ' F' C' ml' l', HS σ' T b hf B F' S R fr C' C0 s0 ml' nb z lv y ∧ Q C' ml' ∧ frL I133 σ σ' C' ∧ σ'.1 13 = nI l' ∧ l ≤ l' ∧ l' ≤ l + 36 * d ∧ F ≤ F' ∧ (S = F → F' = F) ∧ (∀ q, q ∈ ml → q ∈ ml') ∧ (∀ u, tcl' ml nb z y u → (∀ j, j < 16 → u ≠ tp + j) → C' u = C u) ∧ (∀ j, j < 16 → rdc C C' ml' (tp + j)) ∧ stl hf B C' tp ∧ ∀ K, K σ' → mp_X1_settle_2 K (d + 1) σ (nI tp) (nI i) := by
  intro d
  induction d with
  | zero =>
    intro i l F σ C ml hi h3 h q0 ht hn i13 hl
    have e : i = 16 := by omega
    subst e
    refine ⟨σ, F, C, ml, l, h, q0, by rw [← h.2.2.2.2.2.2.2.2.1]; exact frL_r, i13, Nat.le_refl _, by omega, Nat.le_refl _, fun _ => rfl, fun q hq => hq, fun u _ _ => rfl, fun j _ => Or.inl rfl, hn, fun K z => ?_⟩
    unfold mp_X1_settle_2 mp_X1_settle_33
    exact ⟨fun _ => z, fun q => absurd (by decide) q⟩
  | succ d ih =>
    intro i l F σ C ml hi h3 h q0 ht hn i13 hl
    have hh := h
    have g := h.2.2.2.2.2.2.2.2.2.1
    have h3' := h.2.2.2.1
    have h4' := h.2.2.2.2.1
    have g5 := g.2.2.2.2.1
    have hFr := h.F.1
    have h6 := h.2.2.2.2.2.2.1
    have h7 := h.2.2.2.2.2.2.2.1
    have gR := (lan_in nb R g.2.2.1).1
    have g7 := g.2.2.2.2.2.2.2.1
    have g1 := g.1
    have frR := h.2.2.2.2.2.2.2.2.2.2.2.1
    by_cases c : F ≤ S
    · -- all is scanned
      refine ⟨σ, F, C, ml, l, h, q0, by rw [← h.2.2.2.2.2.2.2.2.1]; exact frL_r, i13, Nat.le_refl _, by omega, Nat.le_refl _, fun _ => rfl, fun q hq => hq, fun u _ _ => rfl, fun j _ => Or.inl rfl, fun j w hj hw' hc q => ?_, fun K z => ?_⟩
      · have := g.lb (ht j hj) hc hw' q
        omega
      · unfold mp_X1_settle_2 mp_X1_settle_33
        simp (disch := (first | ((try simp (disch := omega) only [va_up_self, va_up_ne, ne_eq, reduceCtorEq, Nat.reduceEqDiff, not_false_eq_true, l_0, l_2, l_3, l_4, l_5, l_6, l_7, l_8, l_9, l_10, l_11, l_12, l_13, l_14, l_15, l_16, l_17, l_18, l_19, l_20, l_21, l_22, l_23, l_24, l_25, l_26, l_27, l_28, l_29, l_30, l_31, l_32, l_33, l_34, l_35, l_36, l_37, l_38, l_39, l_40, l_41, l_42, l_43, l_44, l_45, l_46, l_47, l_48, l_49, l_50, l_51, l_52, l_53, l_54, l_55, l_56, l_57, l_58, l_59, l_60, l_61, l_62, l_63, l_64, l_97, l_98, l_99, l_200, l_225, l_232, l_255, l_256, l_700, l_1000, l_1024, l_3375, l_4095, l_8000, l_20000, l_60000, vp_nIs, zz0, zz1, e10, nI_leI, nI_ltI, nI_eq, nI_1, nI_1a, nI_add, nI_sub, nI_sub1, pk_mul, nI_clamp, nI_le1, nI_le1', nI_lt1, nI_lt1', nI_eq1, nI_eqm, m1_eqN, m1_le, m1_lt, m1_leN, m1_ltN, nI_am, not_true_eq_false, not_false_eq_true, oN_eqm, h3', h4']) <;> omega) | fail)) only [↓numW, ↓zb_t, ↓zb_f, ↓zb_tt, ↓zb_ff, ↓zb_i, ↓zb_z0, ↓zb_z1, ↓zb_z, ↓zb_l, ↓zb_v, vi32, vi64, true_and, pk_us, Int32.add_zero, Nat.add_sub_cancel, nI_add, nI_1, nI_1a, nI_clamp, k7, k7', k8, k8', k12, k12', k15, k15', k16, k16', nI_sub1, va_up_self, va_up_ne, ne_eq, reduceCtorEq, Nat.reduceEqDiff, not_false_eq_true, h3', h4']
        exact z
    · obtain ⟨σ1, F1, C1, ml1, l1, H1, Q1, f1, j13, k1, k2, k3, k4, k5, k6, k7, k8, k9, k10⟩ := e_read (x := tp + i) hw h hQ q0 (ht i (by omega)) i13 (by omega)
      have hn1 : ∀ j w, j < i + 1 → w < 2 ^ 30 → C1 (tp + j) = mkc 1 (nI w) → ¬ ldb hf B 1 w := fun j w hj hw' hc => by
        by_cases e : j = i
        · rw [e] at hc; exact k9 w hw' hc
        · rw [k8 (tp + j) (ht j (by omega)) (by omega)] at hc
          exact hn j w (by omega) hw' hc
      obtain ⟨σ2, F2, C2, ml2, l2, H2, Q2, f2, m13, n1, n2, n4, n5, n6, n7, n8, n9, n10⟩ := ih (i + 1) l1 F1 σ1 C1 ml1 (by omega) (by omega) H1 Q1 (fun j hj => (ht j hj).m k6) hn1 j13 (by omega)
      refine ⟨σ2, F2, C2, ml2, l2, H2, Q2, f1.t f2, m13, by omega, by omega, by omega, fun e => by omega, fun q hq => n6 q (k6 q hq), fun u hu hne => ?_, fun j hj => ?_, n9, fun K z => ?_⟩
      · rw [n7 u (hu.m k6) hne, k8 u hu (hne i (by omega))]
      · by_cases e : j = i
        · subst e
          rcases n8 j hj with r | ⟨a, a', r1, r2, r3, r4, r5⟩
          · rcases k7 with t | ⟨a, a', t1, t2, t3, t4, t5⟩
            · exact Or.inl (r.trans t)
            · exact Or.inr ⟨a, a', t1, t2, t3, n6 _ t4, r.trans t5⟩
          · have g' := H1.2.2.2.2.2.2.2.2.2.1
            have nl := k9 a r2 r3
            exfalso
            have g'' := H2.2.2.2.2.2.2.2.2.2.1
            have as0 := g''.2.2.2.2.2.2.2.2.2.2.2.2.1 (a, a') r4
            have o := g''.2.2.2.2.2.2.2.2.2.1 a as0
            have z1 := (g''.2.2.2.2.2.1 a).1
            have ob := g''.ob
            exact nl ⟨rfl, r1, by omega⟩
        · have e1 := k8 (tp + j) (ht j hj) (by omega)
          rcases n8 j hj with r | ⟨a, a', r1, r2, r3, r4, r5⟩
          · exact Or.inl (r.trans e1)
          · exact Or.inr ⟨a, a', r1, r2, e1 ▸ r3, r4, r5⟩
      · have z := n10 K z
        have z2 := k10 (fun _ σ3 => mp_X1_settle_2 K (d + 1) σ3 (nI tp) (nI (i + 1))) z
        unfold mp_X1_settle_2
        simp (disch := (first | ((try simp (disch := omega) only [va_up_self, va_up_ne, ne_eq, reduceCtorEq, Nat.reduceEqDiff, not_false_eq_true, l_0, l_2, l_3, l_4, l_5, l_6, l_7, l_8, l_9, l_10, l_11, l_12, l_13, l_14, l_15, l_16, l_17, l_18, l_19, l_20, l_21, l_22, l_23, l_24, l_25, l_26, l_27, l_28, l_29, l_30, l_31, l_32, l_33, l_34, l_35, l_36, l_37, l_38, l_39, l_40, l_41, l_42, l_43, l_44, l_45, l_46, l_47, l_48, l_49, l_50, l_51, l_52, l_53, l_54, l_55, l_56, l_57, l_58, l_59, l_60, l_61, l_62, l_63, l_64, l_97, l_98, l_99, l_200, l_225, l_232, l_255, l_256, l_700, l_1000, l_1024, l_3375, l_4095, l_8000, l_20000, l_60000, vp_nIs, zz0, zz1, e10, nI_leI, nI_ltI, nI_eq, nI_1, nI_1a, nI_add, nI_sub, nI_sub1, pk_mul, nI_clamp, nI_le1, nI_le1', nI_lt1, nI_lt1', nI_eq1, nI_eqm, m1_eqN, m1_le, m1_lt, m1_leN, m1_ltN, nI_am, not_true_eq_false, not_false_eq_true, oN_eqm, h3', h4']) <;> omega) | fail)) only [↓numW, ↓zb_t, ↓zb_f, ↓zb_tt, ↓zb_ff, ↓zb_i, ↓zb_z0, ↓zb_z1, ↓zb_z, ↓zb_l, ↓zb_v, vi32, vi64, true_and, pk_us, Int32.add_zero, Nat.add_sub_cancel, nI_add, nI_1, nI_1a, nI_clamp, k7, k7', k8, k8', k12, k12', k15, k15', k16, k16', nI_sub1, va_up_self, va_up_ne, ne_eq, reduceCtorEq, Nat.reduceEqDiff, not_false_eq_true, h3', h4']
        exact z2
/-- every cell below F is in a moved block -/
theorem lay_at {z : Nat → Nat} {B : Nat} (hz : ∀ a, 1 ≤ z a) : ∀ (l : List (Nat × Nat)) (F : Nat), lay z B l F → ∀ x, B ≤ x → x < F → ∃ q, q ∈ l ∧ q.2 ≤ x ∧ x < q.2 + z q.1 := by
  intro l
  induction l with
  | nil => intro F h x h1 h2; have : F = B := h; omega
  | cons p r ih =>
    intro F h x h1 h2
    obtain ⟨e1, e2⟩ := h
    by_cases c : p.2 ≤ x
    · exact ⟨p, List.mem_cons_self, c, by omega⟩
    · obtain ⟨q, q1, q2⟩ := ih p.2 e2 x h1 (by omega)
      exact ⟨q, List.mem_cons_of_mem _ q1, q2⟩
def I1334 (k : Nat) : Prop := k = 13 ∨ k = 3 ∨ k = 4
theorem I133_4 {k : Nat} (h : I133 k) : I1334 k := by unfold I133 at h; unfold I1334; omega
theorem e_moveOn {T : Nat → Nat → Nat} {b : Nat → Nat} {hf B R fr go : Nat} {C0 : Nat → Int64} {s0 : List Nat} {nb : List Nat} {z lv y : Nat → Nat} {Q : (Nat → Int64) → List (Nat × Nat) → Prop} (hw : wf T b) (hQ : clQ hf B C0 s0 nb z lv y Q) (hgo : go < 2 ^ 27) :
    ∀ (d i l F S : Nat) (σ : sm_S) (C : Nat → Int64) (ml : List (Nat × Nat)), (B + hf) - S ≤ d → i ≤ S - B → HS σ T b hf B F S R fr C C0 s0 ml nb z lv y → Q C ml → σ.1 13 = nI l → l + 36 * d < 2 ^ 27 →
    ∃ σ' F' S' C' ml' l', HS σ' T b hf B F' S' R fr C' C0 s0 ml' nb z lv y ∧ Q C' ml' ∧ frL I1334 σ σ' C' ∧ σ'.1 13 = nI l' ∧ l ≤ l' ∧ F ≤ F' ∧ S ≤ S' ∧ l' ≤ l + 3 * ((F' + S') - (F + S)) ∧ (F' + S' = F + S ∨ (F' - B) + (S' - B) < go + 17) ∧ (S' = F' ∨ go ≤ (F' - B) + (S' - B)) ∧ (S = F → F' = F) ∧ (∀ q, q ∈ ml → q ∈ ml') ∧ (∀ u, tcl' ml nb z y u → rdc C C' ml' u) ∧ ∀ K, K σ' → mp_X1_moveOn_14 K (d + 1) σ (nI go) (nI i) := by
  intro d
  induction d with
  | zero =>
    intro i l F S σ C ml hd hi h q0 i13 hl
    have g := h.2.2.2.2.2.2.2.2.2.1
    have h3' := h.2.2.2.1
    have h4' := h.2.2.2.2.1
    have g5 := g.2.2.2.2.1
    have gR := (lan_in nb R g.2.2.1).1
    have g4 := g.2.2.2.1
    have g7 := g.2.2.2.2.2.2.2.1
    have g1 := g.1
    have e : S = F := by omega
    refine ⟨σ, F, S, C, ml, l, h, q0, by rw [← h.2.2.2.2.2.2.2.2.1]; exact frL_r, i13, Nat.le_refl _, Nat.le_refl _, Nat.le_refl _, by omega, Or.inl rfl, Or.inl e, fun _ => rfl, fun q hq => hq, fun u _ => Or.inl rfl, fun K z => ?_⟩
    unfold mp_X1_moveOn_14 mp_X1_moveOn_73
    by_cases c : go ≤ i
    · simp (disch := (first | ((try simp (disch := omega) only [va_up_self, va_up_ne, ne_eq, reduceCtorEq, Nat.reduceEqDiff, not_false_eq_true, l_0, l_2, l_3, l_4, l_5, l_6, l_7, l_8, l_9, l_10, l_11, l_12, l_13, l_14, l_15, l_16, l_17, l_18, l_19, l_20, l_21, l_22, l_23, l_24, l_25, l_26, l_27, l_28, l_29, l_30, l_31, l_32, l_33, l_34, l_35, l_36, l_37, l_38, l_39, l_40, l_41, l_42, l_43, l_44, l_45, l_46, l_47, l_48, l_49, l_50, l_51, l_52, l_53, l_54, l_55, l_56, l_57, l_58, l_59, l_60, l_61, l_62, l_63, l_64, l_97, l_98, l_99, l_200, l_225, l_232, l_255, l_256, l_700, l_1000, l_1024, l_3375, l_4095, l_8000, l_20000, l_60000, vp_nIs, zz0, zz1, e10, nI_leI, nI_ltI, nI_eq, nI_1, nI_1a, nI_add, nI_sub, nI_sub1, pk_mul, nI_clamp, nI_le1, nI_le1', nI_lt1, nI_lt1', nI_eq1, nI_eqm, m1_eqN, m1_le, m1_lt, m1_leN, m1_ltN, nI_am, not_true_eq_false, not_false_eq_true, oN_eqm, h3', h4']) <;> omega) | fail)) only [↓numW, ↓zb_t, ↓zb_f, ↓zb_tt, ↓zb_ff, ↓zb_i, ↓zb_z0, ↓zb_z1, ↓zb_z, ↓zb_l, ↓zb_v, vi32, vi64, true_and, pk_us, Int32.add_zero, Nat.add_sub_cancel, nI_add, nI_1, nI_1a, nI_clamp, k7, k7', k8, k8', k12, k12', k15, k15', k16, k16', nI_sub1, va_up_self, va_up_ne, ne_eq, reduceCtorEq, Nat.reduceEqDiff, not_false_eq_true, h3', h4']
      exact z
    · simp (disch := (first | ((try simp (disch := omega) only [va_up_self, va_up_ne, ne_eq, reduceCtorEq, Nat.reduceEqDiff, not_false_eq_true, l_0, l_2, l_3, l_4, l_5, l_6, l_7, l_8, l_9, l_10, l_11, l_12, l_13, l_14, l_15, l_16, l_17, l_18, l_19, l_20, l_21, l_22, l_23, l_24, l_25, l_26, l_27, l_28, l_29, l_30, l_31, l_32, l_33, l_34, l_35, l_36, l_37, l_38, l_39, l_40, l_41, l_42, l_43, l_44, l_45, l_46, l_47, l_48, l_49, l_50, l_51, l_52, l_53, l_54, l_55, l_56, l_57, l_58, l_59, l_60, l_61, l_62, l_63, l_64, l_97, l_98, l_99, l_200, l_225, l_232, l_255, l_256, l_700, l_1000, l_1024, l_3375, l_4095, l_8000, l_20000, l_60000, vp_nIs, zz0, zz1, e10, nI_leI, nI_ltI, nI_eq, nI_1, nI_1a, nI_add, nI_sub, nI_sub1, pk_mul, nI_clamp, nI_le1, nI_le1', nI_lt1, nI_lt1', nI_eq1, nI_eqm, m1_eqN, m1_le, m1_lt, m1_leN, m1_ltN, nI_am, not_true_eq_false, not_false_eq_true, oN_eqm, h3', h4']) <;> omega) | fail)) only [↓numW, ↓zb_t, ↓zb_f, ↓zb_tt, ↓zb_ff, ↓zb_i, ↓zb_z0, ↓zb_z1, ↓zb_z, ↓zb_l, ↓zb_v, vi32, vi64, true_and, pk_us, Int32.add_zero, Nat.add_sub_cancel, nI_add, nI_1, nI_1a, nI_clamp, k7, k7', k8, k8', k12, k12', k15, k15', k16, k16', nI_sub1, va_up_self, va_up_ne, ne_eq, reduceCtorEq, Nat.reduceEqDiff, not_false_eq_true, h3', h4']
      exact z
  | succ d ih =>
    intro i l F S σ C ml hd hi h q0 i13 hl
    have g := h.2.2.2.2.2.2.2.2.2.1
    have h2' := h.2.2.1
    have h3' := h.2.2.2.1
    have h4' := h.2.2.2.2.1
    have g5 := g.2.2.2.2.1
    have gR := (lan_in nb R g.2.2.1).1
    have g4 := g.2.2.2.1
    have g7 := g.2.2.2.2.2.2.2.1
    have g1 := g.1
    have stop : (go ≤ i ∨ F ≤ S ∨ go ≤ (F - B) + (S - B)) → ∃ σ' F' S' C' ml' l', HS σ' T b hf B F' S' R fr C' C0 s0 ml' nb z lv y ∧ Q C' ml' ∧ frL I1334 σ σ' C' ∧ σ'.1 13 = nI l' ∧ l ≤ l' ∧ F ≤ F' ∧ S ≤ S' ∧ l' ≤ l + 3 * ((F' + S') - (F + S)) ∧ (F' + S' = F + S ∨ (F' - B) + (S' - B) < go + 17) ∧ (S' = F' ∨ go ≤ (F' - B) + (S' - B)) ∧ (S = F → F' = F) ∧ (∀ q, q ∈ ml → q ∈ ml') ∧ (∀ u, tcl' ml nb z y u → rdc C C' ml' u) ∧ ∀ K, K σ' → mp_X1_moveOn_14 K (d + 1 + 1) σ (nI go) (nI i) := fun hs => by
      refine ⟨σ, F, S, C, ml, l, h, q0, by rw [← h.2.2.2.2.2.2.2.2.1]; exact frL_r, i13, Nat.le_refl _, Nat.le_refl _, Nat.le_refl _, by omega, Or.inl rfl, by omega, fun _ => rfl, fun q hq => hq, fun u _ => Or.inl rfl, fun K z => ?_⟩
      unfold mp_X1_moveOn_14 mp_X1_moveOn_73 mp_X1_moved
      by_cases c : go ≤ i
      · simp (disch := (first | ((try simp (disch := omega) only [va_up_self, va_up_ne, ne_eq, reduceCtorEq, Nat.reduceEqDiff, not_false_eq_true, l_0, l_2, l_3, l_4, l_5, l_6, l_7, l_8, l_9, l_10, l_11, l_12, l_13, l_14, l_15, l_16, l_17, l_18, l_19, l_20, l_21, l_22, l_23, l_24, l_25, l_26, l_27, l_28, l_29, l_30, l_31, l_32, l_33, l_34, l_35, l_36, l_37, l_38, l_39, l_40, l_41, l_42, l_43, l_44, l_45, l_46, l_47, l_48, l_49, l_50, l_51, l_52, l_53, l_54, l_55, l_56, l_57, l_58, l_59, l_60, l_61, l_62, l_63, l_64, l_97, l_98, l_99, l_200, l_225, l_232, l_255, l_256, l_700, l_1000, l_1024, l_3375, l_4095, l_8000, l_20000, l_60000, vp_nIs, zz0, zz1, e10, nI_leI, nI_ltI, nI_eq, nI_1, nI_1a, nI_add, nI_sub, nI_sub1, pk_mul, nI_clamp, nI_le1, nI_le1', nI_lt1, nI_lt1', nI_eq1, nI_eqm, m1_eqN, m1_le, m1_lt, m1_leN, m1_ltN, nI_am, not_true_eq_false, not_false_eq_true, oN_eqm, h3', h4']) <;> omega) | fail)) only [↓numW, ↓zb_t, ↓zb_f, ↓zb_tt, ↓zb_ff, ↓zb_i, ↓zb_z0, ↓zb_z1, ↓zb_z, ↓zb_l, ↓zb_v, vi32, vi64, true_and, pk_us, Int32.add_zero, Nat.add_sub_cancel, nI_add, nI_1, nI_1a, nI_clamp, k7, k7', k8, k8', k12, k12', k15, k15', k16, k16', nI_sub1, va_up_self, va_up_ne, ne_eq, reduceCtorEq, Nat.reduceEqDiff, not_false_eq_true, h3', h4']
        exact z
      · by_cases c2 : F ≤ S
        · simp (disch := (first | ((try simp (disch := omega) only [va_up_self, va_up_ne, ne_eq, reduceCtorEq, Nat.reduceEqDiff, not_false_eq_true, l_0, l_2, l_3, l_4, l_5, l_6, l_7, l_8, l_9, l_10, l_11, l_12, l_13, l_14, l_15, l_16, l_17, l_18, l_19, l_20, l_21, l_22, l_23, l_24, l_25, l_26, l_27, l_28, l_29, l_30, l_31, l_32, l_33, l_34, l_35, l_36, l_37, l_38, l_39, l_40, l_41, l_42, l_43, l_44, l_45, l_46, l_47, l_48, l_49, l_50, l_51, l_52, l_53, l_54, l_55, l_56, l_57, l_58, l_59, l_60, l_61, l_62, l_63, l_64, l_97, l_98, l_99, l_200, l_225, l_232, l_255, l_256, l_700, l_1000, l_1024, l_3375, l_4095, l_8000, l_20000, l_60000, vp_nIs, zz0, zz1, e10, nI_leI, nI_ltI, nI_eq, nI_1, nI_1a, nI_add, nI_sub, nI_sub1, pk_mul, nI_clamp, nI_le1, nI_le1', nI_lt1, nI_lt1', nI_eq1, nI_eqm, m1_eqN, m1_le, m1_lt, m1_leN, m1_ltN, nI_am, not_true_eq_false, not_false_eq_true, oN_eqm, h3', h4']) <;> omega) | fail)) only [↓numW, ↓zb_t, ↓zb_f, ↓zb_tt, ↓zb_ff, ↓zb_i, ↓zb_z0, ↓zb_z1, ↓zb_z, ↓zb_l, ↓zb_v, vi32, vi64, true_and, pk_us, Int32.add_zero, Nat.add_sub_cancel, nI_add, nI_1, nI_1a, nI_clamp, k7, k7', k8, k8', k12, k12', k15, k15', k16, k16', nI_sub1, va_up_self, va_up_ne, ne_eq, reduceCtorEq, Nat.reduceEqDiff, not_false_eq_true, h3', h4']
          exact z
        · have c3 : go ≤ (F - B) + (S - B) := by omega
          have e2 : nI F - nI B + nI S - nI B = nI ((F - B) + (S - B)) := by
            rw [nI_sub (by omega), nI_add, nI_sub (by omega)]
            exact congrArg nI (by omega)
          simp (disch := (first | ((try simp (disch := omega) only [va_up_self, va_up_ne, ne_eq, reduceCtorEq, Nat.reduceEqDiff, not_false_eq_true, l_0, l_2, l_3, l_4, l_5, l_6, l_7, l_8, l_9, l_10, l_11, l_12, l_13, l_14, l_15, l_16, l_17, l_18, l_19, l_20, l_21, l_22, l_23, l_24, l_25, l_26, l_27, l_28, l_29, l_30, l_31, l_32, l_33, l_34, l_35, l_36, l_37, l_38, l_39, l_40, l_41, l_42, l_43, l_44, l_45, l_46, l_47, l_48, l_49, l_50, l_51, l_52, l_53, l_54, l_55, l_56, l_57, l_58, l_59, l_60, l_61, l_62, l_63, l_64, l_97, l_98, l_99, l_200, l_225, l_232, l_255, l_256, l_700, l_1000, l_1024, l_3375, l_4095, l_8000, l_20000, l_60000, vp_nIs, zz0, zz1, e10, nI_leI, nI_ltI, nI_eq, nI_1, nI_1a, nI_add, nI_sub, nI_sub1, pk_mul, nI_clamp, nI_le1, nI_le1', nI_lt1, nI_lt1', nI_eq1, nI_eqm, m1_eqN, m1_le, m1_lt, m1_leN, m1_ltN, nI_am, not_true_eq_false, not_false_eq_true, oN_eqm, h2', h3', h4', e2]) <;> omega) | fail)) only [↓numW, ↓zb_t, ↓zb_f, ↓zb_tt, ↓zb_ff, ↓zb_i, ↓zb_z0, ↓zb_z1, ↓zb_z, ↓zb_l, ↓zb_v, vi32, vi64, true_and, pk_us, Int32.add_zero, Nat.add_sub_cancel, nI_add, nI_1, nI_1a, nI_clamp, k7, k7', k8, k8', k12, k12', k15, k15', k16, k16', nI_sub1, va_up_self, va_up_ne, ne_eq, reduceCtorEq, Nat.reduceEqDiff, not_false_eq_true, h2', h3', h4', e2]
          exact z
    by_cases hs : go ≤ i ∨ F ≤ S ∨ go ≤ (F - B) + (S - B)
    · exact stop hs
    · clear stop
      have hSF : S < F := by omega
      have hx : tcl' ml nb z y S := by
        obtain ⟨q, q1, q2, q3⟩ := lay_at (fun a => (g.2.2.2.2.2.1 a).1) ml F g.2.1 S g5.1 hSF
        exact Or.inl ⟨q, S - q.2, q1, by omega, by omega⟩
      obtain ⟨σ1, F1, C1, ml1, l1, H1, Q1, f1, j13, k1, k2, k3, k4, k5, k6, k7, k8, k9, k10⟩ := e_read (x := S) hw h hQ q0 hx i13 (by omega)
      have gg := H1.2.2.2.2.2.2.2.2.2.1
      have z16 : F1 ≤ F + 16 := by omega
      have H2 : HS (sm_i σ1 4 (nI (S + 1))) T b hf B F1 (S + 1) R fr C1 C0 s0 ml1 nb z lv y := by
        obtain ⟨a0, a1, a2, a3, a4, a5, a6, a7, a8, a9, a10, a11, a12, a13⟩ := H1
        exact ⟨a0.f (I := I1334) (A := A0) (fr_r.i (by unfold I1334; omega)) (fun k q => by unfold I1334; omega) (fun r j _ _ _ q => q), a1, a2, a3, rfl, a5, a6, a7, a8, a9.sc (by omega) k9, a10, a11, a12, a13⟩
      obtain ⟨σ2, F2, S2, C2, ml2, l2, H3, Q2, f2, m13, n1, n2, n3, n4, n5, n6, n7, n8, n9, n10⟩ := ih (i + 1) l1 F1 (S + 1) (sm_i σ1 4 (nI (S + 1))) C1 ml1 (by omega) (by omega) H2 Q1 j13 (by omega)
      refine ⟨σ2, F2, S2, C2, ml2, l2, H3, Q2, ((f1.m (fun k q => I133_4 q)).i (by unfold I1334; omega)).t f2, m13, by omega, by omega, by omega, by omega, Or.inr (by omega), n6, fun e => by omega, fun q hq => n8 q (k6 q hq), fun u hu => ?_, fun K z => ?_⟩
      · by_cases e : u = S
        · subst e
          rcases n9 u (hu.m k6) with r | ⟨a, a', r1, r2, r3, r4, r5⟩
          · rcases k7 with t | ⟨a, a', t1, t2, t3, t4, t5⟩
            · exact Or.inl (r.trans t)
            · exact Or.inr ⟨a, a', t1, t2, t3, n8 _ t4, r.trans t5⟩
          · exfalso
            have g'' := H3.2.2.2.2.2.2.2.2.2.1
            have as0 := g''.2.2.2.2.2.2.2.2.2.2.2.2.1 (a, a') r4
            have o := g''.2.2.2.2.2.2.2.2.2.1 a as0
            have z1 := (g''.2.2.2.2.2.1 a).1
            have ob := g''.ob
            exact k9 a r2 r3 ⟨rfl, r1, by omega⟩
        · have e1 := k8 u hu e
          rcases n9 u (hu.m k6) with r | ⟨a, a', r1, r2, r3, r4, r5⟩
          · exact Or.inl (r.trans e1)
          · exact Or.inr ⟨a, a', r1, r2, e1 ▸ r3, r4, r5⟩
      · have z := n10 K z
        have s4 : σ1.1 4 = nI S := H1.2.2.2.2.1
        rw [show nI (S + 1) = σ1.1 4 + 1 by rw [s4, nI_1]] at z
        have z2 := k10 (fun _ σ6 => mp_X1_moveOn_14 K (d + 1) (sm_i σ6 4 (σ6.1 4 + 1)) (nI go) (nI (i + 1))) z
        have e2 : nI F - nI B + nI S - nI B = nI ((F - B) + (S - B)) := by
          rw [nI_sub (by omega), nI_add, nI_sub (by omega)]
          exact congrArg nI (by omega)
        unfold mp_X1_moveOn_14 mp_X1_moved
        simp (disch := (first | ((try simp (disch := omega) only [va_up_self, va_up_ne, ne_eq, reduceCtorEq, Nat.reduceEqDiff, not_false_eq_true, l_0, l_2, l_3, l_4, l_5, l_6, l_7, l_8, l_9, l_10, l_11, l_12, l_13, l_14, l_15, l_16, l_17, l_18, l_19, l_20, l_21, l_22, l_23, l_24, l_25, l_26, l_27, l_28, l_29, l_30, l_31, l_32, l_33, l_34, l_35, l_36, l_37, l_38, l_39, l_40, l_41, l_42, l_43, l_44, l_45, l_46, l_47, l_48, l_49, l_50, l_51, l_52, l_53, l_54, l_55, l_56, l_57, l_58, l_59, l_60, l_61, l_62, l_63, l_64, l_97, l_98, l_99, l_200, l_225, l_232, l_255, l_256, l_700, l_1000, l_1024, l_3375, l_4095, l_8000, l_20000, l_60000, vp_nIs, zz0, zz1, e10, nI_leI, nI_ltI, nI_eq, nI_1, nI_1a, nI_add, nI_sub, nI_sub1, pk_mul, nI_clamp, nI_le1, nI_le1', nI_lt1, nI_lt1', nI_eq1, nI_eqm, m1_eqN, m1_le, m1_lt, m1_leN, m1_ltN, nI_am, not_true_eq_false, not_false_eq_true, oN_eqm, h2', h3', h4', e2]) <;> omega) | fail)) only [↓numW, ↓zb_t, ↓zb_f, ↓zb_tt, ↓zb_ff, ↓zb_i, ↓zb_z0, ↓zb_z1, ↓zb_z, ↓zb_l, ↓zb_v, vi32, vi64, true_and, pk_us, Int32.add_zero, Nat.add_sub_cancel, nI_add, nI_1, nI_1a, nI_clamp, k7, k7', k8, k8', k12, k12', k15, k15', k16, k16', nI_sub1, va_up_self, va_up_ne, ne_eq, reduceCtorEq, Nat.reduceEqDiff, not_false_eq_true, h2', h3', h4', e2]
        exact z2
