/-! ===== reading an instruction, both sides ===== -/
/-- how many bytes an instruction has -/
def wd (op : Nat) : Nat := if op = 0 then 5 else if op = 19 ∨ op = 20 then 4 else if (21 ≤ op ∧ op ≤ 25) ∨ op = 27 ∨ op = 28 ∨ op = 36 then 3 else if op = 2 ∨ op = 3 ∨ op = 26 ∨ (29 ≤ op ∧ op ≤ 31) ∨ op = 35 then 2 else 1
theorem wd_sz : ∀ op, op < 42 → sm_sz op = nI (wd op) := by decide +kernel
theorem wd_le (op : Nat) : 1 ≤ wd op ∧ wd op ≤ 5 := (by unfold wd; (repeat' split) <;> omega)
theorem w_wide {μ : sm_S} {op : Nat} {K : jk} (ho : op < 42) (h : K (nI (wd op)) μ) : mp_X11_wide μ (nI op) K := by
  have key : ∀ k, wd op = k → K (nI k) μ := fun k e => by rw [← e]; exact h
  unfold mp_X11_wide mp_X11_wide_20 mp_X11_wide_36 mp_X11_wide_54 mp_X11_wide_86 mp_X11_wide_92 mp_X11_wide_97
  simp (disch := omega) only [l_0, l_2, l_3, l_4, l_5, l_6, l_7, l_8, l_9, l_10, l_11, l_12, l_13, l_14, l_15, l_16, l_17, l_18, l_19, l_20, l_21, l_22, l_23, l_24, l_25, l_26, l_27, l_28, l_29, l_30, l_31, l_32, l_33, l_34, l_35, l_36, l_37, l_38, l_39, l_40, l_41, l_42, l_43, l_44, l_45, l_46, l_47, l_48, l_49, l_50, l_51, l_52, l_53, l_54, l_55, l_56, l_57, l_58, l_59, l_60, l_61, l_62, l_63, l_64, l_97, l_98, l_99, l_200, l_225, l_232, l_255, l_256, l_700, l_1000, l_1024, l_3375, l_4095, l_8000, l_20000, l_60000, nI_eq, nI_leI, nI_ltI]
  repeat' (first | apply And.intro | intro _)
  all_goals first | exact key 5 (by unfold wd; (repeat' split) <;> omega) | exact key 4 (by unfold wd; (repeat' split) <;> omega) | exact key 3 (by unfold wd; (repeat' split) <;> omega) | exact key 2 (by unfold wd; (repeat' split) <;> omega) | exact key 1 (by unfold wd; (repeat' split) <;> omega)
theorem w_opS {σ : sm_S} {op : Nat} {x : Int32} {K : sm_S → Prop} (ho : op < 42) (h2 : op ≠ 2) (h3 : op ≠ 3) (h19 : op ≠ 19) (h20 : op ≠ 20) (h26 : ¬ (26 ≤ op ∧ op ≤ 31)) (h36 : op ≠ 36) (h : mp_X6_skip σ (nI (wd op - 1)) K) : mp_X6_readOperands σ (nI op) x K := by
  have key : vp_in (nI op) 42 ∧ mp_X6_skip σ (sm_sz (nI op).toNatClampNeg - 1) (fun σ => mp_X6_readOperands_289 K σ) := by
    refine ⟨vp_in_nI ho (by decide), ?_⟩
    rw [nI_clamp (by omega), wd_sz op ho, nI_sub1 (wd_le op).1]
    exact h
  unfold mp_X6_readOperands
  repeat' apply And.intro
  all_goals first | exact fun _ => key | (intro q; exfalso; simp (disch := omega) only [l_0, l_2, l_3, l_4, l_5, l_6, l_7, l_8, l_9, l_10, l_11, l_12, l_13, l_14, l_15, l_16, l_17, l_18, l_19, l_20, l_21, l_22, l_23, l_24, l_25, l_26, l_27, l_28, l_29, l_30, l_31, l_32, l_33, l_34, l_35, l_36, l_37, l_38, l_39, l_40, l_41, l_42, l_43, l_44, l_45, l_46, l_47, l_48, l_49, l_50, l_51, l_52, l_53, l_54, l_55, l_56, l_57, l_58, l_59, l_60, l_61, l_62, l_63, l_64, l_97, l_98, l_99, l_200, l_225, l_232, l_255, l_256, l_700, l_1000, l_1024, l_3375, l_4095, l_8000, l_20000, l_60000, nI_eq] at q; omega) | (intros; exact key)
theorem w_op2 {σ : sm_S} {op : Nat} {x : Int32} {K : sm_S → Prop} (ho : op = 2 ∨ op = 3) (h : mp_X6_number σ 0 (x - 1) (-1) (fun _ σ => K σ)) : mp_X6_readOperands σ (nI op) x K := by
  unfold mp_X6_readOperands
  repeat' apply And.intro
  all_goals first | exact fun _ => h | (intro q; exfalso; simp (disch := omega) only [l_0, l_2, l_3, l_4, l_5, l_6, l_7, l_8, l_9, l_10, l_11, l_12, l_13, l_14, l_15, l_16, l_17, l_18, l_19, l_20, l_21, l_22, l_23, l_24, l_25, l_26, l_27, l_28, l_29, l_30, l_31, l_32, l_33, l_34, l_35, l_36, l_37, l_38, l_39, l_40, l_41, l_42, l_43, l_44, l_45, l_46, l_47, l_48, l_49, l_50, l_51, l_52, l_53, l_54, l_55, l_56, l_57, l_58, l_59, l_60, l_61, l_62, l_63, l_64, l_97, l_98, l_99, l_200, l_225, l_232, l_255, l_256, l_700, l_1000, l_1024, l_3375, l_4095, l_8000, l_20000, l_60000, nI_eq] at q; omega) | (intro q1 q2; exfalso; simp (disch := omega) only [l_0, l_2, l_3, l_4, l_5, l_6, l_7, l_8, l_9, l_10, l_11, l_12, l_13, l_14, l_15, l_16, l_17, l_18, l_19, l_20, l_21, l_22, l_23, l_24, l_25, l_26, l_27, l_28, l_29, l_30, l_31, l_32, l_33, l_34, l_35, l_36, l_37, l_38, l_39, l_40, l_41, l_42, l_43, l_44, l_45, l_46, l_47, l_48, l_49, l_50, l_51, l_52, l_53, l_54, l_55, l_56, l_57, l_58, l_59, l_60, l_61, l_62, l_63, l_64, l_97, l_98, l_99, l_200, l_225, l_232, l_255, l_256, l_700, l_1000, l_1024, l_3375, l_4095, l_8000, l_20000, l_60000, nI_eq] at q1 q2; omega)
theorem w_op19 {σ : sm_S} {op : Nat} {x : Int32} {K : sm_S → Prop} (ho : op = 19 ∨ op = 20) (h : mp_X6_number σ 0 5 (-1) (fun _ σ => mp_X6_skip σ 2 K)) : mp_X6_readOperands σ (nI op) x K := by
  unfold mp_X6_readOperands
  repeat' apply And.intro
  all_goals first | exact fun _ => h | (intro q; exfalso; simp (disch := omega) only [l_0, l_2, l_3, l_4, l_5, l_6, l_7, l_8, l_9, l_10, l_11, l_12, l_13, l_14, l_15, l_16, l_17, l_18, l_19, l_20, l_21, l_22, l_23, l_24, l_25, l_26, l_27, l_28, l_29, l_30, l_31, l_32, l_33, l_34, l_35, l_36, l_37, l_38, l_39, l_40, l_41, l_42, l_43, l_44, l_45, l_46, l_47, l_48, l_49, l_50, l_51, l_52, l_53, l_54, l_55, l_56, l_57, l_58, l_59, l_60, l_61, l_62, l_63, l_64, l_97, l_98, l_99, l_200, l_225, l_232, l_255, l_256, l_700, l_1000, l_1024, l_3375, l_4095, l_8000, l_20000, l_60000, nI_eq] at q; omega) | skip
  intros
  exfalso
  simp (disch := omega) only [l_0, l_2, l_3, l_4, l_5, l_6, l_7, l_8, l_9, l_10, l_11, l_12, l_13, l_14, l_15, l_16, l_17, l_18, l_19, l_20, l_21, l_22, l_23, l_24, l_25, l_26, l_27, l_28, l_29, l_30, l_31, l_32, l_33, l_34, l_35, l_36, l_37, l_38, l_39, l_40, l_41, l_42, l_43, l_44, l_45, l_46, l_47, l_48, l_49, l_50, l_51, l_52, l_53, l_54, l_55, l_56, l_57, l_58, l_59, l_60, l_61, l_62, l_63, l_64, l_97, l_98, l_99, l_200, l_225, l_232, l_255, l_256, l_700, l_1000, l_1024, l_3375, l_4095, l_8000, l_20000, l_60000, nI_eq] at *
  omega
theorem w_op26 {σ : sm_S} {op : Nat} {x : Int32} {K : sm_S → Prop} (ho : op = 26 ∨ op = 29 ∨ op = 30) (h : mp_X6_number σ 0 (σ.1 0 - 1) (-1) (fun _ σ => K σ)) : mp_X6_readOperands σ (nI op) x K := by
  unfold mp_X6_readOperands
  repeat' apply And.intro
  all_goals first | exact fun _ => h | (intro q; exfalso; simp (disch := omega) only [l_0, l_2, l_3, l_4, l_5, l_6, l_7, l_8, l_9, l_10, l_11, l_12, l_13, l_14, l_15, l_16, l_17, l_18, l_19, l_20, l_21, l_22, l_23, l_24, l_25, l_26, l_27, l_28, l_29, l_30, l_31, l_32, l_33, l_34, l_35, l_36, l_37, l_38, l_39, l_40, l_41, l_42, l_43, l_44, l_45, l_46, l_47, l_48, l_49, l_50, l_51, l_52, l_53, l_54, l_55, l_56, l_57, l_58, l_59, l_60, l_61, l_62, l_63, l_64, l_97, l_98, l_99, l_200, l_225, l_232, l_255, l_256, l_700, l_1000, l_1024, l_3375, l_4095, l_8000, l_20000, l_60000, nI_eq] at q; omega) | skip
  intros
  exfalso
  simp (disch := omega) only [l_0, l_2, l_3, l_4, l_5, l_6, l_7, l_8, l_9, l_10, l_11, l_12, l_13, l_14, l_15, l_16, l_17, l_18, l_19, l_20, l_21, l_22, l_23, l_24, l_25, l_26, l_27, l_28, l_29, l_30, l_31, l_32, l_33, l_34, l_35, l_36, l_37, l_38, l_39, l_40, l_41, l_42, l_43, l_44, l_45, l_46, l_47, l_48, l_49, l_50, l_51, l_52, l_53, l_54, l_55, l_56, l_57, l_58, l_59, l_60, l_61, l_62, l_63, l_64, l_97, l_98, l_99, l_200, l_225, l_232, l_255, l_256, l_700, l_1000, l_1024, l_3375, l_4095, l_8000, l_20000, l_60000, nI_eq] at *
  omega
theorem w_op27 {σ : sm_S} {op : Nat} {x : Int32} {K : sm_S → Prop} (ho : op = 27 ∨ op = 28) (h : mp_X6_number σ 0 (σ.1 0 - 1) (-1) (fun r σ => vp_in r (σ.2.2.1 12) ∧ mp_X6_number σ 0 (σ.2.2.2.1 12 r.toNatClampNeg - 1) (-1) (fun _ σ => K σ))) : mp_X6_readOperands σ (nI op) x K := by
  unfold mp_X6_readOperands
  repeat' apply And.intro
  all_goals first | exact fun _ => h | (intro q; exfalso; simp (disch := omega) only [l_0, l_2, l_3, l_4, l_5, l_6, l_7, l_8, l_9, l_10, l_11, l_12, l_13, l_14, l_15, l_16, l_17, l_18, l_19, l_20, l_21, l_22, l_23, l_24, l_25, l_26, l_27, l_28, l_29, l_30, l_31, l_32, l_33, l_34, l_35, l_36, l_37, l_38, l_39, l_40, l_41, l_42, l_43, l_44, l_45, l_46, l_47, l_48, l_49, l_50, l_51, l_52, l_53, l_54, l_55, l_56, l_57, l_58, l_59, l_60, l_61, l_62, l_63, l_64, l_97, l_98, l_99, l_200, l_225, l_232, l_255, l_256, l_700, l_1000, l_1024, l_3375, l_4095, l_8000, l_20000, l_60000, nI_eq] at q; omega) | skip
  intros
  exfalso
  simp (disch := omega) only [l_0, l_2, l_3, l_4, l_5, l_6, l_7, l_8, l_9, l_10, l_11, l_12, l_13, l_14, l_15, l_16, l_17, l_18, l_19, l_20, l_21, l_22, l_23, l_24, l_25, l_26, l_27, l_28, l_29, l_30, l_31, l_32, l_33, l_34, l_35, l_36, l_37, l_38, l_39, l_40, l_41, l_42, l_43, l_44, l_45, l_46, l_47, l_48, l_49, l_50, l_51, l_52, l_53, l_54, l_55, l_56, l_57, l_58, l_59, l_60, l_61, l_62, l_63, l_64, l_97, l_98, l_99, l_200, l_225, l_232, l_255, l_256, l_700, l_1000, l_1024, l_3375, l_4095, l_8000, l_20000, l_60000, nI_eq] at *
  omega
theorem w_op31 {σ : sm_S} {x : Int32} {K : sm_S → Prop} (h : mp_X6_number σ 0 (σ.1 0) (-1) (fun _ σ => K σ)) : mp_X6_readOperands σ (nI 31) x K := by
  unfold mp_X6_readOperands
  repeat' apply And.intro
  all_goals first | exact fun _ => h | (intro q; exact absurd q (by decide)) | skip
  intros
  exfalso
  rename_i q1 q2 q3 q4 q5 q6
  exact q1 rfl
theorem w_op36 {σ : sm_S} {x : Int32} {K : sm_S → Prop} (h : mp_X6_number σ 0 (σ.1 0 - 1) (-1) (fun r σ => mp_X6_readSlot σ r K)) : mp_X6_readOperands σ (nI 36) x K := by
  unfold mp_X6_readOperands
  repeat' apply And.intro
  all_goals first | exact fun _ => h | (intro q; exact absurd q (by decide)) | skip
  intros
  exfalso
  rename_i q1
  exact q1 rfl
