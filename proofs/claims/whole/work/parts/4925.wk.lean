/-! ===== an instruction of the class: looking at the top frame, writing into it ===== -/
def Irn (k : Nat) : Prop := k = 13 ∨ (24 ≤ k ∧ k ≤ 28)
/-- within a step: σ0 as it began, D the cells now, tp the top frame, m its method, pc, ht, nx place, height and next place now, l the looks -/
def WK (σ0 σ : sm_S) (T : Nat → Nat → Nat) (b : Nat → Nat) (D : Nat → Int64) (tp m pc ht nx l : Nat) : Prop := frL Irn σ0 σ D ∧ imX σ T b ∧ σ.1 10 = nI tp ∧ σ.1 24 = nI m ∧ σ.1 25 = nI pc ∧ σ.1 26 = nI nx ∧ σ.1 27 = nI ht ∧ σ.1 13 = nI l ∧ m < T 0 1 ∧ T 17 m + pc < T 17 m + T 18 m ∧ ht ≤ T 16 m ∧ nx < 2 ^ 16 ∧ l < 2 ^ 19 ∧ 1 ≤ tp ∧ tp + 16 ≤ σ.2.2.1 17 ∧ σ.2.2.1 17 < 2 ^ 30
theorem WK.l1 {σ0 σ : sm_S} {T : Nat → Nat → Nat} {b : Nat → Nat} {D : Nat → Int64} {tp m pc ht nx l : Nat} (h : WK σ0 σ T b D tp m pc ht nx l) {l' : Nat} (hl : l' < 2 ^ 19) : WK σ0 (sm_i σ 13 (nI l')) T b D tp m pc ht nx l' := by
  obtain ⟨h1, h2, h3, h4, h5, h6, h7, h8, h9, h10, h11, h12, h13, h14, h15, h16⟩ := h
  exact ⟨h1.i (by unfold Irn; omega), h2.f (I := Irn) (A := A0) (fr_r.i (by unfold Irn; omega)) (fun k q => by unfold Irn; omega) (fun r j _ _ _ q => q), h3, h4, h5, h6, h7, rfl, h9, h10, h11, h12, hl, h14, h15, h16⟩
theorem WK.h1 {σ0 σ : sm_S} {T : Nat → Nat → Nat} {b : Nat → Nat} {D : Nat → Int64} {tp m pc ht nx l : Nat} (h : WK σ0 σ T b D tp m pc ht nx l) {ht' : Nat} (hh : ht' ≤ T 16 m) : WK σ0 (sm_i σ 27 (nI ht')) T b D tp m pc ht' nx l := by
  obtain ⟨h1, h2, h3, h4, h5, h6, h7, h8, h9, h10, h11, h12, h13, h14, h15, h16⟩ := h
  exact ⟨h1.i (by unfold Irn; omega), h2.f (I := Irn) (A := A0) (fr_r.i (by unfold Irn; omega)) (fun k q => by unfold Irn; omega) (fun r j _ _ _ q => q), h3, h4, h5, h6, rfl, h8, h9, h10, hh, h12, h13, h14, h15, h16⟩
theorem WK.n1 {σ0 σ : sm_S} {T : Nat → Nat → Nat} {b : Nat → Nat} {D : Nat → Int64} {tp m pc ht nx l : Nat} (h : WK σ0 σ T b D tp m pc ht nx l) {nx' : Nat} (hh : nx' < 2 ^ 16) : WK σ0 (sm_i σ 26 (nI nx')) T b D tp m pc ht nx' l := by
  obtain ⟨h1, h2, h3, h4, h5, h6, h7, h8, h9, h10, h11, h12, h13, h14, h15, h16⟩ := h
  exact ⟨h1.i (by unfold Irn; omega), h2.f (I := Irn) (A := A0) (fr_r.i (by unfold Irn; omega)) (fun k q => by unfold Irn; omega) (fun r j _ _ _ q => q), h3, h4, h5, rfl, h7, h8, h9, h10, h11, hh, h13, h14, h15, h16⟩
theorem WK.q1 {σ0 σ : sm_S} {T : Nat → Nat → Nat} {b : Nat → Nat} {D : Nat → Int64} {tp m pc ht nx l : Nat} (h : WK σ0 σ T b D tp m pc ht nx l) (E : Nat → Int64) : WK σ0 (sm_q σ 17 E) T b E tp m pc ht nx l := by
  obtain ⟨h1, h2, h3, h4, h5, h6, h7, h8, h9, h10, h11, h12, h13, h14, h15, h16⟩ := h
  exact ⟨h1.q, h2.L (I := Irn) (D := E) (frL.q frL_r) (fun k q => by unfold Irn; omega), h3, h4, h5, h6, h7, h8, h9, h10, h11, h12, h13, h14, h15, h16⟩
theorem k_look {σ0 σ : sm_S} {T : Nat → Nat → Nat} {b : Nat → Nat} {D : Nat → Int64} {tp m pc ht nx l a : Nat} {K : Int64 → sm_S → Prop} (h : WK σ0 σ T b D tp m pc ht nx l) (h1 : 1 ≤ a) (h2 : a < σ.2.2.1 17) (hl : l + 1 < 2 ^ 19) (hK : ∀ σ', WK σ0 σ' T b D tp m pc ht nx (l + 1) → K (D a) σ') : mp_X1_look σ (nI a) K := by
  have hD : σ.2.2.2.2 17 = D := h.1.2.2.2.2.1
  have h16 := h.2.2.2.2.2.2.2.2.2.2.2.2.2.2.2
  refine l_look h1 h2 (by omega) ?_
  rw [hD, h.2.2.2.2.2.2.2.1, nI_1]
  exact hK _ (h.l1 hl)
theorem k_put {σ0 σ : sm_S} {T : Nat → Nat → Nat} {b : Nat → Nat} {D : Nat → Int64} {tp m pc ht nx l a : Nat} {c : Int64} {K : sm_S → Prop} (h : WK σ0 σ T b D tp m pc ht nx l) (h1 : 1 ≤ a) (h2 : a < σ.2.2.1 17) (hl : l + 1 < 2 ^ 19) (hK : ∀ σ', WK σ0 σ' T b (vp_updL D a c) tp m pc ht nx (l + 1) → K σ') : mp_X1_put σ (nI a) c K := by
  have hD : σ.2.2.2.2 17 = D := h.1.2.2.2.2.1
  have h16 := h.2.2.2.2.2.2.2.2.2.2.2.2.2.2.2
  refine l_put h1 h2 (by omega) ?_
  rw [hD, h.2.2.2.2.2.2.2.1, nI_1]
  exact hK _ ((h.l1 hl).q1 _)
theorem WK.t12 {σ0 σ : sm_S} {T : Nat → Nat → Nat} {b : Nat → Nat} {D : Nat → Int64} {tp m pc ht nx l : Nat} (hw : wf T b) (h : WK σ0 σ T b D tp m pc ht nx l) : T 15 m + T 16 m ≤ 12 ∧ T 0 1 ≤ 64 := ⟨(hw.2.2.2.2.2.2.2.2.1 m h.2.2.2.2.2.2.2.2.1).2.2.2.2.2.2.1, hw.2.2.2.1⟩
theorem k_slot {σ0 σ : sm_S} {T : Nat → Nat → Nat} {b : Nat → Nat} {D : Nat → Int64} {tp m pc ht nx l i : Nat} {K : jk} (hw : wf T b) (h : WK σ0 σ T b D tp m pc ht nx l) (hK : K (nI (tp + 4 + T 15 m + i)) σ) : mp_X7_slot σ (nI i) K := by
  have t := h.t12 hw
  obtain ⟨h1, h2, h3, h4, h5, h6, h7, h8, h9, h10, h11, h12, h13, h14, h15, h16⟩ := h
  have hLX := h2.2.1
  have r24 := (h2.2.2.2.2.2.2.2.2 m h9).2.2.2.2.1
  unfold mp_X7_slot
  rw [h4, nI_clamp (by omega), r24, h3, l_4, nI_add, nI_add, nI_add]
  exact ⟨by rw [lx24 hLX]; exact vp_in_nI (by omega) (by decide), hK⟩
theorem k_pop {σ0 σ : sm_S} {T : Nat → Nat → Nat} {b : Nat → Nat} {D : Nat → Int64} {tp m pc ht nx l : Nat} {K : Int64 → sm_S → Prop} (hw : wf T b) (h : WK σ0 σ T b D tp m pc ht nx l) (h1 : 1 ≤ ht) (hl : l + 1 < 2 ^ 19) (hK : ∀ σ', WK σ0 σ' T b D tp m pc (ht - 1) nx (l + 1) → K (D (tp + 4 + T 15 m + (ht - 1))) σ') : mp_X7_pop σ K := by
  have t := h.t12 hw
  have h7 := h.2.2.2.2.2.2.1
  have h11 := h.2.2.2.2.2.2.2.2.2.2.1
  have h15 := h.2.2.2.2.2.2.2.2.2.2.2.2.2.2.1
  unfold mp_X7_pop
  intro s1 e1
  rw [h7, nI_sub1 h1] at e1
  rw [e1]
  have w1 := h.h1 (ht' := ht - 1) (by omega)
  have e27 : (sm_i σ 27 (nI (ht - 1))).1 27 = nI (ht - 1) := rfl
  rw [e27]
  refine k_slot hw w1 ?_
  exact k_look w1 (by omega) (by show _ < σ.2.2.1 17; omega) hl hK
theorem k_below {σ0 σ : sm_S} {T : Nat → Nat → Nat} {b : Nat → Nat} {D : Nat → Int64} {tp m pc ht nx l j : Nat} {K : Int64 → sm_S → Prop} (hw : wf T b) (h : WK σ0 σ T b D tp m pc ht nx l) (h1 : j + 1 ≤ ht) (hl : l + 1 < 2 ^ 19) (hK : ∀ σ', WK σ0 σ' T b D tp m pc ht nx (l + 1) → K (D (tp + 4 + T 15 m + (ht - 1 - j))) σ') : mp_X7_below σ (nI j) K := by
  have t := h.t12 hw
  have h7 := h.2.2.2.2.2.2.1
  have h11 := h.2.2.2.2.2.2.2.2.2.2.1
  have h15 := h.2.2.2.2.2.2.2.2.2.2.2.2.2.2.1
  unfold mp_X7_below
  rw [h7, nI_sub1 (by omega), nI_sub (by omega)]
  refine k_slot hw h ?_
  exact k_look h (by omega) (by omega) hl hK
theorem k_push {σ0 σ : sm_S} {T : Nat → Nat → Nat} {b : Nat → Nat} {D : Nat → Int64} {tp m pc ht nx l : Nat} {c : Int64} {K : jk} (hw : wf T b) (h : WK σ0 σ T b D tp m pc ht nx l) (h1 : ht < T 16 m) (hl : l + 1 < 2 ^ 19) (hK : ∀ σ', WK σ0 σ' T b (vp_updL D (tp + 4 + T 15 m + ht) c) tp m pc (ht + 1) nx (l + 1) → K (-1) σ') : mp_X7_push σ c K := by
  have t := h.t12 hw
  have h7 := h.2.2.2.2.2.2.1
  have h15 := h.2.2.2.2.2.2.2.2.2.2.2.2.2.2.1
  unfold mp_X7_push
  rw [h7]
  refine k_slot hw h ?_
  refine k_put h (by omega) (by omega) hl (fun σ' w => ?_)
  intro s4 e4
  rw [w.2.2.2.2.2.2.1, nI_1] at e4
  rw [e4]
  exact hK _ (w.h1 (by omega))
theorem k_pushI {σ0 σ : sm_S} {T : Nat → Nat → Nat} {b : Nat → Nat} {D : Nat → Int64} {tp m pc ht nx l : Nat} {v : Int32} {K : jk} (hw : wf T b) (h : WK σ0 σ T b D tp m pc ht nx l) (h1 : ht < T 16 m) (hl : l + 1 < 2 ^ 19) (hK : ∀ σ', WK σ0 σ' T b (vp_updL D (tp + 4 + T 15 m + ht) (mkc 0 v)) tp m pc (ht + 1) nx (l + 1) → K (-1) σ') : mp_X7_pushInt σ v K := by
  unfold mp_X7_pushInt mp_X1_cell
  exact k_push hw h h1 hl hK
theorem k_oper {σ0 σ : sm_S} {T : Nat → Nat → Nat} {b : Nat → Nat} {D : Nat → Int64} {tp m pc ht nx l i : Nat} {K : jk} (hw : wf T b) (h : WK σ0 σ T b D tp m pc ht nx l) (hi : i ≤ 4) (hp : T 17 m + pc + i < T 0 4) (hK : K (nI (b (T 17 m + pc + i))) σ) : mp_X7_operand σ (nI i) K := by
  have t := h.t12 hw
  have w5 := hw.2.2.2.2.1
  obtain ⟨h1, h2, h3, h4, h5, h6, h7, h8, h9, h10, h11, h12, h13, h14, h15, h16⟩ := h
  have hLX := h2.2.1
  have r26 := (h2.2.2.2.2.2.2.2.2 m h9).2.2.2.2.2.2.1
  unfold mp_X7_operand
  rw [h4, nI_clamp (by omega), r26, h5, nI_add, nI_add]
  exact ⟨by rw [lx26 hLX]; exact vp_in_nI (by omega) (by decide), w_at h2.1 (by omega) (fun _ => hK) (fun z => absurd z (by omega))⟩
