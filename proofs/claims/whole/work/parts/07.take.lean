/-! ===== end's beginning: the tape's first n bytes become the image ===== -/
theorem sx_xr (σ : sm_S) (c n : Nat) (f g : Nat → Int32) : sm_r (sm_x σ c n f) c g = sm_x σ c n g := by
  show (σ.1, σ.2.1, va_up σ.2.2.1 c n, va_up (va_up σ.2.2.2.1 c f) c g, σ.2.2.2.2) = _
  rw [bx_uu]
theorem sx_rx (σ : sm_S) (c : Nat) (f : Nat → Int32) : sm_r σ c f = sm_x σ c (σ.2.2.1 c) f := by
  show _ = (σ.1, σ.2.1, va_up σ.2.2.1 c (σ.2.2.1 c), va_up σ.2.2.2.1 c f, σ.2.2.2.2)
  rw [sx_up]
theorem sx_4 {a b : Nat} (hab : a ≠ b) (r : Nat → Nat → Int32) (x y f g : Nat → Int32) : va_up (va_up (va_up (va_up r a x) b y) a f) b g = va_up (va_up r a f) b g := by
  funext c
  unfold va_up
  by_cases h4 : c = b <;> by_cases h3 : c = a <;> simp [h3, h4]
theorem nz_0 : vp_nar .boolean 0 = 0 := by decide
theorem w_take_loop {K : sm_S → Prop} {mc ms n : Nat} (hn : n ≤ 8000) : ∀ (d i : Nat) (σ : sm_S), i + d = n → n ≤ σ.2.2.1 19 → σ.2.2.1 19 < 2 ^ 31 → (∀ j : Nat, j < i → σ.2.2.2.1 19 j = 0) → (∀ g : Nat → Int32, (∀ j : Nat, j < n → g j = 0) → K (sm_i (sm_i (sm_r σ 19 g) 14 (nI n)) 15 0)) → mp_X2_take_46 mc ms K (d + 1) σ (nI n) (nI i) := by
  intro d
  induction d with
  | zero =>
    intro i σ hi hl hl2 hg hK
    have hi : i = n := by omega
    subst hi
    unfold mp_X2_take_46
    refine ⟨fun _ σ2 e2 σ3 e3 => ?_, fun q => absurd ((nI_leI (by omega) (by omega)).mpr (Nat.le_refl _)) q⟩
    have := hK (σ.2.2.2.1 19) hg
    have e : sm_r σ 19 (σ.2.2.2.1 19) = σ := by
      show (σ.1, σ.2.1, σ.2.2.1, va_up σ.2.2.2.1 19 (σ.2.2.2.1 19), σ.2.2.2.2) = σ
      rw [sx_up]
    rw [e] at this
    rw [e3, e2]
    exact this
  | succ d ih =>
    intro i σ hi hl hl2 hg hK
    unfold mp_X2_take_46
    refine ⟨fun q => absurd ((nI_leI (by omega) (by omega)).mp q) (by omega), fun _ => ⟨vp_in_nI (by omega) hl2, fun σ5 e5 v6 e6 => ?_⟩⟩
    rw [nI_clamp (by omega), nz_0] at e5
    rw [e6, nI_1]
    refine ih (i + 1) σ5 (by omega) (by rw [e5]; exact hl) (by rw [e5]; exact hl2) (fun j hj => ?_) (fun g hg' => ?_)
    · rw [e5]
      show va_up σ.2.2.2.1 19 (upd (σ.2.2.2.1 19) i 0) 19 j = 0
      rw [va_up_self]
      by_cases z : j = i
      · rw [z, pk_us]
      · rw [pk_un z]
        exact hg j (by omega)
    · rw [e5, sx_rr]
      exact hK g hg'
/-- Image.take: the class's image is the tape's first n bytes, no instruction begins yet -/
theorem w_take {K : sm_S → Prop} {mc ms n : Nat} {σ : sm_S} (hn : n ≤ 8000) (hlt : n ≤ σ.2.2.1 36) (hfit : ∀ j : Nat, j < σ.2.2.1 36 → fits .byte (.int (σ.2.2.2.1 36 j)) = true) (h18 : σ.2.2.1 18 ≤ 16000) (h19 : σ.2.2.1 19 = σ.2.2.1 18) (hmc : 2 ≤ mc) (hms : σ.2.2.1 18 < n → 2 * max n (2 * σ.2.2.1 18) ≤ ms)
    (hK : ∀ (N : Nat) (f g : Nat → Int32), n ≤ N → N ≤ 16000 → (N = σ.2.2.1 18 ∧ n ≤ σ.2.2.1 18 ∨ σ.2.2.1 18 < n ∧ N = max n (2 * σ.2.2.1 18)) → (∀ j : Nat, j < n → f j = σ.2.2.2.1 36 j) → (∀ j : Nat, j < n → g j = 0) → K (sm_i (sm_i (sm_x (sm_x σ 18 N f) 19 N g) 14 (nI n)) 15 0)) : mp_X2_take mc ms σ (nI n) K := by
  have z0 : (0 : Int32).toNatClampNeg = 0 := by decide
  have cn : (nI n).toNatClampNeg = n := nI_clamp (by omega)
  -- what is done when the rows are long enough
  have core : ∀ (N : Nat) (σ1 : sm_S), n ≤ N → N ≤ 16000 → (N = σ.2.2.1 18 ∧ n ≤ σ.2.2.1 18 ∨ σ.2.2.1 18 < n ∧ N = max n (2 * σ.2.2.1 18)) → σ1.2.2.1 18 = N → σ1.2.2.1 19 = N → σ1.2.2.1 36 = σ.2.2.1 36 → σ1.2.2.2.1 36 = σ.2.2.2.1 36 → (∀ f g : Nat → Int32, sm_r (sm_r σ1 18 f) 19 g = sm_x (sm_x σ 18 N f) 19 N g) → mp_X2_take_33 mc ms K σ1 (nI n) := by
    intro N σ1 hN hN2 hc l18 l19 l36 r36 he
    unfold mp_X2_take_33
    rw [cn, z0, l36, l18, r36]
    refine ⟨by decide, by decide, nI_pos (by omega), by omega, by omega, fun i hi => ?_, fun σ7 e7 => ⟨n + 1, ?_⟩⟩
    · rw [Nat.zero_add]
      exact hfit i (by omega)
    · refine w_take_loop hn n 0 σ7 (by omega) (by rw [e7]; exact (show n ≤ σ1.2.2.1 19 by rw [l19]; exact hN)) (by rw [e7]; exact (show σ1.2.2.1 19 < 2 ^ 31 by rw [l19]; omega)) (fun j hj => absurd hj (by omega)) (fun g hg => ?_)
      rw [e7, he]
      refine hK N _ g hN hN2 hc (fun j hj => ?_) hg
      rw [pk_cpy_in (by omega) (by omega)]
      exact congrArg _ (by omega)
  unfold mp_X2_take
  refine ⟨fun q => ?_, fun q => ?_⟩
  · have q1 : n ≤ σ.2.2.1 18 := (nI_leI (by omega) (by omega)).mp q
    refine core (σ.2.2.1 18) σ q1 h18 (Or.inl ⟨rfl, q1⟩) rfl h19 rfl rfl (fun f g => ?_)
    rw [sx_rx σ 18 f, sx_rx _ 19 g]
    have e : (sm_x σ 18 (σ.2.2.1 18) f).2.2.1 19 = σ.2.2.1 18 := h19
    rw [e]
  · have q1 : σ.2.2.1 18 < n := Nat.lt_of_not_le (fun z => q ((nI_leI (by omega) (by omega)).mpr z))
    unfold mp_X10_roomFor
    have e : (if nI n < 2 * nI (σ.2.2.1 18) then 2 * nI (σ.2.2.1 18) else nI n) = nI (max n (2 * σ.2.2.1 18)) := by
      rw [show (2 : Int32) = nI 2 from rfl, pk_mul]
      by_cases z : n < 2 * σ.2.2.1 18
      · rw [if_pos ((nI_ltI (by omega) (by omega)).mpr z), Nat.max_eq_right (by omega)]
      · rw [if_neg (fun y => z ((nI_ltI (by omega) (by omega)).mp y)), Nat.max_eq_left (by omega)]
    rw [e]
    have hR := hms q1
    generalize hNe : max n (2 * σ.2.2.1 18) = N at hR
    have hN1 : n ≤ N := by omega
    have hN2 : N ≤ 16000 := by omega
    have cN : (nI N).toNatClampNeg = N := nI_clamp (by omega)
    dsimp only
    rw [cN]
    refine ⟨nI_pos (by omega), by omega, by omega, by omega, fun σ21 e21 => ⟨nI_pos (by omega), by omega, by omega, by omega, fun σ27 e27 => ?_⟩⟩
    refine core N σ27 hN1 hN2 (Or.inr ⟨q1, hNe.symm⟩) ?_ ?_ ?_ ?_ (fun f g => ?_)
    · rw [e27, e21]; rfl
    · rw [e27, e21]; rfl
    · rw [e27, e21]; rfl
    · rw [e27, e21]; rfl
    · rw [e27, e21]
      show (σ.1, σ.2.1, va_up (va_up σ.2.2.1 18 N) 19 N, va_up (va_up (va_up (va_up σ.2.2.2.1 18 (fun _ => 0)) 19 (fun _ => 0)) 18 f) 19 g, σ.2.2.2.2) = (σ.1, σ.2.1, va_up (va_up σ.2.2.1 18 N) 19 N, va_up (va_up σ.2.2.2.1 18 f) 19 g, σ.2.2.2.2)
      rw [sx_4 (by decide)]
/-- the reference's copy of the tape into its image, up to readAll -/
theorem w_mcopy {K : Int32 → sm_S → Prop} {n : Nat} (hn : n ≤ 8000) : ∀ (d i : Nat) (μ : sm_S), i + d = n → μ.2.2.1 2 = 8000 → μ.2.2.1 3 = 8000 → μ.2.2.1 4 = 8000 → (∀ j : Nat, j < i → μ.2.2.2.1 3 j = μ.2.2.2.1 2 j) → (∀ j : Nat, j < i → μ.2.2.2.1 4 j = 0) →
    (∀ f g : Nat → Int32, (∀ j : Nat, j < n → f j = μ.2.2.2.1 2 j) → (∀ j : Nat, j < n → g j = 0) → mp_X11_readAll (sm_i (sm_i (sm_i (sm_i (sm_i (sm_r (sm_r μ 3 f) 4 g) 0 0) 2 0) 3 (-1)) 7 0) 4 0) (fun r15 σ14 => ((r15 = 0 → (mp_X11_end_113 K σ14)) ∧ (¬ r15 = 0 → (mp_X11_checkSlots σ14 (fun σ17 => ∃ n94 : Nat, mp_X11_end_94 K n94 σ17 0)))))) → mp_X11_end_26 K (d + 1) μ (nI n) (nI i) := by
  intro d
  induction d with
  | zero =>
    intro i μ hi l2 l3 l4 hf hg hK
    have hi : i = n := by omega
    subst hi
    unfold mp_X11_end_26
    refine ⟨fun _ σ9 e9 σ10 e10 σ11 e11 σ12 e12 σ13 e13 => ?_, fun q => absurd ((nI_leI (by omega) (by omega)).mpr (Nat.le_refl _)) q⟩
    have := hK (μ.2.2.2.1 3) (μ.2.2.2.1 4) hf hg
    have e : sm_r (sm_r μ 3 (μ.2.2.2.1 3)) 4 (μ.2.2.2.1 4) = μ := by
      show (μ.1, μ.2.1, μ.2.2.1, va_up (va_up μ.2.2.2.1 3 (μ.2.2.2.1 3)) 4 (μ.2.2.2.1 4), μ.2.2.2.2) = μ
      rw [sx_up, sx_up]
    rw [e] at this
    rw [e13, e12, e11, e10, e9]
    exact this
  | succ d ih =>
    intro i μ hi l2 l3 l4 hf hg hK
    unfold mp_X11_end_26
    refine ⟨fun q => absurd ((nI_leI (by omega) (by omega)).mp q) (by omega), fun _ => ⟨by rw [l2]; exact vp_in_nI (by omega) (by decide), by rw [l3]; exact vp_in_nI (by omega) (by decide), fun μ1 e1 => ⟨by rw [e1]; exact (show vp_in (nI i) (μ.2.2.1 4) by rw [l4]; exact vp_in_nI (by omega) (by decide)), fun μ2 e2 v e3 => ?_⟩⟩⟩
    rw [nI_clamp (by omega)] at e1
    rw [nI_clamp (by omega), nz_0] at e2
    have k4 : μ1.2.2.2.1 4 = μ.2.2.2.1 4 := by rw [e1]; rfl
    rw [k4] at e2
    rw [e3, nI_1]
    refine ih (i + 1) μ2 (by omega) (by rw [e2, e1]; exact l2) (by rw [e2, e1]; exact l3) (by rw [e2, e1]; exact l4) (fun j hj => ?_) (fun j hj => ?_) (fun f g hf' hg' => ?_)
    · rw [e2, e1]
      show upd (μ.2.2.2.1 3) i (μ.2.2.2.1 2 i) j = μ.2.2.2.1 2 j
      by_cases z : j = i
      · rw [z, pk_us]
      · rw [pk_un z]
        exact hf j (by omega)
    · rw [e2, e1]
      show upd (μ.2.2.2.1 4) i 0 j = 0
      by_cases z : j = i
      · rw [z, pk_us]
      · rw [pk_un z]
        exact hg j (by omega)
    · have e : sm_r (sm_r μ2 3 f) 4 g = sm_r (sm_r μ 3 f) 4 g := by
        rw [e2, e1]
        show (μ.1, μ.2.1, μ.2.2.1, va_up (va_up (va_up (va_up μ.2.2.2.1 3 _) 4 _) 3 f) 4 g, μ.2.2.2.2) = (μ.1, μ.2.1, μ.2.2.1, va_up (va_up μ.2.2.2.1 3 f) 4 g, μ.2.2.2.2)
        have key : ∀ (r : Nat → Nat → Int32) (a b f g : Nat → Int32), va_up (va_up (va_up (va_up r 3 a) 4 b) 3 f) 4 g = va_up (va_up r 3 f) 4 g := by
          intro r a b f g
          funext c
          unfold va_up
          by_cases h4 : c = 4 <;> by_cases h3 : c = 3 <;> simp [h3, h4]
        rw [key]
      rw [e]
      refine hK f g (fun j hj => ?_) hg'
      rw [hf' j hj, e2, e1]
      rfl
