/-! ===== jumps, the class ===== -/
theorem lg0 (a c : Int64) : lg_cmp a c = 0 ↔ a = c := by
  unfold lg_cmp
  by_cases h1 : c < a
  · rw [if_pos h1]
    refine ⟨fun q => absurd q (by decide), fun q => ?_⟩
    rw [q] at h1
    exact absurd h1 Int64.lt_irrefl
  · rw [if_neg h1]
    by_cases h2 : a = c
    · rw [if_pos h2]; exact ⟨fun _ => h2, fun _ => rfl⟩
    · rw [if_neg h2]; exact ⟨fun q => absurd q (by decide), fun q => absurd q h2⟩
/-- a cell that leads into the half in use leads to the node itself -/
theorem vcl_can {hf B F S R : Nat} {C C0 : Nat → Int64} {s0 : List Nat} {ml : List (Nat × Nat)} {nb : List Nat} {z lv y : Nat → Nat} (g : GI hf B F S R C C0 s0 ml nb z lv y) {al : Nat → Nat} {k : Nat} {c : Int64} (hg : gcl hf B c) (h : vcl s0 ml nb al (.inr (k + 1)) c) : c = mkc 1 (nI (al k)) ∧ al k ≠ 0 ∧ al k < 2 ^ 30 ∧ ¬ ldb hf B 1 (al k) := by
  rcases h with ⟨x, h1, -⟩ | ⟨h1, -⟩ | ⟨k', w, h1, h2, h3, h4, h5⟩
  · cases h1
  · cases h1
  · cases h1
    have nl := hg.2 w h3 h4
    have e : w = al k := by
      rcases h5 with t | t
      · have as0 := g.2.2.2.2.2.2.2.2.2.2.2.2.1 (w, al k) t
        have o := g.2.2.2.2.2.2.2.2.2.1 w as0
        have z1 := (g.2.2.2.2.2.1 w).1
        have ob := g.ob
        exact absurd ⟨rfl, h2, by omega⟩ nl
      · exact t.1
    rw [← e]
    exact ⟨h4, h2, h3, nl⟩
theorem k_j166 {σ0 σ : sm_S} {T : Nat → Nat → Nat} {b : Nat → Nat} {D : Nat → Int64} {tp m pc ht nx l : Nat} {K : jk} (hw : wf T b) (h : WK σ0 σ T b D tp m pc ht nx l) (hj : 19 ≤ b (T 17 m + pc) ∧ b (T 17 m + pc) ≤ 25) (h2 : jpl b (T 17 m + pc) + 1 < T 0 4) {x : Int32} (hx : x = 0 ∨ x = 1) (h1 : x = 1 → ∀ σ', WK σ0 σ' T b D tp m pc ht (pr b (jpl b (T 17 m + pc))) l → K (-1) σ') (h0 : x = 0 → K (-1) σ) : mp_X7_jump_166 K σ x := by
  have t := h.t12 hw
  have h24 := h.2.2.2.1
  have h25 := h.2.2.2.2.1
  have hm := h.2.2.2.2.2.2.2.2.1
  have hpc := h.2.2.2.2.2.2.2.2.2.1
  have hi := h.2.1
  have hLX := hi.2.1
  have r26 := (hi.2.2.2.2.2.2.2.2 m hm).2.2.2.2.2.2.1
  have pl := pr_lt hi.1.2.2.2.2.1 (jpl b (T 17 m + pc))
  unfold mp_X7_jump_166 mp_X7_jump_205
  rcases hx with e | e
  · exact ⟨fun _ => h0 e, fun q => absurd e q⟩
  · refine ⟨fun q => absurd (q.symm.trans e) (by decide), fun _ => ?_⟩
    rw [h24, nI_clamp (by omega), r26, h25, nI_add]
    refine ⟨by rw [lx26 hLX]; exact vp_in_nI (by omega) (by decide), ?_⟩
    refine w_jp hi hw hm ⟨by omega, hpc⟩ (fun _ => ?_) (fun q => absurd hj q)
    refine w_pairP hi.1 h2 ?_
    intro s es
    rw [es]
    exact h1 e _ (h.n1 (by omega))
theorem x_jp {σ0 σ : sm_S} {T : Nat → Nat → Nat} {b : Nat → Nat} {hf B F S R : Nat} {C0 : Nat → Int64} {s0 : List Nat} {ml : List (Nat × Nat)} {nb : List Nat} {z lv y' : Nat → Nat} {al : Nat → Nat} {C : Nat → Int64} {tp m pc ht nx l : Nat} {vs : Nat → AV} {K : jk} (hw : wf T b) (g : GI hf B F S R C C0 s0 ml nb z lv y') (h : WK σ0 σ T b C tp m pc ht nx l) (hj : 19 ≤ b (T 17 m + pc) ∧ b (T 17 m + pc) ≤ 25) (h2 : jpl b (T 17 m + pc) + 1 < T 0 4) (ho : opT T b (T 15 m) (T 17 m + pc)) (ht0 : tv hf B s0 ml nb al C tp C (T 15 m + ht) vs) (hl : l + 4 < 2 ^ 19) (jc : Prop)
    (q19 : b (T 17 m + pc) = 19 → 1 ≤ ht ∧ ∃ y, vs (T 15 m + ht - 1) = .inl y ∧ (jc ↔ qst (b (T 17 m + pc + 1)) y 0))
    (q20 : b (T 17 m + pc) = 20 → 2 ≤ ht ∧ ∃ x y, vs (T 15 m + ht - 1) = .inl y ∧ vs (T 15 m + ht - 2) = .inl x ∧ (jc ↔ qst (b (T 17 m + pc + 1)) x y))
    (q21 : b (T 17 m + pc) = 21 → 1 ≤ ht ∧ ∃ k, vs (T 15 m + ht - 1) = .inr k ∧ (jc ↔ k = 0))
    (q22 : b (T 17 m + pc) = 22 → 1 ≤ ht ∧ ∃ k, vs (T 15 m + ht - 1) = .inr k ∧ (jc ↔ k ≠ 0))
    (q23 : b (T 17 m + pc) = 23 → 2 ≤ ht ∧ ∃ k j, vs (T 15 m + ht - 1) = .inr k ∧ vs (T 15 m + ht - 2) = .inr j ∧ (jc ↔ k = j) ∧ (k ≠ 0 → j ≠ 0 → al (k - 1) = al (j - 1) → k = j))
    (q24 : b (T 17 m + pc) = 24 → 2 ≤ ht ∧ ∃ k j, vs (T 15 m + ht - 1) = .inr k ∧ vs (T 15 m + ht - 2) = .inr j ∧ (jc ↔ k ≠ j) ∧ (k ≠ 0 → j ≠ 0 → al (k - 1) = al (j - 1) → k = j))
    (q25 : b (T 17 m + pc) = 25 → jc)
    (hK : ∀ σ' ht' l', (b (T 17 m + pc) = 19 ∨ b (T 17 m + pc) = 21 ∨ b (T 17 m + pc) = 22 → ht' = ht - 1) → (b (T 17 m + pc) = 20 ∨ b (T 17 m + pc) = 23 ∨ b (T 17 m + pc) = 24 → ht' = ht - 2) → (b (T 17 m + pc) = 25 → ht' = ht) → l' ≤ l + 2 → (jc ∧ WK σ0 σ' T b C tp m pc ht' (pr b (jpl b (T 17 m + pc))) l' ∨ ¬ jc ∧ WK σ0 σ' T b C tp m pc ht' nx l') → K (-1) σ') : mp_X7_jump σ (nI (b (T 17 m + pc))) K := by
  have t := h.t12 hw
  have hpc := h.2.2.2.2.2.2.2.2.2.1
  have hht := h.2.2.2.2.2.2.2.2.2.2.1
  have hm := h.2.2.2.2.2.2.2.2.1
  have y := hw.2.2.2.2.2.2.2.2.1 m hm
  have y11 := y.2.2.2.2.2.2.2.2.2.2.1
  have y12 := y.2.2.2.2.2.2.2.2.2.2.2.1
  clear y
  -- the end of it
  have fin : ∀ (σ1 : sm_S) (ht' l' : Nat) (x : Int32), WK σ0 σ1 T b C tp m pc ht' nx l' → (b (T 17 m + pc) = 19 ∨ b (T 17 m + pc) = 21 ∨ b (T 17 m + pc) = 22 → ht' = ht - 1) → (b (T 17 m + pc) = 20 ∨ b (T 17 m + pc) = 23 ∨ b (T 17 m + pc) = 24 → ht' = ht - 2) → (b (T 17 m + pc) = 25 → ht' = ht) → l' ≤ l + 2 → ((jc ∧ x = 1) ∨ (¬ jc ∧ x = 0)) → mp_X7_jump_166 K σ1 x := fun σ1 ht' l' x w c1 c2 c3 c4 c5 => by
    refine k_j166 hw w hj h2 (c5.elim (fun q => Or.inr q.2) (fun q => Or.inl q.2)) (fun e σ' w' => hK σ' ht' l' c1 c2 c3 c4 (Or.inl ⟨?_, w'⟩)) (fun e => hK σ1 ht' l' c1 c2 c3 c4 (Or.inr ⟨?_, w⟩))
    · rcases c5 with q | q
      · exact q.1
      · exact absurd (q.2.symm.trans e) (by decide)
    · rcases c5 with q | q
      · exact absurd (q.2.symm.trans e) (by decide)
      · exact q.1
  have cell : ∀ i, i < T 15 m + ht → vcl s0 ml nb al (vs i) (C (tp + 4 + i)) ∧ gcl hf B (C (tp + 4 + i)) := fun i hi => ⟨ht0.2.2 i hi, ht0.2.1 i (by omega)⟩
  have nil_iff : ∀ k i, i < T 15 m + ht → vs i = .inr k → (lg_cmp (C (tp + 4 + i)) 4294967296 = 0 ↔ k = 0) := fun k i hi hv => by
    obtain ⟨v, gc⟩ := cell i hi
    rw [hv] at v
    rw [lg0, mk_nil]
    cases k with
    | zero =>
      rcases v with ⟨x, h1, -⟩ | ⟨-, h1⟩ | ⟨k', w, h1, -⟩
      · cases h1
      · exact ⟨fun _ => rfl, fun _ => h1⟩
      · cases h1
    | succ k =>
      obtain ⟨e, e0, e1, -⟩ := vcl_can g gc v
      rw [e]
      exact ⟨fun q => absurd (mk1_i e1 (by decide) q) e0, fun q => by omega⟩
  have eq_iff : ∀ k j i i', i < T 15 m + ht → i' < T 15 m + ht → vs i = .inr k → vs i' = .inr j → (k ≠ 0 → j ≠ 0 → al (k - 1) = al (j - 1) → k = j) → (lg_cmp (C (tp + 4 + i)) (C (tp + 4 + i')) = 0 ↔ k = j) := fun k j i i' hi hi' hv hv' hinj => by
    obtain ⟨v, gc⟩ := cell i hi
    obtain ⟨v', gc'⟩ := cell i' hi'
    rw [hv] at v
    rw [hv'] at v'
    rw [lg0]
    have zero : ∀ c, vcl s0 ml nb al (.inr 0) c → c = mkc 1 (nI 0) := fun c hc => by
      rcases hc with ⟨x, h1, -⟩ | ⟨-, h1⟩ | ⟨k', w, h1, -⟩
      · cases h1
      · exact h1
      · cases h1
    cases k with
    | zero =>
      cases j with
      | zero => exact ⟨fun _ => rfl, fun _ => by rw [zero _ v, zero _ v']⟩
      | succ j =>
        obtain ⟨e, e0, e1, -⟩ := vcl_can g gc' v'
        rw [zero _ v, e]
        exact ⟨fun q => absurd (mk1_i (by decide) e1 q).symm e0, fun q => by omega⟩
    | succ k =>
      cases j with
      | zero =>
        obtain ⟨e, e0, e1, -⟩ := vcl_can g gc v
        rw [zero _ v', e]
        exact ⟨fun q => absurd (mk1_i e1 (by decide) q) e0, fun q => by omega⟩
      | succ j =>
        obtain ⟨e, e0, e1, -⟩ := vcl_can g gc v
        obtain ⟨e', e0', e1', -⟩ := vcl_can g gc' v'
        rw [e, e']
        exact ⟨fun q => hinj (by omega) (by omega) (mk1_i e1 e1' q), fun q => by
          have : k = j := by omega
          rw [this]⟩
  generalize hpe : T 17 m + pc = p at *
  have hq5 : (b p = 19 ∨ b p = 20) → b (p + 1) ≤ 5 := ho.2.2.1
  unfold mp_X7_jump mp_X7_jump_98 mp_X7_jump_118 mp_X7_jump_139 mp_X7_jump_160
  by_cases o19 : b p = 19
  · obtain ⟨c1, yv, c2, c3⟩ := q19 o19
    rw [o19]
    refine ⟨fun _ => ?_, fun q => absurd q (by decide), fun q => absurd q (by decide), fun q => absurd q (by decide), fun q => absurd q (by decide), fun q => absurd q (by decide), fun q => absurd rfl q⟩
    refine k_oper (i := 1) hw h (by decide) (by omega) ?_
    refine k_pop hw h c1 (by omega) (fun σ1 w1 => ?_)
    have cy := (cell (T 15 m + ht - 1) (by omega)).1
    rw [c2, show tp + 4 + (T 15 m + ht - 1) = tp + 4 + T 15 m + (ht - 1) by omega] at cy
    rw [cy.nu, mk_lo (by decide), hpe]
    refine w_holds (hq5 (Or.inl o19)) (fun q => ?_) (fun q => ?_)
    · exact fin σ1 (ht - 1) (l + 1) 1 w1 (fun _ => rfl) (fun q => by omega) (fun q => by omega) (by omega) (Or.inl ⟨c3.mpr q, rfl⟩)
    · exact fin σ1 (ht - 1) (l + 1) 0 w1 (fun _ => rfl) (fun q => by omega) (fun q => by omega) (by omega) (Or.inr ⟨fun r => q (c3.mp r), rfl⟩)
  by_cases o20 : b p = 20
  · obtain ⟨c1, xv, yv, c2, c2', c3⟩ := q20 o20
    rw [o20]
    refine ⟨fun q => absurd q (by decide), fun _ => ?_, fun q => absurd q (by decide), fun q => absurd q (by decide), fun q => absurd q (by decide), fun q => absurd q (by decide), fun _ q => absurd rfl q⟩
    refine k_pop hw h (by omega) (by omega) (fun σ1 w1 => ?_)
    refine k_oper (i := 1) hw w1 (by decide) (by omega) ?_
    refine k_pop hw w1 (by omega) (by omega) (fun σ2 w2 => ?_)
    have cy := (cell (T 15 m + ht - 1) (by omega)).1
    rw [c2, show tp + 4 + (T 15 m + ht - 1) = tp + 4 + T 15 m + (ht - 1) by omega] at cy
    have cx := (cell (T 15 m + ht - 2) (by omega)).1
    rw [c2', show tp + 4 + (T 15 m + ht - 2) = tp + 4 + T 15 m + (ht - 1 - 1) by omega] at cx
    rw [cy.nu, cx.nu, mk_lo (by decide), mk_lo (by decide), hpe]
    rw [show ht - 1 - 1 = ht - 2 by omega] at w2
    refine w_holds (hq5 (Or.inr o20)) (fun q => ?_) (fun q => ?_)
    · exact fin σ2 (ht - 2) (l + 1 + 1) 1 w2 (fun q => by omega) (fun _ => rfl) (fun q => by omega) (by omega) (Or.inl ⟨c3.mpr q, rfl⟩)
    · exact fin σ2 (ht - 2) (l + 1 + 1) 0 w2 (fun q => by omega) (fun _ => rfl) (fun q => by omega) (by omega) (Or.inr ⟨fun r => q (c3.mp r), rfl⟩)
  by_cases o21 : b p = 21
  · obtain ⟨c1, k, c2, c3⟩ := q21 o21
    rw [o21]
    refine ⟨fun q => absurd q (by decide), fun q => absurd q (by decide), fun _ => ?_, fun q => absurd q (by decide), fun q => absurd q (by decide), fun q => absurd q (by decide), fun _ _ q => absurd rfl q⟩
    refine k_pop hw h c1 (by omega) (fun σ1 w1 => ?_)
    have ni := nil_iff k (T 15 m + ht - 1) (by omega) c2
    rw [show tp + 4 + (T 15 m + ht - 1) = tp + 4 + T 15 m + (ht - 1) by omega] at ni
    refine ⟨fun q => ?_, fun q => ?_⟩
    · exact fin σ1 (ht - 1) (l + 1) 0 w1 (fun _ => rfl) (fun q => by omega) (fun q => by omega) (by omega) (Or.inr ⟨fun r => q (ni.mpr (c3.mp r)), rfl⟩)
    · exact fin σ1 (ht - 1) (l + 1) 1 w1 (fun _ => rfl) (fun q => by omega) (fun q => by omega) (by omega) (Or.inl ⟨c3.mpr (ni.mp q), rfl⟩)
  by_cases o22 : b p = 22
  · obtain ⟨c1, k, c2, c3⟩ := q22 o22
    rw [o22]
    refine ⟨fun q => absurd q (by decide), fun q => absurd q (by decide), fun q => absurd q (by decide), fun _ => ?_, fun q => absurd q (by decide), fun q => absurd q (by decide), fun _ _ _ q => absurd rfl q⟩
    refine k_pop hw h c1 (by omega) (fun σ1 w1 => ?_)
    have ni := nil_iff k (T 15 m + ht - 1) (by omega) c2
    rw [show tp + 4 + (T 15 m + ht - 1) = tp + 4 + T 15 m + (ht - 1) by omega] at ni
    refine ⟨fun q => ?_, fun q => ?_⟩
    · exact fin σ1 (ht - 1) (l + 1) 0 w1 (fun _ => rfl) (fun q => by omega) (fun q => by omega) (by omega) (Or.inr ⟨fun r => (c3.mp r) (ni.mp q), rfl⟩)
    · exact fin σ1 (ht - 1) (l + 1) 1 w1 (fun _ => rfl) (fun q => by omega) (fun q => by omega) (by omega) (Or.inl ⟨c3.mpr (fun r => q (ni.mpr r)), rfl⟩)
  by_cases o23 : b p = 23
  · obtain ⟨c1, k, j, c2, c2', c3, c4⟩ := q23 o23
    rw [o23]
    refine ⟨fun q => absurd q (by decide), fun q => absurd q (by decide), fun q => absurd q (by decide), fun q => absurd q (by decide), fun _ => ?_, fun q => absurd q (by decide), fun _ _ _ _ q => absurd rfl q⟩
    refine k_pop hw h (by omega) (by omega) (fun σ1 w1 => ?_)
    refine k_pop hw w1 (by omega) (by omega) (fun σ2 w2 => ?_)
    have ei := eq_iff k j (T 15 m + ht - 1) (T 15 m + ht - 2) (by omega) (by omega) c2 c2' c4
    rw [show tp + 4 + (T 15 m + ht - 1) = tp + 4 + T 15 m + (ht - 1) by omega, show tp + 4 + (T 15 m + ht - 2) = tp + 4 + T 15 m + (ht - 1 - 1) by omega] at ei
    refine ⟨fun q => ?_, fun q => ?_⟩
    · exact fin σ2 (ht - 1 - 1) (l + 1 + 1) 0 w2 (fun q => by omega) (fun _ => by omega) (fun q => by omega) (by omega) (Or.inr ⟨fun r => q (ei.mpr (c3.mp r)), rfl⟩)
    · exact fin σ2 (ht - 1 - 1) (l + 1 + 1) 1 w2 (fun q => by omega) (fun _ => by omega) (fun q => by omega) (by omega) (Or.inl ⟨c3.mpr (ei.mp q), rfl⟩)
  by_cases o24 : b p = 24
  · obtain ⟨c1, k, j, c2, c2', c3, c4⟩ := q24 o24
    rw [o24]
    refine ⟨fun q => absurd q (by decide), fun q => absurd q (by decide), fun q => absurd q (by decide), fun q => absurd q (by decide), fun q => absurd q (by decide), fun _ => ?_, fun _ _ _ _ _ q => absurd rfl q⟩
    refine k_pop hw h (by omega) (by omega) (fun σ1 w1 => ?_)
    refine k_pop hw w1 (by omega) (by omega) (fun σ2 w2 => ?_)
    have ei := eq_iff k j (T 15 m + ht - 1) (T 15 m + ht - 2) (by omega) (by omega) c2 c2' c4
    rw [show tp + 4 + (T 15 m + ht - 1) = tp + 4 + T 15 m + (ht - 1) by omega, show tp + 4 + (T 15 m + ht - 2) = tp + 4 + T 15 m + (ht - 1 - 1) by omega] at ei
    refine ⟨fun q => ?_, fun q => ?_⟩
    · exact fin σ2 (ht - 1 - 1) (l + 1 + 1) 0 w2 (fun q => by omega) (fun _ => by omega) (fun q => by omega) (by omega) (Or.inr ⟨fun r => (c3.mp r) (ei.mp q), rfl⟩)
    · exact fin σ2 (ht - 1 - 1) (l + 1 + 1) 1 w2 (fun q => by omega) (fun _ => by omega) (fun q => by omega) (by omega) (Or.inl ⟨c3.mpr (fun r => q (ei.mpr r)), rfl⟩)
  · have o25 : b p = 25 := by omega
    rw [o25]
    refine ⟨fun q => absurd q (by decide), fun q => absurd q (by decide), fun q => absurd q (by decide), fun q => absurd q (by decide), fun q => absurd q (by decide), fun q => absurd q (by decide), fun _ _ _ _ _ _ => ?_⟩
    exact fin σ ht l 1 h (fun q => by omega) (fun q => by omega) (fun _ => rfl) (by omega) (Or.inl ⟨q25 o25, rfl⟩)
