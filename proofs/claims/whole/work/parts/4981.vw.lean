/-! ===== looking at a run: the class ===== -/
section
variable {σ : sm_S} {T : Nat → Nat → Nat} {b : Nat → Nat} {h k lim md cy rch n : Nat} {L : Nat → Prop} {N : Nat → AN} {fs : List AF} {fl st B F S R : Nat} {C C0 : Nat → Int64} {s0 : List Nat} {ml : List (Nat × Nat)} {nb : List Nat} {z lv y al : Nat → Nat} {fas : List Nat}
theorem l_peek0 {K : Int64 → sm_S → Prop} (hK : K 0 σ) : mp_X1_peek σ (nI 0) K := by
  unfold mp_X1_peek mp_X1_peek_22 mp_X1_peek_23
  exact ⟨fun _ => hK, fun q => absurd (by decide) q⟩
theorem okx_k {c : Int64} (hc : okx c) : ¬ (c >>> s32).toInt32 = 6 := by
  rcases hc with ⟨x, -, e⟩ | ⟨k, v, k1, k2, e⟩
  · rw [e, mk_kd (by decide)]; decide
  · rw [e, mk_kd (by omega)]
    exact fun q => absurd ((nI_eq (b := 6) (by omega) (by omega)).mp q) (by omega)
theorem RXg.pk {a : Nat} {K : Int64 → sm_S → Prop} (x : RXg σ T b h k lim md cy rch L N fs fl B F S R R C C0 s0 ml nb z lv y al fas) (h1 : 1 ≤ a) (h2 : a ≤ 2 * (2 * h + 64)) (hK : K (C a) σ) : mp_X1_peek σ (nI a) K := by
  have l1 := x.1.2.2.2.2.2.2.1
  have l2 := x.1.2.2.2.2.2.2.2.1
  have e := x.1.2.2.2.2.2.2.2.2.1
  refine l_peek h1 (by omega) (by omega) ?_
  rw [e]; exact hK
/-- where live blocks lie -/
theorem RXg.lb {a s : Nat} (x : RXg σ T b h k lim md cy rch L N fs fl B F S R R C C0 s0 ml nb z lv y al fas) (hl : lbs s0 ml nb z y a s) : 1 ≤ a ∧ a + s ≤ 2 * (2 * h + 64) + 1 := by
  have g := x.1.2.2.2.2.2.2.2.2.2.1
  have ob := g.ob
  have lf := lan_in nb R g.2.2.1
  have lm := lay_in ml F g.2.1
  have l1 := lbs_1 g hl
  have gF := g.2.2.2.1
  rcases hl.in g with q | q | q
  · omega
  · omega
  · omega
/-- where a cell leads -/
theorem k_tgt {w u : Nat} {K : jk} (x : RXg σ T b h k lim md cy rch L N fs fl B F S R R C C0 s0 ml nb z lv y al fas) (w0 : w ≠ 0) (hw : w < 2 ^ 30) (hc : cano s0 ml nb w u) (hK : K (nI u) σ) : mp_X9_target σ (mkc 1 (nI w)) K := by
  have g := x.1.2.2.2.2.2.2.2.2.2.1
  have ob := g.ob
  have lf := lan_in nb R g.2.2.1
  have lm := lay_in ml F g.2.1
  have gF := g.2.2.2.1
  unfold mp_X9_target mp_X9_target_30
  rw [mk_lo (by decide)]
  have g6 := g.2.2.2.2.2.1
  have g7 := g.2.2.2.2.2.2.1
  have gs := g.2.2.2.2.2.2.2.2.2.1
  have gq := g.2.2.2.2.2.2.2.2.2.2.2.2.1
  have gc := g.2.2.2.2.2.2.2.2.2.2.2.2.2.1
  have gm := g.2.2.2.2.2.2.2.2.2.2.2.2.2.2.1
  have go := g.2.2.2.2.2.2.2.2.2.2.2.2.2.2.2.1
  have gM := g.2.2.2.2.2.2.2.2.2.2.2.2.2.2.2.2.1
  have gN := g.2.2.2.2.2.2.2.2.2.2.2.2.2.2.2.2.2.1
  have st : ∀ a, a ∈ s0 → 1 ≤ a ∧ a ≤ 2 * (2 * h + 64) := fun a ha => by
    have := gs a ha
    have := (g6 a).1
    omega
  rcases hc with hm | ⟨e, hc⟩
  · have ws := gq _ hm
    obtain ⟨s1, s2⟩ := st w ws
    refine x.pk s1 s2 ?_
    rw [gm _ hm]
    unfold mp_X1_kind
    rw [mk_kd (by decide), mk_lo (by decide)]
    exact ⟨fun q => absurd rfl q, fun _ => hK⟩
  · subst e
    have fin : okx (C w) → 1 ≤ w → w ≤ 2 * (2 * h + 64) → mp_X1_peek σ (nI w) (fun r2 σ1 => mp_X1_kind σ1 r2 (fun r4 σ3 => ((¬ r4 = 6 → (K (nI w) σ3)) ∧ (r4 = 6 → (K r2.toInt32 σ3))))) := fun ok w1 w2 => by
      refine x.pk w1 w2 ?_
      unfold mp_X1_kind
      exact ⟨fun _ => hK, fun q => absurd q (okx_k ok)⟩
    rcases hc with ⟨ws, nm⟩ | ⟨q, hq, e⟩ | hn
    · obtain ⟨s1, s2⟩ := st w ws
      have zp := (g6 w).1
      have e1 := gc w ws nm 0 (by omega)
      have e2 := go w 0 ws (by omega)
      rw [Nat.add_zero] at e1 e2
      exact fin (by rw [e1]; exact e2) s1 s2
    · have zp := (g6 q.1).1
      have e1 := (gM q 0 hq (by omega)).1
      rw [Nat.add_zero, e] at e1
      have := lm.2 q hq
      exact fin e1 (by omega) (by omega)
    · have yp := (g7 w).1
      have e1 := (gN w 0 hn (by omega)).1
      rw [Nat.add_zero] at e1
      have := lf.2 w hn
      exact fin e1 (by omega) (by omega)
theorem k_tg0 {K : jk} (hK : K (nI 0) σ) : mp_X9_target σ (mkc 1 (nI 0)) K := by
  unfold mp_X9_target mp_X9_target_30 mp_X1_kind
  rw [mk_lo (by decide)]
  refine l_peek0 ?_
  rw [mk_0, mk_kd (by decide)]
  exact ⟨fun _ => hK, fun q => absurd q (by decide)⟩
theorem l_frA {K : jk} {f : Nat} (x : RXg σ T b h k lim md cy rch L N fs fl B F S R R C C0 s0 ml nb z lv y al fas) (hf : f < 2 ^ 31) : ∀ (gs : List AF) (gas : List Nat) (i : Nat), fra T C s0 ml nb al gs gas → (∀ a, a ∈ gas → lbs s0 ml nb z y a 16) → i ≤ f → K (nI ((gas.drop (f - i)).headD 0)) σ → mp_X9_frameAt_18 K (gas.length + 1) σ (nI f) (nI (gas.headD 0)) (nI i) := by
  intro gs
  induction gs with
  | nil =>
    intro gas i hr hl hi hK
    have e : gas = [] := hr
    subst e
    rw [List.drop_nil] at hK
    unfold mp_X9_frameAt_18 mp_X9_frameAt_48
    exact ⟨fun _ => hK, fun _ => ⟨fun _ => hK, fun q => absurd rfl q⟩⟩
  | cons f0 r ih =>
    intro gas i hr hl hi hK
    obtain ⟨a, t, e, hc, hr'⟩ := hr
    subst e
    obtain ⟨a1, a2⟩ := x.lb (hl a List.mem_cons_self)
    have hh := x.1.2.2.2.2.2.2.1
    have hh2 := x.1.2.2.2.2.2.2.2.1
    unfold mp_X9_frameAt_18 mp_X9_frameAt_48
    refine ⟨fun q => ?_, fun q => ⟨fun q2 => absurd q2 (nI_ne0 (by show 1 ≤ a; omega) (by show a < _; omega)), fun _ => ?_⟩⟩
    · have := (nI_leI hf (by omega)).mp q
      rw [show f - i = 0 by omega, List.drop_zero] at hK
      exact hK
    · have lt : ¬ f ≤ i := fun p => q (nI_le p (by omega))
      obtain ⟨w, w1, w2, w3⟩ := hc.2.2.2.2.2.2.1
      show mp_X1_peek σ (nI a + 3) _
      rw [l_3, nI_add]
      refine x.pk (by omega) (by omega) ?_
      rw [w2]
      have go : mp_X9_frameAt_18 K (t.length + 1) σ (nI f) (nI (t.headD 0)) (nI (i + 1)) := ih t (i + 1) hr' (fun a' h' => hl a' (List.mem_cons_of_mem _ h')) (by omega) (by
        rw [show f - i = (f - (i + 1)) + 1 by omega, List.drop_succ_cons] at hK
        exact hK)
      rcases w3 with ⟨c0, e0⟩ | ⟨c0, e0, cn⟩
      · rw [e0]
        refine k_tg0 ?_
        intro v7 e7
        rw [e7, nI_1]
        rw [c0] at go
        exact go
      · refine k_tgt x e0 w1 cn ?_
        intro v7 e7
        rw [e7, nI_1]
        exact go
theorem k_frA {K : jk} {p : Int32} (x : RXg σ T b h k lim md cy rch L N fs fl B F S R R C C0 s0 ml nb z lv y al fas) (h0 : p < 0 → K (nI 0) σ) (h1 : ∀ f, f < 2 ^ 31 → p = nI f → K (nI ((fas.drop f).headD 0)) σ) : mp_X9_frameAt σ p K := by
  unfold mp_X9_frameAt mp_X9_frameAt_15
  refine ⟨fun q => ?_, fun q => ?_⟩
  · have nn : ¬ p < 0 := fun z => by
      have a1 := Int32.le_iff_toInt_le.mp q
      have a2 := Int32.lt_iff_toInt_lt.mp z
      omega
    obtain ⟨f, f1, f2⟩ := nI_of nn
    rw [f2, x.2.2.1.2.2.2.2]
    exact ⟨fas.length + 1, l_frA x f1 fs fas 0 x.2.1.2.2.2.2.2.1 x.2.1.2.2.1 (Nat.zero_le _) (h1 f f1 f2)⟩
  · have nn : p < 0 := by
      rw [Int32.lt_iff_toInt_lt]
      have : ¬ (0 : Int32).toInt ≤ p.toInt := fun z => q (Int32.le_iff_toInt_le.mpr z)
      omega
    refine ⟨1, ?_⟩
    unfold mp_X9_frameAt_18 mp_X9_frameAt_48
    exact ⟨fun _ => h0 nn, fun _ => ⟨fun _ => h0 nn, fun q => absurd rfl q⟩⟩
theorem fra_drop : ∀ (f : Nat) (gs : List AF) (gas : List Nat), fra T C s0 ml nb al gs gas → fra T C s0 ml nb al (gs.drop f) (gas.drop f) := by
  intro f
  induction f with
  | zero => intro gs gas hr; exact hr
  | succ f ih =>
    intro gs gas hr
    cases gs with
    | nil => have e : gas = [] := hr; subst e; exact rfl
    | cons g r =>
      obtain ⟨a, t, e, -, hr'⟩ := hr
      subst e
      exact ih r t hr'
/-- frame number f, where it lies -/
theorem RXg.fa {f : Nat} (x : RXg σ T b h k lim md cy rch L N fs fl B F S R R C C0 s0 ml nb z lv y al fas) : (fs.drop f = [] ∧ (fas.drop f).headD 0 = 0) ∨ ∃ g r a ca, fs.drop f = g :: r ∧ (fas.drop f).headD 0 = a ∧ frc T C s0 ml nb al g a ca ∧ 1 ≤ a ∧ a + 16 ≤ 2 * (2 * h + 64) + 1 ∧ g ∈ fs := by
  have hr := fra_drop f fs fas x.2.1.2.2.2.2.2.1
  cases e : fs.drop f with
  | nil =>
    rw [e] at hr
    have e2 : fas.drop f = [] := hr
    exact Or.inl ⟨rfl, by rw [e2]; rfl⟩
  | cons g r =>
    rw [e] at hr
    obtain ⟨a, t, e2, hc, -⟩ := hr
    have ma : a ∈ fas := List.mem_of_mem_drop (by rw [e2]; exact List.mem_cons_self)
    have mg : g ∈ fs := List.mem_of_mem_drop (by rw [e]; exact List.mem_cons_self)
    obtain ⟨a1, a2⟩ := x.lb (x.2.1.2.2.1 a ma)
    exact Or.inr ⟨g, r, a, t.headD 0, rfl, by rw [e2]; rfl, hc, a1, a2, mg⟩
/-- what a frame is asked -/
theorem k_ofF {K : jk} {a ca : Nat} {g : AF} {p : Int32} (hw : wf T b) (x : RXg σ T b h k lim md cy rch L N fs fl B F S R R C C0 s0 ml nb z lv y al fas) (hc : frc T C s0 ml nb al g a ca) (a1 : 1 ≤ a) (a2 : a + 16 ≤ 2 * (2 * h + 64) + 1) (h0 : p = 0 → K (nI g.1) σ) (h1 : p = 1 → K (nI g.2.1) σ) (h2 : p = 2 → K (nI g.2.2.1) σ) (h3 : p = 3 → K (nI (T 15 g.1)) σ) (h4 : ¬ p = 0 → ¬ p = 1 → ¬ p = 2 → ¬ p = 3 → K (-1) σ) : mp_X9_ofFrame σ (nI a) p K := by
  obtain ⟨c1, c2, c3, c4, c5, c6, -, -⟩ := hc
  have w64 := hw.2.2.2.1
  have im := x.1.1
  unfold mp_X9_ofFrame
  refine x.pk a1 (by omega) ?_
  rw [c4, mk_lo (by decide)]
  refine ⟨h0, fun q => ?_, fun q => ?_, fun q => ?_, h4⟩
  · rw [nI_1]
    refine x.pk (by omega) (by omega) ?_
    rw [c5, mk_lo (by decide)]
    exact h1 q
  · rw [l_2, nI_add]
    refine x.pk (by omega) (by omega) ?_
    rw [c6, mk_lo (by decide)]
    exact h2 q
  · have r24 := (im.2.2.2.2.2.2.2.2 g.1 c1).2.2.2.2.1
    rw [nI_clamp (by omega), r24]
    exact ⟨by rw [show σ.2.2.1 24 = 64 from lx24 im.2.1]; exact vp_in_nI (by omega) (by decide), h3 q⟩
end
