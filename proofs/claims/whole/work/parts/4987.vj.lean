/-! ===== value and same, both sides ===== -/
section
variable {σ μ : sm_S} {T : Nat → Nat → Nat} {b : Nat → Nat} {H Y : Nat → Nat → Nat} {h k lim md cy rch n sb : Nat} {L : Nat → Prop} {N : Nat → AN} {fs : List AF} {fl st B F S R : Nat} {C C0 : Nat → Int64} {s0 : List Nat} {ml : List (Nat × Nat)} {nb : List Nat} {z lv y al : Nat → Nat} {fas : List Nat} {th nd bg : Nat → Nat} {nt us s : Nat}
/-- what is asked is none of 0 to 2 -/
theorem m_vbad {K : Int64 → sm_S → Prop} {p q e : Int32} {t : Int64} (hw : wf T b) (y : RMg μ T b k lim md cy rch n N fs fl st th nd bg nt us s) (s0 : st ≠ 0) (s4 : st ≤ 4) (he : e < 0 ∨ ¬ e ≤ 2) (hK : K (-1) μ) : mp_X12_value_ μ p q t e K := by
  have b58 : ∀ x6 x7 : Int32, mp_X12_value__58 K μ t e x6 x7 := fun x6 x7 => by
    unfold mp_X12_value__58 mp_X12_value__69
    refine ⟨fun _ => hK, fun z => ⟨fun z2 => ?_, fun _ => hK⟩⟩
    rcases he with c | c
    · exact absurd c z
    · exact absurd z2 c
  have b45 : ∀ x6 y0 : Int32, mp_X12_value__45 K μ t e x6 y0 := fun x6 y0 => by
    unfold mp_X12_value__45 mp_X12_value__69
    exact ⟨fun _ => b58 _ _, fun _ => ⟨fun _ => hK, fun _ => b58 _ _⟩⟩
  have b28 : ∀ y0 : Int32, mp_X12_value__28 K μ p q t e y0 := fun y0 => by
    unfold mp_X12_value__28
    refine ⟨fun _ => m_pov hw y s0 s4 (fun _ => b45 _ _) (fun _ _ _ _ _ _ _ => b45 _ _), fun _ => b45 _ _⟩
  unfold mp_X12_value_ mp_X12_value__27
  exact ⟨fun _ => b28 _, fun _ => ⟨fun _ => b28 _, fun _ => ⟨fun _ => b28 _, fun _ => ⟨fun _ => b28 _, fun _ => b28 _⟩⟩⟩⟩
/-- a place of a frame is asked -/
theorem m_v27 {K : Int64 → sm_S → Prop} {p q : Int32} {t : Int64} {w : Nat} {o : Option AV} {sv : Option AV} (hw : wf T b) (W : WT T b H Y n N fs fl st) (y : RMg μ T b k lim md cy rch n N fs fl st th nd bg nt us s) (s0 : st ≠ 0) (s4 : st ≤ 4) (hs : (sv = none ∧ ¬ ∃ v, hit T fs p q v) ∨ ∃ v, sv = some v ∧ hit T fs p q v) (hk : wk T N 6 (xp t) sv o) (h2 : w ≤ 2) (hK : ∀ μ', RMg μ' T b k lim md cy rch n N fs fl st th nd bg nt us s → rsV μ μ' → K (ans T N w o) μ') : mp_X12_value__27 K μ p q t (nI w) := by
  have ln := y.1.2.1
  unfold mp_X12_value__27 mp_X12_value__28 mp_X12_value__45 mp_X12_value__69 mp_X12_value__58 mp_X12_value__92 mp_X12_value__109 mp_X12_value__69
  refine ⟨fun _ => ?_, fun z => absurd rfl z⟩
  refine m_pov hw y s0 s4 (fun nh => ⟨fun z => absurd rfl z, fun _ => ⟨fun _ => ?_, fun z => absurd rfl z⟩⟩) (fun v c hv hc c36 c37 hin => ⟨fun z => absurd rfl z, fun _ => ⟨fun z => absurd z (nI_m1 (by omega)), fun _ => ?_⟩⟩)
  · rcases hs with ⟨e, -⟩ | ⟨v, -, hv⟩
    · subst e
      have := wk_none _ _ _ hk
      subst this
      exact hK μ y rsV_r
    · exact absurd ⟨v, hv⟩ nh
  · rcases hs with ⟨-, nh⟩ | ⟨v', e, hv'⟩
    · exact absurd ⟨v, hv⟩ nh
    · have := hit_1 hv hv'
      subst this
      subst e
      have go := m_v114 (K := K) hw W.1 y hk (hv.ok W) hin h2 hK
      rw [nI_clamp (by omega), c36, c37]
      refine ⟨fun z => absurd z (nI_neg (by omega)), fun _ => ⟨fun _ => ⟨fun _ => ⟨by rw [lr36 ln]; exact vp_in_nI hc (by decide), fun z => absurd rfl z, fun _ => ⟨by rw [lr37 ln]; exact vp_in_nI hc (by decide), fun z => ?_, fun z => ?_⟩⟩, fun z => absurd rfl z⟩, fun z => absurd (nI_le (b := 2) h2 (by decide)) z⟩⟩
      · rw [z] at go; exact go
      · cases v with
        | inl x => exact absurd rfl z
        | inr q' => exact go
theorem j_value {KK : Int64 → sm_S → Int64 → sm_S → Prop} (p q : Int32) (t : Int64) (e : Int32) (hw : wf T b) (W : WT T b H Y n N fs fl st) (X : XH σ T b h k lim md cy rch n N fs fl st) (M : MH μ T b k lim md cy rch n N fs fl st sb) (s0 : st ≠ 0) (s4 : st ≤ 4) (hK : ∀ r μ', MH μ' T b k lim md cy rch n N fs fl st sb → rsV μ μ' → KK r σ r μ') : mp_X10_value σ p q t e (fun r σ' => mp_X12_value_ μ p q t e (fun r' μ' => KK r σ' r' μ')) := by
  obtain ⟨L, B, F, S, R, C, C0, s0', ml, nb, z, lv, y, al, fas, x, x2, x3, x4, x5⟩ := X
  obtain ⟨th, nd, bg, nt, us, s, ym, hs⟩ := M
  have n22 : ¬ σ.1 22 = 0 := by rw [x4]; exact nI_ne0 (by omega) (by omega)
  have i17 : μ.1 17 = nI st := ym.2.2.2.1.2.2.2.2.2
  have kM : ∀ r μ', RMg μ' T b k lim md cy rch n N fs fl st th nd bg nt us s → rsV μ μ' → KK r σ r μ' := fun r μ' y' r' => hK r μ' ⟨th, nd, bg, nt, us, s, y', hs⟩ r'
  unfold mp_X10_value mp_X10_value_21
  refine ⟨fun z => absurd z n22, fun _ => ⟨fun z => m_vbad hw ym s0 s4 (Or.inl z) (kM _ _ ym rsV_r), fun ze => ⟨fun zl => ?_, fun z => m_vbad hw ym s0 s4 (Or.inr z) (kM _ _ ym rsV_r)⟩⟩⟩
  obtain ⟨w, w1, w2⟩ := nI_of ze
  subst w2
  have h2 : w ≤ 2 := (nI_leI (b := 2) w1 (by decide)).mp zl
  refine ⟨fun pm => ?_, fun pm => ?_⟩
  · have go : ∀ a : Nat, ((p < 0 ∧ a = 0) ∨ ∃ f, f < 2 ^ 31 ∧ p = nI f ∧ a = (fas.drop f).headD 0) → mp_X9_ofPlace σ (nI a) q (fun r12 σ11 => mp_X10_value_57 (fun r σ' => mp_X12_value_ μ p q t (nI w) (fun r' μ' => KK r σ' r' μ')) σ11 t (nI w) r12) := fun a ha => by
      have fin : ∀ (sv : Option AV) (c : Int64), ((sv = none ∧ ¬ ∃ v, hit T fs p q v) ∨ ∃ v, sv = some v ∧ hit T fs p q v) → vco s0' ml nb al L sv c → voo n N sv → mp_X10_value_57 (fun r σ' => mp_X12_value_ μ p q t (nI w) (fun r' μ' => KK r σ' r' μ')) σ t (nI w) c := fun sv c hh hc hv => by
        obtain ⟨o, o1, o2⟩ := wk_ex hw W.1 6 (xp t) sv hv
        refine x_v57 hw x hc o1 o2 h2 ?_
        unfold mp_X12_value_
        exact ⟨fun _ => m_v27 hw W ym s0 s4 hh o1 h2 (fun μ' y' r' => kM _ μ' y' r'), fun z => absurd z pm⟩
      exact k_ofP hw x ha (fun nh => fin none (-1) (Or.inl ⟨rfl, nh⟩) rfl trivial) (fun v c hv hc hL => fin (some v) c (Or.inr ⟨v, rfl, hv⟩) ⟨hc, hL⟩ (hv.ok W))
    refine k_frA x (fun pn => go 0 (Or.inl ⟨pn, rfl⟩)) (fun f f1 f2 => go _ (Or.inr ⟨f, f1, f2, rfl⟩))
  · have pn : p < 0 := by rw [pm]; decide
    have no : mp_X12_value__27 (fun r' μ' => KK (-1) σ r' μ') μ p q t (nI w) := m_v27 (sv := none) (o := none) hw W ym s0 s4 (Or.inl ⟨rfl, hit_p pn⟩) (by
      obtain ⟨o, o1, o2⟩ := wk_ex hw W.1 6 (xp t) none trivial
      have := wk_none _ _ _ o1
      subst this
      exact o1) h2 (fun μ' y' r' => kM _ μ' y' r')
    have noX : (mp_X12_value_ μ p q t (nI w) (fun r' μ' => KK (-1) σ r' μ')) → mp_X10_value_57 (fun r σ' => mp_X12_value_ μ p q t (nI w) (fun r' μ' => KK r σ' r' μ')) σ t (nI w) (-1) := fun hz => by
      obtain ⟨o, o1, o2⟩ := wk_ex hw W.1 6 (xp t) none trivial
      have := wk_none _ _ _ o1
      subst this
      exact x_v57 (n := n) (sv := none) hw x rfl o1 trivial h2 hz
    unfold mp_X9_flying mp_X9_flying_28 mp_X9_flying_31
    refine ⟨fun q0 => noX ?_, fun q0 => ⟨fun z => noX ?_, fun z => ?_⟩⟩
    · unfold mp_X12_value_
      exact ⟨fun z => absurd pm z, fun _ => ⟨fun _ => no, fun z => absurd z q0⟩⟩
    · have f0 : fl = 0 := by
        rcases x.2.2.2.2.1 with c | ⟨c1, c2, c3, c4⟩
        · exact c.1
        · rw [c3] at z
          have := x.nc c2
          have l2 := x.1.2.2.2.2.2.2.2.1
          have l1 := x.1.2.2.2.2.2.2.1
          exact absurd z (nI_ne0 (by omega) (by omega))
      have i15 : μ.1 15 = 0 := by
        rcases ym.2.2.2.2 with c | c
        · exact c.2
        · exact absurd f0 c.1
      unfold mp_X12_value_
      exact ⟨fun z => absurd pm z, fun _ => ⟨fun z => absurd q0 z, fun _ => ⟨fun _ => no, fun _ => ⟨fun _ => no, fun z => absurd i15 z⟩⟩⟩⟩
    · rcases x.2.2.2.2.1 with c | ⟨c1, c2, c3, c4⟩
      · exact absurd c.2 z
      · rcases ym.2.2.2.2 with d | ⟨d1, d2, d3, d4⟩
        · exact absurd d.1 c1
        · have ef : fl = (fl - 1) + 1 := by omega
          have wq := W.2.1 (fl - 1) ef
          have hv : vok n N (.inr ((fl - 1) + 1)) := fun k' e => by
            cases e
            exact ⟨wq.1, Or.inl wq.2⟩
          have hin : ∀ k', (Sum.inr ((fl - 1) + 1) : AV) = .inr (k' + 1) → inT th nd nt k' := fun k' e => by
            cases e
            exact d3
          obtain ⟨n1, n2, n3, n4⟩ := x.nc c2
          have l2 := x.1.2.2.2.2.2.2.2.1
          have l1 := x.1.2.2.2.2.2.2.1
          have hb := (x.2.1.1 (fl - 1) c2).2.2.1
          obtain ⟨o, o1, o2⟩ := wk_ex hw W.1 6 (xp t) (some (.inr ((fl - 1) + 1))) hv
          rw [c3]
          unfold mp_X1_cell
          refine x_v57 (n := n) (sv := some (.inr ((fl - 1) + 1))) hw x ⟨Or.inr (Or.inr ⟨fl - 1, al (fl - 1), rfl, by omega, by omega, rfl, hb.cs⟩), fun k' e => by cases e; exact c2⟩ o1 o2 h2 ?_
          have go := m_v114 (K := fun r' μ' => KK (ans T N w o) σ r' μ') hw W.1 ym o1 hv hin h2 (fun μ' y' r' => kM _ μ' y' r')
          unfold mp_X12_value_ mp_X12_value__28 mp_X12_value__45 mp_X12_value__58 mp_X12_value__92 mp_X12_value__109 mp_X12_value__69
          refine ⟨fun z => absurd pm z, fun _ => ⟨fun z => absurd q0 z, fun _ => ⟨fun z => ?_, fun _ => ⟨fun z => absurd (d2.symm.trans z) (by decide), fun _ => ⟨fun z => absurd z (by decide), fun _ => ⟨fun _ => ⟨fun z => absurd z (nI_neg (by omega)), fun _ => ⟨fun _ => ⟨fun z => absurd z (by decide), fun _ => ⟨fun _ => ?_, fun z => absurd z (by decide)⟩⟩, fun z => absurd (nI_le (b := 2) h2 (by decide)) z⟩⟩, fun z => absurd z (by decide)⟩⟩⟩⟩⟩⟩
          · rw [i17] at z
            exact absurd ((nI_leI (b := 0) (by omega) (by decide)).mp z) (by omega)
          · rw [d4]; exact go
end
