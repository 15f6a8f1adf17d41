/-! ===== same, both sides ===== -/
def sme (o1 o2 : Option AV) : Prop := ∃ a, o1 = some (.inr a) ∧ o2 = some (.inr a)
def tgv (al : Nat → Nat) : Nat → Nat
  | 0 => 0
  | q + 1 => al q
section
variable {σ μ : sm_S} {T : Nat → Nat → Nat} {b : Nat → Nat} {H Y : Nat → Nat → Nat} {h k lim md cy rch n sb : Nat} {L : Nat → Prop} {N : Nat → AN} {fs : List AF} {fl st B F S R : Nat} {C C0 : Nat → Int64} {s0 : List Nat} {ml : List (Nat × Nat)} {nb : List Nat} {z lv y al : Nat → Nat} {fas : List Nat} {th nd bg : Nat → Nat} {nt us s : Nat}
theorem k_tgv {K : jk} {a : Nat} {c : Int64} (x : RXg σ T b h k lim md cy rch L N fs fl B F S R R C C0 s0 ml nb z lv y al fas) (hc : vcl s0 ml nb al (.inr a) c) (hK : K (nI (tgv al a)) σ) : mp_X9_target σ c K := by
  rcases hc with ⟨x1, e, -⟩ | ⟨e, e2⟩ | ⟨k', w, e, w0, w1, w2, w3⟩
  · cases e
  · cases e
    rw [e2]
    exact k_tg0 hK
  · cases e
    rw [w2]
    exact k_tgt x w0 w1 w3 hK
theorem k_k1 {o : Option AV} {c : Int64} (hc : vco s0 ml nb al L o c) : ((c >>> s32).toInt32 = 1 ∧ ∃ a, o = some (.inr a)) ∨ (¬ (c >>> s32).toInt32 = 1 ∧ ∀ a, ¬ o = some (.inr a)) := by
  cases o with
  | none =>
    have e : c = -1 := hc
    rw [e, kd_m1]
    exact Or.inr ⟨by decide, fun a e => by cases e⟩
  | some v =>
    obtain ⟨hc, -⟩ := hc
    rcases hc with ⟨x1, e, e2⟩ | ⟨e, e2⟩ | ⟨k', w, e, w0, w1, w2, w3⟩
    · rw [e2, mk_kd (by decide), e]
      exact Or.inr ⟨by decide, fun a e => by cases e⟩
    · rw [e2, mk_kd (by decide), e]
      exact Or.inl ⟨by decide, 0, rfl⟩
    · rw [w2, mk_kd (by decide), e]
      exact Or.inl ⟨by decide, _, rfl⟩
theorem k_alike {K : jk} {o1 o2 : Option AV} {c1 c2 : Int64} (x : RXg σ T b h k lim md cy rch L N fs fl B F S R R C C0 s0 ml nb z lv y al fas) (hc1 : vco s0 ml nb al L o1 c1) (hc2 : vco s0 ml nb al L o2 c2) (h1 : sme o1 o2 → K 1 σ) (h0 : ¬ sme o1 o2 → K 0 σ) : mp_X9_alike σ c1 c2 K := by
  unfold mp_X9_alike mp_X9_alike_20 mp_X9_alike_21 mp_X9_alike_45 mp_X9_alike_46 mp_X1_kind
  have no : ¬ sme o1 o2 → (((0 : Int32) = 0 → sm_z 0 ∧ K 0 σ) ∧ (¬ (0 : Int32) = 0 → mp_X9_target σ c1 (fun r4 σ3 => mp_X9_target σ3 c2 (fun r6 σ5 => ((¬ r4 = r6 → sm_z 0 ∧ K 0 σ5) ∧ (r4 = r6 → sm_z 1 ∧ K 1 σ5)))))) := fun z => ⟨fun _ => ⟨sm_z0, h0 z⟩, fun z => absurd rfl z⟩
  rcases k_k1 hc1 with ⟨e1, a, ea⟩ | ⟨e1, ea⟩
  · refine ⟨fun z => absurd e1 z, fun _ => ?_⟩
    rcases k_k1 hc2 with ⟨e2, a', ea'⟩ | ⟨e2, ea'⟩
    · refine ⟨fun z => absurd e2 z, fun _ => ⟨fun z => absurd z (by decide), fun _ => ?_⟩⟩
      subst ea ea'
      refine k_tgv x hc1.1 ?_
      refine k_tgv x hc2.1 ?_
      have l2 := x.1.2.2.2.2.2.2.2.1
      have l1 := x.1.2.2.2.2.2.2.1
      have bd : ∀ a, (∀ k, (Sum.inr a : AV) = .inr (k + 1) → L k) → tgv al a < 2 ^ 31 ∧ (a ≠ 0 → 1 ≤ tgv al a) := fun a hL => by
        cases a with
        | zero => exact ⟨by show 0 < _; omega, fun z => absurd rfl z⟩
        | succ q =>
          obtain ⟨n1, n2, n3, n4⟩ := x.nc (hL q rfl)
          exact ⟨by show al q < _; omega, fun _ => n2⟩
      obtain ⟨b1, b2⟩ := bd a hc1.2
      obtain ⟨b3, b4⟩ := bd a' hc2.2
      refine ⟨fun z => ⟨sm_z0, h0 ?_⟩, fun z => ⟨sm_z1, h1 ?_⟩⟩
      · rintro ⟨u, e, e'⟩
        cases e; cases e'
        exact z rfl
      · have et := (nI_eq b1 b3).mp z
        cases a with
        | zero =>
          cases a' with
          | zero => exact ⟨0, rfl, rfl⟩
          | succ q' => have := b4 (by omega); have et : 0 = tgv al (q' + 1) := et; omega
        | succ q =>
          cases a' with
          | zero => have := b2 (by omega); have et : tgv al (q + 1) = 0 := et; omega
          | succ q' =>
            have := x.2.1.2.1 q q' (hc1.2 q rfl) (hc2.2 q' rfl) et
            subst this
            exact ⟨q + 1, rfl, rfl⟩
    · exact ⟨fun _ => no (by rintro ⟨u, e, e'⟩; exact ea' u e'), fun z => absurd z e2⟩
  · exact ⟨fun _ => no (by rintro ⟨u, e, e'⟩; exact ea u e), fun z => absurd z e1⟩
theorem m_same {K : jk} {p q : Int32} {o1 o2 : Option AV} (hw : wf T b) (ym : RMg μ T b k lim md cy rch n N fs fl st th nd bg nt us s) (s0 : st ≠ 0) (s4 : st ≤ 4) (hs1 : (o1 = none ∧ ¬ ∃ v, hit T fs 0 p v) ∨ ∃ v, o1 = some v ∧ hit T fs 0 p v) (hs2 : (o2 = none ∧ ¬ ∃ v, hit T fs 0 q v) ∨ ∃ v, o2 = some v ∧ hit T fs 0 q v) (h1 : sme o1 o2 → K 1 μ) (h0 : ¬ sme o1 o2 → K 0 μ) : mp_X12_same μ p q K := by
  have ln := ym.1.2.1
  have hnt : nt ≤ 140000 := ym.1.2.2.1.2.1
  unfold mp_X12_same mp_X12_same_65 mp_X12_same_66
  have non : (∀ a, ¬ o1 = some (.inr a)) ∨ (∀ a, ¬ o2 = some (.inr a)) → sm_z 0 ∧ K 0 μ := fun c => ⟨sm_z0, h0 (by
    rintro ⟨u, e, e'⟩
    rcases c with c | c
    · exact c u e
    · exact c u e')⟩
  have inn : ∀ (p : Int32) (o : Option AV), ((o = none ∧ ¬ ∃ v, hit T fs 0 p v) ∨ ∃ v, o = some v ∧ hit T fs 0 p v) → (¬ ∃ v, hit T fs 0 p v) → ∀ a, ¬ o = some (.inr a) := fun p o hs nh a e => by
    rcases hs with c | ⟨v, -, hv⟩
    · rw [c.1] at e; cases e
    · exact nh ⟨v, hv⟩
  have iso : ∀ (p : Int32) (o : Option AV) (v : AV), ((o = none ∧ ¬ ∃ v, hit T fs 0 p v) ∨ ∃ v, o = some v ∧ hit T fs 0 p v) → hit T fs 0 p v → o = some v := fun p o v hs hv => by
    rcases hs with c | ⟨v', e, hv'⟩
    · exact absurd ⟨v, hv⟩ c.2
    · rw [e, hit_1 hv hv']
  refine m_pov hw ym s0 s4 (fun nh1 => ?_) (fun v1 c1 hv1 hc1 c36 c37 hin1 => ?_)
  · refine m_pov hw ym s0 s4 (fun nh2 => ?_) (fun v2 c2 hv2 hc2 d36 d37 hin2 => ?_)
    · exact ⟨fun _ => non (Or.inl (inn _ _ hs1 nh1)), fun z => absurd rfl z⟩
    · exact ⟨fun _ => non (Or.inl (inn _ _ hs1 nh1)), fun z => absurd rfl z⟩
  · refine m_pov hw ym s0 s4 (fun nh2 => ?_) (fun v2 c2 hv2 hc2 d36 d37 hin2 => ?_)
    · exact ⟨fun z => absurd z (nI_m1 (by omega)), fun _ => ⟨fun _ => non (Or.inr (inn _ _ hs2 nh2)), fun z => absurd rfl z⟩⟩
    · have q1 := iso _ _ _ hs1 hv1
      have q2 := iso _ _ _ hs2 hv2
      subst q1 q2
      refine ⟨fun z => absurd z (nI_m1 (by omega)), fun _ => ⟨fun z => absurd z (nI_m1 (by omega)), fun _ => ?_⟩⟩
      rw [nI_clamp (by omega), nI_clamp (by omega), c36, c37, d36, d37]
      refine ⟨by rw [lr37 ln]; exact vp_in_nI hc1 (by decide), fun z => ?_, fun z => ⟨by rw [lr37 ln]; exact vp_in_nI hc2 (by decide), fun z2 => ?_, fun z2 => ⟨by rw [lr36 ln]; exact vp_in_nI hc1 (by decide), by rw [lr36 ln]; exact vp_in_nI hc2 (by decide), ?_⟩⟩⟩
      · refine non (Or.inl (fun a e => ?_))
        cases e
        exact absurd z (by show ¬ (1 : Int32) = 0; decide)
      · refine non (Or.inr (fun a e => ?_))
        cases e
        exact absurd z2 (by show ¬ (1 : Int32) = 0; decide)
      · cases v1 with
        | inl x => exact absurd rfl z
        | inr a =>
          cases v2 with
          | inl x => exact absurd rfl z2
          | inr a' =>
            have ve := vM_e (v := a) (w := a') hnt (fun q e => hin1 q (by rw [e])) (fun q e => hin2 q (by rw [e]))
            refine ⟨fun z => ⟨sm_z0, h0 ?_⟩, fun z => ⟨sm_z1, h1 ?_⟩⟩
            · rintro ⟨u, e, e'⟩
              cases e; cases e'
              exact z rfl
            · have := ve.mp z
              subst this
              exact ⟨a, rfl, rfl⟩
theorem j_same {KK : Int32 → sm_S → Int32 → sm_S → Prop} (p q : Int32) (hw : wf T b) (X : XH σ T b h k lim md cy rch n N fs fl st) (M : MH μ T b k lim md cy rch n N fs fl st sb) (s0 : st ≠ 0) (s4 : st ≤ 4) (hK : ∀ r, KK r σ r μ) : mp_X10_same σ p q (fun r σ' => mp_X12_same μ p q (fun r' μ' => KK r σ' r' μ')) := by
  obtain ⟨L, B, F, S, R, C, C0, s0', ml, nb, z, lv, y, al, fas, x, x2, x3, x4, x5⟩ := X
  obtain ⟨th, nd, bg, nt, us, s, ym, hs⟩ := M
  have n22 : ¬ σ.1 22 = 0 := by rw [x4]; exact nI_ne0 (by omega) (by omega)
  unfold mp_X10_same
  refine ⟨fun _ => ?_, fun z => absurd z n22⟩
  refine k_frA x (fun pn => absurd pn (by decide)) (fun f f1 f2 => ?_)
  have fin : ∀ (o1 o2 : Option AV) (c1 c2 : Int64), ((o1 = none ∧ ¬ ∃ v, hit T fs 0 p v) ∨ ∃ v, o1 = some v ∧ hit T fs 0 p v) → ((o2 = none ∧ ¬ ∃ v, hit T fs 0 q v) ∨ ∃ v, o2 = some v ∧ hit T fs 0 q v) → vco s0' ml nb al L o1 c1 → vco s0' ml nb al L o2 c2 → mp_X9_alike σ c1 c2 (fun r9 σ8 => sm_z r9 ∧ mp_X12_same μ p q (fun r' μ' => KK r9 σ8 r' μ')) := fun o1 o2 c1 c2 q1 q2 q3 q4 => by
    refine k_alike x q3 q4 (fun e => ⟨sm_z1, ?_⟩) (fun e => ⟨sm_z0, ?_⟩)
    · exact m_same hw ym s0 s4 q1 q2 (fun _ => hK 1) (fun z => absurd e z)
    · exact m_same hw ym s0 s4 q1 q2 (fun z => absurd z e) (fun _ => hK 0)
  have hp : ((0 : Int32) < 0 ∧ (fas.drop f).headD 0 = 0) ∨ ∃ f', f' < 2 ^ 31 ∧ (0 : Int32) = nI f' ∧ (fas.drop f).headD 0 = (fas.drop f').headD 0 := Or.inr ⟨f, f1, f2, rfl⟩
  have snd : ∀ (o1 : Option AV) (c1 : Int64), ((o1 = none ∧ ¬ ∃ v, hit T fs 0 p v) ∨ ∃ v, o1 = some v ∧ hit T fs 0 p v) → vco s0' ml nb al L o1 c1 → mp_X9_ofPlace σ (nI ((fas.drop f).headD 0)) q (fun r7 σ6 => mp_X9_alike σ6 c1 r7 (fun r9 σ8 => sm_z r9 ∧ mp_X12_same μ p q (fun r' μ' => KK r9 σ8 r' μ'))) := fun o1 c1 q1 q3 =>
    k_ofP hw x hp (fun nh => fin o1 none c1 (-1) q1 (Or.inl ⟨rfl, nh⟩) q3 rfl) (fun v c hv hc hL => fin o1 (some v) c1 c q1 (Or.inr ⟨v, rfl, hv⟩) q3 ⟨hc, hL⟩)
  exact k_ofP hw x hp (fun nh => snd none (-1) (Or.inl ⟨rfl, nh⟩) rfl) (fun v c hv hc hL => snd (some v) c (Or.inr ⟨v, rfl, hv⟩) ⟨hc, hL⟩)
end
