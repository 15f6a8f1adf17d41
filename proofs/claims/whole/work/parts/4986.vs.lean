/-! ===== value and same: which place ===== -/
/-- the value that a frame and a place name -/
def hit (T : Nat → Nat → Nat) (fs : List AF) (p q : Int32) (v : AV) : Prop := ∃ f g r i, p = nI f ∧ f < 2 ^ 31 ∧ fs.drop f = g :: r ∧ q = nI i ∧ i < 2 ^ 31 ∧ i < T 15 g.1 + g.2.2.1 ∧ v = g.2.2.2 i
section
variable {σ μ : sm_S} {T : Nat → Nat → Nat} {b : Nat → Nat} {H Y : Nat → Nat → Nat} {h k lim md cy rch n sb : Nat} {L : Nat → Prop} {N : Nat → AN} {fs : List AF} {fl st B F S R : Nat} {C C0 : Nat → Int64} {s0 : List Nat} {ml : List (Nat × Nat)} {nb : List Nat} {z lv y al : Nat → Nat} {fas : List Nat} {th nd bg : Nat → Nat} {nt us s : Nat}
theorem hit_p {p q : Int32} (hp : p < 0) : ¬ ∃ v, hit T fs p q v := by
  rintro ⟨v, f, g, r, i, e1, e2, -⟩
  rw [e1] at hp
  exact nI_neg e2 hp
theorem hit_q {p q : Int32} (hp : q < 0) : ¬ ∃ v, hit T fs p q v := by
  rintro ⟨v, f, g, r, i, e1, e2, e3, e4, e5, -⟩
  rw [e4] at hp
  exact nI_neg e5 hp
theorem hit_f {f : Nat} {q : Int32} (hf : f < 2 ^ 31) (hd : fs.drop f = []) : ¬ ∃ v, hit T fs (nI f) q v := by
  rintro ⟨v, f', g, r, i, e1, e2, e3, -⟩
  have := (nI_eq hf e2).mp e1
  subst this
  rw [hd] at e3
  cases e3
theorem hit_i {f i : Nat} {g : AF} {r : List AF} (hf : f < 2 ^ 31) (hd : fs.drop f = g :: r) (hi : i < 2 ^ 31) (hl : T 15 g.1 + g.2.2.1 ≤ i) : ¬ ∃ v, hit T fs (nI f) (nI i) v := by
  rintro ⟨v, f', g', r', i', e1, e2, e3, e4, e5, e6, -⟩
  have := (nI_eq hf e2).mp e1
  subst this
  rw [hd] at e3
  cases e3
  have := (nI_eq hi e5).mp e4
  omega
theorem hit_1 {p q : Int32} {v w : AV} (h1 : hit T fs p q v) (h2 : hit T fs p q w) : v = w := by
  obtain ⟨f, g, r, i, a1, a2, a3, a4, a5, a6, a7⟩ := h1
  obtain ⟨f', g', r', i', c1, c2, c3, c4, c5, c6, c7⟩ := h2
  have := (nI_eq a2 c2).mp (a1.symm.trans c1)
  subst this
  rw [a3] at c3
  cases c3
  have := (nI_eq a5 c5).mp (a4.symm.trans c4)
  subst this
  rw [a7, c7]
theorem k_ofP {K : Int64 → sm_S → Prop} {p q : Int32} {a : Nat} (hw : wf T b) (x : RXg σ T b h k lim md cy rch L N fs fl B F S R R C C0 s0 ml nb z lv y al fas) (hp : (p < 0 ∧ a = 0) ∨ ∃ f, f < 2 ^ 31 ∧ p = nI f ∧ a = (fas.drop f).headD 0) (h0 : (¬ ∃ v, hit T fs p q v) → K (-1) σ) (h1 : ∀ v c, hit T fs p q v → vcl s0 ml nb al v c → (∀ k, v = .inr (k + 1) → L k) → K c σ) : mp_X9_ofPlace σ (nI a) q K := by
  unfold mp_X9_ofPlace mp_X9_ofPlace_29 mp_X9_ofPlace_30 mp_X9_ofPlace_53
  have no : (¬ ∃ v, hit T fs p q v) → (((0 : Int32) = 0 → K (-1) σ) ∧ (¬ (0 : Int32) = 0 → mp_X1_peek σ ((nI a + 4) + q) (fun r3 σ2 => K r3 σ2))) := fun z => ⟨fun _ => h0 z, fun z => absurd rfl z⟩
  rcases hp with ⟨pn, e⟩ | ⟨f, f1, f2, e⟩
  · subst e
    exact ⟨fun _ => no (hit_p pn), fun z => absurd rfl z⟩
  · subst f2
    rcases x.fa (f := f) with ⟨e1, e2⟩ | ⟨g, r, a', ca, e1, e2, e3, e4, e5, e6⟩
    · rw [e, e2] at no ⊢
      exact ⟨fun _ => no (hit_f f1 e1), fun z => absurd rfl z⟩
    · rw [e2] at e
      subst e
      have hh := x.1.2.2.2.2.2.2.1
      have hh2 := x.1.2.2.2.2.2.2.2.1
      have c1 := e3.1
      have c3 := e3.2.2.1
      have w12 := (hw.2.2.2.2.2.2.2.2.1 _ c1).2.2.2.2.2.2.1
      refine ⟨fun z => absurd z (nI_ne0 (by omega) (by omega)), fun _ => ⟨fun z => no (hit_q z), fun z => ?_⟩⟩
      obtain ⟨i, i1, i2⟩ := nI_of z
      subst i2
      refine k_ofF hw x e3 e4 e5 (fun z => absurd z (by decide)) (fun z => absurd z (by decide)) (fun z => absurd z (by decide)) (fun _ => ?_) (fun _ _ _ z => absurd rfl z)
      refine k_ofF hw x e3 e4 e5 (fun z => absurd z (by decide)) (fun z => absurd z (by decide)) (fun _ => ?_) (fun z => absurd z (by decide)) (fun _ _ z => absurd rfl z)
      rw [nI_add]
      refine ⟨fun z => no (hit_i f1 e1 i1 ((nI_leI (by omega) i1).mp z)), fun z => ⟨fun z => absurd z (by decide), fun _ => ?_⟩⟩
      have hi : i < T 15 g.1 + g.2.2.1 := by
        have : ¬ T 15 g.1 + g.2.2.1 ≤ i := fun p => z (nI_le p (by omega))
        omega
      rw [l_4, nI_add, nI_add]
      refine x.pk (by omega) (by omega) ?_
      exact h1 _ _ ⟨f, g, r, i, rfl, f1, e1, rfl, i1, hi, rfl⟩ (e3.2.2.2.2.2.2.2 i hi) (fun k' e => x.2.1.2.2.2.2.2.2.2 g e6 i k' hi e)
theorem m_pov {K : jk} {p q : Int32} (hw : wf T b) (y : RMg μ T b k lim md cy rch n N fs fl st th nd bg nt us s) (s0 : st ≠ 0) (s4 : st ≤ 4) (h0 : (¬ ∃ v, hit T fs p q v) → K (-1) μ) (h1 : ∀ v c, hit T fs p q v → c < 91200 → μ.2.2.2.1 36 c = vM th v → μ.2.2.2.1 37 c = iM v → (∀ k, v = .inr (k + 1) → inT th nd nt k) → K (nI c) μ) : mp_X12_placeOfValue μ p q K := by
  have ln := y.1.2.1
  have im := y.1.1
  have w64 := hw.2.2.2.1
  have i14 : μ.1 14 = nI fs.length := y.1.2.2.1.2.2.2.2.1
  have l76 := y.1.2.2.1.2.2.2.2.2
  have i17 : μ.1 17 = nI st := y.2.2.2.1.2.2.2.2.2
  have n17 : ¬ μ.1 17 = 0 := by rw [i17]; exact nI_ne0 (by omega) (by omega)
  unfold mp_X12_placeOfValue mp_X12_placeOfValue_23 mp_X12_placeOfValue_69
  refine ⟨fun z => absurd z n17, fun _ => ⟨fun z => h0 (hit_p z), fun z => ?_⟩⟩
  obtain ⟨f, f1, f2⟩ := nI_of z
  subst f2
  rw [i14]
  refine ⟨fun z => h0 (hit_f f1 (List.drop_eq_nil_iff.mpr ((nI_leI (by omega) f1).mp z))), fun z => ?_⟩
  have lf : f < fs.length := by
    have : ¬ fs.length ≤ f := fun p => z (nI_le p (by omega))
    omega
  cases e : fs.drop f with
  | nil => exact absurd (List.drop_eq_nil_iff.mp e) (by omega)
  | cons g r =>
    obtain ⟨⟨g1, g2, g3, g4, g5, g6, g7⟩, -, -⟩ := y.fa e
    have w12 := (hw.2.2.2.2.2.2.2.2.1 _ g2).2.2.2.2.2.2.1
    have r15 := (im.2.2.2.2.2.2.2 g.1 g2).2.2.2.2.1
    refine ⟨fun z => ?_, fun z => h0 (hit_q ?_)⟩
    · have nn : ¬ q < 0 := fun z2 => by
        have a1 := Int32.le_iff_toInt_le.mp z
        have a2 := Int32.lt_iff_toInt_lt.mp z2
        omega
      obtain ⟨i, i1, i2⟩ := nI_of nn
      subst i2
      intro v5 e5
      rw [nI_sub1 (by omega), nI_sub (by omega)] at e5
      rw [e5, nI_clamp (by omega), g1, g5, nI_clamp (by omega), r15, nI_add, l_12, pk_mul, nI_add]
      refine ⟨by rw [lr33 ln]; exact vp_in_nI (by omega) (by decide), by rw [show μ.2.2.1 15 = 64 from im.2.1.2.2.2.2.2.2.2.2.2.2.2.1]; exact vp_in_nI (by omega) (by decide), by rw [lr35 ln]; exact vp_in_nI (by omega) (by decide), fun z => h0 (hit_i f1 e i1 ((nI_leI (by omega) i1).mp z)), fun z => ?_⟩
      have hi : i < T 15 g.1 + g.2.2.1 := by
        have : ¬ T 15 g.1 + g.2.2.1 ≤ i := fun p => z (nI_le p (by omega))
        omega
      exact h1 _ _ ⟨f, g, r, i, rfl, f1, e, rfl, i1, hi, rfl⟩ (by omega) (g7 i hi).1 (g7 i hi).2.1 (g7 i hi).2.2
    · rw [Int32.lt_iff_toInt_lt]
      have : ¬ (0 : Int32).toInt ≤ q.toInt := fun w => z (Int32.le_iff_toInt_le.mpr w)
      omega
theorem fsT_in {g : AF} : ∀ (gs : List AF) (m : Nat), fsT T b H Y n N gs m → g ∈ gs → ftp T H Y n N g := by
  intro gs
  induction gs with
  | nil => intro m _ hg; exact absurd hg List.not_mem_nil
  | cons f r ih =>
    intro m hf hg
    rcases List.mem_cons.mp hg with e | e
    · subst e; exact hf.1.1
    · exact ih _ hf.2 e
theorem WT.fi {g : AF} (W : WT T b H Y n N fs fl st) (hg : g ∈ fs) : ftp T H Y n N g := by
  cases e : fs with
  | nil => rw [e] at hg; exact absurd hg List.not_mem_nil
  | cons f r =>
    obtain ⟨w1, -, w3⟩ := W.2.2.1 f r e
    rw [e] at hg
    rcases List.mem_cons.mp hg with e | e
    · subst e; exact w1
    · exact fsT_in _ _ w3 e
theorem hit.ok {p q : Int32} {v : AV} (W : WT T b H Y n N fs fl st) (hv : hit T fs p q v) : vok n N v := by
  obtain ⟨f, g, r, i, a1, a2, a3, a4, a5, a6, a7⟩ := hv
  have mg : g ∈ fs := List.mem_of_mem_drop (by rw [a3]; exact List.mem_cons_self)
  obtain ⟨t1, t2, t3, t4, t5, t6⟩ := W.fi mg
  rw [a7]
  exact (t5 i a6).vk W.1 (fun k' e => t6 i k' a6 e)
theorem x_v57 {K : Int64 → sm_S → Prop} {p : Int64} {w : Nat} {o sv : Option AV} {c : Int64} (hw : wf T b) (x : RXg σ T b h k lim md cy rch L N fs fl B F S R R C C0 s0 ml nb z lv y al fas) (hc : vco s0 ml nb al L sv c) (hk : wk T N 6 (xp p) sv o) (ho : voo n N o) (h2 : w ≤ 2) (hK : K (ans T N w o) σ) : mp_X10_value_57 K σ p (nI w) c := by
  unfold mp_X10_value_57 mp_X9_along
  refine ⟨7, l_alg (o := o) hw x (fun c' hc' => ?_) 6 p sv c (by decide) hk hc⟩
  exact k_ask hw x hc' ho h2 hK
theorem m_v114 {K : Int64 → sm_S → Prop} {p : Int64} {w : Nat} {o : Option AV} {v : AV} (hw : wf T b) (nk : nok T n N) (y : RMg μ T b k lim md cy rch n N fs fl st th nd bg nt us s) (hk : wk T N 6 (xp p) (some v) o) (hv : vok n N v) (hin : ∀ k, v = .inr (k + 1) → inT th nd nt k) (h2 : w ≤ 2) (hK : ∀ μ', RMg μ' T b k lim md cy rch n N fs fl st th nd bg nt us s → rsV μ μ' → K (ans T N w o) μ') : mp_X12_value__114 K μ p (nI w) (vM th v) (iM v) := by
  unfold mp_X12_value__114
  have hx := xp_lt p
  exact ⟨7, l_valM hw nk h2 6 p v μ (by have : (2 : Nat) ^ 64 < 4096 ^ 6 := by decide
                                        omega) hk hv hin y hK⟩
end
