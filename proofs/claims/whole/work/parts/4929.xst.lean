/-! ===== a step of the class: how it begins and ends ===== -/
theorem GI.ws {hf B F S R : Nat} {C E C0 : Nat → Int64} {s0 : List Nat} {ml : List (Nat × Nat)} {nb : List Nat} {z lv y : Nat → Nat} (g : GI hf B F S R C C0 s0 ml nb z lv y) (h : ∀ x, E x = C x ∨ (tcl' ml nb z y x ∧ (∀ w, w < 2 ^ 30 → C x = mkc 1 (nI w) → ¬ ldb hf B 1 w) ∧ gcl hf B (E x))) : GI hf B F S R E C0 s0 ml nb z lv y := by
  have gg := g
  have ob := g.ob
  obtain ⟨g1, g2, g3, g4, g5, g6, g6', g7, g8, g9, g10, g11, g12, g13, g14, g15, g16, g17, g18⟩ := g
  have same : ∀ x, (x < B ∨ B + hf ≤ x) → E x = C x := fun x hx => by
    rcases h x with t | ⟨t, -⟩
    · exact t
    · have := gg.tc t
      omega
  refine ⟨g1, g2, g3, g4, g5, g6, g6', g7, g8, g9, g10, g11, g12, ?_, ?_, g15, ?_, ?_, g18⟩
  · intro a ha hn i hi
    obtain ⟨p1, p2⟩ := g9 a ha
    rw [same _ (by omega)]
    exact g13 a ha hn i hi
  · intro q hq
    obtain ⟨p1, p2⟩ := g9 q.1 (g12 q hq)
    have := (g6 q.1).1
    rw [same _ (by omega)]
    exact g14 q hq
  · intro q i hq hi
    obtain ⟨w1, w2, w3⟩ := g16 q i hq hi
    rcases h (q.2 + i) with t | ⟨t1, t2, t3⟩
    · rw [t]; exact ⟨w1, w2, w3⟩
    · refine ⟨t3.1, fun x h1 h2 h2' h3 => Or.inl ?_, fun x h1 h2 h3 => absurd h2 (t3.2 x h1 h3)⟩
      rcases w2 x h1 h2 h2' h3 with r | ⟨_, r⟩
      · exact r
      · have xs := g18 q.1 i x (g12 q hq) h1 h2 h2' h3
        have o := g9 x xs
        have z1 := (g6 x).1
        exact absurd ⟨rfl, h2, by omega⟩ (t2 x h2' r)
  · intro x i hx hi
    rcases h (x + i) with t | ⟨-, -, t3⟩
    · rw [t]; exact g17 x i hx hi
    · exact t3
def Ist (k : Nat) : Prop := k = 12 ∨ k = 13 ∨ (24 ≤ k ∧ k ≤ 28)
/-- the top frame has changed -/
theorem RXg.tf {σ σ' : sm_S} {T : Nat → Nat → Nat} {b : Nat → Nat} {h k lim md cy rch : Nat} {L : Nat → Prop} {N : Nat → AN} {f : AF} {r : List AF} {fl B F S R fr : Nat} {C E C0 : Nat → Int64} {s0 : List Nat} {ml : List (Nat × Nat)} {nb : List Nat} {z lv y al : Nat → Nat} {tp : Nat} {t : List Nat} (hw : wf T b) (x : RXg σ T b h k lim md cy rch L N (f :: r) fl B F S R fr C C0 s0 ml nb z lv y al (tp :: t)) (fr' : frL Ist σ σ' E) {pc' ht' : Nat} {vs' : Nat → AV} (ho : ∀ u, ¬ (tp + 1 ≤ u ∧ u < tp + 16) → E u = C u) (e3 : E (tp + 3) = C (tp + 3)) (e1 : E (tp + 1) = mkc 0 (nI pc')) (e2 : E (tp + 2) = mkc 0 (nI ht')) (hpc : pc' < 2 ^ 16) (hht : ht' ≤ T 16 f.1) (hv : ∀ i, i < T 15 f.1 + ht' → vcl s0 ml nb al (vs' i) (E (tp + 4 + i))) (hg : ∀ i, i < 12 → gcl (2 * h + 64) B (E (tp + 4 + i))) (hL : ∀ i k, i < T 15 f.1 + ht' → vs' i = .inr (k + 1) → L k) : RXg σ' T b h k lim md cy rch L N ((f.1, pc', ht', vs') :: r) fl B F S R fr E C0 s0 ml nb z lv y al (tp :: t) := by
  obtain ⟨x1, x2, ⟨i6, i7, i8, i9, i10⟩, x4, x5, x6, x7, x8, x9, x10⟩ := x
  have g := x1.2.2.2.2.2.2.2.2.2.1
  obtain ⟨tc, st⟩ := x4 (fun q => by cases q)
  have tc : ∀ i, i < 16 → tcl' ml nb z y (tp + i) := tc
  have st : stl (2 * h + 64) B C tp := st
  have hT : ∀ m, m < T 0 1 → T 15 m + T 16 m ≤ 12 := fun m hm => (hw.2.2.2.2.2.2.2.2.1 m hm).2.2.2.2.2.2.1
  obtain ⟨u, t', e, fc, -⟩ := x2.2.2.2.2.2.1
  obtain ⟨eu, et⟩ := List.cons.inj e
  subst eu
  subst et
  have gE : ∀ i, 1 ≤ i → i < 16 → i ≠ 3 → gcl (2 * h + 64) B (E (tp + i)) := fun i h1 h2 h3 => by
    by_cases i1 : i = 1
    · rw [i1, e1]; exact gcl_n _ _ _
    by_cases i2 : i = 2
    · rw [i2, e2]; exact gcl_n _ _ _
    · have := hg (i - 4) (by omega)
      rw [show tp + 4 + (i - 4) = tp + i by omega] at this
      exact this
  have g' := g.ws (E := E) (fun u => by
    by_cases c : tp + 1 ≤ u ∧ u < tp + 16
    · by_cases c3 : u = tp + 3
      · rw [c3]; exact Or.inl e3
      · right
        have h1 := tc (u - tp) (by omega)
        have h2 := gE (u - tp) (by omega) (by omega) (by omega)
        have h3 := fun w hw' => st (u - tp) w (by omega) hw'
        rw [show tp + (u - tp) = u by omega] at h1 h2 h3
        exact ⟨h1, h3, h2⟩
    · exact Or.inl (ho u c))
  have ni : ∀ kk, ¬ Ist kk → σ'.1 kk = σ.1 kk := fr'.2.2.2.2.2
  have e0 : E tp = C tp := ho tp (by omega)
  obtain ⟨q1, q2, q3, q4, q5, q6, ⟨w, q7, q8, q9⟩, q10⟩ := fc
  refine ⟨⟨x1.1.L fr' (fun k q => by unfold Ist; omega), by rw [ni 1 (by unfold Ist; omega)]; exact x1.2.1, by rw [ni 2 (by unfold Ist; omega)]; exact x1.2.2.1, by rw [ni 3 (by unfold Ist; omega)]; exact x1.2.2.2.1, by rw [ni 4 (by unfold Ist; omega)]; exact x1.2.2.2.2.1, by rw [ni 5 (by unfold Ist; omega)]; exact x1.2.2.2.2.2.1, by rw [fr'.2.1]; exact x1.2.2.2.2.2.2.1, by rw [fr'.2.1]; exact x1.2.2.2.2.2.2.2.1, fr'.2.2.2.2.1, g', x1.2.2.2.2.2.2.2.2.2.2⟩, ?_, ⟨by rw [ni 6 (by unfold Ist; omega)]; exact i6, by rw [ni 7 (by unfold Ist; omega)]; exact i7, by rw [ni 8 (by unfold Ist; omega)]; exact i8, by rw [ni 9 (by unfold Ist; omega)]; exact i9, by rw [ni 10 (by unfold Ist; omega)]; exact i10⟩, fun _ => ⟨tc, fun i w hi hw' hc => ?_⟩, by rw [ni 11 (by unfold Ist; omega)]; exact x5, x6, x7, x8, x9, x10⟩
  · refine x2.wf hT g (fun u hu => ho u (by omega)) ⟨q1, hpc, hht, by rw [e0]; exact q4, e1, e2, ⟨w, q7, by rw [e3]; exact q8, q9⟩, hv⟩ hL
  · have hc : E (tp + i) = mkc 1 (nI w) := hc
    by_cases i0 : i = 0
    · rw [i0, Nat.add_zero, e0, q4] at hc
      exact absurd hc (mk_ne1 (by decide) (by decide))
    by_cases i3 : i = 3
    · rw [i3, e3] at hc
      exact st 3 w (by decide) hw' hc
    · exact (gE i (by omega) hi i3).2 w hw' hc
/-- the end of a step -/
theorem k_end {σ0 σ : sm_S} {T : Nat → Nat → Nat} {b : Nat → Nat} {D : Nat → Int64} {k l : Nat} {x : Int32} {K : jk} (hf : frL Ist σ0 σ D) (i6 : σ.1 6 = nI k) (hk : k ≤ 64) (i12 : σ.1 12 = 1) (i13 : σ.1 13 = nI l) (hl : l ≤ 700 * k + 200) (hx : x ≠ -3) (hK : ∀ σ', frL Ist σ0 (σ'.1, σ.2.1, σ'.2.2) D → σ'.2.1 = va_up σ.2.1 1 (σ.2.1 1 + 1) → σ'.1 12 = 1 → K 1 σ') : mp_X7_step_224 K σ x := by
  unfold mp_X7_step_224 mp_X1_endStep mp_X1_endStep_31 mp_X1_endStep_32
  have n12 : ¬ σ.1 12 = 0 := by rw [i12]; decide
  have n13 : ¬ (700 * σ.1 6 + 200 < σ.1 13) := by
    rw [i6, i13, l_700, pk_mul, l_200, nI_add]
    exact fun q => absurd ((nI_ltI (by omega) (by omega)).mp q) (by omega)
  refine ⟨fun q => absurd q n12, fun _ => ⟨fun q => absurd q n13, fun _ => ⟨sm_z1, fun s2 e2 => ⟨fun _ s3 e3 => ?_, fun q => absurd q hx⟩⟩⟩⟩
  rw [e3, e2]
  exact hK _ (hf.i (by unfold Ist; omega)) rfl rfl
