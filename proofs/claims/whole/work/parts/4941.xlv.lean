/-! ===== leaving a frame: the class ===== -/
def Ilv (k : Nat) : Prop := k = 3 ∨ k = 10 ∨ k = 13 ∨ (23 ≤ k ∧ k ≤ 28)
section
variable {σ0 σ σ' σ1 σ2 σA : sm_S} {T : Nat → Nat → Nat} {b : Nat → Nat} {h k lim md cy rch n : Nat} {L : Nat → Prop} {N : Nat → AN} {f g : AF} {r fs : List AF} {fl st B F S R fr : Nat} {C D C0 : Nat → Int64} {s0 : List Nat} {ml : List (Nat × Nat)} {nb : List Nat} {z lv y al : Nat → Nat} {fas t : List Nat} {tp m pc ht nx l : Nat} {K : jk}
theorem k_leave (hw : wf T b) (x : RXg σ T b h k lim md cy rch L N (f :: r) fl B F S R R C C0 s0 ml nb z lv y al (tp :: t)) (i13 : σ.1 13 = nI l) (hl : l < 2 ^ 17)
    (h0 : r = [] → ∀ σ', RXg σ' T b h k lim md cy rch L N [] fl B F S R R C C0 s0 ml nb z lv y al [] → frL Ilv σ σ' C → σ'.1 23 = σ.1 23 - 1 → (∀ kk, 24 ≤ kk ∧ kk ≤ 28 → σ'.1 kk = σ.1 kk) → σ'.1 13 = nI (l + 1) → K 0 σ')
    (h1 : ∀ g r', r = g :: r' → ∀ σ' F' C' ml' al' u t' l', RXg σ' T b h k lim md cy rch L N (g :: r') fl B F' S R R C' C0 s0 ml' nb z lv y al' (u :: t') → frL Ilv σ σ' C' → σ'.1 23 = σ.1 23 - 1 → (∀ kk, 24 ≤ kk ∧ kk ≤ 28 → σ'.1 kk = σ.1 kk) → σ'.1 13 = nI l' → l' ≤ l + 469 → (∀ i, tcl' ml nb z y (al i) → al' i = al i) → (∀ q, q ∈ ml → q ∈ ml') → K 1 σ') : mp_X7_leaveTop σ K := by
  have tb := x.tb
  obtain ⟨tv0, fc⟩ := x.tv
  have x' := x
  obtain ⟨x1, x2, ⟨i6, i7, i8, i9, i10⟩, x4, x5, x6, x7, x8, x9, x10⟩ := x'
  have i10 : σ.1 10 = nI tp := i10
  have gI := x1.2.2.2.2.2.2.2.2.2.1
  have hC := x1.2.2.2.2.2.2.2.2.1
  obtain ⟨w, w1, w2, w3⟩ := fc.2.2.2.2.2.2.1
  have wl : ¬ ldb (2 * h + 64) B 1 w := tb.2.2.2.2 3 w (by decide) w1 w2
  have ob := gI.ob
  have ew : w = t.headD 0 := by
    rcases w3 with ⟨q1, q2⟩ | ⟨q1, q2, q3⟩
    · omega
    · rcases q3 with q3 | q3
      · have as0 := gI.2.2.2.2.2.2.2.2.2.2.2.2.1 _ q3
        have o := gI.2.2.2.2.2.2.2.2.2.1 w as0
        have z1 := (gI.2.2.2.2.2.1 w).1
        exact absurd ⟨rfl, q2, by omega⟩ wl
      · exact q3.1
  have r6 : fra T C s0 ml nb al (f :: r) (tp :: t) := x2.2.2.2.2.2.1
  have r6' : fra T C s0 ml nb al r t := by
    obtain ⟨u, t', e, -, q⟩ := r6
    rw [(List.cons.inj e).2]; exact q
  have hfl := (fra_f r t r6').1
  unfold mp_X7_leaveTop
  rw [i10, l_3, nI_add]
  refine l_look (by omega) (by omega) (by omega) ?_
  rw [hC, w2, mk_lo (by decide), i13, nI_1]
  intro s3 e3 s4 e4
  have s410 : s4.1 10 = nI w := by rw [e4, e3]; rfl
  have f4 : frL Ilv σ s4 C := by
    rw [e4, e3, ← hC]
    exact ((frL_r.i (by unfold Ilv; omega)).i (by unfold Ilv; omega)).i (by unfold Ilv; omega)
  have ni : ∀ kk, ¬ Ilv kk → s4.1 kk = σ.1 kk := f4.2.2.2.2.2
  have n23 : s4.1 23 = σ.1 23 - 1 := by rw [e4, e3]; rfl
  have n13 : s4.1 13 = nI (l + 1) := by rw [e4, e3]; rfl
  have n28 : ∀ kk, 24 ≤ kk ∧ kk ≤ 28 → s4.1 kk = σ.1 kk := fun kk hk => by
    rw [e4, e3]
    exact ((va_up_ne _ _ (by omega)).trans (va_up_ne _ _ (by omega))).trans (va_up_ne _ _ (by omega))
  have im4 : imX s4 T b := x1.1.L f4 (fun k q => by unfold Ilv; omega)
  have n3 : s4.1 3 = σ.1 3 := by rw [e4, e3]; rfl
  have H4 : HS s4 T b (2 * h + 64) B F S R R C C0 s0 ml nb z lv y := ⟨im4, by rw [ni 1 (by unfold Ilv; omega)]; exact x1.2.1, by rw [ni 2 (by unfold Ilv; omega)]; exact x1.2.2.1, by rw [n3]; exact x1.2.2.2.1, by rw [ni 4 (by unfold Ilv; omega)]; exact x1.2.2.2.2.1, by rw [ni 5 (by unfold Ilv; omega)]; exact x1.2.2.2.2.2.1, by rw [f4.2.1]; exact x1.2.2.2.2.2.2.1, by rw [f4.2.1]; exact x1.2.2.2.2.2.2.2.1, f4.2.2.2.2.1, x1.2.2.2.2.2.2.2.2.2⟩
  have x2' := x2.pf
  rw [s410, ew]
  cases t with
  | nil =>
    refine ⟨fun q => absurd rfl q, fun _ => ?_⟩
    have rn : r = [] := List.length_eq_zero_iff.mp hfl.symm
    refine h0 rn s4 ⟨H4, by rw [rn] at x2'; exact x2', ⟨by rw [ni 6 (by unfold Ilv; omega)]; exact i6, by rw [ni 7 (by unfold Ilv; omega)]; exact i7, by rw [ni 8 (by unfold Ilv; omega)]; exact i8, by rw [ni 9 (by unfold Ilv; omega)]; exact i9, by rw [s410, ew]⟩, fun q => absurd rfl q, by rw [ni 11 (by unfold Ilv; omega)]; exact x5, x6, x7, x8, x9, x10⟩ f4 n23 n28 n13
  | cons u t' =>
    have ew : w = u := ew
    have lu := x2.2.2.1 u (List.mem_cons_of_mem _ List.mem_cons_self)
    have u1 := lbs_1 gI lu
    refine ⟨fun _ => ?_, fun q => absurd q (nI_ne0 (show 0 < u by omega) (show u < 2 ^ 31 by omega))⟩
    obtain ⟨g0, r', er⟩ : ∃ g0 r', r = g0 :: r' := by
      cases r with
      | nil => cases hfl
      | cons g0 r' => exact ⟨g0, r', rfl⟩
    have tcu : ∀ i, i < 16 → tcl' ml nb z y (u + i) := fun i hi => by
      rcases lu with ⟨q, q1, q2, q3⟩ | ⟨q1, q2⟩ | ⟨q1, q2, q3⟩
      · exact Or.inl ⟨q, i, q1, by omega, by rw [q2]⟩
      · exact Or.inr ⟨u, i, q1, by omega, rfl⟩
      · have o := gI.2.2.2.2.2.2.2.2.2.1 u q1
        have z1 := (gI.2.2.2.2.2.1 u).1
        rw [ew] at wl
        exact absurd ⟨rfl, by omega, by omega⟩ wl
    have hu0 : u ∉ s0 := by
      have := s0_no gI (tcu 0 (by decide))
      rw [Nat.add_zero] at this
      exact this
    have hQ := rlK_c (hf := 2 * h + 64) (B := B) (nb := nb) (y := y) (L := L) (N := N) (fs := r) (al := al) hw x1.2.2.2.2.2.2.2.2.2.2.1 hu0
    have low3 : ∀ j w, j < 3 → w < 2 ^ 30 → C (u + j) = mkc 1 (nI w) → ¬ ldb (2 * h + 64) B 1 w := fun j w hj _ hc => by
      rw [er] at r6'
      obtain ⟨u', t2, e, ⟨-, -, -, q4, q5, q6, -⟩, -⟩ := r6'
      have eu := (List.cons.inj e).1
      rw [← eu] at q4 q5 q6
      by_cases j0 : j = 0
      · rw [j0, Nat.add_zero, q4] at hc; exact absurd hc (mk_ne1 (by decide) (by decide))
      by_cases j1 : j = 1
      · rw [j1, q5] at hc; exact absurd hc (mk_ne1 (by decide) (by decide))
      · rw [show j = 2 by omega, q6] at hc; exact absurd hc (mk_ne1 (by decide) (by decide))
    have utop := gI.tc (tcu 0 (by decide))
    have g7 := gI.2.2.2.2.2.2.2.1
    obtain ⟨σ5, F5, C5, ml5, l5, H5, Q5, f5, k13, m1, m2, m4, m5, m6, m7, m8, m9, m10⟩ := e_settle (tp := u) hw hQ (by omega) 13 3 (l + 1) F s4 C ml (by omega) (by omega) H4 ⟨al, u :: t', x2', rfl, fun _ _ => rfl⟩ tcu low3 n13 (by omega)
    obtain ⟨al5, fas5, a1, a2, a3⟩ := Q5
    have hfl5 := (fra_f r fas5 a1.2.2.2.2.2.1).1
    obtain ⟨u5, t5, ef⟩ : ∃ u5 t5, fas5 = u5 :: t5 := by
      cases fas5 with
      | nil => rw [er] at hfl5; cases hfl5
      | cons a c => exact ⟨a, c, rfl⟩
    subst ef
    have a2 : u5 = u := a2
    subst a2
    have mi : ∀ kk, ¬ I133 kk → σ5.1 kk = s4.1 kk := f5.2.2.2.2.2
    refine ⟨14, ?_⟩
    refine m10 _ (h1 g0 r' er σ5 F5 C5 ml5 al5 u5 t5 l5 ⟨H5, by rw [er] at a1; exact a1, ⟨by rw [mi 6 (by unfold I133; omega), ni 6 (by unfold Ilv; omega)]; exact i6, by rw [mi 7 (by unfold I133; omega), ni 7 (by unfold Ilv; omega)]; exact i7, by rw [mi 8 (by unfold I133; omega), ni 8 (by unfold Ilv; omega)]; exact i8, by rw [mi 9 (by unfold I133; omega), ni 9 (by unfold Ilv; omega)]; exact i9, by rw [mi 10 (by unfold I133; omega), s410, ew]; rfl⟩, fun _ => ⟨fun i hi => (tcu i hi).m m6, m9⟩, ?_, ?_, x7, x8, ?_, x10⟩ (f4.t (f5.m (fun k q => by unfold I133 at q; unfold Ilv; omega))) ((mi 23 (by unfold I133; omega)).trans n23) (fun kk hk => (mi kk (fun z => by unfold I133 at z; omega)).trans (n28 kk hk)) k13 (by omega) (fun i hi => a3 i (s0_no gI hi)) m6)
    · rw [mi 11 (by unfold I133; omega), ni 11 (by unfold Ilv; omega)]
      rcases x5 with q | ⟨q1, q2, q3, q4⟩
      · exact Or.inl q
      · have := a3 (fl - 1) (s0_no gI q4)
        exact Or.inr ⟨q1, q2, by rw [this]; exact q3, by rw [this]; exact q4.m m6⟩
    · rcases x6 with e | ⟨t0, e1, e2⟩
      · exact Or.inl e
      · obtain ⟨v, hv⟩ := e1
        exact Or.inr ⟨t0, ⟨v, m6 _ hv⟩, e2⟩
    · rcases x9 with e | e
      · exact Or.inl (by rw [m5 e]; exact e)
      · exact Or.inr (by omega)
/-- the top frame's numbers are loaded -/
theorem e_load (hw : wf T b) (x : RXg σ T b h k lim md cy rch L N (f :: r) fl B F S R R C C0 s0 ml nb z lv y al (tp :: t)) (i13 : σ.1 13 = nI l) : ∃ σ', frL Irn σ σ' C ∧ σ'.1 24 = nI f.1 ∧ σ'.1 25 = nI f.2.1 ∧ σ'.1 27 = nI f.2.2.1 ∧ σ'.1 13 = nI (l + 3) ∧ σ'.1 26 = σ.1 26 ∧ ∀ K : sm_S → Prop, K σ' → mp_X7_loadTop σ K := by
  have tb := x.tb
  obtain ⟨tv0, fc⟩ := x.tv
  obtain ⟨q1, q2, q3, q4, q5, q6, -⟩ := fc
  have i10 : σ.1 10 = nI tp := x.2.2.1.2.2.2.2
  have h8 := x.1.2.2.2.2.2.2.2.2.1
  refine ⟨sm_i (sm_i (sm_i (sm_i (sm_i (sm_i σ 13 (nI (l + 1))) 24 (nI f.1)) 13 (nI (l + 2))) 25 (nI f.2.1)) 13 (nI (l + 3))) 27 (nI f.2.2.1), ?_, rfl, rfl, rfl, rfl, rfl, fun K hK => ?_⟩
  · rw [← h8]
    exact (((((frL_r.i (by unfold Irn; omega)).i (by unfold Irn; omega)).i (by unfold Irn; omega)).i (by unfold Irn; omega)).i (by unfold Irn; omega)).i (by unfold Irn; omega)
  unfold mp_X7_loadTop
  rw [i10]
  refine l_look (by omega) (by omega) (by omega) ?_
  intro s2 e2
  rw [h8, q4, mk_lo (by decide), i13, nI_1] at e2
  rw [e2]
  have i10b : (sm_i (sm_i σ 13 (nI (l + 1))) 24 (nI f.1)).1 10 = nI tp := i10
  rw [i10b, nI_1]
  refine l_look (by omega) (show tp + 1 < σ.2.2.1 17 by omega) (show σ.2.2.1 17 < 2 ^ 31 by omega) ?_
  intro s3 e3
  have c1 : (sm_i (sm_i σ 13 (nI (l + 1))) 24 (nI f.1)).2.2.2.2 17 (tp + 1) = mkc 0 (nI f.2.1) := by show σ.2.2.2.2 17 (tp + 1) = _; rw [h8]; exact q5
  have e13b : (sm_i (sm_i σ 13 (nI (l + 1))) 24 (nI f.1)).1 13 + 1 = nI (l + 2) := nI_1 (l + 1)
  rw [c1, mk_lo (by decide), e13b] at e3
  rw [e3]
  have i10c : (sm_i (sm_i (sm_i (sm_i σ 13 (nI (l + 1))) 24 (nI f.1)) 13 (nI (l + 2))) 25 (nI f.2.1)).1 10 = nI tp := i10
  rw [i10c, k_p2]
  refine l_look (by omega) (show tp + 2 < σ.2.2.1 17 by omega) (show σ.2.2.1 17 < 2 ^ 31 by omega) ?_
  intro s4 e4
  have c2 : (sm_i (sm_i (sm_i (sm_i σ 13 (nI (l + 1))) 24 (nI f.1)) 13 (nI (l + 2))) 25 (nI f.2.1)).2.2.2.2 17 (tp + 2) = mkc 0 (nI f.2.2.1) := by show σ.2.2.2.2 17 (tp + 2) = _; rw [h8]; exact q6
  have e13c : (sm_i (sm_i (sm_i (sm_i σ 13 (nI (l + 1))) 24 (nI f.1)) 13 (nI (l + 2))) 25 (nI f.2.1)).1 13 + 1 = nI (l + 3) := nI_1 (l + 2)
  rw [c2, mk_lo (by decide), e13c] at e4
  rw [e4]
  exact hK
end
