/-! ===== a step of the class: simple instructions, all of it ===== -/
theorem RXg.lj {σ : sm_S} {a : Nat → Int64} {T : Nat → Nat → Nat} {b : Nat → Nat} {h k lim md cy rch : Nat} {L : Nat → Prop} {N : Nat → AN} {fs : List AF} {fl B F S R fr : Nat} {C C0 : Nat → Int64} {s0 : List Nat} {ml : List (Nat × Nat)} {nb : List Nat} {z lv y al : Nat → Nat} {fas : List Nat} (x : RXg (σ.1, a, σ.2.2) T b h k lim md cy rch L N fs fl B F S R fr C C0 s0 ml nb z lv y al fas) : RXg σ T b h k lim md cy rch L N fs fl B F S R fr C C0 s0 ml nb z lv y al fas := x
/-- what a step leaves of the rest -/
def stR (σ σ' : sm_S) (E : Nat → Int64) : Prop := frL Ist σ (σ'.1, σ.2.1, σ'.2.2) E ∧ σ'.2.1 = va_up σ.2.1 1 (σ.2.1 1 + 1) ∧ σ'.1 12 = 1
theorem x_done {σ0 σ : sm_S} {T : Nat → Nat → Nat} {b : Nat → Nat} {h k lim md cy rch : Nat} {L : Nat → Prop} {N : Nat → AN} {f : AF} {r : List AF} {B F S R : Nat} {C D C0 : Nat → Int64} {s0 : List Nat} {ml : List (Nat × Nat)} {nb : List Nat} {z lv y al : Nat → Nat} {tp : Nat} {t : List Nat} {pc ht nx l : Nat} {vs' : Nat → AV} {K : jk} (hw : wf T b) (x : RXg σ0 T b h k lim md cy rch L N (f :: r) 0 B F S R R C C0 s0 ml nb z lv y al (tp :: t)) (i12 : σ0.1 12 = 1) (w : WK σ0 σ T b D tp f.1 pc ht nx l) (hl : l + 2 ≤ 700 * k + 200) (hv : tv (2 * h + 64) B s0 ml nb al C tp D (T 15 f.1 + ht) vs') (hL : ∀ i k, i < T 15 f.1 + ht → vs' i = .inr (k + 1) → L k)
    (hK : ∀ σ' E, RXg σ' T b h k lim md cy rch L N ((f.1, nx, ht, vs') :: r) 0 B F S R R E C0 s0 ml nb z lv y al (tp :: t) → stR σ0 σ' E → K 1 σ') : mp_X7_step_164 K σ (-1) := by
  have t12 := w.t12 hw
  have h14 := w.2.2.2.2.2.2.2.2.2.2.2.2.2.1
  have h15 := w.2.2.2.2.2.2.2.2.2.2.2.2.2.2.1
  have hA := x.2.2.2.2.2.2.2.2.2
  have hk1 := hA.2.2.1
  have hk2 := hA.2.2.2.1
  have hht := w.2.2.2.2.2.2.2.2.2.2.1
  unfold mp_X7_step_164
  refine ⟨fun q => absurd rfl q, fun _ => ?_⟩
  rw [w.2.2.1, w.2.2.2.2.2.1, mk_N (by have := w.2.2.2.2.2.2.2.2.2.2.2.1; omega), nI_1]
  refine k_put w (by omega) (by omega) (by omega) (fun σ1 w1 => ?_)
  have len1 : σ1.2.2.1 17 = σ.2.2.1 17 := by rw [w1.1.2.1, w.1.2.1]
  rw [w1.2.2.1, w1.2.2.2.2.2.2.1, mk_N (by omega), k_p2]
  refine k_put w1 (by omega) (by omega) (by omega) (fun σ2 w2 => ?_)
  have f2 : frL Ist σ0 σ2 (vp_updL (vp_updL D (tp + 1) (mkc 0 (nI nx))) (tp + 2) (mkc 0 (nI ht))) := w2.1.m (fun k q => by unfold Irn at q; unfold Ist; omega)
  have j6 : σ2.1 6 = nI k := by rw [w2.1.2.2.2.2.2 6 (by unfold Irn; omega)]; exact x.2.2.1.1
  have j12 : σ2.1 12 = 1 := by rw [w2.1.2.2.2.2.2 12 (by unfold Irn; omega)]; exact i12
  refine k_end (T := T) (b := b) f2 j6 hk2 j12 w2.2.2.2.2.2.2.2.1 (by omega) (by decide) (fun σ' g1 g2 g3 => ?_)
  have e21 : σ2.2.1 = σ0.2.1 := w2.1.1
  rw [e21] at g1 g2
  refine hK σ' _ (RXg.lj (x.tf hw g1 (fun u hu => ?_) ?_ ?_ ?_ (w.2.2.2.2.2.2.2.2.2.2.2.1) hht (fun i hi => ?_) (fun i hi => ?_) hL)) ⟨g1, g2, g3⟩
  · rw [pk_uLn (by omega), pk_uLn (by omega)]; exact hv.1 u (by omega)
  · rw [pk_uLn (by omega), pk_uLn (by omega)]; exact hv.1 (tp + 3) (by omega)
  · rw [pk_uLn (by omega), pk_uLs]
  · rw [pk_uLs]
  · rw [pk_uLn (by omega), pk_uLn (by omega)]; exact hv.2.2 i hi
  · rw [pk_uLn (by omega), pk_uLn (by omega)]; exact hv.2.1 i hi
/-- what is done for an instruction -/
def XD (K : jk) (σ18 : sm_S) (r16 : Int32) : Prop := (((6 : Int32) < r16 → (((18 : Int32) < r16 → (((25 : Int32) < r16 → (((30 : Int32) < r16 → (((34 : Int32) < r16 → (((36 : Int32) < r16 → (mp_X7_leaveOrPort σ18 r16 (fun r26 σ25 => mp_X7_step_164 K σ25 r26))) ∧ (¬ (36 : Int32) < r16 → ((¬ r16 = 35 → (mp_X7_send σ18 (fun r29 σ28 => mp_X7_step_154 K σ28 r29))) ∧ (r16 = 35 → (mp_X7_operand σ18 1 (fun r31 σ30 => mp_X7_enter σ30 r31 (fun r33 σ32 => mp_X7_step_154 K σ32 r33)))))))) ∧ (¬ (34 : Int32) < r16 → (mp_X7_useRow σ18 r16 (fun r35 σ34 => mp_X7_step_164 K σ34 r35))))) ∧ (¬ (30 : Int32) < r16 → (mp_X7_useObject σ18 r16 (fun r37 σ36 => mp_X7_step_164 K σ36 r37))))) ∧ (¬ (25 : Int32) < r16 → (mp_X7_jump σ18 r16 (fun r39 σ38 => mp_X7_step_164 K σ38 r39))))) ∧ (¬ (18 : Int32) < r16 → (mp_X7_reckon σ18 r16 (fun r41 σ40 => mp_X7_step_164 K σ40 r41))))) ∧ (¬ (6 : Int32) < r16 → (mp_X7_moveValues σ18 r16 (fun r43 σ42 => mp_X7_step_164 K σ42 r43))))
/-- the values of the top frame, as a step begins -/
theorem RXg.tv {σ : sm_S} {T : Nat → Nat → Nat} {b : Nat → Nat} {h k lim md cy rch : Nat} {L : Nat → Prop} {N : Nat → AN} {f : AF} {r : List AF} {fl B F S R fr : Nat} {C C0 : Nat → Int64} {s0 : List Nat} {ml : List (Nat × Nat)} {nb : List Nat} {z lv y al : Nat → Nat} {tp : Nat} {t : List Nat} (x : RXg σ T b h k lim md cy rch L N (f :: r) fl B F S R fr C C0 s0 ml nb z lv y al (tp :: t)) : tv (2 * h + 64) B s0 ml nb al C tp C (T 15 f.1 + f.2.2.1) f.2.2.2 ∧ frc T C s0 ml nb al f tp (t.headD 0) := by
  obtain ⟨x1, x2, -, x4, -⟩ := x
  have g := x1.2.2.2.2.2.2.2.2.2.1
  obtain ⟨tc, st⟩ := x4 (fun q => by cases q)
  obtain ⟨u, t', e, fc, -⟩ := x2.2.2.2.2.2.1
  obtain ⟨eu, et⟩ := List.cons.inj e
  subst eu
  subst et
  refine ⟨⟨fun _ _ => rfl, fun i hi => ⟨?_, fun w hw' hc => ?_⟩, fc.2.2.2.2.2.2.2⟩, fc⟩
  · have := (g.tc (tc (4 + i) (by omega))).2.2
    have e : tp + 4 + i = tp + (4 + i) := by omega
    rw [e]; exact this
  · have := st (4 + i) w (by omega) hw'
    refine this ?_
    show C (tp + (4 + i)) = _
    rw [show tp + (4 + i) = tp + 4 + i by omega]; exact hc
theorem x_pre {σ : sm_S} {T : Nat → Nat → Nat} {b : Nat → Nat} {h k lim md cy rch : Nat} {L : Nat → Prop} {N : Nat → AN} {f : AF} {r : List AF} {B F S R : Nat} {C C0 : Nat → Int64} {s0 : List Nat} {ml : List (Nat × Nat)} {nb : List Nat} {z lv y al : Nat → Nat} {tp : Nat} {t : List Nat} {K : jk} (hw : wf T b) (x : RXg σ T b h k lim md cy rch L N (f :: r) 0 B F S R R C C0 s0 ml nb z lv y al (tp :: t)) (hin : inC T f.1 (T 17 f.1 + f.2.1)) (ho : b (T 17 f.1 + f.2.1) < 42)
    (hK : ∀ σ1, WK σ σ1 T b C tp f.1 f.2.1 f.2.2.1 (f.2.1 + wd (b (T 17 f.1 + f.2.1))) 3 → XD K σ1 (nI (b (T 17 f.1 + f.2.1)))) : mp_X7_step σ K := by
  have w4 := hw.2.2.2.1
  have w5 := hw.2.2.2.2.1
  obtain ⟨tv0, fc⟩ := x.tv
  obtain ⟨q1, q2, q3, q4, q5, q6, -⟩ := fc
  have i11 : σ.1 11 = 0 := by
    rcases x.2.2.2.2.1 with q | q
    · exact q.2
    · exact absurd rfl q.1
  have i10 : σ.1 10 = nI tp := x.2.2.1.2.2.2.2
  have x1 := x.1
  have g := x1.2.2.2.2.2.2.2.2.2.1
  have tc := (x.2.2.2.1 (fun q => by cases q)).1
  have b15 := g.tc (tc 15 (by decide))
  have b0 := g.tc (tc 0 (by decide))
  have b15 : tp + 15 < B + (2 * h + 64) := b15.2.1
  have b0 : B ≤ tp + 0 := b0.1
  have ob := g.ob
  have h6 := x1.2.2.2.2.2.2.1
  have h7 := x1.2.2.2.2.2.2.2.1
  have h8 := x1.2.2.2.2.2.2.2.2.1
  have y := hw.2.2.2.2.2.2.2.2.1 f.1 q1
  have h12 := y.2.2.2.2.2.2.1
  have y9 := y.2.2.2.2.2.2.2.2.1
  have y11 := y.2.2.2.2.2.2.2.2.2.2.1
  have y12 := y.2.2.2.2.2.2.2.2.2.2.2.1
  clear y
  have hwd := wd_le (b (T 17 f.1 + f.2.1))
  unfold mp_X7_step mp_X1_beginStep
  intro s1 e1 v12 ev
  rw [e1]
  refine ⟨fun _ => ?_, fun q => absurd i11 q⟩
  -- the three looks
  unfold mp_X7_loadTop
  have i10a : (sm_i σ 13 0).1 10 = nI tp := i10
  rw [i10a]
  refine l_look (by omega) (show tp < σ.2.2.1 17 by omega) (show σ.2.2.1 17 < 2 ^ 31 by omega) ?_
  intro s2 e2
  have c0 : (sm_i σ 13 0).2.2.2.2 17 tp = mkc 5 (nI f.1) := by show σ.2.2.2.2 17 tp = _; rw [h8]; exact q4
  rw [c0, mk_lo (by decide)] at e2
  have e13 : (sm_i σ 13 0).1 13 + 1 = nI 1 := rfl
  rw [e13] at e2
  rw [e2]
  have i10b : (sm_i (sm_i (sm_i σ 13 0) 13 (nI 1)) 24 (nI f.1)).1 10 = nI tp := i10
  rw [i10b, nI_1]
  refine l_look (by omega) (show tp + 1 < σ.2.2.1 17 by omega) (show σ.2.2.1 17 < 2 ^ 31 by omega) ?_
  intro s3 e3
  have c1 : (sm_i (sm_i (sm_i σ 13 0) 13 (nI 1)) 24 (nI f.1)).2.2.2.2 17 (tp + 1) = mkc 0 (nI f.2.1) := by show σ.2.2.2.2 17 (tp + 1) = _; rw [h8]; exact q5
  rw [c1, mk_lo (by decide)] at e3
  have e13b : (sm_i (sm_i (sm_i σ 13 0) 13 (nI 1)) 24 (nI f.1)).1 13 + 1 = nI 2 := rfl
  rw [e13b] at e3
  rw [e3]
  have i10c : (sm_i (sm_i (sm_i (sm_i (sm_i σ 13 0) 13 (nI 1)) 24 (nI f.1)) 13 (nI 2)) 25 (nI f.2.1)).1 10 = nI tp := i10
  rw [i10c, k_p2]
  refine l_look (by omega) (show tp + 2 < σ.2.2.1 17 by omega) (show σ.2.2.1 17 < 2 ^ 31 by omega) ?_
  intro s4 e4
  have c2 : (sm_i (sm_i (sm_i (sm_i (sm_i σ 13 0) 13 (nI 1)) 24 (nI f.1)) 13 (nI 2)) 25 (nI f.2.1)).2.2.2.2 17 (tp + 2) = mkc 0 (nI f.2.2.1) := by show σ.2.2.2.2 17 (tp + 2) = _; rw [h8]; exact q6
  rw [c2, mk_lo (by decide)] at e4
  have e13c : (sm_i (sm_i (sm_i (sm_i (sm_i σ 13 0) 13 (nI 1)) 24 (nI f.1)) 13 (nI 2)) 25 (nI f.2.1)).1 13 + 1 = nI 3 := rfl
  rw [e13c] at e4
  have fs4 : frL Irn σ s4 C := by
    rw [e4, ← h8]
    exact ((((((frL_r.i (by unfold Irn; omega)).i (by unfold Irn; omega)).i (by unfold Irn; omega)).i (by unfold Irn; omega)).i (by unfold Irn; omega)).i (by unfold Irn; omega)).i (by unfold Irn; omega)
  have j24 : s4.1 24 = nI f.1 := by rw [e4]; rfl
  have j25 : s4.1 25 = nI f.2.1 := by rw [e4]; rfl
  have j27 : s4.1 27 = nI f.2.2.1 := by rw [e4]; rfl
  have j13 : s4.1 13 = nI 3 := by rw [e4]; rfl
  have j10 : s4.1 10 = nI tp := by rw [e4]; exact i10
  have len4 : s4.2.2.1 17 = σ.2.2.1 17 := by rw [e4]
  have im4 : imX s4 T b := x1.1.L fs4 (fun k q => by unfold Irn; omega)
  clear e4 e3 e2 e1
  have wk : ∀ v, v < 2 ^ 16 → WK σ (sm_i s4 26 (nI v)) T b C tp f.1 f.2.1 f.2.2.1 v 3 := fun v hv => ⟨fs4.i (by unfold Irn; omega), im4.f (I := Irn) (A := A0) (fr_r.i (by unfold Irn; omega)) (fun k q => by unfold Irn; omega) (fun r j _ _ _ q => q), j10, j24, j25, rfl, j27, j13, q1, hin.2, q3, hv, by decide, by omega, by show tp + 16 ≤ s4.2.2.1 17; omega, by show s4.2.2.1 17 < 2 ^ 30; omega⟩
  have hin2 := hin.2
  unfold mp_X7_operand
  have hLX := im4.2.1
  have r26 := (im4.2.2.2.2.2.2.2.2 f.1 q1).2.2.2.2.2.2.1
  rw [j24, nI_clamp (by omega), r26, j25, l_0, nI_add, nI_add]
  refine ⟨by rw [lx26 hLX]; exact vp_in_nI (by omega) (by decide), ?_⟩
  rw [Nat.add_zero]
  refine w_at im4.1 (by omega) (fun _ => ?_) (fun z => absurd z (by omega))
  refine ⟨vp_in_nI ho (by decide), ?_⟩
  intro s5 e5
  rw [j25, nI_clamp (by omega), wd_sz _ ho, nI_add] at e5
  rw [e5]
  exact hK _ (wk _ (by omega))
