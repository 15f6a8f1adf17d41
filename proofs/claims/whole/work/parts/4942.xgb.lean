/-! ===== RETURN GIVE and flying: the class ===== -/
section
variable {σ0 σ σ' σ1 σ2 σA : sm_S} {T : Nat → Nat → Nat} {b : Nat → Nat} {h k lim md cy rch n : Nat} {L : Nat → Prop} {N : Nat → AN} {f g : AF} {r fs : List AF} {fl st B F S R fr : Nat} {C D C0 : Nat → Int64} {s0 : List Nat} {ml ml' : List (Nat × Nat)} {nb : List Nat} {z lv y al al' : Nat → Nat} {fas t : List Nat} {tp m pc ht nx l : Nat} {K : jk}
/-- a value's cell stays good -/
theorem RXg.vt {C' : Nat → Int64} {F' : Nat} {fs' : List AF} {fas' : List Nat} {v : AV} {c : Int64} (x : RXg σ T b h k lim md cy rch L N fs fl B F S R R C C0 s0 ml nb z lv y al fas) (x' : RXg σ' T b h k lim md cy rch L N fs' fl B F' S R R C' C0 s0 ml' nb z lv y al' fas') (he : ∀ i, tcl' ml nb z y (al i) → al' i = al i) (hg : gcl (2 * h + 64) B c) (hv : vcl s0 ml nb al v c) (hL : ∀ k, v = .inr (k + 1) → L k) : vcl s0 ml' nb al' v c := by
  have gI := x.1.2.2.2.2.2.2.2.2.2.1
  rcases v with a | q
  · exact Or.inl ⟨a, rfl, hv.nu⟩
  · cases q with
    | zero =>
      rcases hv with ⟨x, h1, -⟩ | h1 | ⟨k', w, h1, -⟩
      · cases h1
      · exact Or.inr (Or.inl h1)
      · cases h1
    | succ q =>
      obtain ⟨e1, e2, e3, e4⟩ := vcl_can gI hg hv
      have hq := hL q rfl
      have t0 := x.ar hq e4 0 (by omega)
      rw [Nat.add_zero] at t0
      have ea := he q t0
      have := (x'.vc hq (by rw [ea]; exact e2) (by rw [ea]; exact e3) (by rw [ea]; exact e4)).2
      rw [ea] at this
      rw [e1]
      exact this
theorem k_gb {v : AV} {c : Int64} {p1 : Int32} (hw : wf T b) (x : RXg σ T b h k lim md cy rch L N (f :: r) 0 B F S R R C C0 s0 ml nb z lv y al (tp :: t)) (hn : ∀ i, L i → i < n) (hf : frL Ixs σA σ C) (i12 : σ.1 12 = 1) (i22 : σ.1 22 = nI 1) (i23 : σ.1 23 = nI (f :: r).length) (w : WK σ σ T b C tp m pc ht nx l) (hl : l ≤ 100) (hp1 : p1 = 0 ∨ (p1 = 1 ∧ gcl (2 * h + 64) B c ∧ vcl s0 ml nb al v c ∧ ∀ k, v = .inr (k + 1) → L k))
    (hg : ∀ g r', r = g :: r' → g.1 < T 0 1 ∧ inC T g.1 (T 17 g.1 + g.2.1) ∧ T 4 (T 17 g.1 + g.2.1) = 1 ∧ (p1 = 1 → g.2.2.1 < T 16 g.1))
    (h0 : r = [] → sOK σA K T b h k lim md cy rch n N [] 0 2)
    (hK : ∀ g r', r = g :: r' → (p1 = 0 → sOK σA K T b h k lim md cy rch n N ((g.1, g.2.1 + wd (b (T 17 g.1 + g.2.1)), g.2.2.1, g.2.2.2) :: r') 0 1) ∧ (p1 = 1 → sOK σA K T b h k lim md cy rch n N ((g.1, g.2.1 + wd (b (T 17 g.1 + g.2.1)), g.2.2.1 + 1, va_up g.2.2.2 (T 15 g.1 + g.2.2.1) v) :: r') 0 1)) : mp_X7_giveBack σ p1 c (fun s => mp_X7_step_164 K s (-2)) := by
  have hk1 := x.2.2.2.2.2.2.2.2.2.2.2.1
  have k64 := x.2.2.2.2.2.2.2.2.2.2.2.2.1
  have away : ∀ s, mp_X7_step_224 K s (-2) → mp_X7_step_164 K s (-2) := fun s q => ⟨fun _ => ⟨fun _ => q, fun q => absurd (by decide) q⟩, fun q => absurd q (by decide)⟩
  unfold mp_X7_giveBack
  refine k_leave hw x w.2.2.2.2.2.2.2.1 (by omega) (fun er s6 x6 f6 n23 n28 n13 => ?_) (fun g r' er s6 F' C' ml' al' u t' l' x6 f6 n23 n28 n13 hl' ha hml => ?_)
  · refine ⟨fun q => absurd rfl q, fun _ => ?_⟩
    intro s13 e13
    have fe : frL Ie s6 s13 C := by rw [e13]; exact (frL_r.d x6.1.2.2.2.2.2.2.2.2.1).i (by unfold Ie; omega)
    have x13 := x6.fe fe
    have fx : frL Ixs σA s13 C := (hf.t (f6.m (fun k q => by unfold Ilv at q; unfold Ixs; omega))).t (fe.m (fun k q => by unfold Ie at q; unfold Ixs; omega))
    have ni := f6.2.2.2.2.2
    refine away _ (s_end x13 hn fx (by rw [e13]; show s6.1 12 = 1; rw [ni 12 (by unfold Ilv; omega)]; exact i12) (by rw [e13]; exact n13) (by omega) (by rw [e13]; rfl) (by rw [e13]; show s6.1 23 = _; rw [n23, i23, er]; exact nI_pred 0) (by decide) (h0 er))
  · refine ⟨fun _ => ?_, fun q => absurd q (by decide)⟩
    obtain ⟨g1, g2, g3, g4⟩ := hg g r' er
    obtain ⟨o1, o2, o3, o4, o5, o6⟩ := opB hw g1 g2 g3
    obtain ⟨s9, f9, j24, j25, j27, j13, j26, run⟩ := e_load hw x6 n13
    refine run _ ?_
    have tb := x6.tb
    obtain ⟨tv6, fc6⟩ := x6.tv
    have ni := f6.2.2.2.2.2
    have w9 : WK s6 s9 T b C' u g.1 g.2.1 g.2.2.1 nx (l' + 3) := ⟨f9, x6.1.1.L f9 (fun k q => by unfold Irn; omega), (f9.2.2.2.2.2 10 (by unfold Irn; omega)).trans x6.2.2.1.2.2.2.2, j24, j25, j26.trans ((n28 26 (by omega)).trans w.2.2.2.2.2.1), j27, j13, g1, g2.2, fc6.2.2.1, w.2.2.2.2.2.2.2.2.2.2.2.1, by omega, tb.1, by rw [f9.2.1]; exact tb.2.1, by rw [f9.2.1]; exact tb.2.2.1⟩
    have hwd := wd_le (b (T 17 g.1 + g.2.1))
    have fin : ∀ s10 D l10 ht' (vs' : Nat → AV), WK s6 s10 T b D u g.1 g.2.1 ht' nx l10 → l10 ≤ l' + 4 → tv (2 * h + 64) B s0 ml' nb al' C' u D (T 15 g.1 + ht') vs' → (∀ i k, i < T 15 g.1 + ht' → vs' i = .inr (k + 1) → L k) → sOK σA K T b h k lim md cy rch n N ((g.1, g.2.1 + wd (b (T 17 g.1 + g.2.1)), ht', vs') :: r') 0 1 → mp_X7_giveBack_27 (fun s => mp_X7_step_164 K s (-2)) s10 := fun s10 D l10 ht' vs' w10 hl10 tv10 hL10 ok => by
      have hht := w10.2.2.2.2.2.2.2.2.2.2.1
      unfold mp_X7_giveBack_27
      refine k_oper (i := 0) hw w10 (by decide) (by have := g2.2; omega) ?_
      rw [Nat.add_zero]
      refine ⟨vp_in_nI o6 (by decide), ?_⟩
      rw [w10.2.2.1, w10.2.2.2.2.1, nI_clamp (by omega), wd_sz _ o6, nI_add, nI_1, mk_N (by have := g2.2; omega)]
      refine k_put w10 (by omega) (by rw [w10.1.2.1]; omega) (by omega) (fun s11 w11 => ?_)
      rw [w11.2.2.1, w11.2.2.2.2.2.2.1, k_p2, mk_N (by omega)]
      refine k_put w11 (by omega) (by rw [w11.1.2.1]; omega) (by omega) (fun s12 w12 => ?_)
      have f12 : frL Ist s6 s12 _ := w12.1.m (fun k q => by unfold Irn at q; unfold Ist; omega)
      have x12 := x6.tf hw f12 (pc' := g.2.1 + wd (b (T 17 g.1 + g.2.1))) (ht' := ht') (vs' := vs') (fun q hq => by rw [pk_uLn (by omega), pk_uLn (by omega)]; exact tv10.1 q (by omega)) (by rw [pk_uLn (by omega), pk_uLn (by omega)]; exact tv10.1 (u + 3) (by omega)) (by rw [pk_uLn (by omega), pk_uLs]) (by rw [pk_uLs]) (by have := g2.2; omega) hht (fun i hi => by rw [pk_uLn (by omega), pk_uLn (by omega)]; exact tv10.2.2 i hi) (fun i hi => by rw [pk_uLn (by omega), pk_uLn (by omega)]; exact tv10.2.1 i hi) hL10
      have fx : frL Ixs σA s12 _ := (hf.t (f6.m (fun k q => by unfold Ilv at q; unfold Ixs; omega))).t w12.fx
      have nj := w12.1.2.2.2.2.2
      refine away _ (s_end x12 hn fx (by rw [nj 12 (by unfold Irn; omega), ni 12 (by unfold Ilv; omega)]; exact i12) w12.2.2.2.2.2.2.2.1 (by omega) (by rw [nj 22 (by unfold Irn; omega), ni 22 (by unfold Ilv; omega)]; exact i22) ?_ (by decide) ok)
      rw [nj 23 (by unfold Irn; omega), n23, i23, er]
      show nI (r'.length + 1 + 1) - 1 = nI (r'.length + 1)
      exact nI_pred _
    have hL6 := x6.2.1.2.2.2.2.2.2.2 g List.mem_cons_self
    rcases hp1 with e | ⟨e, c1, c2, c3⟩
    · refine ⟨fun _ => ?_, fun q => absurd e q⟩
      exact fin s9 C' _ _ _ w9 (by omega) tv6 hL6 ((hK g r' er).1 e)
    · refine ⟨fun q => absurd q (by rw [e]; decide), fun _ => ?_⟩
      have hh := g4 e
      refine k_push hw w9 hh (by omega) (fun s10 w10 => ?_)
      have tv7 := tv6.up (k := T 15 g.1 + g.2.2.1) (n' := T 15 g.1 + (g.2.2.1 + 1)) (v := v) (c := c) (by omega) c1 (x.vt x6 ha c1 c2 c3) (Or.inr ⟨by omega, rfl⟩)
      rw [show u + 4 + (T 15 g.1 + g.2.2.1) = u + 4 + T 15 g.1 + g.2.2.1 by omega] at tv7
      refine fin s10 _ _ _ _ w10 (by omega) tv7 (fun i k hi hk => ?_) ((hK g r' er).2 e)
      by_cases e2 : i = T 15 g.1 + g.2.2.1
      · rw [e2, va_up_self] at hk
        exact c3 k hk
      · rw [va_up_ne _ _ e2] at hk
        exact hL6 i k (by omega) hk
theorem X_ret (hw : wf T b) (X : XH σ T b h k lim md cy rch n N (f :: r) 0 1) (hm : f.1 < T 0 1) (hin : inC T f.1 (T 17 f.1 + f.2.1)) (h4 : T 4 (T 17 f.1 + f.2.1) = 1) (ho : b (T 17 f.1 + f.2.1) = 37)
    (hg : ∀ g r', r = g :: r' → g.1 < T 0 1 ∧ inC T g.1 (T 17 g.1 + g.2.1) ∧ T 4 (T 17 g.1 + g.2.1) = 1)
    (h0 : r = [] → sOK σ K T b h k lim md cy rch n N [] 0 2)
    (hK : ∀ g r', r = g :: r' → sOK σ K T b h k lim md cy rch n N ((g.1, g.2.1 + wd (b (T 17 g.1 + g.2.1)), g.2.2.1, g.2.2.2) :: r') 0 1) : mp_X7_step σ K := by
  obtain ⟨L, B, F, S, R, C, C0, s0, ml, nb, z, lv, y, al, tp, t, x, hn, i12, i22, i23, f0, hk1, k64⟩ := X.ob
  obtain ⟨o1, o2, o3, o4, o5, o6⟩ := opB hw hm hin h4
  refine x_pre hw x hin o6 (fun σ1 w1 => ?_)
  refine xd_lv (by omega) (by omega) ?_
  rw [ho]
  unfold mp_X7_leaveOrPort
  refine ⟨fun _ => ?_, fun q => absurd q (by decide), fun q => absurd q (by decide), fun q => absurd q (by decide), fun q => absurd rfl q⟩
  have ni := w1.1.2.2.2.2.2
  exact k_gb (v := .inl 0) hw (x.fi w1.1) hn w1.fx (by rw [ni 12 (by unfold Irn; omega)]; exact i12) (by rw [ni 22 (by unfold Irn; omega)]; exact i22) (by rw [ni 23 (by unfold Irn; omega)]; exact i23) w1.re (by omega) (Or.inl rfl) (fun g r' e => ⟨(hg g r' e).1, (hg g r' e).2.1, (hg g r' e).2.2, fun q => absurd q (by decide)⟩) h0 (fun g r' e => ⟨fun _ => hK g r' e, fun q => absurd q (by decide)⟩)
theorem X_give (hw : wf T b) (X : XH σ T b h k lim md cy rch n N (f :: r) 0 1) (hm : f.1 < T 0 1) (hin : inC T f.1 (T 17 f.1 + f.2.1)) (h4 : T 4 (T 17 f.1 + f.2.1) = 1) (ho : b (T 17 f.1 + f.2.1) = 38) (hh : 1 ≤ f.2.2.1 ∧ f.2.2.1 ≤ T 16 f.1)
    (hg : ∀ g r', r = g :: r' → g.1 < T 0 1 ∧ inC T g.1 (T 17 g.1 + g.2.1) ∧ T 4 (T 17 g.1 + g.2.1) = 1 ∧ g.2.2.1 < T 16 g.1)
    (h0 : r = [] → sOK σ K T b h k lim md cy rch n N [] 0 2)
    (hK : ∀ g r', r = g :: r' → sOK σ K T b h k lim md cy rch n N ((g.1, g.2.1 + wd (b (T 17 g.1 + g.2.1)), g.2.2.1 + 1, va_up g.2.2.2 (T 15 g.1 + g.2.2.1) (f.2.2.2 (T 15 f.1 + f.2.2.1 - 1))) :: r') 0 1) : mp_X7_step σ K := by
  obtain ⟨L, B, F, S, R, C, C0, s0, ml, nb, z, lv, y, al, tp, t, x, hn, i12, i22, i23, f0, hk1, k64⟩ := X.ob
  obtain ⟨o1, o2, o3, o4, o5, o6⟩ := opB hw hm hin h4
  refine x_pre hw x hin o6 (fun σ1 w1 => ?_)
  refine xd_lv (by omega) (by omega) ?_
  rw [ho]
  unfold mp_X7_leaveOrPort
  refine ⟨fun q => absurd q (by decide), fun _ => ?_, fun q => absurd q (by decide), fun q => absurd q (by decide), fun _ q => absurd rfl q⟩
  refine k_below (j := 0) hw w1 (by omega) (by omega) (fun σ2 w2 => ?_)
  rw [show tp + 4 + T 15 f.1 + (f.2.2.1 - 1 - 0) = tp + 4 + (T 15 f.1 + f.2.2.1 - 1) by omega]
  have ni := w2.1.2.2.2.2.2
  obtain ⟨tv1, -⟩ := x.tv
  exact k_gb (v := f.2.2.2 (T 15 f.1 + f.2.2.1 - 1)) hw (x.fi w2.1) hn w2.fx (by rw [ni 12 (by unfold Irn; omega)]; exact i12) (by rw [ni 22 (by unfold Irn; omega)]; exact i22) (by rw [ni 23 (by unfold Irn; omega)]; exact i23) w2.re (by omega) (Or.inr ⟨rfl, tv1.2.1 _ (by omega), tv1.2.2 _ (by omega), fun k hk => x.2.1.2.2.2.2.2.2.2 f List.mem_cons_self _ k (by omega) hk⟩) (fun g r' e => ⟨(hg g r' e).1, (hg g r' e).2.1, (hg g r' e).2.2.1, fun _ => (hg g r' e).2.2.2⟩) h0 (fun g r' e => ⟨fun q => absurd q (by decide), fun _ => hK g r' e⟩)
/-- a handler takes what flies -/
def hdl (T : Nat → Nat → Nat) (b : Nat → Nat) (m pc c i : Nat) : Prop := pr b (T 20 m + 7 * i) ≤ pc ∧ pc < pr b (T 20 m + 7 * i + 2) ∧ isA T c (b (T 20 m + 7 * i + 4))
theorem l_fly {c : Nat} {K : sm_S → Prop} (hw : wf T b) (im : imX σ T b) (hm : m < T 0 1) (i24 : σ.1 24 = nI m) (i25 : σ.1 25 = nI pc) (hpc : pc < 2 ^ 16) (hc : c < T 0 0)
    (h1 : ∀ i, i < T 19 m → hdl T b m pc c i → (∀ i', i' < i → ¬ hdl T b m pc c i') → mp_X7_slot σ 0 (fun r9 σ8 => mp_X1_cell σ8 1 (σ8.1 11) (fun r11 σ10 => mp_X1_put σ10 r9 r11 (fun σ12 => mp_X2_pair σ12 (nI (T 20 m + 7 * i) + 5) (fun r14 σ13 => mp_X1_put σ13 ((σ12.1 10) + 1) r14.toInt64 (fun σ15 => mp_X1_put σ15 ((σ15.1 10) + 2) 1 (fun σ16 => ∀ σ17 : sm_S, σ17 = sm_i σ16 11 0 → K σ17)))))))
    (h0 : (∀ i', i' < T 19 m → ¬ hdl T b m pc c i') → mp_X7_leaveTop σ (fun r21 σ20 => ((¬ r21 = 0 → (mp_X7_fly_215 K σ20)) ∧ (r21 = 0 → (∀ σ23 : sm_S, σ23 = sm_i σ20 22 3 → mp_X7_fly_215 K σ23))))) : ∀ (d i : Nat), i + d = T 19 m → (∀ i', i' < i → ¬ hdl T b m pc c i') → mp_X7_fly_22 K (d + 1) σ (nI c) (nI i) := by
  have w64 := hw.2.2.2.1
  have w32 := hw.2.1
  have w8 := hw.2.2.2.2.1
  have yy := hw.2.2.2.2.2.2.2.2.1 m hm
  have y10 := yy.2.2.2.2.2.2.2.2.2.1
  have y12 := yy.2.2.2.2.2.2.2.2.2.2.2.1
  have y13 := yy.2.2.2.2.2.2.2.2.2.2.2.2.1
  clear yy
  have hLX := im.2.1
  have r28 := (im.2.2.2.2.2.2.2.2 m hm).2.2.2.2.2.2.2.2.1
  have r29 := (im.2.2.2.2.2.2.2.2 m hm).2.2.2.2.2.2.2.2.2.1
  have prb : ∀ p, pr b p < 2 ^ 16 := fun p => by
    have q1 := im.1.2.2.2.2.1 p
    have q2 := im.1.2.2.2.2.1 (p + 1)
    unfold pr
    omega
  intro d
  induction d with
  | zero =>
    intro i e hi
    unfold mp_X7_fly_22
    rw [i24, nI_clamp (by omega), r28]
    refine ⟨by rw [show σ.2.2.1 28 = 64 from hLX.2.2.2.2.2.2.2.2.2.2.2.2.2.2.1]; exact vp_in_nI (by omega) (by decide), fun _ => h0 (fun i' h => hi i' (by omega)), fun q => absurd ((nI_leI (by omega) (by omega)).mpr (by omega)) q⟩
  | succ d ih =>
    intro i e hi
    unfold mp_X7_fly_22
    rw [i24, nI_clamp (by omega), r28]
    refine ⟨by rw [show σ.2.2.1 28 = 64 from hLX.2.2.2.2.2.2.2.2.2.2.2.2.2.2.1]; exact vp_in_nI (by omega) (by decide), fun q => absurd ((nI_leI (by omega) (by omega)).mp q) (by omega), fun _ => ?_⟩
    refine ⟨by rw [show σ.2.2.1 29 = 64 from hLX.2.2.2.2.2.2.2.2.2.2.2.2.2.2.2]; exact vp_in_nI (by omega) (by decide), ?_⟩
    intro v25 e25
    rw [r29, l_7, pk_mul, nI_add, show T 20 m + i * 7 = T 20 m + 7 * i by omega] at e25
    rw [e25]
    have no : ¬ hdl T b m pc c i → mp_X7_fly_197 (mp_X7_fly_22 K (d + 1)) K σ (nI c) (nI i) := fun hn => by
      unfold mp_X7_fly_197
      intro v1 e1
      rw [e1, nI_1]
      refine ih (i + 1) (by omega) (fun i' h => ?_)
      by_cases e : i' = i
      · rw [e]; exact hn
      · exact hi i' (by omega)
    have no2 : ¬ hdl T b m pc c i → mp_X7_fly_92 (mp_X7_fly_22 K (d + 1)) K σ (nI c) (nI i) (nI (T 20 m + 7 * i)) := fun hn => by
      unfold mp_X7_fly_92 mp_X7_fly_93
      exact ⟨fun _ => no hn, fun q => absurd rfl q⟩
    refine w_pairP im.1 (by omega) ?_
    rw [i25]
    have p0 := prb (T 20 m + 7 * i)
    have p2 := prb (T 20 m + 7 * i + 2)
    by_cases c1 : pr b (T 20 m + 7 * i) ≤ pc
    · refine ⟨fun q => absurd ((nI_ltI (by omega) (by omega)).mp q) (by omega), fun _ => ?_⟩
      rw [k_p2]
      refine w_pairP im.1 (by omega) ?_
      by_cases c2 : pc < pr b (T 20 m + 7 * i + 2)
      · refine ⟨fun q => absurd ((nI_leI (by omega) (by omega)).mp q) (by omega), fun _ => ?_⟩
        unfold mp_X7_fly_93
        refine ⟨fun q => absurd q (by decide), fun _ => ?_⟩
        rw [l_4, nI_add]
        refine w_at im.1 (by omega) (fun _ => ?_) (fun z => absurd z (by omega))
        have hb4 := y13 i (by omega)
        refine w_iob im hw hc (by omega) (fun z => ⟨fun q => absurd q (by decide), fun _ => ?_⟩) (fun z => ⟨fun _ => no (fun q => z q.2.2), fun q => absurd rfl q⟩)
        exact h1 i (by omega) ⟨c1, c2, z⟩ hi
      · exact ⟨fun _ => no2 (fun q => c2 q.2.1), fun q => absurd ((nI_leI (by omega) (by omega)).mpr (by omega)) q⟩
    · exact ⟨fun _ => no2 (fun q => c1 q.1), fun q => absurd ((nI_ltI (by omega) (by omega)).mpr (by omega)) q⟩
theorem e_put {I : Nat → Prop} {a : Nat} {c : Int64} {K : sm_S → Prop} (hf : frL I σ0 σ D) (hI : I 13) (i13 : σ.1 13 = nI l) (h1 : 1 ≤ a) (h2 : a < σ.2.2.1 17) (h3 : σ.2.2.1 17 < 2 ^ 31) (hK : ∀ s', frL I σ0 s' (vp_updL D a c) → s'.1 13 = nI (l + 1) → (∀ kk, kk ≠ 13 → s'.1 kk = σ.1 kk) → K s') : mp_X1_put σ (nI a) c K := by
  refine l_put h1 h2 h3 ?_
  rw [hf.2.2.2.2.1, i13, nI_1]
  exact hK _ ((hf.i hI).q) rfl (fun kk hk => va_up_ne _ _ hk)
theorem X_fly {q : Nat} (hw : wf T b) (X : XH σ T b h k lim md cy rch n N (f :: r) (q + 1) 1) (hm : f.1 < T 0 1) (kq : (N q).1 = 2) (hh : ∀ i, i < T 19 f.1 → hdl T b f.1 f.2.1 (N q).2.1 i → 1 ≤ T 16 f.1)
    (h1 : ∀ i, i < T 19 f.1 → hdl T b f.1 f.2.1 (N q).2.1 i → (∀ i', i' < i → ¬ hdl T b f.1 f.2.1 (N q).2.1 i') → sOK σ K T b h k lim md cy rch n N ((f.1, pr b (T 20 f.1 + 7 * i + 5), 1, va_up f.2.2.2 (T 15 f.1) (.inr (q + 1))) :: r) 0 1)
    (h0 : (∀ i', i' < T 19 f.1 → ¬ hdl T b f.1 f.2.1 (N q).2.1 i') → sOK σ K T b h k lim md cy rch n N r (q + 1) (if r = [] then 3 else 1)) : mp_X7_step σ K := by
  obtain ⟨L, B, F, S, R, C, C0, s0, ml, nb, z, lv, y, al, tp, t, x, hn, i12, i22, i23, f0, hk1, k64⟩ := X.ob
  have yy := hw.2.2.2.2.2.2.2.2.1 f.1 hm
  have o5 := yy.2.2.2.2.2.2.1
  have y12 := yy.2.2.2.2.2.2.2.2.2.2.2.1
  clear yy
  have w64 := hw.2.2.2.1
  have w8 := hw.2.2.2.2.1
  have gI := x.1.2.2.2.2.2.2.2.2.2.1
  have tb := x.tb
  obtain ⟨tv0, fc⟩ := x.tv
  obtain ⟨fq, fL, f11, ftc⟩ : q + 1 ≠ 0 ∧ L q ∧ σ.1 11 = nI (al q) ∧ tcl' ml nb z y (al q) := by
    rcases x.2.2.2.2.1 with e | e
    · exact absurd e.1 (by omega)
    · exact e
  have bq := x.bd ftc
  have hcq := (x.2.1.1 q fL).1 kq
  have hd : hdv (N q) = mkc 2 (nI (N q).2.1) := by unfold hdv; rw [if_pos kq]
  have ne11 : ¬ nI (al q) = 0 := nI_ne0 (by omega) (by omega)
  unfold mp_X7_step mp_X1_beginStep
  intro s1 e1 v12 ev
  rw [ev]
  have j11 : s1.1 11 = nI (al q) := by rw [e1]; exact f11
  rw [j11]
  refine ⟨fun z => absurd z ne11, fun _ => ?_⟩
  have fs1 : frL Irn σ s1 C := by rw [e1, ← x.1.2.2.2.2.2.2.2.2.1]; exact frL_r.i (by unfold Irn; omega)
  have x1 := x.fi fs1
  obtain ⟨s9, f9, j24, j25, j27, j13, j26, run⟩ := e_load (l := 0) hw x1 (by rw [e1]; rfl)
  unfold mp_X7_fly
  refine run _ ?_
  have k11 : s9.1 11 = nI (al q) := (f9.2.2.2.2.2 11 (by unfold Irn; omega)).trans j11
  have l9 : s9.2.2.1 17 = σ.2.2.1 17 := by rw [f9.2.1, fs1.2.1]
  rw [k11]
  refine l_look bq.1 (by omega) (by omega) ?_
  have c9 : s9.2.2.2.2 17 = C := f9.2.2.2.2.1
  rw [c9, x.hd fL, hd, mk_lo (by decide), j13, nI_1]
  obtain ⟨s2, e2⟩ : ∃ s2, s2 = sm_i s9 13 (nI (0 + 3 + 1)) := ⟨_, rfl⟩
  rw [← e2]
  have f2 : frL Irn σ s2 C := by rw [e2]; exact (fs1.t f9).i (by unfold Irn; omega)
  have x2 := x.fi f2
  have i2' : ∀ kk, kk ≠ 13 → s2.1 kk = s9.1 kk := fun kk hk => by rw [e2]; exact va_up_ne _ _ hk
  have m13 : s2.1 13 = nI 4 := by rw [e2]; rfl
  have im2 := x2.1.1
  have i102 : s2.1 10 = nI tp := x2.2.2.1.2.2.2.2
  have l2 : s2.2.2.1 17 = σ.2.2.1 17 := by rw [f2.2.1]
  refine ⟨T 19 f.1 + 1, l_fly (m := f.1) (pc := f.2.1) hw im2 hm ((i2' 24 (by decide)).trans j24) ((i2' 25 (by decide)).trans j25) fc.2.1 hcq (fun i hi hi1 hi2 => ?_) (fun hno => ?_) (T 19 f.1) 0 (by omega) (fun i' h => absurd h (by omega))⟩
  · have h16 := hh i hi hi1
    have r24 := (im2.2.2.2.2.2.2.2.2 f.1 hm).2.2.2.2.1
    unfold mp_X7_slot
    rw [(i2' 24 (by decide)).trans j24, nI_clamp (by omega), r24, i102, l_4, nI_add, nI_add, Int32.add_zero]
    refine ⟨by rw [lx24 im2.2.1]; exact vp_in_nI (by omega) (by decide), ?_⟩
    unfold mp_X1_cell
    dsimp only
    rw [(i2' 11 (by decide)).trans k11]
    refine e_put (I := Irn) (σ0 := σ) (l := 4) (a := tp + 4 + T 15 f.1) f2 (by unfold Irn; omega) m13 (by omega) (by omega) (by omega) (fun s3 g3 u3 v3 => ?_)
    have l3 : s3.2.2.1 17 = σ.2.2.1 17 := by rw [g3.2.1]
    have im3 : imX s3 T b := x.1.1.L g3 (fun k q => by unfold Irn; omega)
    rw [k_p5]
    refine w_pairP im3.1 (by omega) ?_
    have pb : pr b (T 20 f.1 + 7 * i + 5) < 2 ^ 16 := by
      have q1 := im3.1.2.2.2.2.1 (T 20 f.1 + 7 * i + 5)
      have q2 := im3.1.2.2.2.2.1 (T 20 f.1 + 7 * i + 5 + 1)
      unfold pr
      omega
    rw [(v3 10 (by decide)).trans i102, nI_1, mk_N (by omega)]
    refine e_put (I := Irn) (σ0 := σ) (l := 5) g3 (by unfold Irn; omega) u3 (by omega) (by omega) (by omega) (fun s4 g4 u4 v4 => ?_)
    have l4 : s4.2.2.1 17 = σ.2.2.1 17 := by rw [g4.2.1]
    rw [((v4 10 (by decide)).trans (v3 10 (by decide))).trans i102, k_p2, mk_1]
    refine e_put (I := Irn) (σ0 := σ) (l := 6) g4 (by unfold Irn; omega) u4 (by omega) (by omega) (by omega) (fun s5 g5 u5 v5 => ?_)
    intro s6 e6
    have ne0 : al q ≠ 0 := by omega
    have lt30 : al q < 2 ^ 30 := by omega
    have nl : ¬ ldb (2 * h + 64) B 1 (al q) := fun zz => by
      have := gI.tc ftc
      have := zz.2.2
      omega
    obtain ⟨v1, v2⟩ := x.vc fL ne0 lt30 nl
    have tv1 := (tv0.le (n' := T 15 f.1) (by omega)).up (k := T 15 f.1) (n' := T 15 f.1 + 1) (by omega) v1 v2 (Or.inr ⟨rfl, rfl⟩)
    have x5 := x.tf hw (g5.m (fun k q => by unfold Irn at q; unfold Ist; omega)) (pc' := pr b (T 20 f.1 + 7 * i + 5)) (ht' := 1) (vs' := va_up f.2.2.2 (T 15 f.1) (.inr (q + 1))) (fun u hu => by rw [pk_uLn (by omega), pk_uLn (by omega)]; exact tv1.1 u (by omega)) (by rw [pk_uLn (by omega), pk_uLn (by omega)]; exact tv1.1 (tp + 3) (by omega)) (by rw [pk_uLn (by omega), pk_uLs]) (by rw [pk_uLs]; rfl) pb h16 (fun i hi => by rw [pk_uLn (by omega), pk_uLn (by omega)]; exact tv1.2.2 i hi) (fun i hi => by rw [pk_uLn (by omega), pk_uLn (by omega)]; exact tv1.2.1 i hi) (fun i k hi hk => by
      by_cases e : i = T 15 f.1
      · rw [e, va_up_self] at hk; cases hk; exact fL
      · rw [va_up_ne _ _ e] at hk
        exact x.2.1.2.2.2.2.2.2.2 f List.mem_cons_self i k (by omega) hk)
    have x6 := x5.f0 (v := 0) rfl
    rw [← e6] at x6
    have fx5 := (g5.m (J := Ixs) (fun k q => by unfold Irn at q; unfold Ixs; omega)).i (k := 11) (v := 0) (by unfold Ixs; omega)
    rw [← e6] at fx5
    have nj := g5.2.2.2.2.2
    refine s_end x6 hn fx5 (by rw [e6]; show s5.1 12 = 1; rw [nj 12 (by unfold Irn; omega)]; exact i12) (by rw [e6]; exact u5) (by omega) (by rw [e6]; show s5.1 22 = _; rw [nj 22 (by unfold Irn; omega)]; exact i22) ?_ (by decide) (h1 i hi hi1 hi2)
    rw [e6]
    show s5.1 23 = _
    rw [nj 23 (by unfold Irn; omega)]
    exact i23
  · have g12 : s2.1 12 = 1 := by rw [f2.2.2.2.2.2 12 (by unfold Irn; omega)]; exact i12
    have g22 : s2.1 22 = nI 1 := by rw [f2.2.2.2.2.2 22 (by unfold Irn; omega)]; exact i22
    have g23 : s2.1 23 = nI (f :: r).length := by rw [f2.2.2.2.2.2 23 (by unfold Irn; omega)]; exact i23
    have fx2 : frL Ixs σ s2 C := f2.m (fun k q => by unfold Irn at q; unfold Ixs; omega)
    have ok := h0 hno
    refine k_leave hw x2 m13 (by decide) (fun er s6 x6 f6 n23 n28 n13 => ?_) (fun g r' er s6 F' C' ml' al' u t' l' x6 f6 n23 n28 n13 hl' ha hml => ?_)
    · refine ⟨fun q => absurd rfl q, fun _ => ?_⟩
      intro s13 e13
      unfold mp_X7_fly_215
      have fe : frL Ie s6 s13 C := by rw [e13]; exact (frL_r.d x6.1.2.2.2.2.2.2.2.2.1).i (by unfold Ie; omega)
      have x13 := x6.fe fe
      have fx : frL Ixs σ s13 C := (fx2.t (f6.m (fun k q => by unfold Ilv at q; unfold Ixs; omega))).t (fe.m (fun k q => by unfold Ie at q; unfold Ixs; omega))
      have ni := f6.2.2.2.2.2
      rw [if_pos er, er] at ok
      exact s_end x13 hn fx (by rw [e13]; show s6.1 12 = 1; rw [ni 12 (by unfold Ilv; omega)]; exact g12) (by rw [e13]; exact n13) (by omega) (by rw [e13]; rfl) (by rw [e13]; show s6.1 23 = _; rw [n23, g23, er]; exact nI_pred 0) (by decide) ok
    · refine ⟨fun _ => ?_, fun q => absurd q (by decide)⟩
      unfold mp_X7_fly_215
      have fx : frL Ixs σ s6 C' := fx2.t (f6.m (fun k q => by unfold Ilv at q; unfold Ixs; omega))
      have ni := f6.2.2.2.2.2
      rw [if_neg (by rw [er]; exact List.cons_ne_nil _ _), er] at ok
      refine s_end x6 hn fx (by rw [ni 12 (by unfold Ilv; omega)]; exact g12) n13 (by omega) (by rw [ni 22 (by unfold Ilv; omega)]; exact g22) ?_ (by decide) ok
      rw [n23, g23, er]
      exact nI_pred _
end
