/-! ===== objects: the class, GET PUT IS CAST ===== -/
section
variable {σ0 σ σ' σ1 σ2 : sm_S} {T : Nat → Nat → Nat} {b : Nat → Nat} {h k lim md cy rch n : Nat} {L : Nat → Prop} {N : Nat → AN} {f : AF} {r fs : List AF} {fl st B F S R fr : Nat} {C D C0 : Nat → Int64} {s0 : List Nat} {ml : List (Nat × Nat)} {nb : List Nat} {z lv y al : Nat → Nat} {fas t : List Nat} {tp m pc ht nx l : Nat} {K : jk}
/-- a part of a node is written -/
theorem RXg.wn {q j : Nat} {v : AV} {c : Int64} (hw : wf T b) (x : RXg σ T b h k lim md cy rch L N fs fl B F S R fr C C0 s0 ml nb z lv y al fas) (hq : L q) (hj : j < npt T (N q)) (htc : tcl' ml nb z y (al q + 1 + j)) (hnl : ∀ w, w < 2 ^ 30 → C (al q + 1 + j) = mkc 1 (nI w) → ¬ ldb (2 * h + 64) B 1 w) (hv : vcl s0 ml nb al v c) (hg : gcl (2 * h + 64) B c) (hL : ∀ k, v = .inr (k + 1) → L k) (hf : frL Irn σ σ' (vp_updL C (al q + 1 + j) c)) : RXg σ' T b h k lim md cy rch L (va_up N q (npu (N q) j v)) fs fl B F S R fr (vp_updL C (al q + 1 + j) c) C0 s0 ml nb z lv y al fas := by
  have hT : ∀ m, m < T 0 1 → T 15 m + T 16 m ≤ 12 := fun m hm => (hw.2.2.2.2.2.2.2.2.1 m hm).2.2.2.2.2.2.1
  obtain ⟨x1, x2, ⟨i6, i7, i8, i9, i10⟩, x4, x5, x6, x7, x8, x9, x10⟩ := x
  have g := x1.2.2.2.2.2.2.2.2.2.1
  have g' := g.wt htc hnl hg.1 hg.2
  have ni : ∀ kk, ¬ Irn kk → σ'.1 kk = σ.1 kk := hf.2.2.2.2.2
  refine ⟨⟨x1.1.L hf (fun k q => by unfold Irn; omega), by rw [ni 1 (by unfold Irn; omega)]; exact x1.2.1, by rw [ni 2 (by unfold Irn; omega)]; exact x1.2.2.1, by rw [ni 3 (by unfold Irn; omega)]; exact x1.2.2.2.1, by rw [ni 4 (by unfold Irn; omega)]; exact x1.2.2.2.2.1, by rw [ni 5 (by unfold Irn; omega)]; exact x1.2.2.2.2.2.1, by rw [hf.2.1]; exact x1.2.2.2.2.2.2.1, by rw [hf.2.1]; exact x1.2.2.2.2.2.2.2.1, hf.2.2.2.2.1, g', x1.2.2.2.2.2.2.2.2.2.2⟩, x2.wn hT g hq hj hv hL, ⟨by rw [ni 6 (by unfold Irn; omega)]; exact i6, by rw [ni 7 (by unfold Irn; omega)]; exact i7, by rw [ni 8 (by unfold Irn; omega)]; exact i8, by rw [ni 9 (by unfold Irn; omega)]; exact i9, by rw [ni 10 (by unfold Irn; omega)]; exact i10⟩, fun q => ⟨(x4 q).1, fun i w hi hw' hc => ?_⟩, by rw [ni 11 (by unfold Irn; omega)]; exact x5, x6, x7, x8, x9, x10⟩
  rename_i q0
  by_cases e : fas.headD 0 + i = al q0 + 1 + j
  · rw [e, pk_uLs] at hc
    exact hg.2 w hw' hc
  · rw [pk_uLn e] at hc
    exact (x4 q).2 i w hi hw' hc
/-- the beginning of a step, out of XH -/
theorem XH.ob (X : XH σ T b h k lim md cy rch n N (f :: r) fl st) : ∃ L B F S R C C0 s0 ml nb z lv y al tp t, RXg σ T b h k lim md cy rch L N (f :: r) fl B F S R R C C0 s0 ml nb z lv y al (tp :: t) ∧ (∀ i, L i → i < n) ∧ σ.1 12 = 1 ∧ σ.1 22 = nI st ∧ σ.1 23 = nI (f :: r).length ∧ frL Ixs σ σ C ∧ 1 ≤ k ∧ k ≤ 64 := by
  obtain ⟨L, B, F, S, R, C, C0, s0, ml, nb, z, lv, y, al, fas, x, hn, i12, i22, i23⟩ := X
  have hfl := (fra_f (f :: r) fas x.2.1.2.2.2.2.2.1).1
  cases fas with
  | nil => cases hfl
  | cons u t => exact ⟨L, B, F, S, R, C, C0, s0, ml, nb, z, lv, y, al, u, t, x, hn, i12, i22, i23, frL_r.d x.1.2.2.2.2.2.2.2.2.1, x.2.2.2.2.2.2.2.2.2.2.2.1, x.2.2.2.2.2.2.2.2.2.2.2.2.1⟩
theorem WK.fx (w : WK σ0 σ T b D tp m pc ht nx l) : frL Ixs σ0 σ D := w.1.m (fun k q => by unfold Irn at q; unfold Ixs; omega)
theorem X_get {v : Nat} {ids : List Nat} (hw : wf T b) (X : XH σ T b h k lim md cy rch n N (f :: r) 0 1) (hm : f.1 < T 0 1) (hin : inC T f.1 (T 17 f.1 + f.2.1)) (h4 : T 4 (T 17 f.1 + f.2.1) = 1) (ho : b (T 17 f.1 + f.2.1) = 27) (hh : 1 ≤ f.2.2.1 ∧ f.2.2.1 ≤ T 16 f.1) (hv : f.2.2.2 (T 15 f.1 + f.2.2.1 - 1) = .inr v) (hj : ∀ q, v = q + 1 → b (T 17 f.1 + f.2.1 + 2) < npt T (N q)) (hr : rls T N (f :: r) ids)
    (h0 : v = 0 → rch ≤ k * md → lim < rch → sNO σ K T b h k lim md cy rch n N (f :: r))
    (h1 : v = 0 → ¬ (rch ≤ k * md ∧ lim < rch) → sOK σ K T b h k lim (mm k lim md rch (1 + T 6 (T 10 0))) (mcy k lim md rch cy (1 + T 6 (T 10 0))) (mr T N (f :: r) ids k lim md rch (1 + T 6 (T 10 0))) (n + 1) (va_up N n (nob T (T 10 0))) (f :: r) (n + 1) 1)
    (hK : ∀ q, v = q + 1 → sOK σ K T b h k lim md cy rch n N ((f.1, f.2.1 + 3, f.2.2.1, va_up f.2.2.2 (T 15 f.1 + f.2.2.1 - 1) ((N q).2.2.2 (b (T 17 f.1 + f.2.1 + 2)))) :: r) 0 1) : mp_X7_step σ K := by
  obtain ⟨L, B, F, S, R, C, C0, s0, ml, nb, z, lv, y, al, tp, t, x, hn, i12, i22, i23, f0, hk1, k64⟩ := X.ob
  obtain ⟨o1, o2, o3, o4, o5, o6⟩ := opB hw hm hin h4
  refine x_pre hw x hin o6 (fun σ1 w1 => ?_)
  generalize hpe : T 17 f.1 + f.2.1 = p at *
  have hwd : wd (b p) = 3 := by rw [ho]; rfl
  rw [hwd] at w1 o2
  obtain ⟨a, a1, a2, a3, a4, a5⟩ := x.ad (i := T 15 f.1 + f.2.2.1 - 1) (by omega) (by omega) hv
  refine xd_obj (by omega) (by omega) ?_
  rw [ho]
  unfold mp_X7_useObject
  refine ⟨fun _ => ⟨fun _ => ?_, fun q => absurd q (by decide)⟩, fun q => absurd q (by decide)⟩
  unfold mp_X7_useObject_47
  refine k_below (j := 0) hw w1 (by omega) (by omega) (fun σ2 w2 => ?_)
  rw [show tp + 4 + T 15 f.1 + (f.2.2.1 - 1 - 0) = tp + 4 + (T 15 f.1 + f.2.2.1 - 1) by omega, a1, mk_lo (by decide)]
  refine k_oper (i := 2) hw w2 (by decide) (by omega) ?_
  rw [hpe]
  intro v7 e7
  rw [nI_1, nI_add] at e7
  refine ⟨fun _ => ⟨fun na => ?_, fun ea => ?_⟩, fun q => absurd q (by decide), fun q => absurd q (by decide), fun q => absurd rfl q⟩
  · have na : a ≠ 0 := fun e => na (by rw [e]; rfl)
    obtain ⟨q, eq⟩ : ∃ q, v = q + 1 := ⟨v - 1, by omega⟩
    obtain ⟨b1, b2, b3⟩ := a5 q eq
    intro s10 e10
    rw [w2.2.2.2.2.2.2.1, nI_sub1 hh.1] at e10
    have w3 := w2.h1 (ht' := f.2.2.1 - 1) (by omega)
    rw [← e10] at w3
    rw [e7, b1]
    refine k_read hw (x.fi w3.1) w3.re b2 (hj q eq) b3 (by omega) (fun σ' F' C' ml' al' t' l' x' w' l1 f1 c1 c2 c3 c4 c5 c6 => ?_)
    refine k_push hw w' (by omega) (by omega) (fun σ4 w4 => ?_)
    have nj : ∀ kk, kk = 12 ∨ kk = 22 ∨ kk = 23 → σ'.1 kk = σ.1 kk := fun kk hkk => (f1.2.2.2.2.2 kk (fun z => by unfold I133 at z; omega)).trans (w3.1.2.2.2.2.2 kk (fun z => by unfold Irn at z; omega))
    obtain ⟨tv1, -⟩ := x'.tv
    have tv2 := tv1.up (k := T 15 f.1 + f.2.2.1 - 1) (n' := T 15 f.1 + f.2.2.1) (by omega) c5 c6 (Or.inl (Nat.le_refl _))
    rw [show tp + 4 + (T 15 f.1 + f.2.2.1 - 1) = tp + 4 + T 15 f.1 + (f.2.2.1 - 1) by omega] at tv2
    rw [show f.2.2.1 - 1 + 1 = f.2.2.1 by omega] at w4
    refine s_done hw x' hn (w3.fx.t (f1.m (fun k q => by unfold I133 at q; unfold Ixs; omega))) (by rw [nj 12 (by omega)]; exact i12) (by rw [nj 22 (by omega)]; exact i22) (by rw [nj 23 (by omega)]; exact i23) w4 (by omega) tv2 (fun i k hi hk => ?_) (hK q eq)
    by_cases e : i = T 15 f.1 + f.2.2.1 - 1
    · rw [e, va_up_self] at hk
      exact x'.2.1.2.2.2.2.2.2.1 q _ k b2 (hj q eq) hk
    · rw [va_up_ne _ _ e] at hk
      exact x'.2.1.2.2.2.2.2.2.2 f List.mem_cons_self i k (by omega) hk
  · have ea : a = 0 := (nI_eq (b := 0) (by omega) (by omega)).mp ea
    have ev := a3.mp ea
    exact s_raise (q := 0) hw x hn f0 i12 i22 i23 w2 (by omega) (by decide) hr (h0 ev) (h1 ev)
theorem X_put {v : Nat} {ids : List Nat} (hw : wf T b) (X : XH σ T b h k lim md cy rch n N (f :: r) 0 1) (hm : f.1 < T 0 1) (hin : inC T f.1 (T 17 f.1 + f.2.1)) (h4 : T 4 (T 17 f.1 + f.2.1) = 1) (ho : b (T 17 f.1 + f.2.1) = 28) (hh : 2 ≤ f.2.2.1 ∧ f.2.2.1 ≤ T 16 f.1) (hv : f.2.2.2 (T 15 f.1 + f.2.2.1 - 2) = .inr v) (hj : ∀ q, v = q + 1 → b (T 17 f.1 + f.2.1 + 2) < npt T (N q)) (hr : rls T N (f :: r) ids)
    (h0 : v = 0 → rch ≤ k * md → lim < rch → sNO σ K T b h k lim md cy rch n N (f :: r))
    (h1 : v = 0 → ¬ (rch ≤ k * md ∧ lim < rch) → sOK σ K T b h k lim (mm k lim md rch (1 + T 6 (T 10 0))) (mcy k lim md rch cy (1 + T 6 (T 10 0))) (mr T N (f :: r) ids k lim md rch (1 + T 6 (T 10 0))) (n + 1) (va_up N n (nob T (T 10 0))) (f :: r) (n + 1) 1)
    (hK : ∀ q, v = q + 1 → sOK σ K T b h k lim md cy rch n (va_up N q (npu (N q) (b (T 17 f.1 + f.2.1 + 2)) (f.2.2.2 (T 15 f.1 + f.2.2.1 - 1)))) ((f.1, f.2.1 + 3, f.2.2.1 - 2, f.2.2.2) :: r) 0 1) : mp_X7_step σ K := by
  obtain ⟨L, B, F, S, R, C, C0, s0, ml, nb, z, lv, y, al, tp, t, x, hn, i12, i22, i23, f0, hk1, k64⟩ := X.ob
  obtain ⟨o1, o2, o3, o4, o5, o6⟩ := opB hw hm hin h4
  refine x_pre hw x hin o6 (fun σ1 w1 => ?_)
  generalize hpe : T 17 f.1 + f.2.1 = p at *
  have hwd : wd (b p) = 3 := by rw [ho]; rfl
  rw [hwd] at w1 o2
  obtain ⟨a, a1, a2, a3, a4, a5⟩ := x.ad (i := T 15 f.1 + f.2.2.1 - 2) (by omega) (by omega) hv
  refine xd_obj (by omega) (by omega) ?_
  rw [ho]
  unfold mp_X7_useObject
  refine ⟨fun _ => ⟨fun q => absurd rfl q, fun _ => ?_⟩, fun q => absurd q (by decide)⟩
  unfold mp_X7_useObject_47
  refine k_below (j := 1) hw w1 (by omega) (by omega) (fun σ2 w2 => ?_)
  rw [show tp + 4 + T 15 f.1 + (f.2.2.1 - 1 - 1) = tp + 4 + (T 15 f.1 + f.2.2.1 - 2) by omega, a1, mk_lo (by decide)]
  refine k_oper (i := 2) hw w2 (by decide) (by omega) ?_
  rw [hpe]
  intro v7 e7
  rw [nI_1, nI_add] at e7
  refine ⟨fun q => absurd q (by decide), fun _ => ⟨fun na => ?_, fun ea => ?_⟩, fun q => absurd q (by decide), fun _ q => absurd rfl q⟩
  · have na : a ≠ 0 := fun e => na (by rw [e]; rfl)
    obtain ⟨q, eq⟩ : ∃ q, v = q + 1 := ⟨v - 1, by omega⟩
    obtain ⟨b1, b2, b3⟩ := a5 q eq
    refine k_pop hw w2 (by omega) (by omega) (fun σ3 w3 => ?_)
    unfold mp_X1_change
    rw [e7, b1]
    refine k_read hw (x.fi w3.1) w3.re b2 (hj q eq) b3 (by omega) (fun σ' F' C' ml' al' t' l' x' w' l1 f1 c1 c2 c3 c4 c5 c6 => ?_)
    have tcq : tcl' ml nb z y (al q) := by have := b3 0 (by omega); rw [Nat.add_zero] at this; exact this
    have eal := c1 q tcq
    have tcj := (b3 (1 + b (p + 2)) (by have := hj q eq; omega)).m c2
    rw [show al q + (1 + b (p + 2)) = al q + 1 + b (p + 2) by omega] at tcj
    have bd := x'.bd tcj
    refine k_put w' bd.1 bd.2 (by omega) (fun σ4 w4 => ?_)
    obtain ⟨tv1, -⟩ := x'.tv
    have cc : C (tp + 4 + T 15 f.1 + (f.2.2.1 - 1)) = C' (tp + 4 + (T 15 f.1 + f.2.2.1 - 1)) := by
      have := c3 (4 + (T 15 f.1 + f.2.2.1 - 1)) (by omega)
      rw [show tp + (4 + (T 15 f.1 + f.2.2.1 - 1)) = tp + 4 + (T 15 f.1 + f.2.2.1 - 1) by omega] at this
      rw [this, show tp + 4 + T 15 f.1 + (f.2.2.1 - 1) = tp + 4 + (T 15 f.1 + f.2.2.1 - 1) by omega]
    rw [cc] at w4
    have hfL := x'.2.1.2.2.2.2.2.2.2 f List.mem_cons_self
    have x4 : RXg σ4 T b h k lim md cy rch L (va_up N q (npu (N q) (b (p + 2)) (f.2.2.2 (T 15 f.1 + f.2.2.1 - 1)))) (f :: r) 0 B F' S R R (vp_updL C' (al' q + 1 + b (p + 2)) (C' (tp + 4 + (T 15 f.1 + f.2.2.1 - 1)))) C0 s0 ml' nb z lv y al' (tp :: t') := by
      rw [← eal] at w4 tcj c5
      exact x'.wn hw b2 (hj q eq) tcj c5.2 (tv1.2.2 _ (by omega)) (tv1.2.1 _ (by omega)) (fun k hk => hfL _ k (by omega) hk) w4.1
    rw [eal] at x4
    intro s20 e20
    rw [w4.2.2.2.2.2.2.1, nI_sub1 (by omega)] at e20
    have w5 := (w4.re).h1 (ht' := f.2.2.1 - 1 - 1) (by omega)
    rw [← e20, show f.2.2.1 - 1 - 1 = f.2.2.1 - 2 by omega] at w5
    have fx : frL Ixs σ σ4 _ := (w3.fx.t (f1.m (fun k q => by unfold I133 at q; unfold Ixs; omega))).t w4.fx
    have nj : ∀ kk, kk = 12 ∨ kk = 22 ∨ kk = 23 → σ4.1 kk = σ.1 kk := fun kk hkk => ((w4.1.2.2.2.2.2 kk (fun z => by unfold Irn at z; omega)).trans (f1.2.2.2.2.2 kk (fun z => by unfold I133 at z; omega))).trans (w3.1.2.2.2.2.2 kk (fun z => by unfold Irn at z; omega))
    obtain ⟨tv4, -⟩ := x4.tv
    exact s_done hw x4 hn fx (by rw [nj 12 (by omega)]; exact i12) (by rw [nj 22 (by omega)]; exact i22) (by rw [nj 23 (by omega)]; exact i23) w5 (by omega) (tv4.le (by omega)) (fun i k hi hk => hfL i k (by omega) hk) (hK q eq)
  · have ea : a = 0 := (nI_eq (b := 0) (by omega) (by omega)).mp ea
    have ev := a3.mp ea
    exact s_raise (q := 0) hw x hn f0 i12 i22 i23 w2 (by omega) (by decide) hr (h0 ev) (h1 ev)
theorem X_is {v : Nat} (hw : wf T b) (X : XH σ T b h k lim md cy rch n N (f :: r) 0 1) (hm : f.1 < T 0 1) (hin : inC T f.1 (T 17 f.1 + f.2.1)) (h4 : T 4 (T 17 f.1 + f.2.1) = 1) (ho : b (T 17 f.1 + f.2.1) = 29) (hh : 1 ≤ f.2.2.1 ∧ f.2.2.1 ≤ T 16 f.1) (hv : f.2.2.2 (T 15 f.1 + f.2.2.1 - 1) = .inr v)
    (hK : ∀ zz : Int32, (isN T N (.inr v) (b (T 17 f.1 + f.2.1 + 1)) ∧ zz = 1) ∨ (¬ isN T N (.inr v) (b (T 17 f.1 + f.2.1 + 1)) ∧ zz = 0) → sOK σ K T b h k lim md cy rch n N ((f.1, f.2.1 + 2, f.2.2.1, va_up f.2.2.2 (T 15 f.1 + f.2.2.1 - 1) (.inl zz)) :: r) 0 1) : mp_X7_step σ K := by
  obtain ⟨L, B, F, S, R, C, C0, s0, ml, nb, z, lv, y, al, tp, t, x, hn, i12, i22, i23, f0, hk1, k64⟩ := X.ob
  obtain ⟨o1, o2, o3, o4, o5, o6⟩ := opB hw hm hin h4
  refine x_pre hw x hin o6 (fun σ1 w1 => ?_)
  generalize hpe : T 17 f.1 + f.2.1 = p at *
  have hwd : wd (b p) = 2 := by rw [ho]; rfl
  rw [hwd] at w1 o2
  have hc := o1.2.2.2.1 (Or.inr (Or.inl ho))
  obtain ⟨a, a1, a2, a3, a4, a5⟩ := x.ad (i := T 15 f.1 + f.2.2.1 - 1) (by omega) (by omega) hv
  refine xd_obj (by omega) (by omega) ?_
  rw [ho]
  unfold mp_X7_useObject
  refine ⟨fun _ => ⟨fun _ => ?_, fun q => absurd q (by decide)⟩, fun q => absurd q (by decide)⟩
  unfold mp_X7_useObject_47
  refine k_below (j := 0) hw w1 (by omega) (by omega) (fun σ2 w2 => ?_)
  rw [show tp + 4 + T 15 f.1 + (f.2.2.1 - 1 - 0) = tp + 4 + (T 15 f.1 + f.2.2.1 - 1) by omega, a1, mk_lo (by decide)]
  refine k_oper (i := 2) hw w2 (by decide) (by omega) ?_
  intro v7 e7
  refine ⟨fun q => absurd q (by decide), fun q => absurd q (by decide), fun _ => ?_, fun _ _ q => absurd rfl q⟩
  intro s22 e22
  rw [w2.2.2.2.2.2.2.1, nI_sub1 hh.1] at e22
  have w3 := w2.h1 (ht' := f.2.2.1 - 1) (by omega)
  rw [← e22] at w3
  refine k_oper (i := 1) hw w3 (by decide) (by omega) ?_
  rw [hpe]
  have go : ∀ (zz : Int32) σ4 l4, WK σ σ4 T b C tp f.1 f.2.1 (f.2.2.1 - 1) (f.2.1 + 2) l4 → l4 ≤ 3 + 1 + 1 → ((isN T N (.inr v) (b (p + 1)) ∧ zz = 1) ∨ (¬ isN T N (.inr v) (b (p + 1)) ∧ zz = 0)) → mp_X7_useObject_176 (fun r s => mp_X7_step_164 K s r) σ4 zz := fun zz σ4 l4 w4 hl4 hz => by
    unfold mp_X7_useObject_176
    refine k_pushI hw w4 (by omega) (by omega) (fun σ5 w5 => ?_)
    obtain ⟨tv1, -⟩ := x.tv
    have tv2 := tv1.up (k := T 15 f.1 + f.2.2.1 - 1) (n' := T 15 f.1 + f.2.2.1) (v := .inl zz) (by omega) (gcl_n _ _ zz) (vcl_n zz) (Or.inl (Nat.le_refl _))
    rw [show tp + 4 + (T 15 f.1 + f.2.2.1 - 1) = tp + 4 + T 15 f.1 + (f.2.2.1 - 1) by omega] at tv2
    rw [show f.2.2.1 - 1 + 1 = f.2.2.1 by omega] at w5
    refine s_done hw x hn f0 i12 i22 i23 w5 (by omega) tv2 (fun i k hi hk => ?_) (hK zz hz)
    by_cases e : i = T 15 f.1 + f.2.2.1 - 1
    · rw [e, va_up_self] at hk
      cases hk
    · rw [va_up_ne _ _ e] at hk
      exact x.2.1.2.2.2.2.2.2.2 f List.mem_cons_self i k (by omega) hk
  refine k_isA (v := v) hw x w3 a4 hc (by omega) (fun q σ4 l4 w4 hl4 => ⟨fun q => absurd q (by decide), fun _ => go 1 σ4 l4 w4 hl4 (Or.inl ⟨q, rfl⟩)⟩) (fun q σ4 l4 w4 hl4 => ⟨fun _ => go 0 σ4 l4 w4 hl4 (Or.inr ⟨q, rfl⟩), fun q => absurd rfl q⟩)
theorem X_cast {v : Nat} {ids : List Nat} (hw : wf T b) (X : XH σ T b h k lim md cy rch n N (f :: r) 0 1) (hm : f.1 < T 0 1) (hin : inC T f.1 (T 17 f.1 + f.2.1)) (h4 : T 4 (T 17 f.1 + f.2.1) = 1) (ho : b (T 17 f.1 + f.2.1) = 30) (hh : 1 ≤ f.2.2.1 ∧ f.2.2.1 ≤ T 16 f.1) (hv : f.2.2.2 (T 15 f.1 + f.2.2.1 - 1) = .inr v) (hr : rls T N (f :: r) ids)
    (h0 : ¬ (v = 0 ∨ isN T N (.inr v) (b (T 17 f.1 + f.2.1 + 1))) → rch ≤ k * md → lim < rch → sNO σ K T b h k lim md cy rch n N (f :: r))
    (h1 : ¬ (v = 0 ∨ isN T N (.inr v) (b (T 17 f.1 + f.2.1 + 1))) → ¬ (rch ≤ k * md ∧ lim < rch) → sOK σ K T b h k lim (mm k lim md rch (1 + T 6 (T 10 3))) (mcy k lim md rch cy (1 + T 6 (T 10 3))) (mr T N (f :: r) ids k lim md rch (1 + T 6 (T 10 3))) (n + 1) (va_up N n (nob T (T 10 3))) (f :: r) (n + 1) 1)
    (hK : (v = 0 ∨ isN T N (.inr v) (b (T 17 f.1 + f.2.1 + 1))) → sOK σ K T b h k lim md cy rch n N ((f.1, f.2.1 + 2, f.2.2.1, f.2.2.2) :: r) 0 1) : mp_X7_step σ K := by
  obtain ⟨L, B, F, S, R, C, C0, s0, ml, nb, z, lv, y, al, tp, t, x, hn, i12, i22, i23, f0, hk1, k64⟩ := X.ob
  obtain ⟨o1, o2, o3, o4, o5, o6⟩ := opB hw hm hin h4
  refine x_pre hw x hin o6 (fun σ1 w1 => ?_)
  generalize hpe : T 17 f.1 + f.2.1 = p at *
  have hwd : wd (b p) = 2 := by rw [ho]; rfl
  rw [hwd] at w1 o2
  have hc := o1.2.2.2.1 (Or.inr (Or.inr ho))
  obtain ⟨a, a1, a2, a3, a4, a5⟩ := x.ad (i := T 15 f.1 + f.2.2.1 - 1) (by omega) (by omega) hv
  refine xd_obj (by omega) (by omega) ?_
  rw [ho]
  unfold mp_X7_useObject
  refine ⟨fun _ => ⟨fun _ => ?_, fun q => absurd q (by decide)⟩, fun q => absurd q (by decide)⟩
  unfold mp_X7_useObject_47
  refine k_below (j := 0) hw w1 (by omega) (by omega) (fun σ2 w2 => ?_)
  rw [show tp + 4 + T 15 f.1 + (f.2.2.1 - 1 - 0) = tp + 4 + (T 15 f.1 + f.2.2.1 - 1) by omega, a1, mk_lo (by decide)]
  refine k_oper (i := 2) hw w2 (by decide) (by omega) ?_
  intro v7 e7
  have go : ∀ σ4 l4, WK σ σ4 T b C tp f.1 f.2.1 f.2.2.1 (f.2.1 + 2) l4 → l4 ≤ 3 + 1 + 1 → (v = 0 ∨ isN T N (.inr v) (b (p + 1))) → mp_X7_useObject_197 (fun r s => mp_X7_step_164 K s r) σ4 := fun σ4 l4 w4 hl4 hz => by
    unfold mp_X7_useObject_197 mp_X7_useObject_202
    obtain ⟨tv1, -⟩ := x.tv
    exact s_done hw x hn f0 i12 i22 i23 w4 (by omega) tv1 (fun i k hi hk => x.2.1.2.2.2.2.2.2.2 f List.mem_cons_self i k hi hk) (hK hz)
  refine ⟨fun q => absurd q (by decide), fun q => absurd q (by decide), fun q => absurd q (by decide), fun _ _ _ => ⟨fun ea => ?_, fun na => ?_⟩⟩
  · have ea : a = 0 := (nI_eq (b := 0) (by omega) (by omega)).mp ea
    exact go σ2 _ w2 (by omega) (Or.inl (a3.mp ea))
  · have na : a ≠ 0 := fun e => na (by rw [e]; rfl)
    have nv : ¬ v = 0 := fun e => na (a3.mpr e)
    refine k_oper (i := 1) hw w2 (by decide) (by omega) ?_
    rw [hpe]
    refine k_isA (v := v) hw x w2 a4 hc (by omega) (fun q σ4 l4 w4 hl4 => ⟨fun q => absurd q (by decide), fun _ => go σ4 l4 w4 hl4 (Or.inr q)⟩) (fun q σ4 l4 w4 hl4 => ⟨fun _ => ?_, fun q => absurd rfl q⟩)
    unfold mp_X7_useObject_202
    have nn : ¬ (v = 0 ∨ isN T N (.inr v) (b (p + 1))) := fun z => z.elim nv q
    exact s_raise (q := 3) hw x hn f0 i12 i22 i23 w4 (by omega) (by decide) hr (h0 nn) (h1 nn)
end
