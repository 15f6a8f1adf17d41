/-! ===== rows: the class, TO ===== -/
section
variable {σ0 σ σ' σ1 σ2 : sm_S} {T : Nat → Nat → Nat} {b : Nat → Nat} {h k lim md cy rch n : Nat} {L : Nat → Prop} {N : Nat → AN} {f : AF} {r fs : List AF} {fl st B F S R fr : Nat} {C D C0 : Nat → Int64} {s0 : List Nat} {ml : List (Nat × Nat)} {nb : List Nat} {z lv y al : Nat → Nat} {fas t : List Nat} {tp m pc ht nx l : Nat} {K : jk}
theorem k_below2 {j : Nat} {K : Int64 → sm_S → Prop} (hw : wf T b) (w : WK σ0 σ T b D tp m pc ht nx l) (h1 : j + 1 ≤ ht) (hl : l + 1 < 2 ^ 19) (hK : ∀ σ', WK σ0 σ' T b D tp m pc ht nx (l + 1) → (∀ kk, kk ≠ 13 → σ'.1 kk = σ.1 kk) → K (D (tp + 4 + T 15 m + (ht - 1 - j))) σ') : mp_X7_below σ (nI j) K := by
  have t := w.t12 hw
  have h7 := w.2.2.2.2.2.2.1
  have h11 := w.2.2.2.2.2.2.2.2.2.2.1
  have h15 := w.2.2.2.2.2.2.2.2.2.2.2.2.2.2.1
  unfold mp_X7_below
  rw [h7, nI_sub1 (by omega), nI_sub (by omega)]
  refine k_slot hw w ?_
  exact k_look2 w (by omega) (by omega) hl hK
theorem X_to {v : Nat} {xi : Int32} {ids : List Nat} (hw : wf T b) (X : XH σ T b h k lim md cy rch n N (f :: r) 0 1) (hm : f.1 < T 0 1) (hin : inC T f.1 (T 17 f.1 + f.2.1)) (h4 : T 4 (T 17 f.1 + f.2.1) = 1) (ho : b (T 17 f.1 + f.2.1) = 34) (hh : 3 ≤ f.2.2.1 ∧ f.2.2.1 ≤ T 16 f.1) (hv : f.2.2.2 (T 15 f.1 + f.2.2.1 - 3) = .inr v) (hxi : f.2.2.2 (T 15 f.1 + f.2.2.1 - 2) = .inl xi) (hj : ∀ q, v = q + 1 → (N q).1 = 3) (hr : rls T N (f :: r) ids)
    (h0 : ∀ e, (v = 0 ∧ e = 0) ∨ (e = 1 ∧ ∃ q, v = q + 1 ∧ ¬ ∃ i, i < (N q).2.1 ∧ xi = nI i) → rch ≤ k * md → lim < rch → sNO σ K T b h k lim md cy rch n N (f :: r))
    (h1 : ∀ e, (v = 0 ∧ e = 0) ∨ (e = 1 ∧ ∃ q, v = q + 1 ∧ ¬ ∃ i, i < (N q).2.1 ∧ xi = nI i) → ¬ (rch ≤ k * md ∧ lim < rch) → sOK σ K T b h k lim (mm k lim md rch (1 + T 6 (T 10 e))) (mcy k lim md rch cy (1 + T 6 (T 10 e))) (mr T N (f :: r) ids k lim md rch (1 + T 6 (T 10 e))) (n + 1) (va_up N n (nob T (T 10 e))) (f :: r) (n + 1) 1)
    (hK : ∀ q i, v = q + 1 → i < (N q).2.1 → xi = nI i → ∃ q' j lk, pth T N (dpt (N q).2.1) q i q' j lk ∧ (lk = 0 → sOK σ K T b h k lim md cy rch n (va_up N q' (npu (N q') j (f.2.2.2 (T 15 f.1 + f.2.2.1 - 1)))) ((f.1, f.2.1 + 1, f.2.2.1 - 3, f.2.2.2) :: r) 0 1) ∧ (lk ≠ 0 → ¬ (rch ≤ k * md ∧ lim < rch) → sOK σ K T b h k lim (mm k lim md rch 16) (mcy k lim md rch cy 16) (mr T N (f :: r) ids k lim md rch 16) (n + 1) (va_up (va_up N n (nch (lk - 1) (N q).2.2.1)) q' (npu (N q') j (.inr (n + 1)))) (f :: r) 0 1) ∧ (lk ≠ 0 → rch ≤ k * md → lim < rch → sNO σ K T b h k lim md cy rch n N (f :: r))) : mp_X7_step σ K := by
  obtain ⟨L, B, F, S, R, C, C0, s0, ml, nb, z, lv, y, al, tp, t, x, hn, i12, i22, i23, f0, hk1, k64⟩ := X.ob
  obtain ⟨o1, o2, o3, o4, o5, o6⟩ := opB hw hm hin h4
  refine x_pre hw x hin o6 (fun σ1 w1 => ?_)
  generalize hpe : T 17 f.1 + f.2.1 = p at *
  have hwd : wd (b p) = 1 := by rw [ho]; rfl
  rw [hwd] at w1 o2
  obtain ⟨a, a1, a2, a3, a4, a5⟩ := x.ad (i := T 15 f.1 + f.2.2.1 - 3) (by omega) (by omega) hv
  have ax := x.nm (i := T 15 f.1 + f.2.2.1 - 2) (by omega) hxi
  refine xd_row (by omega) (by omega) ?_
  rw [ho]
  unfold mp_X7_useRow
  refine ⟨fun _ => ⟨fun _ => ⟨fun _ => ?_, fun q => absurd q (by decide)⟩, fun q => absurd q (by decide)⟩, fun q => absurd q (by decide)⟩
  unfold mp_X7_useRow_43
  refine k_below (j := 2) hw w1 (by omega) (by omega) (fun σ2 w2 => ?_)
  rw [show tp + 4 + T 15 f.1 + (f.2.2.1 - 1 - 2) = tp + 4 + (T 15 f.1 + f.2.2.1 - 3) by omega, a1, mk_lo (by decide)]
  refine ⟨fun na => ?_, fun ea => ?_⟩
  · have na : a ≠ 0 := fun e => na (by rw [e]; rfl)
    obtain ⟨q, eq⟩ : ∃ q, v = q + 1 := ⟨v - 1, by omega⟩
    obtain ⟨b1, b2, b3⟩ := a5 q eq
    have t0 := b3 0 (by omega)
    rw [Nat.add_zero] at t0
    have bd := x.bd t0
    have len : σ2.2.2.1 17 = σ.2.2.1 17 := by rw [w2.1.2.1]
    rw [b1]
    refine k_look w2 bd.1 (by omega) (by omega) (fun σ3 w3 => ?_)
    have hk := hj q eq
    have hnn := (x.2.1.1 q b2).2.1 hk
    rw [x.hd b2, hdv_r hk]
    unfold mp_X1_rowLength
    rw [mk_lo (by decide), hd_ln hnn.2 (by omega)]
    refine ⟨fun _ => ?_, fun q => absurd q (by decide)⟩
    have e11 : (2 : Int32) - 1 = nI 1 := by decide
    rw [e11]
    refine k_below (j := 1) hw w3 (by omega) (by omega) (fun σ4 w4 => ?_)
    rw [show tp + 4 + T 15 f.1 + (f.2.2.1 - 1 - 1) = tp + 4 + (T 15 f.1 + f.2.2.1 - 2) by omega, ax, mk_lo (by decide)]
    have bad : (¬ ∃ i, i < (N q).2.1 ∧ xi = nI i) → mp_X7_useRow_115 (fun r s => mp_X7_step_164 K s r) σ4 := fun hb => by
      unfold mp_X7_useRow_115
      exact s_raise (q := 1) hw x hn f0 i12 i22 i23 w4 (by omega) (by decide) hr (h0 1 (Or.inr ⟨rfl, q, eq, hb⟩)) (h1 1 (Or.inr ⟨rfl, q, eq, hb⟩))
    refine ⟨fun z => bad (fun ⟨i, j1, j2⟩ => by rw [j2] at z; exact nI_neg (by omega) z), fun z1 => ⟨fun z2 => ⟨fun _ => ?_, fun q => absurd q (by decide)⟩, fun z => bad (fun ⟨i, j1, j2⟩ => z (by rw [j2]; exact nI_lt j1 (by omega)))⟩⟩
    obtain ⟨i, i1, i2⟩ := nI_of z1
    rw [i2] at z2
    have hi : i < (N q).2.1 := (nI_ltI i1 (by omega)).mp z2
    obtain ⟨q', j, lk, hp, hK1, hK2, hK0⟩ := hK q i eq hi i2
    rw [i2]
    unfold mp_X7_store
    refine k_find hw (x.fi w4.1) w4.re b2 hk b3 hp (by omega) (by omega) (fun σ5 F5 C5 ml5 al5 t5 l5 x5 w5 c1 c2 c3 c4 c5 c6 c7 c8 c9 => ?_)
    have pe := pth_end _ _ _ _ _ _ hp
    have dp : dpt (N q).2.1 ≤ 2 := by unfold dpt; (repeat' split) <;> omega
    have nj5 : ∀ kk, kk = 12 ∨ kk = 22 ∨ kk = 23 → σ5.1 kk = σ.1 kk := fun kk hkk => (c2.2.2.2.2.2 kk (fun z => by unfold Ifd at z; omega)).trans (w4.1.2.2.2.2.2 kk (fun z => by unfold Irn at z; omega))
    have fx5 : frL Ixs σ σ5 C5 := w4.fx.t (c2.m (fun k q => by unfold Ifd at q; unfold Ixs; omega))
    have hjn : j < npt T (N q') := by rw [pe.1]; exact pe.2.1
    rcases c8 with ⟨u1, u2⟩ | ⟨u1, u2⟩
    · -- the item is there
      refine ⟨fun z => absurd u2 z, fun _ => ?_⟩
      refine k_pop hw w5 (by omega) (by omega) (fun σ6 w6 => ?_)
      unfold mp_X1_change
      refine k_read hw (x5.fi w6.1) w6.re c7 hjn c6 (by omega) (fun σ' F' C' ml' al' t' l' x' w' l1 f1 d1 d2 d3 d4 d5 d6 => ?_)
      have tcq : tcl' ml5 nb z y (al5 q') := by have := c6 0 (by omega); rw [Nat.add_zero] at this; exact this
      have eal := d1 q' tcq
      have tcj := (c6 (1 + j) (by omega)).m d2
      rw [show al5 q' + (1 + j) = al5 q' + 1 + j by omega] at tcj
      have bd' := x'.bd tcj
      refine k_put w' bd'.1 bd'.2 (by omega) (fun σ7 w7 => ?_)
      obtain ⟨tv1, -⟩ := x'.tv
      have cc : C5 (tp + 4 + T 15 f.1 + (f.2.2.1 - 1)) = C' (tp + 4 + (T 15 f.1 + f.2.2.1 - 1)) := by
        have := d3 (4 + (T 15 f.1 + f.2.2.1 - 1)) (by omega)
        rw [show tp + (4 + (T 15 f.1 + f.2.2.1 - 1)) = tp + 4 + (T 15 f.1 + f.2.2.1 - 1) by omega] at this
        rw [this, show tp + 4 + T 15 f.1 + (f.2.2.1 - 1) = tp + 4 + (T 15 f.1 + f.2.2.1 - 1) by omega]
      rw [cc] at w7
      have hfL := x'.2.1.2.2.2.2.2.2.2 f List.mem_cons_self
      have x7 : RXg σ7 T b h k lim md cy rch L (va_up N q' (npu (N q') j (f.2.2.2 (T 15 f.1 + f.2.2.1 - 1)))) (f :: r) 0 B F' S R R (vp_updL C' (al' q' + 1 + j) (C' (tp + 4 + (T 15 f.1 + f.2.2.1 - 1)))) C0 s0 ml' nb z lv y al' (tp :: t') := by
        rw [← eal] at w7 tcj d5
        exact x'.wn hw c7 hjn tcj d5.2 (tv1.2.2 _ (by omega)) (tv1.2.1 _ (by omega)) (fun k hk => hfL _ k (by omega) hk) w7.1
      rw [eal] at x7
      intro s20 e20
      rw [w7.2.2.2.2.2.2.1, l_2, nI_sub (by omega)] at e20
      have w8 := (w7.re).h1 (ht' := f.2.2.1 - 1 - 2) (by omega)
      rw [← e20, show f.2.2.1 - 1 - 2 = f.2.2.1 - 3 by omega] at w8
      have fx : frL Ixs σ σ7 _ := ((fx5.t w6.fx).t (f1.m (fun k q => by unfold I133 at q; unfold Ixs; omega))).t w7.fx
      have nj : ∀ kk, kk = 12 ∨ kk = 22 ∨ kk = 23 → σ7.1 kk = σ.1 kk := fun kk hkk => (((w7.1.2.2.2.2.2 kk (fun z => by unfold Irn at z; omega)).trans (f1.2.2.2.2.2 kk (fun z => by unfold I133 at z; omega))).trans (w6.1.2.2.2.2.2 kk (fun z => by unfold Irn at z; omega))).trans (nj5 kk hkk)
      obtain ⟨tv4, -⟩ := x7.tv
      unfold mp_X7_useRow_140
      exact s_done hw x7 hn fx (by rw [nj 12 (by omega)]; exact i12) (by rw [nj 22 (by omega)]; exact i22) (by rw [nj 23 (by omega)]; exact i23) w8 (by omega) (tv4.le (by omega)) (fun i k hi hk => hfL i k (by omega) hk) (hK1 u1)
    · -- a child lacks
      have lk12 : lk = 1 ∨ lk = 2 := by omega
      have n28 : ¬ σ5.1 28 = 0 := by
        rw [u2]
        rcases lk12 with e | e <;> rw [e] <;> decide
      refine ⟨fun _ => ?_, fun z => absurd z n28⟩
      rw [l_16]
      refine k_make hw x5 w5 (by decide) hr (by omega) (fun v1 v2 => ⟨fun q => absurd rfl q, fun _ => ?_⟩) (fun σ6 L6 B6 F6 S6 R6 fr6 C6 C06 s06 ml6 nb6 z6 lv6 al6 tp6 t6 l6 nst x6 e1 e2 e3 e4 e5 w6 e6 f6 => ?_)
      · unfold mp_X7_useRow_140 mp_X7_step_164
        refine ⟨fun _ => ⟨fun _ => ?_, fun q => absurd (by decide) q⟩, fun q => absurd q (by decide)⟩
        exact s_stuck x5 hn fx5 (by rw [nj5 12 (by omega)]; exact i12) w5.2.2.2.2.2.2.2.1 (by omega) (by rw [nj5 23 (by omega)]; exact i23) (hK0 (by omega) v1 v2)
      · have l30 := w6.2.2.2.2.2.2.2.2.2.2.2.2.2.2.2
        refine ⟨fun _ => ?_, fun q => absurd q (nI_ne0 (by omega) (by omega))⟩
        obtain ⟨a', a1', a2', a3', a4', a5'⟩ := x6.ad (i := T 15 f.1 + f.2.2.1 - 3) (by omega) (by omega) hv
        obtain ⟨b1', b2', b3'⟩ := a5' q eq
        have t0' := b3' 0 (by omega)
        rw [Nat.add_zero] at t0'
        have bd' := x6.bd t0'
        have m28 : σ6.1 28 = nI (15 ^ lk) := by rw [f6.2.2.2.2.2 28 (fun z => by unfold Imk at z; omega)]; exact u2
        have g6 := x6.1.2.2.2.2.2.2.2.2.2.1
        have gR := (lan_in nb6 R6 g6.2.2.1).1
        have gF := (lay_in ml6 F6 g6.2.1).1
        have ob := g6.ob
        have nL6 : ¬ L6 n := fun q => absurd (hn n (e5 n q)) (by omega)
        have hcl := x6.2.1.2.2.2.2.2.2.1
        obtain ⟨hp', hq'⟩ := pth_up (N' := va_up N n (nch (lk - 1) (N q).2.2.1)) (fun u hu => va_up_ne _ _ (fun (e : u = n) => nL6 (e ▸ hu))) hcl _ _ _ _ _ _ b2' hp
        have qn : q ≠ n := fun e => nL6 (e ▸ b2')
        have qn' : q' ≠ n := fun e => nL6 (e ▸ hq')
        have fin : ∀ (y0 : Int32) σ7 l7, WK σ6 σ7 T b C6 tp6 f.1 f.2.1 f.2.2.1 (f.2.1 + 1) l7 → l7 ≤ l6 + 2 → (((N q).2.2.1 = 0 ∧ lk - 1 = 0) ∧ y0 = 1) ∨ (¬ ((N q).2.2.1 = 0 ∧ lk - 1 = 0) ∧ y0 = 0) → mp_X7_store_94 (fun r s => mp_X7_useRow_140 (fun r s => mp_X7_step_164 K s r) s r) σ7 (nI i) (nI fr6) (nI (al6 q)) y0 := fun y0 σ7 l7 w7 hl7 hy => by
          unfold mp_X7_store_94 mp_X1_cell
          have len7 : σ7.2.2.1 17 = σ6.2.2.1 17 := by rw [w7.1.2.1]
          have go : ∀ c : Int64, c = z0c ((N q).2.2.1 = 0 ∧ lk - 1 = 0) → mp_X7_store_116 (fun r s => mp_X7_useRow_140 (fun r s => mp_X7_step_164 K s r) s r) σ7 (nI i) (nI fr6) (nI (al6 q)) (nI fr6) (mkc 4 0) c := fun c ec => by
            unfold mp_X7_store_116
            refine k_fill w7 e3 (by omega) (by omega) (fun σ8 D8 w8 d1 d2 d3 => ?_)
            have hnd := npt_ch T (lk - 1) (N q).2.2.1
            have x8 := x6.nn (n := n) (nd := nch (lk - 1) (N q).2.2.1) (s := 16) hw e1 e2 (by rw [hnd]) (by omega) nL6 (fun q => absurd q (by show ¬ (4 : Nat) = 2; decide)) (fun q => absurd q (by show ¬ (4 : Nat) = 3; decide)) w8.1 (fun u hu => d1 u (by omega)) (by rw [d2, hdv_ch]; rfl) (fun jj hjj => by
              rw [hnd] at hjj
              rw [show fr6 + 1 + jj = fr6 + (1 + jj) by omega, d3 (1 + jj) (by omega) (by omega), ec]
              exact gv0 L6 _)
            have enq : va_up N n (nch (lk - 1) (N q).2.2.1) q = N q := va_up_ne _ _ qn
            have enq' : va_up N n (nch (lk - 1) (N q).2.2.1) q' = N q' := va_up_ne _ _ qn'
            have ealq : va_up al6 n fr6 q = al6 q := va_up_ne _ _ qn
            have hfn : fr6 ∉ nb6 := fun q => by have := (lan_in nb6 R6 g6.2.2.1).2 fr6 q; omega
            rw [← ealq]
            refine k_find (q := q) (q' := q') (j := j) (lk := lk) hw x8 w8.re (Or.inl b2') (by rw [enq]; exact hk) (fun jj hjj => by rw [ealq]; rw [enq] at hjj; exact (b3' jj hjj).nx1 hfn) (by rw [enq]; exact hp') (by omega) (by omega) (fun σ9 F9 C9 ml9 al9 t9 l9 x9 w9 p1 p2 p3 p4 p5 p6 p7 p8 p9 => ?_)
            have en8 : va_up al6 n fr6 n = fr6 := va_up_self _ _ _
            have tcn : tcl' ml6 (fr6 :: nb6) z6 (va_up y fr6 16) fr6 := Or.inr ⟨fr6, 0, List.mem_cons_self, by rw [va_up_self]; omega, rfl⟩
            have en9 : al9 n = fr6 := by
              have := p3 n (by rw [en8]; exact tcn)
              rw [this, en8]
            have tc9 := p6 (1 + j) (by rw [enq']; omega)
            rw [show al9 q' + (1 + j) = al9 q' + 1 + j by omega] at tc9
            have bd9 := x9.bd tc9
            unfold mp_X1_cell
            refine k_put w9 bd9.1 bd9.2 (by omega) (fun σ10 w10 => ?_)
            have nl : ¬ ldb (2 * h + 64) B6 1 (al9 n) := fun q => by
              have := q.2.2
              rw [en9] at this
              omega
            obtain ⟨v1, v2⟩ := x9.vc (q := n) (Or.inr rfl) (by rw [en9]; omega) (by rw [en9]; omega) nl
            rw [en9] at v1 v2
            have x10 := x9.wn (q := q') (j := j) (v := .inr (n + 1)) hw p7 (by rw [enq']; exact hjn) tc9 (fun w hw' hc => by
              rw [p9 u1] at hc
              rw [← mk1_i (by decide) hw' hc]
              exact fun z => z.2.1 rfl) v2 v1 (fun k hk => by cases hk; exact Or.inr rfl) w10.1
            have fx : frL Ixs σ σ10 _ := (((fx5.t (f6.m (fun k q => by unfold Imk at q; unfold Ixs; omega))).t w8.fx).t (p2.m (fun k q => by unfold Ifd at q; unfold Ixs; omega))).t w10.fx
            have nj : ∀ kk, kk = 12 ∨ kk = 22 ∨ kk = 23 → σ10.1 kk = σ.1 kk := fun kk hkk => ((((w10.1.2.2.2.2.2 kk (fun z => by unfold Irn at z; omega)).trans (p2.2.2.2.2.2 kk (fun z => by unfold Ifd at z; omega))).trans (w8.1.2.2.2.2.2 kk (fun z => by unfold Irn at z; omega))).trans (f6.2.2.2.2.2 kk (fun z => by unfold Imk at z; omega))).trans (nj5 kk hkk)
            unfold mp_X7_useRow_140 mp_X7_step_164
            refine ⟨fun _ => ⟨fun _ => ?_, fun q => absurd (by decide) q⟩, fun q => absurd q (by decide)⟩
            rw [enq'] at x10
            exact s_end (n := n + 1) x10 (fun i hi => hi.elim (fun q => by have := hn i (e5 i q); omega) (fun q => by omega)) fx (by rw [nj 12 (by omega)]; exact i12) w10.2.2.2.2.2.2.2.1 (by omega) (by rw [nj 22 (by omega)]; exact i22) (by rw [nj 23 (by omega)]; exact i23) (by decide) (hK2 u1 nst)
          rcases hy with ⟨y1, y2⟩ | ⟨y1, y2⟩
          · rw [y2]
            exact ⟨fun q => absurd q (by decide), fun _ => go _ (by unfold z0c; rw [if_pos y1, mk_0])⟩
          · rw [y2]
            exact ⟨fun _ => go _ (by unfold z0c; rw [if_neg y1, mk_nil]; rfl), fun q => absurd rfl q⟩
        refine k_below2 (j := 2) hw w6 (by omega) (by omega) (fun σ7 w7 n7 => ?_)
        rw [show tp6 + 4 + T 15 f.1 + (f.2.2.1 - 1 - 2) = tp6 + 4 + (T 15 f.1 + f.2.2.1 - 3) by omega, a1', mk_lo (by decide), b1']
        have k28 : σ7.1 28 = nI (15 ^ lk) := (n7 28 (by decide)).trans m28
        rcases lk12 with e | e
        · refine ⟨fun z => absurd (by rw [k28, e]; decide) z, fun _ => ?_⟩
          have len7 : σ7.2.2.1 17 = σ6.2.2.1 17 := by rw [w7.1.2.1]
          refine k_look w7 bd'.1 (by omega) (by omega) (fun σ8 w8 => ?_)
          rw [x6.hd b2', hdv_r hk]
          unfold mp_X1_rowItem
          rw [mk_lo (by decide), hd_it hnn.2 (by omega)]
          refine ⟨fun z => ?_, fun z => ?_⟩
          · unfold mp_X7_store_93
            exact fin 0 σ8 _ w8 (by omega) (Or.inr ⟨fun q => z (by rw [q.1]; rfl), rfl⟩)
          · exact fin 1 σ8 _ w8 (by omega) (Or.inl ⟨⟨(nI_eq (b := 0) (by omega) (by omega)).mp z, by omega⟩, rfl⟩)
        · refine ⟨fun _ => ?_, fun z => absurd z (by rw [k28, e]; decide)⟩
          unfold mp_X7_store_93
          exact fin 0 σ7 _ w7 (by omega) (Or.inr ⟨fun q => by have := q.2; omega, rfl⟩)
  · have ea : a = 0 := (nI_eq (b := 0) (by omega) (by omega)).mp ea
    have ev := a3.mp ea
    exact s_raise (q := 0) hw x hn f0 i12 i22 i23 w2 (by omega) (by decide) hr (h0 0 (Or.inl ⟨ev, rfl⟩)) (h1 0 (Or.inl ⟨ev, rfl⟩))
end
