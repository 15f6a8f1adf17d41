/-! ===== CALL SEND THROW IN OUT: the class ===== -/
section
variable {σ0 σ σ' σ1 σ2 σA : sm_S} {T : Nat → Nat → Nat} {b : Nat → Nat} {h k lim md cy rch n : Nat} {L : Nat → Prop} {N : Nat → AN} {f : AF} {r fs : List AF} {fl st B F S R fr : Nat} {C D C0 : Nat → Int64} {s0 : List Nat} {ml : List (Nat × Nat)} {nb : List Nat} {z lv y al : Nat → Nat} {fas t : List Nat} {tp m pc ht nx l : Nat} {K : jk}
theorem X_call {m' : Nat} {ids : List Nat} (hw : wf T b) (X : XH σ T b h k lim md cy rch n N (f :: r) 0 1) (hm : f.1 < T 0 1) (hin : inC T f.1 (T 17 f.1 + f.2.1)) (h4 : T 4 (T 17 f.1 + f.2.1) = 1) (ho : b (T 17 f.1 + f.2.1) = 35) (em : b (T 17 f.1 + f.2.1 + 1) = m') (hm' : m' < T 0 1) (hh : T 12 m' ≤ f.2.2.1) (hr : rls T N (f :: r) ids)
    (h0 : rch ≤ k * md → lim < rch → sNO σ K T b h k lim md cy rch n N (f :: r))
    (hK : ¬ (rch ≤ k * md ∧ lim < rch) → sOK σ K T b h k lim (mm k lim md rch 16) (mcy k lim md rch cy 16) (mr T N (f :: r) ids k lim md rch 16) n N (cfr T f m' :: cbl T f m' :: r) 0 1) : mp_X7_step σ K := by
  obtain ⟨L, B, F, S, R, C, C0, s0, ml, nb, z, lv, y, al, tp, t, x, hn, i12, i22, i23, f0, hk1, k64⟩ := X.ob
  obtain ⟨o1, o2, o3, o4, o5, o6⟩ := opB hw hm hin h4
  refine x_pre hw x hin o6 (fun σ1 w1 => ?_)
  have hwd : wd (b (T 17 f.1 + f.2.1)) = 2 := by rw [ho]; rfl
  rw [ho]
  refine xd_call ?_
  refine k_oper (i := 1) hw w1 (by decide) (by omega) ?_
  rw [em]
  have ni := w1.1.2.2.2.2.2
  exact k_enter hw (x.fi w1.1) hn w1.fx (by rw [ni 12 (by unfold Irn; omega)]; exact i12) (by rw [ni 22 (by unfold Irn; omega)]; exact i22) (by rw [ni 23 (by unfold Irn; omega)]; exact i23) w1.re (by omega) hm' hh hr h0 hK
theorem X_send {m0 : Nat} {v : Nat} {ids : List Nat} (hw : wf T b) (X : XH σ T b h k lim md cy rch n N (f :: r) 0 1) (hm : f.1 < T 0 1) (hin : inC T f.1 (T 17 f.1 + f.2.1)) (h4 : T 4 (T 17 f.1 + f.2.1) = 1) (ho : b (T 17 f.1 + f.2.1) = 36) (em : T 8 (16 * b (T 17 f.1 + f.2.1 + 1) + b (T 17 f.1 + f.2.1 + 2)) = m0 + 1) (hm0 : m0 < T 0 1) (hp0 : 1 ≤ T 12 m0 ∧ T 12 m0 ≤ f.2.2.1) (hv : f.2.2.2 (T 15 f.1 + f.2.2.1 - T 12 m0) = .inr v) (hj : ∀ q, v = q + 1 → (N q).1 = 2 ∧ ∃ m', T 8 (16 * (N q).2.1 + b (T 17 f.1 + f.2.1 + 2)) = m' + 1 ∧ m' < T 0 1 ∧ T 12 m' ≤ f.2.2.1) (hr : rls T N (f :: r) ids)
    (h0 : rch ≤ k * md → lim < rch → sNO σ K T b h k lim md cy rch n N (f :: r))
    (h1 : v = 0 → ¬ (rch ≤ k * md ∧ lim < rch) → sOK σ K T b h k lim (mm k lim md rch (1 + T 6 (T 10 0))) (mcy k lim md rch cy (1 + T 6 (T 10 0))) (mr T N (f :: r) ids k lim md rch (1 + T 6 (T 10 0))) (n + 1) (va_up N n (nob T (T 10 0))) (f :: r) (n + 1) 1)
    (hK : ∀ q m', v = q + 1 → T 8 (16 * (N q).2.1 + b (T 17 f.1 + f.2.1 + 2)) = m' + 1 → ¬ (rch ≤ k * md ∧ lim < rch) → sOK σ K T b h k lim (mm k lim md rch 16) (mcy k lim md rch cy 16) (mr T N (f :: r) ids k lim md rch 16) n N (cfr T f m' :: cbl T f m' :: r) 0 1) : mp_X7_step σ K := by
  obtain ⟨L, B, F, S, R, C, C0, s0, ml, nb, z, lv, y, al, tp, t, x, hn, i12, i22, i23, f0, hk1, k64⟩ := X.ob
  obtain ⟨o1, o2, o3, o4, o5, o6⟩ := opB hw hm hin h4
  obtain ⟨-, fc⟩ := x.tv
  have hht := fc.2.2.1
  refine x_pre hw x hin o6 (fun σ1 w1 => ?_)
  have hwd : wd (b (T 17 f.1 + f.2.1)) = 3 := by rw [ho]; rfl
  have w32 := hw.2.1
  have w64 := hw.2.2.2.1
  obtain ⟨c1, c2, c3⟩ := o1.2.2.2.2.2.2 ho
  have im := w1.2.1
  have hLX := im.2.1
  have r14 := (im.2.2.2.2.2.2.2.1.2.1 _ _ c1 c2).1
  have r21 := (im.2.2.2.2.2.2.2.2 m0 hm0).2.1
  rw [ho]
  refine xd_send ?_
  unfold mp_X7_send
  refine k_oper (i := 2) hw w1 (by decide) (by omega) ?_
  refine k_oper (i := 1) hw w1 (by decide) (by omega) ?_
  generalize hpe : T 17 f.1 + f.2.1 = p at *
  rw [l_16, pk_mul, nI_add, nI_clamp (by omega), show b (p + 1) * 16 + b (p + 2) = 16 * b (p + 1) + b (p + 2) by omega, r14, em, show oN (m0 + 1) = nI m0 from nI_pred m0]
  refine ⟨by rw [lx14 hLX]; exact vp_in_nI (by omega) (by decide), ?_⟩
  intro v6 e6
  rw [e6, nI_clamp (by omega), r21, nI_sub1 hp0.1]
  refine ⟨by rw [lx21 hLX]; exact vp_in_nI (by omega) (by decide), ?_⟩
  obtain ⟨a, a1, a2, a3, a4, a5⟩ := x.ad (i := T 15 f.1 + f.2.2.1 - T 12 m0) (by omega) (by omega) hv
  refine k_below hw w1 (by omega) (by omega) (fun σ2 w2 => ?_)
  rw [show tp + 4 + T 15 f.1 + (f.2.2.1 - 1 - (T 12 m0 - 1)) = tp + 4 + (T 15 f.1 + f.2.2.1 - T 12 m0) by omega, a1, mk_lo (by decide)]
  refine ⟨fun na => ?_, fun ea => ?_⟩
  · have na : a ≠ 0 := fun e => na (by rw [e]; rfl)
    obtain ⟨q, eq⟩ : ∃ q, v = q + 1 := ⟨v - 1, by omega⟩
    obtain ⟨b1, b2, b3⟩ := a5 q eq
    have t0 := b3 0 (by omega)
    rw [Nat.add_zero] at t0
    have bd := x.bd t0
    have len : σ2.2.2.1 17 = σ.2.2.1 17 := by rw [w2.1.2.1]
    rw [b1]
    refine k_look w2 bd.1 (by omega) (by omega) (fun σ3 w3 => ?_)
    obtain ⟨kq, m', em', hm', hp'⟩ := hj q eq
    have hd : hdv (N q) = mkc 2 (nI (N q).2.1) := by unfold hdv; rw [if_pos kq]
    have hcq := (x.2.1.1 q b2).1 kq
    have im3 := w3.2.1
    have r14' := (im3.2.2.2.2.2.2.2.1.2.1 _ _ hcq c2).1
    rw [x.hd b2, hd, mk_lo (by decide), pk_mul, nI_add, nI_clamp (by omega), show (N q).2.1 * 16 + b (p + 2) = 16 * (N q).2.1 + b (p + 2) by omega, r14', em', show oN (m' + 1) = nI m' from nI_pred m']
    refine ⟨by rw [lx14 im3.2.1]; exact vp_in_nI (by omega) (by decide), ?_⟩
    have ni := w3.1.2.2.2.2.2
    exact k_enter hw (x.fi w3.1) hn w3.fx (by rw [ni 12 (by unfold Irn; omega)]; exact i12) (by rw [ni 22 (by unfold Irn; omega)]; exact i22) (by rw [ni 23 (by unfold Irn; omega)]; exact i23) w3.re (by omega) hm' hp' hr h0 (hK q m' eq em')
  · have ea : a = 0 := (nI_eq (b := 0) (by omega) (by omega)).mp ea
    have ev := a3.mp ea
    exact s_raise (q := 0) hw x hn f0 i12 i22 i23 w2 (by omega) (by decide) hr h0 (h1 ev)
theorem X_throw {v : Nat} {ids : List Nat} (hw : wf T b) (X : XH σ T b h k lim md cy rch n N (f :: r) 0 1) (hm : f.1 < T 0 1) (hin : inC T f.1 (T 17 f.1 + f.2.1)) (h4 : T 4 (T 17 f.1 + f.2.1) = 1) (ho : b (T 17 f.1 + f.2.1) = 39) (hh : 1 ≤ f.2.2.1 ∧ f.2.2.1 ≤ T 16 f.1) (hv : f.2.2.2 (T 15 f.1 + f.2.2.1 - 1) = .inr v) (hr : rls T N (f :: r) ids)
    (h0 : v = 0 → rch ≤ k * md → lim < rch → sNO σ K T b h k lim md cy rch n N (f :: r))
    (h1 : v = 0 → ¬ (rch ≤ k * md ∧ lim < rch) → sOK σ K T b h k lim (mm k lim md rch (1 + T 6 (T 10 0))) (mcy k lim md rch cy (1 + T 6 (T 10 0))) (mr T N (f :: r) ids k lim md rch (1 + T 6 (T 10 0))) (n + 1) (va_up N n (nob T (T 10 0))) (f :: r) (n + 1) 1)
    (hK : ∀ q, v = q + 1 → sOK σ K T b h k lim md cy rch n N (f :: r) (q + 1) 1) : mp_X7_step σ K := by
  obtain ⟨L, B, F, S, R, C, C0, s0, ml, nb, z, lv, y, al, tp, t, x, hn, i12, i22, i23, f0, hk1, k64⟩ := X.ob
  obtain ⟨o1, o2, o3, o4, o5, o6⟩ := opB hw hm hin h4
  refine x_pre hw x hin o6 (fun σ1 w1 => ?_)
  generalize hpe : T 17 f.1 + f.2.1 = p at *
  obtain ⟨a, a1, a2, a3, a4, a5⟩ := x.ad (i := T 15 f.1 + f.2.2.1 - 1) (by omega) (by omega) hv
  refine xd_lv (by omega) (by omega) ?_
  rw [ho]
  unfold mp_X7_leaveOrPort
  refine ⟨fun q => absurd q (by decide), fun q => absurd q (by decide), fun _ => ?_, fun q => absurd q (by decide), fun _ _ q => absurd rfl q⟩
  refine k_below (j := 0) hw w1 (by omega) (by omega) (fun σ2 w2 => ?_)
  rw [show tp + 4 + T 15 f.1 + (f.2.2.1 - 1 - 0) = tp + 4 + (T 15 f.1 + f.2.2.1 - 1) by omega, a1, mk_lo (by decide)]
  intro s10 e10
  have e11 : s10.1 11 = nI a := by rw [e10]; rfl
  rw [e11]
  have ni := w2.1.2.2.2.2.2
  have x2 := x.fi w2.1
  have fx : frL Ixs σ s10 C := by rw [e10]; exact w2.fx.i (by unfold Ixs; omega)
  have j12 : s10.1 12 = 1 := by rw [e10]; show σ2.1 12 = 1; rw [ni 12 (by unfold Irn; omega)]; exact i12
  have j22 : s10.1 22 = nI 1 := by rw [e10]; show σ2.1 22 = _; rw [ni 22 (by unfold Irn; omega)]; exact i22
  have j23 : s10.1 23 = nI (f :: r).length := by rw [e10]; show σ2.1 23 = _; rw [ni 23 (by unfold Irn; omega)]; exact i23
  refine ⟨fun na => ?_, fun ea => ?_⟩
  · have na : a ≠ 0 := fun e => na (by rw [e]; rfl)
    obtain ⟨q, eq⟩ : ∃ q, v = q + 1 := ⟨v - 1, by omega⟩
    obtain ⟨b1, b2, b3⟩ := a5 q eq
    have t0 := b3 0 (by omega)
    rw [Nat.add_zero] at t0
    have x10 := x2.fly b2 t0
    rw [← b1, ← e10] at x10
    unfold mp_X7_leaveOrPort_83 mp_X7_step_164
    refine ⟨fun _ => ⟨fun _ => ?_, fun q => absurd (by decide) q⟩, fun q => absurd q (by decide)⟩
    exact s_end x10 hn fx j12 (by rw [e10]; exact w2.2.2.2.2.2.2.2.1) (by omega) j22 j23 (by decide) (hK q eq)
  · have ea : a = 0 := (nI_eq (b := 0) (by omega) (by omega)).mp ea
    have ev := a3.mp ea
    have x10 := x2.f0 (v := nI a) (by rw [ea]; rfl)
    rw [← e10] at x10
    have w10 : WK s10 s10 T b C tp f.1 f.2.1 f.2.2.1 _ _ := w2.go (I := fun k => k = 11) x10.1.1 (by rw [e10]; exact (frL_r.d w2.1.2.2.2.2.1).i rfl) (fun k q => by show ¬ k = 11; omega) x10.2.2.1.2.2.2.2 (by rw [e10]; exact w2.2.2.2.2.2.2.2.1) (by omega) w2.2.2.2.2.2.2.2.2.2.2.2.2.2.1 (by rw [e10]; exact w2.2.2.2.2.2.2.2.2.2.2.2.2.2.2.1)
    unfold mp_X7_leaveOrPort_83
    exact s_raise (q := 0) hw x10 hn fx j12 j22 j23 w10 (by omega) (by decide) hr (h0 ev) (h1 ev)
/-- the ports behind IN and OUT -/
def zin (σ : sm_S) : Int32 := if σ.1 19 < σ.1 18 then σ.2.2.2.1 30 (σ.1 19).toNatClampNeg else 0
def pin (σ : sm_S) : sm_S := if σ.1 19 < σ.1 18 then sm_i σ 19 (σ.1 19 + 1) else σ
def pou (σ : sm_S) (v : Int32) : sm_S := if (0 : Int32) ≤ lg_cmp (σ.2.1 0) 1000 then sm_j σ 0 (σ.2.1 0 + 1) else sm_j (sm_r σ 31 (upd (σ.2.2.2.1 31) ((σ.2.1 0).toInt32).toNatClampNeg v)) 0 (σ.2.1 0 + 1)
theorem RXg.ia (x : RXg σ T b h k lim md cy rch L N fs fl B F S R fr C C0 s0 ml nb z lv y al fas) (im : imX σ' T b) (h1 : ∀ kk, kk ≤ 11 → σ'.1 kk = σ.1 kk) (h2 : σ'.2.2.1 = σ.2.2.1) (h3 : σ'.2.2.2.2 17 = σ.2.2.2.2 17) : RXg σ' T b h k lim md cy rch L N fs fl B F S R fr C C0 s0 ml nb z lv y al fas := by
  obtain ⟨x1, x2, ⟨i6, i7, i8, i9, i10⟩, x4, x5, x6, x7, x8, x9, x10⟩ := x
  exact ⟨⟨im, by rw [h1 1 (by omega)]; exact x1.2.1, by rw [h1 2 (by omega)]; exact x1.2.2.1, by rw [h1 3 (by omega)]; exact x1.2.2.2.1, by rw [h1 4 (by omega)]; exact x1.2.2.2.2.1, by rw [h1 5 (by omega)]; exact x1.2.2.2.2.2.1, by rw [h2]; exact x1.2.2.2.2.2.2.1, by rw [h2]; exact x1.2.2.2.2.2.2.2.1, by rw [h3]; exact x1.2.2.2.2.2.2.2.2.1, x1.2.2.2.2.2.2.2.2.2⟩, x2, ⟨by rw [h1 6 (by omega)]; exact i6, by rw [h1 7 (by omega)]; exact i7, by rw [h1 8 (by omega)]; exact i8, by rw [h1 9 (by omega)]; exact i9, by rw [h1 10 (by omega)]; exact i10⟩, x4, by rw [h1 11 (by omega)]; exact x5, x6, x7, x8, x9, x10⟩
theorem WK.ia (w : WK σ0 σ T b D tp m pc ht nx l) (im : imX σ' T b) (h1 : ∀ kk, kk = 10 ∨ kk = 13 ∨ (24 ≤ kk ∧ kk ≤ 27) → σ'.1 kk = σ.1 kk) (h2 : σ'.2.2.1 = σ.2.2.1) (h3 : σ'.2.2.2.2 17 = σ.2.2.2.2 17) : WK σ' σ' T b D tp m pc ht nx l := by
  obtain ⟨w1, w2, w3, w4, w5, w6, w7, w8, w9, w10, w11, w12, w13, w14, w15, w16⟩ := w
  exact ⟨frL_r.d (h3.trans w1.2.2.2.2.1), im, by rw [h1 10 (by omega)]; exact w3, by rw [h1 24 (by omega)]; exact w4, by rw [h1 25 (by omega)]; exact w5, by rw [h1 26 (by omega)]; exact w6, by rw [h1 27 (by omega)]; exact w7, by rw [h1 13 (by omega)]; exact w8, w9, w10, w11, w12, w13, w14, by rw [h2]; exact w15, by rw [h2]; exact w16⟩
theorem X_in (hw : wf T b) (X : XH σ T b h k lim md cy rch n N (f :: r) 0 1) (hm : f.1 < T 0 1) (hin : inC T f.1 (T 17 f.1 + f.2.1)) (h4 : T 4 (T 17 f.1 + f.2.1) = 1) (ho : b (T 17 f.1 + f.2.1) = 40) (hh : f.2.2.1 < T 16 f.1) {ip tk : Nat} (p18 : σ.1 18 = nI ip) (p19 : σ.1 19 = nI tk) (pb : ip ≤ 1000 ∧ tk ≤ 1000) (l30 : σ.2.2.1 30 = 1000)
    (hK : sOK (pin σ) K T b h k lim md cy rch n N ((f.1, f.2.1 + 1, f.2.2.1 + 1, va_up f.2.2.2 (T 15 f.1 + f.2.2.1) (.inl (zin σ))) :: r) 0 1) : mp_X7_step σ K := by
  obtain ⟨L, B, F, S, R, C, C0, s0, ml, nb, z, lv, y, al, tp, t, x, hn, i12, i22, i23, f0, hk1, k64⟩ := X.ob
  obtain ⟨o1, o2, o3, o4, o5, o6⟩ := opB hw hm hin h4
  refine x_pre hw x hin o6 (fun σ1 w1 => ?_)
  generalize hpe : T 17 f.1 + f.2.1 = p at *
  have hwd : wd (b p) = 1 := by rw [ho]; rfl
  rw [hwd] at w1 o2
  refine xd_lv (by omega) (by omega) ?_
  rw [ho]
  unfold mp_X7_leaveOrPort
  refine ⟨fun q => absurd q (by decide), fun q => absurd q (by decide), fun q => absurd q (by decide), fun _ => ?_, fun _ _ _ q => absurd rfl q⟩
  have ni := w1.1.2.2.2.2.2
  have j18 : σ1.1 18 = nI ip := (ni 18 (by unfold Irn; omega)).trans p18
  have j19 : σ1.1 19 = nI tk := (ni 19 (by unfold Irn; omega)).trans p19
  have fin : ∀ s2 : sm_S, RXg s2 T b h k lim md cy rch L N (f :: r) 0 B F S R R C C0 s0 ml nb z lv y al (tp :: t) → WK s2 s2 T b C tp f.1 f.2.1 f.2.2.1 (f.2.1 + 1) 3 → frL Ixs (pin σ) s2 C → (∀ kk, kk = 12 ∨ kk = 22 ∨ kk = 23 → s2.1 kk = σ.1 kk) → mp_X7_pushInt s2 (zin σ) (fun r s => mp_X7_step_164 K s r) := fun s2 x2 w2 fx nj => by
    refine k_pushI hw w2 hh (by omega) (fun σ5 w5 => ?_)
    obtain ⟨tv1, -⟩ := x2.tv
    have tv2 := tv1.up (k := T 15 f.1 + f.2.2.1) (n' := T 15 f.1 + (f.2.2.1 + 1)) (v := .inl (zin σ)) (by omega) (gcl_n _ _ _) (vcl_n _) (Or.inr ⟨by omega, rfl⟩)
    rw [show tp + 4 + (T 15 f.1 + f.2.2.1) = tp + 4 + T 15 f.1 + f.2.2.1 by omega] at tv2
    refine s_done hw x2 hn fx (by rw [nj 12 (by omega)]; exact i12) (by rw [nj 22 (by omega)]; exact i22) (by rw [nj 23 (by omega)]; exact i23) w5 (by omega) tv2 (fun i k hi hk => ?_) hK
    by_cases e : i = T 15 f.1 + f.2.2.1
    · rw [e, va_up_self] at hk
      cases hk
    · rw [va_up_ne _ _ e] at hk
      exact x2.2.1.2.2.2.2.2.2.2 f List.mem_cons_self i k (by omega) hk
  unfold mp_X5_take
  rw [j18, j19]
  by_cases c : nI tk < nI ip
  · refine ⟨fun _ => ?_, fun q => absurd c q⟩
    have hlt := (nI_ltI (by omega) (by omega)).mp c
    intro s2 e2
    have k19 : s2.1 19 - 1 = nI tk := by rw [e2]; show nI tk + 1 - 1 = _; rw [nI_1, nI_pred]
    rw [k19, nI_clamp (by omega)]
    have zz : zin σ = s2.2.2.2.1 30 tk := by
      unfold zin
      rw [p18, p19, if_pos c, nI_clamp (by omega), e2]
      show _ = σ1.2.2.2.1 30 tk
      rw [w1.1.2.2.1]
    have pp : pin σ = sm_i σ 19 (nI tk + 1) := by unfold pin; rw [p18, p19, if_pos c]
    have im2 : imX s2 T b := by
      rw [e2]
      exact w1.2.1.f (I := fun k => k = 19) (A := A0) (fr_r.i rfl) (fun k q => by show ¬ k = 19; omega) (fun r j _ _ _ q => q)
    have len : s2.2.2.1 30 = 1000 := by rw [e2]; show σ1.2.2.1 30 = _; rw [w1.1.2.1]; exact l30
    refine ⟨by rw [len]; exact vp_in_nI (by omega) (by decide), ?_⟩
    rw [← zz]
    refine fin s2 ((x.fi w1.1).ia im2 (fun kk hk => by rw [e2]; exact va_up_ne _ _ (by omega)) (by rw [e2]) (by rw [e2])) (w1.ia im2 (fun kk hk => by rw [e2]; exact va_up_ne _ _ (by omega)) (by rw [e2]) (by rw [e2])) ?_ (fun kk hkk => by rw [e2]; exact (va_up_ne _ _ (by omega)).trans (ni kk (fun z => by unfold Irn at z; omega)))
    rw [pp, e2]
    have g := w1.fx
    refine ⟨g.1, g.2.1, g.2.2.1, g.2.2.2.1, g.2.2.2.2.1, fun kk hk => ?_⟩
    show va_up σ1.1 19 (nI tk + 1) kk = va_up σ.1 19 (nI tk + 1) kk
    by_cases e : kk = 19
    · rw [e, va_up_self, va_up_self]
    · rw [va_up_ne _ _ e, va_up_ne _ _ e]; exact g.2.2.2.2.2 kk hk
  · refine ⟨fun q => absurd q c, fun _ => ?_⟩
    have zz : zin σ = 0 := by unfold zin; rw [p18, p19, if_neg c]
    have pp : pin σ = σ := by unfold pin; rw [p18, p19, if_neg c]
    rw [← zz]
    exact fin σ1 (x.fi w1.1) w1.re (by rw [pp]; exact w1.fx) (fun kk hkk => ni kk (fun z => by unfold Irn at z; omega))
theorem X_out {xv : Int32} (hw : wf T b) (X : XH σ T b h k lim md cy rch n N (f :: r) 0 1) (hm : f.1 < T 0 1) (hin : inC T f.1 (T 17 f.1 + f.2.1)) (h4 : T 4 (T 17 f.1 + f.2.1) = 1) (ho : b (T 17 f.1 + f.2.1) = 41) (hh : 1 ≤ f.2.2.1 ∧ f.2.2.1 ≤ T 16 f.1) (hv : f.2.2.2 (T 15 f.1 + f.2.2.1 - 1) = .inl xv) (hp : ¬ (0 : Int32) ≤ lg_cmp (σ.2.1 0) 1000 → vp_in ((σ.2.1 0).toInt32) (σ.2.2.1 31))
    (hK : sOK (pou σ xv) K T b h k lim md cy rch n N ((f.1, f.2.1 + 1, f.2.2.1 - 1, f.2.2.2) :: r) 0 1) : mp_X7_step σ K := by
  obtain ⟨L, B, F, S, R, C, C0, s0, ml, nb, z, lv, y, al, tp, t, x, hn, i12, i22, i23, f0, hk1, k64⟩ := X.ob
  obtain ⟨o1, o2, o3, o4, o5, o6⟩ := opB hw hm hin h4
  refine x_pre hw x hin o6 (fun σ1 w1 => ?_)
  generalize hpe : T 17 f.1 + f.2.1 = p at *
  have hwd : wd (b p) = 1 := by rw [ho]; rfl
  rw [hwd] at w1 o2
  have a1 := x.nm (i := T 15 f.1 + f.2.2.1 - 1) (by omega) hv
  refine xd_lv (by omega) (by omega) ?_
  rw [ho]
  unfold mp_X7_leaveOrPort
  refine ⟨fun q => absurd q (by decide), fun q => absurd q (by decide), fun q => absurd q (by decide), fun q => absurd q (by decide), fun _ _ _ _ => ?_⟩
  refine k_pop hw w1 (by omega) (by omega) (fun σ2 w2 => ?_)
  rw [show tp + 4 + T 15 f.1 + (f.2.2.1 - 1) = tp + 4 + (T 15 f.1 + f.2.2.1 - 1) by omega, a1, mk_lo (by decide)]
  have ni := w2.1.2.2.2.2.2
  have e0 : σ2.2.1 = σ.2.1 := w2.1.1
  have fin : ∀ s3 : sm_S, imX s3 T b → s3.1 = σ2.1 → s3.2.2.1 = σ2.2.2.1 → s3.2.2.2.2 = σ2.2.2.2.2 → frL Ixs (pou σ xv) s3 C → mp_X7_step_164 K s3 (-1) := fun s3 im3 q1 q2 q3 fx => by
    have x3 := (x.fi w2.1).ia im3 (fun kk _ => by rw [q1]) q2 (by rw [q3])
    have w3 := w2.ia im3 (fun kk _ => by rw [q1]) q2 (by rw [q3])
    obtain ⟨tv1, -⟩ := x3.tv
    have nj : ∀ kk, kk = 12 ∨ kk = 22 ∨ kk = 23 → s3.1 kk = σ.1 kk := fun kk hkk => by rw [q1]; exact ni kk (fun z => by unfold Irn at z; omega)
    exact s_done hw x3 hn fx (by rw [nj 12 (by omega)]; exact i12) (by rw [nj 22 (by omega)]; exact i22) (by rw [nj 23 (by omega)]; exact i23) w3 (by omega) (tv1.le (by omega)) (fun i k hi hk => x3.2.1.2.2.2.2.2.2.2 f List.mem_cons_self i k (by omega) hk) hK
  have g := w2.fx
  have imj : ∀ v, imX (sm_j σ2 0 v) T b := fun v => w2.2.1
  unfold mp_X5_give mp_X5_give_22
  rw [e0]
  refine ⟨fun c => ?_, fun c => ⟨by rw [w2.1.2.1]; exact hp c, ?_⟩⟩
  · intro s3 e3
    refine fin s3 (by rw [e3]; exact imj _) (by rw [e3]) (by rw [e3]) (by rw [e3]) ?_
    have pp : pou σ xv = sm_j σ 0 (σ.2.1 0 + 1) := by unfold pou; rw [if_pos c]
    rw [pp, e3]
    refine ⟨?_, g.2.1, g.2.2.1, g.2.2.2.1, g.2.2.2.2.1, g.2.2.2.2.2⟩
    show va_up σ2.2.1 0 (σ.2.1 0 + 1) = va_up σ.2.1 0 (σ.2.1 0 + 1)
    rw [e0]
  · intro s4 e4 s3 e3
    have im4 : imX s4 T b := by
      rw [e4]
      exact w2.2.1.f (I := fun _ => False) (A := fun r _ => r = 31) (fr_r.w (fun j q => absurd rfl q)) (fun k q z => z) (fun r j h1 h2 h3 => by show ¬ r = 31; omega)
    have e40 : s4.2.1 = σ.2.1 := by rw [e4]; exact e0
    refine fin s3 (by rw [e3]; exact im4) (by rw [e3, e4]) (by rw [e3, e4]) (by rw [e3, e4]) ?_
    have pp : pou σ xv = sm_j (sm_r σ 31 (upd (σ.2.2.2.1 31) ((σ.2.1 0).toInt32).toNatClampNeg xv)) 0 (σ.2.1 0 + 1) := by unfold pou; rw [if_neg c]
    rw [pp, e3, e40, e4]
    refine ⟨?_, g.2.1, ?_, g.2.2.2.1, g.2.2.2.2.1, g.2.2.2.2.2⟩
    · show va_up σ2.2.1 0 (σ.2.1 0 + 1) = va_up σ.2.1 0 (σ.2.1 0 + 1)
      rw [e0]
    · show va_up σ2.2.2.2.1 31 _ = va_up σ.2.2.2.1 31 _
      rw [g.2.2.1]
end
