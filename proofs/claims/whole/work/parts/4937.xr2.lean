/-! ===== rows: the class, ROW LENGTH AT ===== -/
section
variable {σ0 σ σ' σ1 σ2 : sm_S} {T : Nat → Nat → Nat} {b : Nat → Nat} {h k lim md cy rch n : Nat} {L : Nat → Prop} {N : Nat → AN} {f : AF} {r fs : List AF} {fl st B F S R fr : Nat} {C D C0 : Nat → Int64} {s0 : List Nat} {ml : List (Nat × Nat)} {nb : List Nat} {z lv y al : Nat → Nat} {fas t : List Nat} {tp m pc ht nx l : Nat} {K : jk}
theorem k_look2 {a : Nat} {K : Int64 → sm_S → Prop} (w : WK σ0 σ T b D tp m pc ht nx l) (h1 : 1 ≤ a) (h2 : a < σ.2.2.1 17) (hl : l + 1 < 2 ^ 19) (hK : ∀ σ', WK σ0 σ' T b D tp m pc ht nx (l + 1) → (∀ kk, kk ≠ 13 → σ'.1 kk = σ.1 kk) → K (D a) σ') : mp_X1_look σ (nI a) K := by
  have hD : σ.2.2.2.2 17 = D := w.1.2.2.2.2.1
  have h16 := w.2.2.2.2.2.2.2.2.2.2.2.2.2.2.2
  refine l_look h1 h2 (by omega) ?_
  rw [hD, w.2.2.2.2.2.2.2.1, nI_1]
  exact hK _ (w.l1 hl) (fun kk hk => va_up_ne _ _ hk)
theorem npt_rw (T : Nat → Nat → Nat) (it n : Nat) : npt T (nrw it n) = 15 := rfl
theorem npt_ch (T : Nat → Nat → Nat) (it n : Nat) : npt T (nch it n) = 15 := rfl
theorem hdv_rw (it n : Nat) : hdv (nrw it n) = mkc 3 (nI (4096 * it + n)) := rfl
theorem hdv_ch (it n : Nat) : hdv (nch it n) = mkc 4 (nI 0) := rfl
theorem gv0 {hf B : Nat} {s0 : List Nat} {ml : List (Nat × Nat)} {nb : List Nat} {al : Nat → Nat} (L : Nat → Prop) (P : Prop) [Decidable P] : gcl hf B (z0c P) ∧ vcl s0 ml nb al (if P then .inl 0 else .inr 0) (z0c P) ∧ ∀ k, (if P then (Sum.inl 0 : AV) else Sum.inr 0) = Sum.inr (k + 1) → L k := by
  unfold z0c
  by_cases e : P
  · rw [if_pos e, if_pos e]
    exact ⟨gcl_n _ _ _, vcl_n _, fun k q => by cases q⟩
  · rw [if_neg e, if_neg e]
    exact ⟨gcl_0 _ _, vcl_0, fun k q => by cases q⟩
/-- a number on the stack -/
theorem RXg.nm {i : Nat} {v : Int32} (x : RXg σ T b h k lim md cy rch L N (f :: r) fl B F S R fr C C0 s0 ml nb z lv y al (tp :: t)) (hi : i < T 15 f.1 + f.2.2.1) (hv : f.2.2.2 i = .inl v) : C (tp + 4 + i) = mkc 0 v := by
  obtain ⟨tv0, -⟩ := x.tv
  have vv := tv0.2.2 i hi
  rw [hv] at vv
  exact vv.nu
theorem X_row {xv : Int32} {ids : List Nat} (hw : wf T b) (X : XH σ T b h k lim md cy rch n N (f :: r) 0 1) (hm : f.1 < T 0 1) (hin : inC T f.1 (T 17 f.1 + f.2.1)) (h4 : T 4 (T 17 f.1 + f.2.1) = 1) (ho : b (T 17 f.1 + f.2.1) = 31) (hh : 1 ≤ f.2.2.1 ∧ f.2.2.1 ≤ T 16 f.1) (hv : f.2.2.2 (T 15 f.1 + f.2.2.1 - 1) = .inl xv) (hr : rls T N (f :: r) ids)
    (h0 : rch ≤ k * md → lim < rch → sNO σ K T b h k lim md cy rch n N (f :: r))
    (h1 : ¬ (∃ j, j ≤ 3375 ∧ xv = nI j) → ¬ (rch ≤ k * md ∧ lim < rch) → sOK σ K T b h k lim (mm k lim md rch (1 + T 6 (T 10 4))) (mcy k lim md rch cy (1 + T 6 (T 10 4))) (mr T N (f :: r) ids k lim md rch (1 + T 6 (T 10 4))) (n + 1) (va_up N n (nob T (T 10 4))) (f :: r) (n + 1) 1)
    (hK : ∀ j, j ≤ 3375 → xv = nI j → ¬ (rch ≤ k * md ∧ lim < rch) → sOK σ K T b h k lim (mm k lim md rch 16) (mcy k lim md rch cy 16) (mr T N (f :: r) ids k lim md rch 16) (n + 1) (va_up N n (nrw (b (T 17 f.1 + f.2.1 + 1)) j)) ((f.1, f.2.1 + 2, f.2.2.1, va_up f.2.2.2 (T 15 f.1 + f.2.2.1 - 1) (.inr (n + 1))) :: r) 0 1) : mp_X7_step σ K := by
  obtain ⟨L, B, F, S, R, C, C0, s0, ml, nb, z, lv, y, al, tp, t, x, hn, i12, i22, i23, f0, hk1, k64⟩ := X.ob
  obtain ⟨o1, o2, o3, o4, o5, o6⟩ := opB hw hm hin h4
  refine x_pre hw x hin o6 (fun σ1 w1 => ?_)
  generalize hpe : T 17 f.1 + f.2.1 = p at *
  have hwd : wd (b p) = 2 := by rw [ho]; rfl
  rw [hwd] at w1 o2
  have w2c := hw.2.1
  have hc := o1.2.2.2.2.2.1 ho
  have a1 := x.nm (i := T 15 f.1 + f.2.2.1 - 1) (by omega) hv
  refine xd_row (by omega) (by omega) ?_
  rw [ho]
  unfold mp_X7_useRow
  refine ⟨fun q => absurd rfl q, fun _ => ?_⟩
  refine k_oper (i := 1) hw w1 (by decide) (by omega) ?_
  rw [hpe]
  refine k_below (j := 0) hw w1 (by omega) (by omega) (fun σ2 w2 => ?_)
  rw [show tp + 4 + T 15 f.1 + (f.2.2.1 - 1 - 0) = tp + 4 + (T 15 f.1 + f.2.2.1 - 1) by omega, a1, mk_lo (by decide)]
  have ni := w2.1.2.2.2.2.2
  have bad : ¬ (∃ j, j ≤ 3375 ∧ xv = nI j) → mp_X7_makeRow_11 (fun r s => mp_X7_step_164 K s r) σ2 := fun hb => by
    unfold mp_X7_makeRow_11
    exact s_raise (q := 4) hw x hn f0 i12 i22 i23 w2 (by omega) (by decide) hr h0 (h1 hb)
  unfold mp_X7_makeRow
  refine ⟨fun q => bad (fun ⟨j, j1, j2⟩ => by rw [j2] at q; exact nI_neg (by omega) q), fun q1 => ⟨fun q2 => ?_, fun q => bad (fun ⟨j, j1, j2⟩ => q (by rw [j2]; exact nI_le j1 (by decide)))⟩⟩
  obtain ⟨len, l1, l2⟩ := nI_of2 (M := 3375) (n := 3375) (by decide) q1 q2
  rw [l2, l_16]
  refine k_make hw (x.fi w2.1) w2.re (by decide) hr (by omega) (fun u1 u2 => ⟨fun q => absurd rfl q, fun _ => ?_⟩) (fun σ3 L' B' F' S' R' fr' C' C0' s0' ml' nb' z' lv' al' tp' t' l' nst x1 e1 e2 e3 e4 e5 w3 e6 f1 => ?_)
  · unfold mp_X7_step_164
    refine ⟨fun _ => ⟨fun _ => ?_, fun q => absurd (by decide) q⟩, fun q => absurd q (by decide)⟩
    exact s_stuck (x.fi w2.1) hn w2.fx (by rw [ni 12 (by unfold Irn; omega)]; exact i12) w2.2.2.2.2.2.2.2.1 (by omega) (by rw [ni 23 (by unfold Irn; omega)]; exact i23) (h0 u1 u2)
  · have l30 := w3.2.2.2.2.2.2.2.2.2.2.2.2.2.2.2
    have ne : ¬ nI fr' = 0 := nI_ne0 (by omega) (by omega)
    refine ⟨fun _ => ?_, fun q => absurd q ne⟩
    have g1 := x1.1.2.2.2.2.2.2.2.2.2.1
    have gR := (lan_in nb' R' g1.2.2.1).1
    have gF := (lay_in ml' F' g1.2.1).1
    have go : ∀ y0 : Int32, ((b (p + 1) = 0 ∧ dpt len = 0) ∧ y0 = 1) ∨ (¬ (b (p + 1) = 0 ∧ dpt len = 0) ∧ y0 = 0) → mp_X7_makeRow_47 (fun r s => mp_X7_step_164 K s r) σ3 (nI (b (p + 1))) (nI len) (nI fr') y0 := fun y0 hy => by
      unfold mp_X7_makeRow_47 mp_X1_cell
      rw [hd_mk (by omega) (by omega)]
      have fin : ∀ c : Int64, c = z0c (b (p + 1) = 0 ∧ dpt len = 0) → mp_X7_makeRow_73 (fun r s => mp_X7_step_164 K s r) σ3 (nI fr') (nI fr') (mkc 3 (nI (4096 * b (p + 1) + len))) c := fun c ec => by
        unfold mp_X7_makeRow_73
        refine k_fill w3 e3 (by omega) (by omega) (fun σ4 D4 w4 d1 d2 d3 => ?_)
        have hnd := npt_rw T (b (p + 1)) len
        have x4 := x1.nn (n := n) (nd := nrw (b (p + 1)) len) (s := 16) hw e1 e2 (by rw [hnd]) (by omega) (fun q => absurd (hn n (e5 n q)) (by omega)) (fun q => absurd q (by show ¬ (3 : Nat) = 2; decide)) (fun _ => ⟨l1, by show b (p + 1) ≤ 32; omega⟩) w4.1 (fun u hu => d1 u (by omega)) (by rw [d2, hdv_rw]) (fun j hj => by
          rw [hnd] at hj
          rw [show fr' + 1 + j = fr' + (1 + j) by omega, d3 (1 + j) (by omega) (by omega), ec]
          exact gv0 L' _)
        intro s5 e5'
        rw [w4.2.2.2.2.2.2.1, nI_sub1 hh.1] at e5'
        have w5 := (w4.re).h1 (ht' := f.2.2.1 - 1) (by omega)
        rw [← e5'] at w5
        unfold mp_X1_cell
        refine k_push hw w5 (by omega) (by omega) (fun σ6 w6 => ?_)
        have ea : va_up al' n fr' n = fr' := va_up_self _ _ _
        have ob := g1.ob
        have nl : ¬ ldb (2 * h + 64) B' 1 (va_up al' n fr' n) := fun q => by
          have := q.2.2
          rw [ea] at this
          omega
        obtain ⟨v1, v2⟩ := x4.vc (q := n) (Or.inr rfl) (by rw [ea]; omega) (by rw [ea]; omega) nl
        rw [ea] at v1 v2
        obtain ⟨tv1, -⟩ := x4.tv
        have tv2 := tv1.up (k := T 15 f.1 + f.2.2.1 - 1) (n' := T 15 f.1 + f.2.2.1) (by omega) v1 v2 (Or.inl (Nat.le_refl _))
        rw [show tp' + 4 + (T 15 f.1 + f.2.2.1 - 1) = tp' + 4 + T 15 f.1 + (f.2.2.1 - 1) by omega] at tv2
        rw [show f.2.2.1 - 1 + 1 = f.2.2.1 by omega] at w6
        have fx : frL Ixs σ σ4 D4 := (w2.fx.t (f1.m (fun k q => by unfold Imk at q; unfold Ixs; omega))).t w4.fx
        have nj : ∀ kk, kk = 12 ∨ kk = 22 ∨ kk = 23 → σ4.1 kk = σ.1 kk := fun kk hkk => ((w4.1.2.2.2.2.2 kk (fun z => by unfold Irn at z; omega)).trans (f1.2.2.2.2.2 kk (fun z => by unfold Imk at z; omega))).trans (ni kk (fun z => by unfold Irn at z; omega))
        refine s_done (n := n + 1) hw x4 (fun i hi => hi.elim (fun q => by have := hn i (e5 i q); omega) (fun q => by omega)) fx (by rw [nj 12 (by omega)]; exact i12) (by rw [nj 22 (by omega)]; exact i22) (by rw [nj 23 (by omega)]; exact i23) w6 (by omega) tv2 (fun i k hi hk => ?_) (hK len l1 l2 nst)
        by_cases e : i = T 15 f.1 + f.2.2.1 - 1
        · rw [e, va_up_self] at hk
          cases hk
          exact Or.inr rfl
        · rw [va_up_ne _ _ e] at hk
          exact x4.2.1.2.2.2.2.2.2.2 f List.mem_cons_self i k (by omega) hk
      rcases hy with ⟨y1, y2⟩ | ⟨y1, y2⟩
      · rw [y2]
        exact ⟨fun q => absurd q (by decide), fun _ => fin _ (by unfold z0c; rw [if_pos y1, mk_0])⟩
      · rw [y2]
        exact ⟨fun _ => fin _ (by unfold z0c; rw [if_neg y1, mk_nil]; rfl), fun q => absurd rfl q⟩
    refine ⟨fun q => ?_, fun q => ?_⟩
    · have n0 : b (p + 1) ≠ 0 := fun e => q (by rw [e]; rfl)
      unfold mp_X7_makeRow_46
      exact go 0 (Or.inr ⟨fun q => n0 q.1, rfl⟩)
    · have n0 : b (p + 1) = 0 := (nI_eq (b := 0) (by omega) (by omega)).mp q
      refine w_span l1 ?_
      by_cases d0 : dpt len = 0
      · rw [d0]
        exact ⟨fun q => absurd rfl q, fun _ => go 1 (Or.inl ⟨⟨n0, d0⟩, rfl⟩)⟩
      · have dp : dpt len ≤ 2 := by unfold dpt; (repeat' split) <;> omega
        have ns : ¬ nI (15 ^ dpt len) = 1 := by
          have : dpt len = 1 ∨ dpt len = 2 := by omega
          rcases this with e | e <;> rw [e] <;> decide
        unfold mp_X7_makeRow_46
        exact ⟨fun _ => go 0 (Or.inr ⟨fun q => d0 q.2, rfl⟩), fun q => absurd q ns⟩
theorem X_len {v : Nat} {ids : List Nat} (hw : wf T b) (X : XH σ T b h k lim md cy rch n N (f :: r) 0 1) (hm : f.1 < T 0 1) (hin : inC T f.1 (T 17 f.1 + f.2.1)) (h4 : T 4 (T 17 f.1 + f.2.1) = 1) (ho : b (T 17 f.1 + f.2.1) = 32) (hh : 1 ≤ f.2.2.1 ∧ f.2.2.1 ≤ T 16 f.1) (hv : f.2.2.2 (T 15 f.1 + f.2.2.1 - 1) = .inr v) (hj : ∀ q, v = q + 1 → (N q).1 = 3) (hr : rls T N (f :: r) ids)
    (h0 : v = 0 → rch ≤ k * md → lim < rch → sNO σ K T b h k lim md cy rch n N (f :: r))
    (h1 : v = 0 → ¬ (rch ≤ k * md ∧ lim < rch) → sOK σ K T b h k lim (mm k lim md rch (1 + T 6 (T 10 0))) (mcy k lim md rch cy (1 + T 6 (T 10 0))) (mr T N (f :: r) ids k lim md rch (1 + T 6 (T 10 0))) (n + 1) (va_up N n (nob T (T 10 0))) (f :: r) (n + 1) 1)
    (hK : ∀ q, v = q + 1 → sOK σ K T b h k lim md cy rch n N ((f.1, f.2.1 + 1, f.2.2.1, va_up f.2.2.2 (T 15 f.1 + f.2.2.1 - 1) (.inl (nI (N q).2.1))) :: r) 0 1) : mp_X7_step σ K := by
  obtain ⟨L, B, F, S, R, C, C0, s0, ml, nb, z, lv, y, al, tp, t, x, hn, i12, i22, i23, f0, hk1, k64⟩ := X.ob
  obtain ⟨o1, o2, o3, o4, o5, o6⟩ := opB hw hm hin h4
  refine x_pre hw x hin o6 (fun σ1 w1 => ?_)
  generalize hpe : T 17 f.1 + f.2.1 = p at *
  have hwd : wd (b p) = 1 := by rw [ho]; rfl
  rw [hwd] at w1 o2
  obtain ⟨a, a1, a2, a3, a4, a5⟩ := x.ad (i := T 15 f.1 + f.2.2.1 - 1) (by omega) (by omega) hv
  refine xd_row (by omega) (by omega) ?_
  rw [ho]
  unfold mp_X7_useRow
  refine ⟨fun _ => ⟨fun q => absurd rfl q, fun _ => ?_⟩, fun q => absurd q (by decide)⟩
  unfold mp_X7_useRow_43
  refine k_below (j := 0) hw w1 (by omega) (by omega) (fun σ2 w2 => ?_)
  rw [show tp + 4 + T 15 f.1 + (f.2.2.1 - 1 - 0) = tp + 4 + (T 15 f.1 + f.2.2.1 - 1) by omega, a1, mk_lo (by decide)]
  refine ⟨fun na => ?_, fun ea => ?_⟩
  · have na : a ≠ 0 := fun e => na (by rw [e]; rfl)
    obtain ⟨q, eq⟩ : ∃ q, v = q + 1 := ⟨v - 1, by omega⟩
    obtain ⟨b1, b2, b3⟩ := a5 q eq
    have t0 := b3 0 (by omega)
    rw [Nat.add_zero] at t0
    have bd := x.bd t0
    have len : σ2.2.2.1 17 = σ.2.2.1 17 := by rw [w2.1.2.1]
    rw [b1]
    refine k_look w2 bd.1 (by omega) (by omega) (fun σ3 w3 => ?_)
    have hk := hj q eq
    have hnn := (x.2.1.1 q b2).2.1 hk
    rw [x.hd b2, hdv_r hk]
    unfold mp_X1_rowLength
    rw [mk_lo (by decide), hd_ln hnn.2 (by omega)]
    refine ⟨fun q => absurd rfl q, fun _ => ?_⟩
    intro s18 e18
    rw [w3.2.2.2.2.2.2.1, nI_sub1 hh.1] at e18
    have w4 := w3.h1 (ht' := f.2.2.1 - 1) (by omega)
    rw [← e18] at w4
    refine k_pushI hw w4 (by omega) (by omega) (fun σ5 w5 => ?_)
    obtain ⟨tv1, -⟩ := x.tv
    have tv2 := tv1.up (k := T 15 f.1 + f.2.2.1 - 1) (n' := T 15 f.1 + f.2.2.1) (v := .inl (nI (N q).2.1)) (by omega) (gcl_n _ _ _) (vcl_n _) (Or.inl (Nat.le_refl _))
    rw [show tp + 4 + (T 15 f.1 + f.2.2.1 - 1) = tp + 4 + T 15 f.1 + (f.2.2.1 - 1) by omega] at tv2
    rw [show f.2.2.1 - 1 + 1 = f.2.2.1 by omega] at w5
    refine s_done hw x hn f0 i12 i22 i23 w5 (by omega) tv2 (fun i k hi hk => ?_) (hK q eq)
    by_cases e : i = T 15 f.1 + f.2.2.1 - 1
    · rw [e, va_up_self] at hk
      cases hk
    · rw [va_up_ne _ _ e] at hk
      exact x.2.1.2.2.2.2.2.2.2 f List.mem_cons_self i k (by omega) hk
  · have ea : a = 0 := (nI_eq (b := 0) (by omega) (by omega)).mp ea
    have ev := a3.mp ea
    exact s_raise (q := 0) hw x hn f0 i12 i22 i23 w2 (by omega) (by decide) hr (h0 ev) (h1 ev)
/-- what AT fetches -/
def rval (N : Nat → AN) (q q' j lk : Nat) : AV := if lk = 0 then (N q').2.2.2 j else if (N q).2.2.1 = 0 then .inl 0 else .inr 0
theorem X_at {v : Nat} {xi : Int32} {ids : List Nat} (hw : wf T b) (X : XH σ T b h k lim md cy rch n N (f :: r) 0 1) (hm : f.1 < T 0 1) (hin : inC T f.1 (T 17 f.1 + f.2.1)) (h4 : T 4 (T 17 f.1 + f.2.1) = 1) (ho : b (T 17 f.1 + f.2.1) = 33) (hh : 2 ≤ f.2.2.1 ∧ f.2.2.1 ≤ T 16 f.1) (hv : f.2.2.2 (T 15 f.1 + f.2.2.1 - 2) = .inr v) (hxi : f.2.2.2 (T 15 f.1 + f.2.2.1 - 1) = .inl xi) (hj : ∀ q, v = q + 1 → (N q).1 = 3) (hr : rls T N (f :: r) ids)
    (h0 : ∀ e, (v = 0 ∧ e = 0) ∨ (e = 1 ∧ ∃ q, v = q + 1 ∧ ¬ ∃ i, i < (N q).2.1 ∧ xi = nI i) → rch ≤ k * md → lim < rch → sNO σ K T b h k lim md cy rch n N (f :: r))
    (h1 : ∀ e, (v = 0 ∧ e = 0) ∨ (e = 1 ∧ ∃ q, v = q + 1 ∧ ¬ ∃ i, i < (N q).2.1 ∧ xi = nI i) → ¬ (rch ≤ k * md ∧ lim < rch) → sOK σ K T b h k lim (mm k lim md rch (1 + T 6 (T 10 e))) (mcy k lim md rch cy (1 + T 6 (T 10 e))) (mr T N (f :: r) ids k lim md rch (1 + T 6 (T 10 e))) (n + 1) (va_up N n (nob T (T 10 e))) (f :: r) (n + 1) 1)
    (hK : ∀ q i, v = q + 1 → i < (N q).2.1 → xi = nI i → ∃ q' j lk, pth T N (dpt (N q).2.1) q i q' j lk ∧ sOK σ K T b h k lim md cy rch n N ((f.1, f.2.1 + 1, f.2.2.1 - 1, va_up f.2.2.2 (T 15 f.1 + f.2.2.1 - 2) (rval N q q' j lk)) :: r) 0 1) : mp_X7_step σ K := by
  obtain ⟨L, B, F, S, R, C, C0, s0, ml, nb, z, lv, y, al, tp, t, x, hn, i12, i22, i23, f0, hk1, k64⟩ := X.ob
  obtain ⟨o1, o2, o3, o4, o5, o6⟩ := opB hw hm hin h4
  refine x_pre hw x hin o6 (fun σ1 w1 => ?_)
  generalize hpe : T 17 f.1 + f.2.1 = p at *
  have hwd : wd (b p) = 1 := by rw [ho]; rfl
  rw [hwd] at w1 o2
  obtain ⟨a, a1, a2, a3, a4, a5⟩ := x.ad (i := T 15 f.1 + f.2.2.1 - 2) (by omega) (by omega) hv
  have ax := x.nm (i := T 15 f.1 + f.2.2.1 - 1) (by omega) hxi
  refine xd_row (by omega) (by omega) ?_
  rw [ho]
  unfold mp_X7_useRow
  refine ⟨fun _ => ⟨fun _ => ⟨fun q => absurd rfl q, fun _ => ?_⟩, fun q => absurd q (by decide)⟩, fun q => absurd q (by decide)⟩
  unfold mp_X7_useRow_43
  refine k_below (j := 1) hw w1 (by omega) (by omega) (fun σ2 w2 => ?_)
  rw [show tp + 4 + T 15 f.1 + (f.2.2.1 - 1 - 1) = tp + 4 + (T 15 f.1 + f.2.2.1 - 2) by omega, a1, mk_lo (by decide)]
  refine ⟨fun na => ?_, fun ea => ?_⟩
  · have na : a ≠ 0 := fun e => na (by rw [e]; rfl)
    obtain ⟨q, eq⟩ : ∃ q, v = q + 1 := ⟨v - 1, by omega⟩
    obtain ⟨b1, b2, b3⟩ := a5 q eq
    have t0 := b3 0 (by omega)
    rw [Nat.add_zero] at t0
    have bd := x.bd t0
    have len : σ2.2.2.1 17 = σ.2.2.1 17 := by rw [w2.1.2.1]
    rw [b1]
    refine k_look w2 bd.1 (by omega) (by omega) (fun σ3 w3 => ?_)
    have hk := hj q eq
    have hnn := (x.2.1.1 q b2).2.1 hk
    rw [x.hd b2, hdv_r hk]
    unfold mp_X1_rowLength
    rw [mk_lo (by decide), hd_ln hnn.2 (by omega)]
    refine ⟨fun _ => ?_, fun q => absurd q (by decide)⟩
    have e11 : (1 : Int32) - 1 = nI 0 := by decide
    rw [e11]
    refine k_below (j := 0) hw w3 (by omega) (by omega) (fun σ4 w4 => ?_)
    rw [show tp + 4 + T 15 f.1 + (f.2.2.1 - 1 - 0) = tp + 4 + (T 15 f.1 + f.2.2.1 - 1) by omega, ax, mk_lo (by decide)]
    have bad : (¬ ∃ i, i < (N q).2.1 ∧ xi = nI i) → mp_X7_useRow_115 (fun r s => mp_X7_step_164 K s r) σ4 := fun hb => by
      unfold mp_X7_useRow_115
      exact s_raise (q := 1) hw x hn f0 i12 i22 i23 w4 (by omega) (by decide) hr (h0 1 (Or.inr ⟨rfl, q, eq, hb⟩)) (h1 1 (Or.inr ⟨rfl, q, eq, hb⟩))
    refine ⟨fun z => bad (fun ⟨i, j1, j2⟩ => by rw [j2] at z; exact nI_neg (by omega) z), fun z1 => ⟨fun z2 => ⟨fun q => absurd rfl q, fun _ => ?_⟩, fun z => bad (fun ⟨i, j1, j2⟩ => z (by rw [j2]; exact nI_lt j1 (by omega)))⟩⟩
    obtain ⟨i, i1, i2⟩ := nI_of z1
    rw [i2] at z2
    have hi : i < (N q).2.1 := (nI_ltI i1 (by omega)).mp z2
    obtain ⟨q', j, lk, hp, hK⟩ := hK q i eq hi i2
    rw [i2]
    unfold mp_X7_fetch
    refine k_find hw (x.fi w4.1) w4.re b2 hk b3 hp (by omega) (by omega) (fun σ5 F5 C5 ml5 al5 t5 l5 x5 w5 c1 c2 c3 c4 c5 c6 c7 c8 c9 => ?_)
    have eal := c3 q t0
    have t05 := t0.m c4
    have bd5 := x5.bd t05
    refine k_look2 w5 bd5.1 bd5.2 (by omega) (fun σ6 w6 n6 => ?_)
    have hd5 := x5.hd b2
    rw [eal, hdv_r hk] at hd5
    rw [hd5]
    unfold mp_X1_rowItem
    rw [mk_lo (by decide), hd_it hnn.2 (by omega)]
    have pe := pth_end _ _ _ _ _ _ hp
    have nj5 : ∀ kk, kk = 12 ∨ kk = 22 ∨ kk = 23 → σ5.1 kk = σ.1 kk := fun kk hkk => (c2.2.2.2.2.2 kk (fun z => by unfold Ifd at z; omega)).trans (w4.1.2.2.2.2.2 kk (fun z => by unfold Irn at z; omega))
    have fx5 : frL Ixs σ σ5 C5 := w4.fx.t (c2.m (fun k q => by unfold Ifd at q; unfold Ixs; omega))
    have go : ∀ c : Int64, c = z0c ((N q).2.2.1 = 0) → mp_X7_fetch_28 (fun r s => mp_X7_useRow_140 (fun r s => mp_X7_step_164 K s r) s r) σ6 (nI (al5 q' + 1 + j)) c := fun c ec => by
      unfold mp_X7_fetch_28
      intro s7 e7
      rw [w6.2.2.2.2.2.2.1, l_2, nI_sub (by omega)] at e7
      have w7 := w6.h1 (ht' := f.2.2.1 - 2) (by omega)
      rw [← e7] at w7
      have j28 : s7.1 28 = σ5.1 28 := by rw [e7]; exact n6 28 (by decide)
      refine ⟨fun z => ?_, fun z => ?_⟩
      · have lk0 : lk ≠ 0 := fun e => by
          rcases c8 with q | q
          · exact z (j28.trans q.2)
          · exact q.1 e
        unfold mp_X7_fetch_61
        refine k_push hw w7 (by omega) (by omega) (fun σ8 w8 => ?_)
        unfold mp_X7_useRow_140
        obtain ⟨tv1, -⟩ := x5.tv
        have er : rval N q q' j lk = if (N q).2.2.1 = 0 then .inl 0 else .inr 0 := by unfold rval; rw [if_neg lk0]
        have gv : gcl (2 * h + 64) B c ∧ vcl s0 ml5 nb al5 (rval N q q' j lk) c := by
          rw [er, ec]
          unfold z0c
          by_cases e : (N q).2.2.1 = 0
          · rw [if_pos e, if_pos e]; exact ⟨gcl_n _ _ _, vcl_n _⟩
          · rw [if_neg e, if_neg e]; exact ⟨gcl_0 _ _, vcl_0⟩
        have tv2 := tv1.up (k := T 15 f.1 + f.2.2.1 - 2) (n' := T 15 f.1 + (f.2.2.1 - 1)) (by omega) gv.1 gv.2 (Or.inl (by omega))
        rw [show tp + 4 + (T 15 f.1 + f.2.2.1 - 2) = tp + 4 + T 15 f.1 + (f.2.2.1 - 2) by omega] at tv2
        rw [show f.2.2.1 - 2 + 1 = f.2.2.1 - 1 by omega] at w8
        refine s_done hw x5 hn fx5 (by rw [nj5 12 (by omega)]; exact i12) (by rw [nj5 22 (by omega)]; exact i22) (by rw [nj5 23 (by omega)]; exact i23) w8 (by omega) tv2 (fun i k hi hk => ?_) hK
        by_cases e : i = T 15 f.1 + f.2.2.1 - 2
        · rw [e, va_up_self, er] at hk
          by_cases e' : (N q).2.2.1 = 0
          · rw [if_pos e'] at hk; cases hk
          · rw [if_neg e'] at hk; cases hk
        · rw [va_up_ne _ _ e] at hk
          exact x5.2.1.2.2.2.2.2.2.2 f List.mem_cons_self i k (by omega) hk
      · have lk0 : lk = 0 := by
          rcases c8 with u | u
          · exact u.1
          · exfalso
            rw [j28, u.2] at z
            have : lk = 1 ∨ lk = 2 := by
              have := pe.2.2.2
              have dp : dpt (N q).2.1 ≤ 2 := by unfold dpt; (repeat' split) <;> omega
              omega
            rcases this with e | e <;> rw [e] at z <;> exact absurd z (by decide)
        have hjn : j < npt T (N q') := by rw [pe.1]; exact pe.2.1
        refine k_read hw (x5.fi w7.1) w7.re c7 hjn c6 (by omega) (fun σ8 F8 C8 ml8 al8 t8 l8 x8 w8 l1 f1 d1 d2 d3 d4 d5 d6 => ?_)
        unfold mp_X7_fetch_61
        refine k_push hw w8 (by omega) (by omega) (fun σ9 w9 => ?_)
        unfold mp_X7_useRow_140
        obtain ⟨tv1, -⟩ := x8.tv
        have er : rval N q q' j lk = (N q').2.2.2 j := by unfold rval; rw [if_pos lk0]
        rw [← er] at d6
        have tv2 := tv1.up (k := T 15 f.1 + f.2.2.1 - 2) (n' := T 15 f.1 + (f.2.2.1 - 1)) (by omega) d5 d6 (Or.inl (by omega))
        rw [show tp + 4 + (T 15 f.1 + f.2.2.1 - 2) = tp + 4 + T 15 f.1 + (f.2.2.1 - 2) by omega] at tv2
        rw [show f.2.2.1 - 2 + 1 = f.2.2.1 - 1 by omega] at w9
        have nj8 : ∀ kk, kk = 12 ∨ kk = 22 ∨ kk = 23 → σ8.1 kk = σ.1 kk := fun kk hkk => ((f1.2.2.2.2.2 kk (fun z => by unfold I133 at z; omega)).trans (w7.1.2.2.2.2.2 kk (fun z => by unfold Irn at z; omega))).trans (nj5 kk hkk)
        refine s_done hw x8 hn ((fx5.t w7.fx).t (f1.m (fun k q => by unfold I133 at q; unfold Ixs; omega))) (by rw [nj8 12 (by omega)]; exact i12) (by rw [nj8 22 (by omega)]; exact i22) (by rw [nj8 23 (by omega)]; exact i23) w9 (by omega) tv2 (fun i k hi hk => ?_) hK
        by_cases e : i = T 15 f.1 + f.2.2.1 - 2
        · rw [e, va_up_self, er] at hk
          exact x8.2.1.2.2.2.2.2.2.1 q' j k c7 hjn hk
        · rw [va_up_ne _ _ e] at hk
          exact x8.2.1.2.2.2.2.2.2.2 f List.mem_cons_self i k (by omega) hk
    refine ⟨fun z => go _ ?_, fun z => go _ ?_⟩
    · unfold z0c
      rw [if_neg (fun e => z (by rw [e]; rfl)), mk_nil]; rfl
    · unfold z0c
      rw [if_pos ((nI_eq (b := 0) (by omega) (by omega)).mp z), mk_0]
  · have ea : a = 0 := (nI_eq (b := 0) (by omega) (by omega)).mp ea
    have ev := a3.mp ea
    exact s_raise (q := 0) hw x hn f0 i12 i22 i23 w2 (by omega) (by decide) hr (h0 0 (Or.inl ⟨ev, rfl⟩)) (h1 0 (Or.inl ⟨ev, rfl⟩))
end
