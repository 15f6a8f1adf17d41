/-! ===== objects: the class ===== -/
section
variable {σ0 σ σ' σ1 σ2 : sm_S} {T : Nat → Nat → Nat} {b : Nat → Nat} {h k lim md cy rch n : Nat} {L : Nat → Prop} {N : Nat → AN} {f : AF} {r fs : List AF} {fl st B F S R fr : Nat} {C D C0 : Nat → Int64} {s0 : List Nat} {ml : List (Nat × Nat)} {nb : List Nat} {z lv y al : Nat → Nat} {fas t : List Nat} {tp m pc ht nx l : Nat} {K : jk}
theorem xd_obj {op : Nat} (h1 : 26 ≤ op) (h2 : op ≤ 30) (z : mp_X7_useObject σ1 (nI op) (fun r s => mp_X7_step_164 K s r)) : XD K σ1 (nI op) := by
  have nlt : ∀ a : Nat, a < 2 ^ 31 → ((nI a < nI op) ↔ a < op) := fun a ha => nI_ltI ha (by omega)
  exact ⟨fun _ => ⟨fun _ => ⟨fun _ => ⟨fun q => absurd ((nlt 30 (by decide)).mp q) (by omega), fun _ => z⟩, fun q => absurd ((nlt 25 (by decide)).mpr (by omega)) q⟩, fun q => absurd ((nlt 18 (by decide)).mpr (by omega)) q⟩, fun q => absurd ((nlt 6 (by decide)).mpr (by omega)) q⟩
theorem xd_row {op : Nat} (h1 : 31 ≤ op) (h2 : op ≤ 34) (z : mp_X7_useRow σ1 (nI op) (fun r s => mp_X7_step_164 K s r)) : XD K σ1 (nI op) := by
  have nlt : ∀ a : Nat, a < 2 ^ 31 → ((nI a < nI op) ↔ a < op) := fun a ha => nI_ltI ha (by omega)
  exact ⟨fun _ => ⟨fun _ => ⟨fun _ => ⟨fun _ => ⟨fun q => absurd ((nlt 34 (by decide)).mp q) (by omega), fun _ => z⟩, fun q => absurd ((nlt 30 (by decide)).mpr (by omega)) q⟩, fun q => absurd ((nlt 25 (by decide)).mpr (by omega)) q⟩, fun q => absurd ((nlt 18 (by decide)).mpr (by omega)) q⟩, fun q => absurd ((nlt 6 (by decide)).mpr (by omega)) q⟩
theorem xd_call (z : mp_X7_operand σ1 1 (fun r s => mp_X7_enter s r (fun r s => mp_X7_step_164 K s r))) : XD K σ1 (nI 35) := by
  exact ⟨fun _ => ⟨fun _ => ⟨fun _ => ⟨fun _ => ⟨fun _ => ⟨fun q => absurd q (by decide), fun _ => ⟨fun q => absurd rfl q, fun _ => z⟩⟩, fun q => absurd (by decide) q⟩, fun q => absurd (by decide) q⟩, fun q => absurd (by decide) q⟩, fun q => absurd (by decide) q⟩, fun q => absurd (by decide) q⟩
theorem xd_send (z : mp_X7_send σ1 (fun r s => mp_X7_step_164 K s r)) : XD K σ1 (nI 36) := by
  exact ⟨fun _ => ⟨fun _ => ⟨fun _ => ⟨fun _ => ⟨fun _ => ⟨fun q => absurd q (by decide), fun _ => ⟨fun _ => z, fun q => absurd q (by decide)⟩⟩, fun q => absurd (by decide) q⟩, fun q => absurd (by decide) q⟩, fun q => absurd (by decide) q⟩, fun q => absurd (by decide) q⟩, fun q => absurd (by decide) q⟩
theorem xd_lv {op : Nat} (h1 : 37 ≤ op) (h2 : op ≤ 41) (z : mp_X7_leaveOrPort σ1 (nI op) (fun r s => mp_X7_step_164 K s r)) : XD K σ1 (nI op) := by
  have nlt : ∀ a : Nat, a < 2 ^ 31 → ((nI a < nI op) ↔ a < op) := fun a ha => nI_ltI ha (by omega)
  exact ⟨fun _ => ⟨fun _ => ⟨fun _ => ⟨fun _ => ⟨fun _ => ⟨fun _ => z, fun q => absurd ((nlt 36 (by decide)).mpr (by omega)) q⟩, fun q => absurd ((nlt 34 (by decide)).mpr (by omega)) q⟩, fun q => absurd ((nlt 30 (by decide)).mpr (by omega)) q⟩, fun q => absurd ((nlt 25 (by decide)).mpr (by omega)) q⟩, fun q => absurd ((nlt 18 (by decide)).mpr (by omega)) q⟩, fun q => absurd ((nlt 6 (by decide)).mpr (by omega)) q⟩
theorem lbs.cs {a s : Nat} (h : lbs s0 ml nb z y a s) : cano s0 ml nb a a := by
  rcases h with ⟨q, h1, h2, -⟩ | ⟨h1, -⟩ | ⟨h1, h2, -⟩
  · exact Or.inr ⟨rfl, Or.inr (Or.inl ⟨q, h1, h2⟩)⟩
  · exact Or.inr ⟨rfl, Or.inr (Or.inr h1)⟩
  · exact Or.inr ⟨rfl, Or.inl ⟨h1, h2⟩⟩
/-- the cell that leads to a node in the half in use -/
theorem RXg.vc {q : Nat} (x : RXg σ T b h k lim md cy rch L N fs fl B F S R fr C C0 s0 ml nb z lv y al fas) (hq : L q) (h0 : al q ≠ 0) (h1 : al q < 2 ^ 30) (hl : ¬ ldb (2 * h + 64) B 1 (al q)) : gcl (2 * h + 64) B (mkc 1 (nI (al q))) ∧ vcl s0 ml nb al (.inr (q + 1)) (mkc 1 (nI (al q))) := ⟨⟨Or.inl ⟨al q, h1, rfl⟩, fun w hw e => by rw [← mk1_i h1 hw e]; exact hl⟩, Or.inr (Or.inr ⟨q, al q, rfl, h0, h1, rfl, ((x.2.1.1 q hq).2.2.1).cs⟩)⟩
/-- the bounds of an instruction's place -/
theorem opB (hw : wf T b) (hm : m < T 0 1) {p : Nat} (hin : inC T m p) (h4 : T 4 p = 1) : opT T b (T 15 m) p ∧ p + wd (b p) ≤ T 17 m + T 18 m ∧ T 17 m + T 18 m < T 0 4 ∧ T 0 4 ≤ 8000 ∧ T 15 m + T 16 m ≤ 12 ∧ b p < 42 := by
  obtain ⟨o1, o2, o3⟩ := hw.op hm hin h4
  have yy := hw.2.2.2.2.2.2.2.2.1 m hm
  have y11 := yy.2.2.2.2.2.2.2.2.2.2.1
  have y12 := yy.2.2.2.2.2.2.2.2.2.2.2.1
  exact ⟨o1, o2, by omega, hw.2.2.2.2.1, yy.2.2.2.2.2.2.1, o1.1⟩
theorem X_new {ids : List Nat} (hw : wf T b) (X : XH σ T b h k lim md cy rch n N (f :: r) 0 1) (hm : f.1 < T 0 1) (hin : inC T f.1 (T 17 f.1 + f.2.1)) (h4 : T 4 (T 17 f.1 + f.2.1) = 1) (ho : b (T 17 f.1 + f.2.1) = 26) (hh : f.2.2.1 < T 16 f.1) (hr : rls T N (f :: r) ids)
    (h0 : rch ≤ k * md → lim < rch → sNO σ K T b h k lim md cy rch n N (f :: r))
    (hK : ∀ c, c = b (T 17 f.1 + f.2.1 + 1) → ¬ (rch ≤ k * md ∧ lim < rch) → sOK σ K T b h k lim (mm k lim md rch (1 + T 6 c)) (mcy k lim md rch cy (1 + T 6 c)) (mr T N (f :: r) ids k lim md rch (1 + T 6 c)) (n + 1) (va_up N n (nob T c)) ((f.1, f.2.1 + 2, f.2.2.1 + 1, va_up f.2.2.2 (T 15 f.1 + f.2.2.1) (.inr (n + 1))) :: r) 0 1) : mp_X7_step σ K := by
  obtain ⟨L, B, F, S, R, C, C0, s0, ml, nb, z, lv, y, al, fas, x, hn, i12, i22, i23⟩ := X
  obtain ⟨tp, t, ef⟩ : ∃ tp t, fas = tp :: t := by
    have hfl := (fra_f (f :: r) fas x.2.1.2.2.2.2.2.1).1
    cases fas with
    | nil => cases hfl
    | cons u t => exact ⟨u, t, rfl⟩
  subst ef
  have k64 := x.2.2.2.2.2.2.2.2.2.2.2.2.1
  have hk1 := x.2.2.2.2.2.2.2.2.2.2.2.1
  obtain ⟨o1, o2, o3, o4, o5, o6⟩ := opB hw hm hin h4
  have hC : σ.2.2.2.2 17 = C := x.1.2.2.2.2.2.2.2.2.1
  refine x_pre hw x hin o6 (fun σ1 w1 => ?_)
  generalize hpe : T 17 f.1 + f.2.1 = p at *
  have hwd : wd (b p) = 2 := by rw [ho]; rfl
  rw [hwd] at w1 o2
  have hc := o1.2.2.2.1 (Or.inl ho)
  refine xd_obj (by omega) (by omega) ?_
  rw [ho]
  unfold mp_X7_useObject
  refine ⟨fun q => absurd rfl q, fun _ => ?_⟩
  refine k_oper (i := 1) hw w1 (by decide) (by omega) ?_
  rw [hpe]
  have ni := w1.1.2.2.2.2.2
  have f1 : frL Ixs σ σ1 C := w1.1.m (fun k q => by unfold Irn at q; unfold Ixs; omega)
  refine k_mobj hw (x.fi w1.1) hn w1.re hc hr (by omega) (fun a1 a2 => ?_) (fun σ' L' B' F' S' R' C' C0' s0' ml' nb' z' lv' y' al' tp' t' l' nst x1 e1 e2 e3 e4 e5 w2 e6 f2 => ?_)
  · refine ⟨fun q => absurd rfl q, fun _ => ?_⟩
    unfold mp_X7_useObject_34 mp_X7_step_164
    refine ⟨fun _ => ⟨fun _ => ?_, fun q => absurd (by decide) q⟩, fun q => absurd q (by decide)⟩
    exact s_stuck (x.fi w1.1) hn f1 (by rw [ni 12 (by unfold Irn; omega)]; exact i12) w1.2.2.2.2.2.2.2.1 (by omega) (by rw [ni 23 (by unfold Irn; omega)]; exact i23) (h0 a1 a2)
  · have ne : ¬ nI (al' n) = 0 := fun q => e2 ((nI_eq (b := 0) (by omega) (by omega)).mp q)
    refine ⟨fun _ => ?_, fun q => absurd q ne⟩
    unfold mp_X1_cell
    refine k_push hw w2 hh (by omega) (fun σ3 w3 => ?_)
    unfold mp_X7_useObject_34
    obtain ⟨tv1, -⟩ := x1.tv
    obtain ⟨v1, v2⟩ := x1.vc (q := n) (Or.inr rfl) e2 e3 e4
    have tv2 := tv1.up (k := T 15 f.1 + f.2.2.1) (n' := T 15 f.1 + (f.2.2.1 + 1)) (by omega) v1 v2 (Or.inr ⟨by omega, rfl⟩)
    rw [show tp' + 4 + (T 15 f.1 + f.2.2.1) = tp' + 4 + T 15 f.1 + f.2.2.1 by omega] at tv2
    have nj : ∀ kk, kk = 12 ∨ kk = 22 ∨ kk = 23 → σ'.1 kk = σ.1 kk := fun kk hkk => (f2.2.2.2.2.2 kk (fun z => by unfold Imn Imk Irn at z; omega)).trans (ni kk (fun z => by unfold Irn at z; omega))
    refine s_done (n := n + 1) hw x1 (fun i hi => hi.elim (fun q => by have := hn i (e1 i q); omega) (fun q => by omega)) (f1.t (f2.m (fun k q => by unfold Imn Imk Irn at q; unfold Ixs; omega))) (by rw [nj 12 (by omega)]; exact i12) (by rw [nj 22 (by omega)]; exact i22) (by rw [nj 23 (by omega)]; exact i23) w3 (by omega) tv2 (fun i k hi hk => ?_) (hK _ rfl nst)
    by_cases e : i = T 15 f.1 + f.2.2.1
    · rw [e, va_up_self] at hk
      cases hk
      exact Or.inr rfl
    · rw [va_up_ne _ _ e] at hk
      exact x1.2.1.2.2.2.2.2.2.2 f List.mem_cons_self i k (by omega) hk
/-- whether a value is an object of a class -/
def isN (T : Nat → Nat → Nat) (N : Nat → AN) (v : AV) (c : Nat) : Prop := ∃ q, v = .inr (q + 1) ∧ (N q).1 = 2 ∧ isA T (N q).2.1 c
theorem RXg.hd {q : Nat} (x : RXg σ T b h k lim md cy rch L N fs fl B F S R fr C C0 s0 ml nb z lv y al fas) (hq : L q) : C (al q) = hdv (N q) := (x.2.1.1 q hq).2.2.2.1
theorem RXg.bd {u : Nat} (x : RXg σ T b h k lim md cy rch L N fs fl B F S R fr C C0 s0 ml nb z lv y al fas) (hu : tcl' ml nb z y u) : 1 ≤ u ∧ u < σ.2.2.1 17 := by
  have g := x.1.2.2.2.2.2.2.2.2.2.1
  have t := g.tc hu
  have ob := g.ob
  have h6 := x.1.2.2.2.2.2.2.1
  omega
theorem k_isA {v a c : Nat} (hw : wf T b) (x : RXg σ0 T b h k lim md cy rch L N fs fl B F S R fr C C0 s0 ml nb z lv y al fas) (w : WK σ0 σ T b C tp m pc ht nx l) (hv : (v = 0 ∧ a = 0) ∨ ∃ q, v = q + 1 ∧ a = al q ∧ L q ∧ al q ≠ 0 ∧ al q < 2 ^ 30 ∧ tcl' ml nb z y (al q)) (hc : c < T 0 0) (hl : l + 1 < 2 ^ 19) (h1 : isN T N (.inr v) c → ∀ σ' l', WK σ0 σ' T b C tp m pc ht nx l' → l' ≤ l + 1 → K 1 σ') (h0 : ¬ isN T N (.inr v) c → ∀ σ' l', WK σ0 σ' T b C tp m pc ht nx l' → l' ≤ l + 1 → K 0 σ') : mp_X7_isA σ (nI a) (nI c) K := by
  have w2 := hw.2.1
  unfold mp_X7_isA
  rcases hv with ⟨e1, e2⟩ | ⟨q, e1, e2, e3, e4, e5, e6⟩
  · rw [e2]
    refine ⟨fun q => absurd rfl q, fun _ => ?_⟩
    unfold mp_X7_isA_16 mp_X1_kind
    rw [mk_0, mk_kd (by decide)]
    refine ⟨fun _ => ?_, fun q => absurd q (by decide)⟩
    exact ⟨sm_z0, h0 (fun ⟨q, q1, _⟩ => by rw [e1] at q1; cases q1) σ l w (by omega)⟩
  · rw [e2]
    have ne : ¬ nI (al q) = 0 := fun z => e4 ((nI_eq (b := 0) (by omega) (by omega)).mp z)
    refine ⟨fun _ => ?_, fun q => absurd q ne⟩
    have bd := x.bd e6
    have len : σ.2.2.1 17 = σ0.2.2.1 17 := by rw [w.1.2.1]
    refine k_look w bd.1 (by omega) hl (fun σ1 w1 => ?_)
    rw [x.hd e3]
    unfold mp_X7_isA_16 mp_X1_kind
    by_cases k2 : (N q).1 = 2
    · have hd : hdv (N q) = mkc 2 (nI (N q).2.1) := by unfold hdv; rw [if_pos k2]
      have hcq := (x.2.1.1 q e3).1 k2
      rw [hd, mk_kd (by decide), mk_lo (by decide)]
      refine ⟨fun q => absurd rfl q, fun _ => ?_⟩
      refine w_iob w1.2.1 hw hcq (by omega) (fun z => ⟨fun q => absurd q (by decide), fun _ => ⟨sm_z1, ?_⟩⟩) (fun z => ⟨fun _ => ⟨sm_z0, ?_⟩, fun q => absurd rfl q⟩)
      · exact h1 ⟨q, by rw [e1], k2, z⟩ σ1 _ w1 (Nat.le_refl _)
      · refine h0 (fun ⟨q', q1, _, q3⟩ => z ?_) σ1 _ w1 (Nat.le_refl _)
        rw [e1] at q1
        cases q1
        exact q3
    · have hk : ∃ kk v, kk < 8 ∧ kk ≠ 2 ∧ hdv (N q) = mkc kk v := by
        unfold hdv
        rw [if_neg k2]
        by_cases k3 : (N q).1 = 3
        · rw [if_pos k3]; exact ⟨3, _, by decide, by decide, rfl⟩
        · rw [if_neg k3]; exact ⟨4, _, by decide, by decide, rfl⟩
      obtain ⟨kk, vv, k1, k3, k4⟩ := hk
      rw [k4, mk_kd k1]
      have nk : ¬ nI kk = 2 := fun z => k3 ((nI_eq (b := 2) (by omega) (by omega)).mp z)
      refine ⟨fun _ => ⟨sm_z0, h0 (fun ⟨q', q1, q2, _⟩ => ?_) σ1 _ w1 (Nat.le_refl _)⟩, fun z => absurd z nk⟩
      rw [e1] at q1
      cases q1
      exact k2 q2
/-- a place of the stack that holds a node or nothing, as an address -/
theorem RXg.ad {i v : Nat} (x : RXg σ T b h k lim md cy rch L N (f :: r) fl B F S R fr C C0 s0 ml nb z lv y al (tp :: t)) (hi : i < T 15 f.1 + f.2.2.1) (hi2 : i < 12) (hv : f.2.2.2 i = .inr v) : ∃ a, C (tp + 4 + i) = mkc 1 (nI a) ∧ a < 2 ^ 30 ∧ (a = 0 ↔ v = 0) ∧ ((v = 0 ∧ a = 0) ∨ ∃ q, v = q + 1 ∧ a = al q ∧ L q ∧ al q ≠ 0 ∧ al q < 2 ^ 30 ∧ tcl' ml nb z y (al q)) ∧ ∀ q, v = q + 1 → a = al q ∧ L q ∧ ∀ j, j < 1 + npt T (N q) → tcl' ml nb z y (al q + j) := by
  cases v with
  | zero =>
    obtain ⟨tv0, -⟩ := x.tv
    have vv := tv0.2.2 i hi
    rw [hv] at vv
    refine ⟨0, ?_, by decide, by simp, Or.inl ⟨rfl, rfl⟩, fun q e => by omega⟩
    rcases vv with ⟨x, h1, -⟩ | ⟨-, h1⟩ | ⟨k', w, h1, -⟩
    · cases h1
    · exact h1
    · cases h1
  | succ q =>
    obtain ⟨e1, e2, e3, e4, e5⟩ := x.tr hi hi2 hv
    have t0 := e5 0 (by omega)
    rw [Nat.add_zero] at t0
    refine ⟨al q, e1, e4, ⟨fun e => absurd e e3, fun e => by omega⟩, Or.inr ⟨q, rfl, rfl, e2, e3, e4, t0⟩, fun q' e => ?_⟩
    have : q = q' := by omega
    subst this
    exact ⟨rfl, e2, e5⟩
end
