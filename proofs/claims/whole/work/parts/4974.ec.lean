/-! ===== what comes out is well: calls, leaving, flying ===== -/
section
variable {T : Nat → Nat → Nat} {b : Nat → Nat} {H Y : Nat → Nat → Nat} {k lim md cy rch n n' : Nat} {N N' : Nat → AN} {f g : AF} {r : List AF} {ids : List Nat}
theorem likeT_t {a c d : Nat} (h1 : likeT T a c) (h2 : likeT T c d) : likeT T a d := ⟨h1.1.trans h2.1, h1.2.1.trans h2.2.1, fun k k1 k2 => (h1.2.2 k k1 k2).trans (h2.2.2 k k1 (by rw [← h1.1]; exact k2))⟩
/-- the method in a slot of a class below -/
theorem slot_lk (hw : wf T b) (lk : lkd T b) {c s m0 : Nat} (hs : s < 16) (e0 : T 8 (16 * c + s) = m0 + 1) (hm0 : m0 < T 0 1) : ∀ d, d < T 0 0 → isA T d c → ∃ m', T 8 (16 * d + s) = m' + 1 ∧ m' < T 0 1 ∧ likeT T m' m0 := by
  have h5 := fun c (hc : c < T 0 0) => (hw.2.2.2.2.2.2.1 c hc).1
  intro d
  induction d using Nat.strongRecOn with
  | ind d ih =>
    intro hd ha
    rcases (isA_u h5 hw.2.1 hd).mp ha with e | ⟨e1, e2⟩
    · rw [e]; exact ⟨m0, e0, hm0, rfl, rfl, fun _ _ _ => rfl⟩
    · have l5 := h5 d hd
      obtain ⟨mu, u1, u2, u3⟩ := ih (T 5 d - 1) (by omega) (by omega) e2
      have wc := hw.2.2.2.2.2.2.1 d hd
      by_cases h9 : T 9 (16 * d + s) = 0
      · rw [(wc.2.2.2.2.2 e1).2.2 s hs h9]
        exact ⟨mu, u1, u2, u3⟩
      · obtain ⟨s1, s2, s3⟩ := lk.s hd hs h9
        have h8 := (wc.2.2.2.1 s hs).2.2 h9
        have ea : abv T d s = mu + 1 := by unfold abv; rw [if_neg e1, u1]
        refine ⟨T 8 (16 * d + s) - 1, by omega, s1, ?_⟩
        rw [ea, Nat.add_sub_cancel] at s3
        rcases s3 with z | z | z
        · omega
        · omega
        · exact likeT_t z u3
/-- the frames behind a call are well -/
theorem call_wt {m' : Nat} (hw : wf T b) (vk : vOK T b H Y) (W : WT T b H Y n N (f :: r) 0 1) (hm' : m' < T 0 1) (hp : T 12 m' ≤ f.2.2.1) (ho : b (T 17 f.1 + f.2.1) = 35 ∨ b (T 17 f.1 + f.2.1) = 36) (h12 : T 12 m' = T 12 (cmt T b (T 17 f.1 + f.2.1))) (h14 : T 14 m' = T 14 (cmt T b (T 17 f.1 + f.2.1))) (hpar : ∀ i, i < T 12 m' → cf T N (f.2.2.2 (T 15 f.1 + (f.2.2.1 - T 12 m') + i)) (T 13 (8 * m' + i))) : WT T b H Y n N (cfr T f m' :: cbl T f m' :: r) 0 1 := by
  obtain ⟨⟨f1, f2, f3, f4, f5, f6⟩, fe, ff⟩ := W.2.2.1 f r rfl
  have fe := fe rfl
  have wl := (hw.2.2.2.2.2.2.2.2.1 m' hm').2.2.2.2.2.1
  refine ⟨W.1, fun q e => by omega, fun f' r' e => ?_, fun _ => List.cons_ne_nil _ _⟩
  cases e
  have hb2 : vlt n (T 15 m' + 0) (fun i => if i < T 12 m' then f.2.2.2 (T 15 f.1 + (f.2.2.1 - T 12 m') + i) else .inl 0) := fun i k' hi e => by
    have e : (if i < T 12 m' then f.2.2.2 (T 15 f.1 + (f.2.2.1 - T 12 m') + i) else .inl 0) = .inr (k' + 1) := e
    by_cases z : i < T 12 m'
    · rw [if_pos z] at e; exact f6 _ k' (by omega) e
    · rw [if_neg z] at e; cases e
  have hv2 : cfw T N (T 15 m' + 0) (fun i => if i < T 12 m' then f.2.2.2 (T 15 f.1 + (f.2.2.1 - T 12 m') + i) else .inl 0) (w0T T m') := fun i hi => by
    show cf T N (if i < T 12 m' then f.2.2.2 (T 15 f.1 + (f.2.2.1 - T 12 m') + i) else .inl 0) (w0T T m' i)
    unfold w0T
    by_cases z : i < T 12 m'
    · rw [if_pos z, if_pos z]; exact hpar i z
    · rw [if_neg z, if_neg z]; exact Or.inl ⟨rfl, fun i q => by cases q⟩
  have tp := arr_top (pc := 0) hw W.1 hm' (vk m' hm').2 rfl hv2 hb2
  refine ⟨tp.1, fun _ => tp.2, ⟨⟨f1, f2, f3, ?_, ?_, ?_⟩, ho, ?_, h14⟩, ff⟩
  · show f.2.2.1 - T 12 m' + 1 ≤ H f.1 (T 17 f.1 + f.2.1)
    omega
  · exact cfw.le f5 (by show T 15 f.1 + (f.2.2.1 - T 12 m') ≤ _; omega)
  · exact f6.le (Nat.le_refl _) (by show T 15 f.1 + (f.2.2.1 - T 12 m') ≤ _; omega)
  · show f.2.2.1 - T 12 m' + T 12 (cmt T b (T 17 f.1 + f.2.1)) + 1 = H f.1 (T 17 f.1 + f.2.1)
    omega
theorem e_cl (hw : wf T b) (lk : lkd T b) (vk : vOK T b H Y) (W : WT T b H Y n N (f :: r) 0 1) (ho : b (T 17 f.1 + f.2.1) = 35) : ∃ o, AScl T b k lim md cy rch n N f r ids o ∧ WO T b H Y o := by
  obtain ⟨h1, hin, h4, h16, hb, hfs, w, hv, hok, c, t', w', av, hc, q1, q2⟩ := W.top vk
  obtain ⟨o1, o2, o3, o4, o5, o6⟩ := opB hw h1 hin h4
  obtain ⟨k1, k2⟩ := lk.c hw h1 hin h4 o1 (Or.inl ho)
  obtain ⟨⟨z1, z2⟩, z3⟩ := (av.2.2.2.2.2.2.2.2.2.2.2.2.2.2.2.2.2.2.2.2.2.2.2.1 (Or.inl ho)).1.mp hc
  have ec : cmt T b (T 17 f.1 + f.2.1) = b (T 17 f.1 + f.2.1 + 1) := by unfold cmt; rw [if_pos ho]
  by_cases fu : rch ≤ k * md ∧ lim < rch
  · exact ⟨none, ⟨ho, _, rfl, by rw [← ec]; exact k1, by rw [← ec]; exact z1, fun _ => rfl, fun q => absurd fu q⟩, trivial⟩
  · refine ⟨_, ⟨ho, _, rfl, by rw [← ec]; exact k1, by rw [← ec]; exact z1, fun q => absurd q fu, fun _ => rfl⟩, ?_⟩
    refine call_wt hw vk W (by rw [← ec]; exact k1) (by rw [← ec]; exact z1) (Or.inl ho) (by rw [ec]) (by rw [ec]) (fun i hi => ?_)
    rw [← ec] at hi ⊢
    have g := z2 i hi
    unfold cty at g
    rw [if_neg (by omega), show T 15 f.1 + f.2.2.1 - T 12 (cmt T b (T 17 f.1 + f.2.1)) + i = T 15 f.1 + (f.2.2.1 - T 12 (cmt T b (T 17 f.1 + f.2.1))) + i by omega] at g
    exact (hv _ (by omega)).go2 hw W.1 (fun k' e => hb _ k' (by omega) e) g
theorem e_se (hw : wf T b) (lk : lkd T b) (vk : vOK T b H Y) (W : WT T b H Y n N (f :: r) 0 1) (ho : b (T 17 f.1 + f.2.1) = 36) : ∃ o, ASse T b k lim md cy rch n N f r ids o ∧ WO T b H Y o := by
  obtain ⟨h1, hin, h4, h16, hb, hfs, w, hv, hok, c, t', w', av, hc, q1, q2⟩ := W.top vk
  obtain ⟨o1, o2, o3, o4, o5, o6⟩ := opB hw h1 hin h4
  obtain ⟨k1, k2⟩ := lk.c hw h1 hin h4 o1 (Or.inr ho)
  obtain ⟨k3, k4, k5, k6⟩ := k2 ho
  have w32 := hw.2.1
  obtain ⟨⟨z1, z2⟩, z3⟩ := (av.2.2.2.2.2.2.2.2.2.2.2.2.2.2.2.2.2.2.2.2.2.2.2.1 (Or.inr ho)).1.mp hc
  have ec : cmt T b (T 17 f.1 + f.2.1) = T 8 (16 * b (T 17 f.1 + f.2.1 + 1) + b (T 17 f.1 + f.2.1 + 2)) - 1 := by unfold cmt; rw [if_neg (by omega)]
  generalize hm0 : cmt T b (T 17 f.1 + f.2.1) = m0 at *
  have e8 : T 8 (16 * b (T 17 f.1 + f.2.1 + 1) + b (T 17 f.1 + f.2.1 + 2)) = m0 + 1 := by omega
  have hrc := z2 0 (by omega)
  have c0 : cty T b (T 17 f.1 + f.2.1) 0 = b (T 17 f.1 + f.2.1 + 1) + 1 := by unfold cty; rw [if_pos ⟨ho, rfl⟩]
  rw [c0, Nat.add_zero] at hrc
  have hvt := (hv (T 15 f.1 + f.2.2.1 - T 12 m0) (by omega)).go2 hw W.1 (fun k' e => hb _ k' (by omega) e) hrc
  rcases hvt.o (by omega) (by omega) with ev | ⟨q, ev, kk2, ia⟩
  · by_cases fu : rch ≤ k * md ∧ lim < rch
    · exact ⟨none, ⟨ho, m0, 0, e8, k1, ⟨k5, z1⟩, ev, fun q e => by omega, fun _ => rfl, fun _ q => absurd fu q, fun q m' e => by omega⟩, trivial⟩
    · exact ⟨_, ⟨ho, m0, 0, e8, k1, ⟨k5, z1⟩, ev, fun q e => by omega, fun q => absurd q fu, fun _ _ => rfl, fun q m' e => by omega⟩, W.ft (hw.2.2.2.2.2.2.2.1 0 (by decide))⟩
  · rw [Nat.add_sub_cancel] at ia
    have hqn := hb _ q (by omega) ev
    have hcq := W.1.c q hqn kk2
    obtain ⟨m', e8', hm', lk'⟩ := slot_lk hw lk k4 e8 k1 _ hcq ia
    have l12 := lk'.1
    have fac : ∀ q', q + 1 = q' + 1 → (N q').1 = 2 ∧ ∃ m', T 8 (16 * (N q').2.1 + b (T 17 f.1 + f.2.1 + 2)) = m' + 1 ∧ m' < T 0 1 ∧ T 12 m' ≤ f.2.2.1 := fun q' e => by
      cases e
      exact ⟨kk2, m', e8', hm', by omega⟩
    by_cases fu : rch ≤ k * md ∧ lim < rch
    · exact ⟨none, ⟨ho, m0, q + 1, e8, k1, ⟨k5, z1⟩, ev, fac, fun _ => rfl, fun e => by omega, fun _ _ _ _ q => absurd fu q⟩, trivial⟩
    · refine ⟨MO T k lim md cy rch N f r ids 16 n N (cfr T f m' :: cbl T f m' :: r), ⟨ho, m0, q + 1, e8, k1, ⟨k5, z1⟩, ev, fac, fun q => absurd q fu, fun e => by omega, fun q' m2 e e2 _ => ?_⟩, ?_⟩
      · cases e
        have : m2 = m' := by omega
        rw [this]
      · refine call_wt hw vk W hm' (by omega) (Or.inr ho) (by rw [hm0]; exact l12) (by rw [hm0]; exact lk'.2.1) (fun i hi => ?_)
        by_cases i0 : i = 0
        · rw [i0, Nat.add_zero, Nat.add_zero, l12, show T 15 f.1 + (f.2.2.1 - T 12 m0) = T 15 f.1 + f.2.2.1 - T 12 m0 by omega, ev]
          obtain ⟨s1, s2, s3⟩ := slO hw lk k4 (N q).2.1 hcq (by omega)
          rw [e8', Nat.add_sub_cancel] at s2 s3
          obtain ⟨p1, p2⟩ := (hw.2.2.2.2.2.2.2.2.1 m' hm').2.2.1 s2
          have t11 := (hw.2.2.2.2.2.2.2.2.1 m' hm').1
          have := cf_cl (N := N) (q := q) (c := T 11 m' - 1) w32 (by omega) kk2 s3
          rw [show T 11 m' - 1 + 1 = T 11 m' by omega] at this
          rw [p2]
          exact this
        · have g := z2 i (by omega)
          unfold cty at g
          rw [if_neg (by omega), hm0, show T 15 f.1 + f.2.2.1 - T 12 m0 + i = T 15 f.1 + (f.2.2.1 - T 12 m') + i by omega, ← lk'.2.2 i (by omega) hi] at g
          exact (hv _ (by omega)).go2 hw W.1 (fun k' e => hb _ k' (by omega) e) g
/-- a frame that waited goes on -/
theorem sus_nx {m' : Nat} (hw : wf T b) (vk : vOK T b H Y) (nk : nok T n N) (s : sus T b H Y n N g m') : g.1 < T 0 1 ∧ inC T g.1 (T 17 g.1 + g.2.1) ∧ T 4 (T 17 g.1 + g.2.1) = 1 ∧ (T 14 m' = 255 → ftp T H Y n N (g.1, g.2.1 + wd (b (T 17 g.1 + g.2.1)), g.2.2.1, g.2.2.2) ∧ g.2.2.1 + 1 = H g.1 (T 17 g.1 + (g.2.1 + wd (b (T 17 g.1 + g.2.1))))) ∧ (T 14 m' ≠ 255 → g.2.2.1 < T 16 g.1 ∧ ∀ v, cf T N v (T 14 m') → (∀ k, v = .inr (k + 1) → k < n) → ftp T H Y n N (g.1, g.2.1 + wd (b (T 17 g.1 + g.2.1)), g.2.2.1 + 1, va_up g.2.2.2 (T 15 g.1 + g.2.2.1) v) ∧ g.2.2.1 + 1 + 1 = H g.1 (T 17 g.1 + (g.2.1 + wd (b (T 17 g.1 + g.2.1))))) := by
  obtain ⟨⟨f1, f2, f3, f4, f5, f6⟩, ho, he, h14⟩ := s
  obtain ⟨v1, v2, v3, v4⟩ := (vk g.1 f1).1 _ f2 f3
  obtain ⟨w, w1, c, t', w', w2, w3, w4, w5⟩ := v4.2
  obtain ⟨e0, e1, e2⟩ := w2.2.2.2.2.2.2.2.2.2.2.2.2.2.2.2.2.2.2.2.2.2.2.2.1 ho
  have z := e0.mp w3
  have aa := w4 (by omega)
  have cw : cfw T N (T 15 g.1 + g.2.2.1) g.2.2.2 w := fun i hi => by rw [w1 i (by omega)]; exact f5 i hi
  have eh : H g.1 (T 17 g.1 + g.2.1) - 1 - T 12 (cmt T b (T 17 g.1 + g.2.1)) = g.2.2.1 := by omega
  rw [eh] at e1 e2 z
  refine ⟨f1, f2, v2, fun q => ?_, fun q => ?_⟩
  · rw [h14] at q
    rw [if_pos q] at e1 e2
    rw [e1, e2] at aa
    exact arr_top hw nk f1 aa (by omega) cw f6
  · have q' := q
    rw [h14] at q'
    rw [if_neg q'] at e1 e2
    rw [e1, e2, ← h14] at aa
    exact ⟨z.2 q', fun v hv hk => arr_top hw nk f1 aa (by omega) (cw.up hv (Or.inr ⟨rfl, rfl⟩)) (f6.up (Nat.le_refl _) hk (Or.inr ⟨rfl, rfl⟩))⟩
theorem WT_nil (nk : nok T n N) {fl st : Nat} (h : ∀ q, fl = q + 1 → q < n ∧ (N q).1 = 2) (hs : st ≠ 1) : WT T b H Y n N [] fl st := ⟨nk, h, fun f' r' e => (List.cons_ne_nil _ _ e.symm).elim, fun e => absurd e hs⟩
theorem e_re (hw : wf T b) (vk : vOK T b H Y) (W : WT T b H Y n N (f :: r) 0 1) (ho : b (T 17 f.1 + f.2.1) = 37) : ∃ o, ASre T b k lim md cy rch n N f r ids o ∧ WO T b H Y o := by
  obtain ⟨h1, hin, h4, h16, hb, hfs, w, hv, hok, c, t', w', av, hc, q1, q2⟩ := W.top vk
  have z := (av.2.2.2.2.2.2.2.2.2.2.2.2.2.2.2.2.2.2.2.2.2.2.2.2.1 ho).1.mp hc
  cases r with
  | nil => exact ⟨some (md, cy, rch, n, N, [], 0, 2), ⟨ho, fun g r' e => (by cases e), fun _ => rfl, fun g r' e => (by cases e)⟩, WT_nil (fl := 0) (st := 2) W.1 (fun q e => absurd e (Nat.succ_ne_zero q).symm) (by decide)⟩
  | cons g r' =>
    obtain ⟨s, fr⟩ := hfs
    obtain ⟨a1, a2, a3, a4, a5⟩ := sus_nx hw vk W.1 s
    refine ⟨_, ⟨ho, fun g2 r2 e => by cases e; exact ⟨a1, a2, a3⟩, fun e => (by cases e), fun g2 r2 e => by cases e; rfl⟩, ?_⟩
    refine ⟨W.1, fun q e => absurd e (Nat.succ_ne_zero q).symm, fun f' r2 e => ?_, fun _ => List.cons_ne_nil _ _⟩
    cases e
    exact ⟨(a4 z).1, fun _ => (a4 z).2, fr⟩
theorem e_gi (hw : wf T b) (vk : vOK T b H Y) (W : WT T b H Y n N (f :: r) 0 1) (ho : b (T 17 f.1 + f.2.1) = 38) : ∃ o, ASgi T b k lim md cy rch n N f r ids o ∧ WO T b H Y o := by
  obtain ⟨h1, hin, h4, h16, hb, hfs, w, hv, hok, c, t', w', av, hc, q1, q2⟩ := W.top vk
  obtain ⟨z1, z2, z3⟩ := (av.2.2.2.2.2.2.2.2.2.2.2.2.2.2.2.2.2.2.2.2.2.2.2.2.2.1 ho).1.mp hc
  have hvt := (hv (T 15 f.1 + f.2.2.1 - 1) (by omega)).go2 hw W.1 (fun k' e => hb _ k' (by omega) e) z3
  cases r with
  | nil => exact ⟨some (md, cy, rch, n, N, [], 0, 2), ⟨ho, ⟨z2, h16⟩, fun g r' e => (by cases e), fun _ => rfl, fun g r' e => (by cases e)⟩, WT_nil (fl := 0) (st := 2) W.1 (fun q e => absurd e (Nat.succ_ne_zero q).symm) (by decide)⟩
  | cons g r' =>
    obtain ⟨s, fr⟩ := hfs
    obtain ⟨a1, a2, a3, a4, a5⟩ := sus_nx hw vk W.1 s
    obtain ⟨a6, a7⟩ := a5 z1
    have a8 := a7 _ hvt (fun k' e => hb _ k' (by omega) e)
    refine ⟨_, ⟨ho, ⟨z2, h16⟩, fun g2 r2 e => by cases e; exact ⟨a1, a2, a3, a6⟩, fun e => (by cases e), fun g2 r2 e => by cases e; rfl⟩, ?_⟩
    refine ⟨W.1, fun q e => absurd e (Nat.succ_ne_zero q).symm, fun f' r2 e => ?_, fun _ => List.cons_ne_nil _ _⟩
    cases e
    exact ⟨a8.1, fun _ => a8.2, fr⟩
theorem e_th (hw : wf T b) (vk : vOK T b H Y) (W : WT T b H Y n N (f :: r) 0 1) (ho : b (T 17 f.1 + f.2.1) = 39) : ∃ o, ASth T b k lim md cy rch n N f r ids o ∧ WO T b H Y o := by
  obtain ⟨h1, hin, h4, h16, hb, hfs, w, hv, hok, c, t', w', av, hc, q1, q2⟩ := W.top vk
  obtain ⟨z1, z2⟩ := (av.2.2.2.2.2.2.2.2.2.2.2.2.2.2.2.2.2.2.2.2.2.2.2.2.2.2 ho).1.mp hc
  have hvt := hv (T 15 f.1 + f.2.2.1 - 1) (by omega)
  have cs : f.2.2.2 (T 15 f.1 + f.2.2.1 - 1) = .inr 0 ∨ ∃ q, f.2.2.2 (T 15 f.1 + f.2.2.1 - 1) = .inr (q + 1) ∧ (N q).1 = 2 := by
    rcases z2 with z | z
    · rcases hvt.o z.1 z.2 with e | ⟨q, e, k2, -⟩
      · exact Or.inl e
      · exact Or.inr ⟨q, e, k2⟩
    · rw [z] at hvt
      rcases hvt.w (by omega) (by omega) with e | ⟨q, e, -, k2, -⟩
      · exact Or.inl e
      · exact absurd rfl k2
  rcases cs with ev | ⟨q, ev, k2⟩
  · by_cases fu : rch ≤ k * md ∧ lim < rch
    · exact ⟨none, ⟨ho, ⟨z1, h16⟩, 0, ev, fun _ _ => rfl, fun _ q => absurd fu q, fun q e => by omega⟩, trivial⟩
    · exact ⟨_, ⟨ho, ⟨z1, h16⟩, 0, ev, fun _ q => absurd q fu, fun _ _ => rfl, fun q e => by omega⟩, W.ft (hw.2.2.2.2.2.2.2.1 0 (by decide))⟩
  · exact ⟨KO md cy rch n N (f :: r) (q + 1), ⟨ho, ⟨z1, h16⟩, q + 1, ev, fun e => by omega, fun e => by omega, fun q' e => by cases e; rfl⟩, W.flw W.1 (Nat.le_refl _) nle_r (hb _ q (by omega) ev) k2⟩
theorem e_all (hw : wf T b) (lk : lkd T b) (vk : vOK T b H Y) (W : WT T b H Y n N (f :: r) 0 1) (ho : b (T 17 f.1 + f.2.1) < 40) : ∃ o, AS T b k lim md cy rch n N f r ids o ∧ WO T b H Y o := by
  by_cases c : b (T 17 f.1 + f.2.1) ≤ 25
  · by_cases z : (b (T 17 f.1 + f.2.1) = 10 ∨ b (T 17 f.1 + f.2.1) = 11) ∧ f.2.2.2 (T 15 f.1 + f.2.2.1 - 1) = .inl 0
    · obtain ⟨o, a, w⟩ := e_dz (k := k) (lim := lim) (md := md) (cy := cy) (rch := rch) (ids := ids) hw vk W z.1 z.2
      exact ⟨o, Or.inr (Or.inl a), w⟩
    · obtain ⟨o, a, w⟩ := e_sm (k := k) (lim := lim) (md := md) (cy := cy) (rch := rch) (ids := ids) hw vk W c z
      exact ⟨o, Or.inl a, w⟩
  · have : b (T 17 f.1 + f.2.1) = 26 ∨ b (T 17 f.1 + f.2.1) = 27 ∨ b (T 17 f.1 + f.2.1) = 28 ∨ b (T 17 f.1 + f.2.1) = 29 ∨ b (T 17 f.1 + f.2.1) = 30 ∨ b (T 17 f.1 + f.2.1) = 31 ∨ b (T 17 f.1 + f.2.1) = 32 ∨ b (T 17 f.1 + f.2.1) = 33 ∨ b (T 17 f.1 + f.2.1) = 34 ∨ b (T 17 f.1 + f.2.1) = 35 ∨ b (T 17 f.1 + f.2.1) = 36 ∨ b (T 17 f.1 + f.2.1) = 37 ∨ b (T 17 f.1 + f.2.1) = 38 ∨ b (T 17 f.1 + f.2.1) = 39 := by omega
    rcases this with z | z | z | z | z | z | z | z | z | z | z | z | z | z
    · obtain ⟨o, a, w⟩ := e_nw (k := k) (lim := lim) (md := md) (cy := cy) (rch := rch) (ids := ids) hw vk W z
      exact ⟨o, Or.inr (Or.inr (Or.inl a)), w⟩
    · obtain ⟨o, a, w⟩ := e_ge (k := k) (lim := lim) (md := md) (cy := cy) (rch := rch) (ids := ids) hw vk W z
      exact ⟨o, Or.inr (Or.inr (Or.inr (Or.inl a))), w⟩
    · obtain ⟨o, a, w⟩ := e_pu (k := k) (lim := lim) (md := md) (cy := cy) (rch := rch) (ids := ids) hw vk W z
      exact ⟨o, Or.inr (Or.inr (Or.inr (Or.inr (Or.inl a)))), w⟩
    · obtain ⟨o, a, w⟩ := e_is (k := k) (lim := lim) (md := md) (cy := cy) (rch := rch) (ids := ids) hw vk W z
      exact ⟨o, Or.inr (Or.inr (Or.inr (Or.inr (Or.inr (Or.inl a))))), w⟩
    · obtain ⟨o, a, w⟩ := e_ca (k := k) (lim := lim) (md := md) (cy := cy) (rch := rch) (ids := ids) hw vk W z
      exact ⟨o, Or.inr (Or.inr (Or.inr (Or.inr (Or.inr (Or.inr (Or.inl a)))))), w⟩
    · obtain ⟨o, a, w⟩ := e_rw (k := k) (lim := lim) (md := md) (cy := cy) (rch := rch) (ids := ids) hw vk W z
      exact ⟨o, Or.inr (Or.inr (Or.inr (Or.inr (Or.inr (Or.inr (Or.inr (Or.inl a))))))), w⟩
    · obtain ⟨o, a, w⟩ := e_le (k := k) (lim := lim) (md := md) (cy := cy) (rch := rch) (ids := ids) hw vk W z
      exact ⟨o, Or.inr (Or.inr (Or.inr (Or.inr (Or.inr (Or.inr (Or.inr (Or.inr (Or.inl a)))))))), w⟩
    · obtain ⟨o, a, w⟩ := e_at (k := k) (lim := lim) (md := md) (cy := cy) (rch := rch) (ids := ids) hw vk W z
      exact ⟨o, Or.inr (Or.inr (Or.inr (Or.inr (Or.inr (Or.inr (Or.inr (Or.inr (Or.inr (Or.inl a))))))))), w⟩
    · obtain ⟨o, a, w⟩ := e_to (k := k) (lim := lim) (md := md) (cy := cy) (rch := rch) (ids := ids) hw vk W z
      exact ⟨o, Or.inr (Or.inr (Or.inr (Or.inr (Or.inr (Or.inr (Or.inr (Or.inr (Or.inr (Or.inr (Or.inl a)))))))))), w⟩
    · obtain ⟨o, a, w⟩ := e_cl (k := k) (lim := lim) (md := md) (cy := cy) (rch := rch) (ids := ids) hw lk vk W z
      exact ⟨o, Or.inr (Or.inr (Or.inr (Or.inr (Or.inr (Or.inr (Or.inr (Or.inr (Or.inr (Or.inr (Or.inr (Or.inl a))))))))))), w⟩
    · obtain ⟨o, a, w⟩ := e_se (k := k) (lim := lim) (md := md) (cy := cy) (rch := rch) (ids := ids) hw lk vk W z
      exact ⟨o, Or.inr (Or.inr (Or.inr (Or.inr (Or.inr (Or.inr (Or.inr (Or.inr (Or.inr (Or.inr (Or.inr (Or.inr (Or.inl a)))))))))))), w⟩
    · obtain ⟨o, a, w⟩ := e_re (k := k) (lim := lim) (md := md) (cy := cy) (rch := rch) (ids := ids) hw vk W z
      exact ⟨o, Or.inr (Or.inr (Or.inr (Or.inr (Or.inr (Or.inr (Or.inr (Or.inr (Or.inr (Or.inr (Or.inr (Or.inr (Or.inr (Or.inl a))))))))))))), w⟩
    · obtain ⟨o, a, w⟩ := e_gi (k := k) (lim := lim) (md := md) (cy := cy) (rch := rch) (ids := ids) hw vk W z
      exact ⟨o, Or.inr (Or.inr (Or.inr (Or.inr (Or.inr (Or.inr (Or.inr (Or.inr (Or.inr (Or.inr (Or.inr (Or.inr (Or.inr (Or.inr (Or.inl a)))))))))))))), w⟩
    · obtain ⟨o, a, w⟩ := e_th (k := k) (lim := lim) (md := md) (cy := cy) (rch := rch) (ids := ids) hw vk W z
      exact ⟨o, Or.inr (Or.inr (Or.inr (Or.inr (Or.inr (Or.inr (Or.inr (Or.inr (Or.inr (Or.inr (Or.inr (Or.inr (Or.inr (Or.inr (Or.inr a)))))))))))))), w⟩
end
