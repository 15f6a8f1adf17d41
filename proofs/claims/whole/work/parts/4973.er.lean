/-! ===== what comes out is well: rows ===== -/
/-- the level of a row or child -/
def lvn (x : AN) : Nat := if x.1 = 3 then dpt x.2.1 else x.2.1
section
variable {T : Nat → Nat → Nat} {b : Nat → Nat} {H Y : Nat → Nat → Nat} {k lim md cy rch n n' : Nat} {N N' : Nat → AN} {f g : AF} {r : List AF} {ids : List Nat}
theorem nwl.pl {x : AN} (h : nwl T N x) (hk : x.1 = 3 ∨ x.1 = 4) : npt T x = 15 ∧ x.2.2.1 ≤ T 0 0 ∧ lvn x ≤ 2 ∧ (x.1 = 4 → lvn x ≤ 1) ∧ ∀ j, j < 15 → ptl T N (lvn x) x.2.2.1 (x.2.2.2 j) := by
  have d2 : ∀ l, dpt l ≤ 2 := fun l => by
    unfold dpt
    (repeat' split) <;> omega
  rcases h with z | z | z
  · omega
  · have e : lvn x = dpt x.2.1 := by unfold lvn; rw [if_pos z.1]
    rw [e]
    exact ⟨by unfold npt; rw [if_neg (by omega)], z.2.2.1, d2 _, fun q => by omega, z.2.2.2⟩
  · have e : lvn x = x.2.1 := by unfold lvn; rw [if_neg (by omega)]
    rw [e]
    exact ⟨by unfold npt; rw [if_neg (by omega)], z.2.2.1, by omega, fun q => z.2.1, z.2.2.2⟩
/-- a part of a row or child is written -/
theorem nwl_pl {x : AN} {j : Nat} {v : AV} (hx : nwl T N x) (hk : x.1 = 3 ∨ x.1 = 4) (hv : ptl T N (lvn x) x.2.2.1 v) : nwl T N (npu x j v) := by
  rcases hx with z | z | z
  · omega
  · have e : lvn x = dpt x.2.1 := by unfold lvn; rw [if_pos z.1]
    rw [e] at hv
    refine Or.inr (Or.inl ⟨z.1, z.2.1, z.2.2.1, fun i hi => ?_⟩)
    show ptl T N (dpt x.2.1) x.2.2.1 (va_up x.2.2.2 j v i)
    by_cases q : i = j
    · rw [q, va_up_self]; exact hv
    · rw [va_up_ne _ _ q]; exact z.2.2.2 i hi
  · have e : lvn x = x.2.1 := by unfold lvn; rw [if_neg (by omega)]
    rw [e] at hv
    refine Or.inr (Or.inr ⟨z.1, z.2.1, z.2.2.1, fun i hi => ?_⟩)
    show ptl T N x.2.1 x.2.2.1 (va_up x.2.2.2 j v i)
    by_cases q : i = j
    · rw [q, va_up_self]; exact hv
    · rw [va_up_ne _ _ q]; exact z.2.2.2 i hi
theorem pth_ex (nk : nok T n N) : ∀ d q i, q < n → ((N q).1 = 3 ∨ (N q).1 = 4) → lvn (N q) = d → i < 15 ^ (d + 1) → ∃ q' j lk, pth T N d q i q' j lk ∧ q' < n ∧ j < 15 ∧ ((N q').1 = 3 ∨ (N q').1 = 4) ∧ (N q').2.2.1 = (N q).2.2.1 ∧ lvn (N q') = lk := by
  intro d
  induction d with
  | zero =>
    intro q i hq hk hl hi
    obtain ⟨p1, p2, p3, p4, p5⟩ := (nk q hq).1.pl hk
    have hi : i < 15 := hi
    exact ⟨q, i, 0, ⟨p1, hi, rfl, rfl, rfl⟩, hq, hi, hk, rfl, hl⟩
  | succ d ih =>
    intro q i hq hk hl hi
    obtain ⟨p1, p2, p3, p4, p5⟩ := (nk q hq).1.pl hk
    have pw : 0 < 15 ^ (d + 1) := Nat.pow_pos (by decide)
    have hj : i / 15 ^ (d + 1) < 15 := by
      rw [Nat.div_lt_iff_lt_mul pw, Nat.mul_comm, ← Nat.pow_succ]
      exact hi
    have hp := p5 _ hj
    unfold ptl at hp
    rw [if_neg (by omega)] at hp
    rcases hp with e | ⟨u, e, u1, u2, u3⟩
    · exact ⟨q, i / 15 ^ (d + 1), d + 1, ⟨p1, hj, Or.inl ⟨e, rfl, rfl, rfl⟩⟩, hq, hj, hk, rfl, hl⟩
    · have hu := (nk q hq).2 _ u (by omega) e
      have lu : lvn (N u) = d := by unfold lvn; rw [if_neg (by omega), u2, hl]; rfl
      obtain ⟨q', j, lk, a1, a2, a3, a4, a5, a6⟩ := ih u (i % 15 ^ (d + 1)) hu (Or.inr u1) lu (Nat.mod_lt _ pw)
      exact ⟨q', j, lk, ⟨p1, hj, Or.inr ⟨u, e, a1⟩⟩, a2, a3, a4, by rw [a5, u3], a6⟩
theorem len_pw {l i : Nat} (hl : l ≤ 3375) (hi : i < l) : i < 15 ^ (dpt l + 1) := by
  unfold dpt
  by_cases h1 : l ≤ 15
  · rw [if_pos h1]; show i < 15; omega
  · rw [if_neg h1]
    by_cases h2 : l ≤ 225
    · rw [if_pos h2]; show i < 225; omega
    · rw [if_neg h2]; show i < 3375; omega
/-- the way to an item of a row, with the types -/
theorem row_ex {q i : Nat} (nk : nok T n N) (hq : q < n) (hk : (N q).1 = 3) (hi : i < (N q).2.1) : ∃ q' j lk, pth T N (dpt (N q).2.1) q i q' j lk ∧ q' < n ∧ j < 15 ∧ ((N q').1 = 3 ∨ (N q').1 = 4) ∧ (N q').2.2.1 = (N q).2.2.1 ∧ lvn (N q') = lk := by
  have hl : (N q).2.1 ≤ 3375 := by
    rcases (nk q hq).1 with z | z | z
    · omega
    · exact z.2.1
    · omega
  exact pth_ex nk _ q i hq (Or.inl hk) (by unfold lvn; rw [if_pos hk]) (len_pw hl hi)
theorem cf_rw {q t : Nat} (h1 : 64 ≤ t) (h2 : t ≤ 96) (h3 : (N q).1 = 3) (h4 : (N q).2.2.1 = t - 64) : cf T N (.inr (q + 1)) t := Or.inr (Or.inr ⟨by omega, by omega, Or.inr ⟨q, rfl, Or.inr (Or.inr ⟨h1, h2, h3, h4⟩)⟩⟩)
theorem e_rw (hw : wf T b) (vk : vOK T b H Y) (W : WT T b H Y n N (f :: r) 0 1) (ho : b (T 17 f.1 + f.2.1) = 31) : ∃ o, ASrw T b k lim md cy rch n N f r ids o ∧ WO T b H Y o := by
  obtain ⟨h1, hin, h4, h16, hb, hfs, w, hv, hok, c, t', w', av, hc, q1, q2⟩ := W.top vk
  obtain ⟨o1, o2, o3, o4, o5, o6⟩ := opB hw h1 hin h4
  obtain ⟨e0, e1, e2⟩ := av.2.2.2.2.2.2.2.2.2.2.2.2.2.2.2.2.2.2.2.1 ho
  obtain ⟨z1, z2⟩ := e0.mp hc
  have hit := o1.2.2.2.2.2.1 ho
  have w32 := hw.2.1
  have hw2 : wd (b (T 17 f.1 + f.2.1)) = 2 := by rw [ho]; rfl
  have aa := q1 (by omega)
  rw [hw2, e1, e2] at aa
  obtain ⟨xv, ex⟩ := hv.i0 (i := T 15 f.1 + f.2.2.1 - 1) (by omega) z2
  by_cases fu : rch ≤ k * md ∧ lim < rch
  · exact ⟨none, ⟨ho, ⟨z1, h16⟩, xv, ex, fun _ => rfl, fun _ q => absurd fu q, fun j _ _ q => absurd fu q⟩, trivial⟩
  · by_cases hj : ∃ j, j ≤ 3375 ∧ xv = nI j
    · obtain ⟨j, j1, j2⟩ := hj
      refine ⟨MO T k lim md cy rch N f r ids 16 (n + 1) (va_up N n (nrw (b (T 17 f.1 + f.2.1 + 1)) j)) ((f.1, f.2.1 + 2, f.2.2.1, va_up f.2.2.2 (T 15 f.1 + f.2.2.1 - 1) (.inr (n + 1))) :: r), ⟨ho, ⟨z1, h16⟩, xv, ex, fun q => absurd q fu, fun q => absurd ⟨j, j1, j2⟩ q, fun j' p1 p2 _ => ?_⟩, ?_⟩
      · have : j = j' := (nI_eq (by omega) (by omega)).mp (j2.symm.trans p2)
        rw [this]
      · have nk' : nok T (n + 1) (va_up N n (nrw (b (T 17 f.1 + f.2.1 + 1)) j)) := W.1.add (nwl_rw j1 hit) (fun j k _ e => nrw_p e)
        have hv' := hv.mo hb (nle_add (x := nrw (b (T 17 f.1 + f.2.1 + 1)) j))
        exact W.go nk' (Nat.le_succ n) nle_add rfl (arr_top hw nk' h1 aa (by omega) (hv'.up (cf_rw (by omega) (by omega) (by rw [va_up_self]; rfl) (by rw [va_up_self, Nat.add_sub_cancel_left]; rfl)) (Or.inl (Nat.le_refl _))) (hb.up (Nat.le_succ n) (fun k' e => by cases e; exact Nat.lt_succ_self n) (Or.inl (Nat.le_refl _))))
    · exact ⟨_, ⟨ho, ⟨z1, h16⟩, xv, ex, fun q => absurd q fu, fun _ _ => rfl, fun j p1 p2 => absurd ⟨j, p1, p2⟩ hj⟩, W.ft (hw.2.2.2.2.2.2.2.1 4 (by decide))⟩
theorem e_le (hw : wf T b) (vk : vOK T b H Y) (W : WT T b H Y n N (f :: r) 0 1) (ho : b (T 17 f.1 + f.2.1) = 32) : ∃ o, ASle T b k lim md cy rch n N f r ids o ∧ WO T b H Y o := by
  obtain ⟨h1, hin, h4, h16, hb, hfs, w, hv, hok, c, t', w', av, hc, q1, q2⟩ := W.top vk
  obtain ⟨e0, e1, e2⟩ := av.2.2.2.2.2.2.2.2.2.2.2.2.2.2.2.2.2.2.2.2.1 ho
  obtain ⟨z1, z2, z3⟩ := e0.mp hc
  have hw2 : wd (b (T 17 f.1 + f.2.1)) = 1 := by rw [ho]; rfl
  have aa := q1 (by omega)
  rw [hw2, e1, e2] at aa
  rcases (hv (T 15 f.1 + f.2.2.1 - 1) (by omega)).w z2 z3 with ev | ⟨q, ev, k3, -, -⟩
  · by_cases fu : rch ≤ k * md ∧ lim < rch
    · exact ⟨none, ⟨ho, ⟨z1, h16⟩, 0, ev, fun q e => by omega, fun _ _ => rfl, fun _ q => absurd fu q, fun q e => by omega⟩, trivial⟩
    · exact ⟨_, ⟨ho, ⟨z1, h16⟩, 0, ev, fun q e => by omega, fun _ q => absurd q fu, fun _ _ => rfl, fun q e => by omega⟩, W.ft (hw.2.2.2.2.2.2.2.1 0 (by decide))⟩
  · refine ⟨_, ⟨ho, ⟨z1, h16⟩, q + 1, ev, fun q' e => by cases e; exact k3, fun e => by omega, fun e => by omega, fun q' e => by cases e; rfl⟩, ?_⟩
    exact W.go W.1 (Nat.le_refl _) nle_r rfl (arr_top hw W.1 h1 aa (by omega) (hv.up (cf_i _) (Or.inl (Nat.le_refl _))) (hb.up (Nat.le_refl _) (fun k' e => by cases e) (Or.inl (Nat.le_refl _))))
theorem e_at (hw : wf T b) (vk : vOK T b H Y) (W : WT T b H Y n N (f :: r) 0 1) (ho : b (T 17 f.1 + f.2.1) = 33) : ∃ o, ASat T b k lim md cy rch n N f r ids o ∧ WO T b H Y o := by
  obtain ⟨h1, hin, h4, h16, hb, hfs, w, hv, hok, c, t', w', av, hc, q1, q2⟩ := W.top vk
  obtain ⟨e0, e1, e2⟩ := av.2.2.2.2.2.2.2.2.2.2.2.2.2.2.2.2.2.2.2.2.2.1 ho
  obtain ⟨z1, z2, z3, z4⟩ := e0.mp hc
  have hw2 : wd (b (T 17 f.1 + f.2.1)) = 1 := by rw [ho]; rfl
  have aa := q1 (by omega)
  rw [hw2, e1, e2] at aa
  obtain ⟨xi, ex⟩ := hv.i0 (i := T 15 f.1 + f.2.2.1 - 1) (by omega) z2
  rcases (hv (T 15 f.1 + f.2.2.1 - 2) (by omega)).w z3 z4 with ev | ⟨q, ev, k3, n97, k4⟩
  · by_cases fu : rch ≤ k * md ∧ lim < rch
    · exact ⟨none, ⟨ho, ⟨z1, h16⟩, 0, xi, ev, ex, fun q e => by omega, fun _ _ _ => rfl, fun _ _ q => absurd fu q, fun q i e => by omega⟩, trivial⟩
    · refine ⟨FO T k lim md cy rch n N f r ids 0, ⟨ho, ⟨z1, h16⟩, 0, xi, ev, ex, fun q e => by omega, fun _ _ q => absurd q fu, fun e he _ => ?_, fun q i e => by omega⟩, W.ft (hw.2.2.2.2.2.2.2.1 0 (by decide))⟩
      have : e = 0 := by
        rcases he with q | ⟨-, q, q2, -⟩
        · exact q.2
        · omega
      rw [this]
  · have hqn := hb _ q (by omega) ev
    by_cases hix : ∃ i, i < (N q).2.1 ∧ xi = nI i
    · obtain ⟨i, i1, i2⟩ := hix
      have hl : (N q).2.1 ≤ 3375 := by
        rcases (W.1 q hqn).1 with z | z | z
        · omega
        · exact z.2.1
        · omega
      obtain ⟨q', j, lk, a1, a2, a3, a4, a5, a6⟩ := row_ex W.1 hqn k3 i1
      obtain ⟨p1, p2, p3, p4, p5⟩ := (W.1 q' a2).1.pl a4
      have it9 : (N q).2.2.1 ≠ 99 := by have := hw.2.1; omega
      have hrv : cf T N (rval N q q' j lk) (N q).2.2.1 := by
        unfold rval
        by_cases l0 : lk = 0
        · rw [if_pos l0]
          have := p5 j a3
          unfold ptl at this
          rw [if_pos (by omega), a5] at this
          exact this
        · rw [if_neg l0]
          by_cases i0 : (N q).2.2.1 = 0
          · rw [if_pos i0, i0]; exact cf_i 0
          · rw [if_neg i0]; exact cf_n i0
      have hrl : ∀ k', rval N q q' j lk = .inr (k' + 1) → k' < n := fun k' e => by
        unfold rval at e
        by_cases l0 : lk = 0
        · rw [if_pos l0] at e; exact (W.1 q' a2).2 j k' (by omega) e
        · rw [if_neg l0] at e
          by_cases i0 : (N q).2.2.1 = 0
          · rw [if_pos i0] at e; cases e
          · rw [if_neg i0] at e; cases e
      have nof : ∀ e, ¬ ((q + 1 = 0 ∧ e = 0) ∨ (e = 1 ∧ ∃ q', q + 1 = q' + 1 ∧ ¬ ∃ i, i < (N q').2.1 ∧ xi = nI i)) := fun e he => by
        rcases he with z | ⟨-, q2, e2, z⟩
        · omega
        · cases e2; exact z ⟨i, i1, i2⟩
      refine ⟨KO md cy rch n N ((f.1, f.2.1 + 1, f.2.2.1 - 1, va_up f.2.2.2 (T 15 f.1 + f.2.2.1 - 2) (rval N q q' j lk)) :: r) 0, ⟨ho, ⟨z1, h16⟩, q + 1, xi, ev, ex, fun q' e => by cases e; exact k3, fun e he => absurd he (nof e), fun e he => absurd he (nof e), fun q2 i' e u1 u2 => ?_⟩, ?_⟩
      · cases e
        have : i = i' := (nI_eq (by omega) (by omega)).mp (i2.symm.trans u2)
        rw [← this]
        exact ⟨q', j, lk, a1, cf_ri hrv it9, rfl⟩
      · rw [if_neg n97, ← k4] at aa
        exact W.go W.1 (Nat.le_refl _) nle_r rfl (arr_top hw W.1 h1 aa (by omega) (hv.up hrv (Or.inl (by omega))) (hb.up (Nat.le_refl _) hrl (Or.inl (by omega))))
    · have isf : (1 : Nat) = 1 ∧ ∃ q', q + 1 = q' + 1 ∧ ¬ ∃ i, i < (N q').2.1 ∧ xi = nI i := ⟨rfl, q, rfl, hix⟩
      by_cases fu : rch ≤ k * md ∧ lim < rch
      · exact ⟨none, ⟨ho, ⟨z1, h16⟩, q + 1, xi, ev, ex, fun q' e => by cases e; exact k3, fun _ _ _ => rfl, fun _ _ q => absurd fu q, fun q2 i e u1 u2 => by cases e; exact absurd ⟨i, u1, u2⟩ hix⟩, trivial⟩
      · refine ⟨FO T k lim md cy rch n N f r ids 1, ⟨ho, ⟨z1, h16⟩, q + 1, xi, ev, ex, fun q' e => by cases e; exact k3, fun _ _ q => absurd q fu, fun e he _ => ?_, fun q2 i e u1 u2 => by cases e; exact absurd ⟨i, u1, u2⟩ hix⟩, W.ft (hw.2.2.2.2.2.2.2.1 1 (by decide))⟩
        have : e = 1 := by
          rcases he with q | ⟨q, -⟩
          · omega
          · exact q
        rw [this]
theorem e_to (hw : wf T b) (vk : vOK T b H Y) (W : WT T b H Y n N (f :: r) 0 1) (ho : b (T 17 f.1 + f.2.1) = 34) : ∃ o, ASto T b k lim md cy rch n N f r ids o ∧ WO T b H Y o := by
  obtain ⟨h1, hin, h4, h16, hb, hfs, w, hv, hok, c, t', w', av, hc, q1, q2⟩ := W.top vk
  obtain ⟨e0, e1, e2⟩ := av.2.2.2.2.2.2.2.2.2.2.2.2.2.2.2.2.2.2.2.2.2.2.1 ho
  obtain ⟨z1, z2, ⟨z3, z4⟩, z5⟩ := e0.mp hc
  have hw2 : wd (b (T 17 f.1 + f.2.1)) = 1 := by rw [ho]; rfl
  have aa := q1 (by omega)
  rw [hw2, e1, e2] at aa
  obtain ⟨xi, ex⟩ := hv.i0 (i := T 15 f.1 + f.2.2.1 - 2) (by omega) z2
  rcases (hv (T 15 f.1 + f.2.2.1 - 3) (by omega)).w z3 z4 with ev | ⟨q, ev, k3, n97, k4⟩
  · by_cases fu : rch ≤ k * md ∧ lim < rch
    · exact ⟨none, ⟨ho, ⟨z1, h16⟩, 0, xi, ev, ex, fun q e => by omega, fun _ _ _ => rfl, fun _ _ q => absurd fu q, fun q i e => by omega⟩, trivial⟩
    · refine ⟨FO T k lim md cy rch n N f r ids 0, ⟨ho, ⟨z1, h16⟩, 0, xi, ev, ex, fun q e => by omega, fun _ _ q => absurd q fu, fun e he _ => ?_, fun q i e => by omega⟩, W.ft (hw.2.2.2.2.2.2.2.1 0 (by decide))⟩
      have : e = 0 := by
        rcases he with q | ⟨-, q, q2, -⟩
        · exact q.2
        · omega
      rw [this]
  · have hqn := hb _ q (by omega) ev
    by_cases hix : ∃ i, i < (N q).2.1 ∧ xi = nI i
    · obtain ⟨i, i1, i2⟩ := hix
      have hl : (N q).2.1 ≤ 3375 := by
        rcases (W.1 q hqn).1 with z | z | z
        · omega
        · exact z.2.1
        · omega
      obtain ⟨q', j, lk, a1, a2, a3, a4, a5, a6⟩ := row_ex W.1 hqn k3 i1
      obtain ⟨p1, p2, p3, p4, p5⟩ := (W.1 q' a2).1.pl a4
      have nof : ∀ e, ¬ ((q + 1 = 0 ∧ e = 0) ∨ (e = 1 ∧ ∃ q', q + 1 = q' + 1 ∧ ¬ ∃ i, i < (N q').2.1 ∧ xi = nI i)) := fun e he => by
        rcases he with z | ⟨-, q2, e2, z⟩
        · omega
        · cases e2; exact z ⟨i, i1, i2⟩
      by_cases l0 : lk = 0
      · have hvv : cf T N (f.2.2.2 (T 15 f.1 + f.2.2.1 - 1)) (N q).2.2.1 := by
          rw [k4]
          rcases z5 with z | z
          · exact absurd z n97
          · exact (hv (T 15 f.1 + f.2.2.1 - 1) (by omega)).go2 hw W.1 (fun k' e => hb _ k' (by omega) e) z
        have nk' : nok T n (va_up N q' (npu (N q') j (f.2.2.2 (T 15 f.1 + f.2.2.1 - 1)))) := W.1.wr (nwl_pl (W.1 q' a2).1 a4 (by unfold ptl; rw [if_pos (by omega), a5]; exact hvv)) a2 (fun k' e => hb _ k' (by omega) e)
        refine ⟨KO md cy rch n (va_up N q' (npu (N q') j (f.2.2.2 (T 15 f.1 + f.2.2.1 - 1)))) ((f.1, f.2.1 + 1, f.2.2.1 - 3, f.2.2.2) :: r) 0, ⟨ho, ⟨z1, h16⟩, q + 1, xi, ev, ex, fun q' e => by cases e; exact k3, fun e he => absurd he (nof e), fun e he => absurd he (nof e), fun q2 i' e u1 u2 => ?_⟩, ?_⟩
        · cases e
          have : i = i' := (nI_eq (by omega) (by omega)).mp (i2.symm.trans u2)
          rw [← this]
          exact ⟨q', j, lk, a1, fun _ => rfl, fun z => absurd l0 z, fun z => absurd l0 z⟩
        · exact W.go nk' (Nat.le_refl _) nle_wr rfl (arr_top hw nk' h1 aa (by omega) ((hv.le (by omega)).mo (hb.le (Nat.le_refl _) (by omega)) nle_wr) (hb.le (Nat.le_refl _) (by omega)))
      · by_cases fu : rch ≤ k * md ∧ lim < rch
        · refine ⟨none, ⟨ho, ⟨z1, h16⟩, q + 1, xi, ev, ex, fun q' e => by cases e; exact k3, fun e he => absurd he (nof e), fun e he => absurd he (nof e), fun q2 i' e u1 u2 => ?_⟩, trivial⟩
          cases e
          have : i = i' := (nI_eq (by omega) (by omega)).mp (i2.symm.trans u2)
          rw [← this]
          exact ⟨q', j, lk, a1, fun z => absurd z l0, fun _ z => absurd fu z, fun _ _ => rfl⟩
        · refine ⟨MO T k lim md cy rch N f r ids 16 (n + 1) (va_up (va_up N n (nch (lk - 1) (N q).2.2.1)) q' (npu (N q') j (.inr (n + 1)))) (f :: r), ⟨ho, ⟨z1, h16⟩, q + 1, xi, ev, ex, fun q' e => by cases e; exact k3, fun e he => absurd he (nof e), fun e he => absurd he (nof e), fun q2 i' e u1 u2 => ?_⟩, ?_⟩
          · cases e
            have : i = i' := (nI_eq (by omega) (by omega)).mp (i2.symm.trans u2)
            rw [← this]
            exact ⟨q', j, lk, a1, fun z => absurd z l0, fun _ _ => rfl, fun _ z => absurd z fu⟩
          · have nk1 : nok T (n + 1) (va_up N n (nch (lk - 1) (N q).2.2.1)) := W.1.add (nwl_ch (by omega) (by rw [← a5]; exact p2)) (fun j k _ e => nch_p e)
            have e1 : va_up N n (nch (lk - 1) (N q).2.2.1) q' = N q' := va_up_ne _ _ (by omega)
            have nk2 := nk1.wr (q := q') (j := j) (v := .inr (n + 1)) (nwl_pl (nk1 q' (by omega)).1 (by rw [e1]; exact a4) (by
              rw [e1, a6]
              unfold ptl
              rw [if_neg l0]
              exact Or.inr ⟨n, rfl, by rw [va_up_self]; rfl, by rw [va_up_self]; rfl, by rw [va_up_self]; exact a5.symm⟩)) (by omega) (fun k' e => by cases e; omega)
            rw [e1] at nk2
            have le2 : nle n N (va_up (va_up N n (nch (lk - 1) (N q).2.2.1)) q' (npu (N q') j (.inr (n + 1)))) := by
              have := nle.t (n := n) (N := N) (nle_add (x := nch (lk - 1) (N q).2.2.1)) (nle_wr (q := q') (j := j) (v := .inr (n + 1)))
              rw [e1] at this
              exact this
            exact W.mo nk2 (Nat.le_succ n) le2
    · by_cases fu : rch ≤ k * md ∧ lim < rch
      · exact ⟨none, ⟨ho, ⟨z1, h16⟩, q + 1, xi, ev, ex, fun q' e => by cases e; exact k3, fun _ _ _ => rfl, fun _ _ q => absurd fu q, fun q2 i e u1 u2 => by cases e; exact absurd ⟨i, u1, u2⟩ hix⟩, trivial⟩
      · refine ⟨FO T k lim md cy rch n N f r ids 1, ⟨ho, ⟨z1, h16⟩, q + 1, xi, ev, ex, fun q' e => by cases e; exact k3, fun _ _ q => absurd q fu, fun e he _ => ?_, fun q2 i e u1 u2 => by cases e; exact absurd ⟨i, u1, u2⟩ hix⟩, W.ft (hw.2.2.2.2.2.2.2.1 1 (by decide))⟩
        have : e = 1 := by
          rcases he with q | ⟨q, -⟩
          · omega
          · exact q
        rw [this]
end
