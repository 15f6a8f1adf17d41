/-! ===== what comes out is well: simple instructions, objects ===== -/
section
variable {T : Nat → Nat → Nat} {b : Nat → Nat} {H Y : Nat → Nat → Nat} {k lim md cy rch n n' : Nat} {N N' : Nat → AN} {f g : AF} {r : List AF} {ids : List Nat} {vs : Nat → AV} {w : Nat → Nat} {c t i m : Nat}
theorem cfw.i0 (h : cfw T N m vs w) (hi : i < m) (e : w i = 0) : ∃ x, vs i = .inl x := by
  have := h i hi
  rw [e] at this
  exact this.i
theorem cfw.r0 (h : cfw T N m vs w) (hi : i < m) (e : w i ≠ 0) (e9 : w i ≠ 99) : ∃ k, vs i = .inr k := by
  rcases (h i hi).r e e9 with q | ⟨j, q, -⟩
  · exact ⟨0, q⟩
  · exact ⟨j + 1, q⟩
theorem cfw.mo (h : cfw T N m vs w) (hb : vlt n m vs) (hle : nle n N N') : cfw T N' m vs w := fun i hi => (h i hi).n (fun k e => hb i k hi e) hle
theorem cfw.w1 {j : Nat} (h : cfw T N m vs w) (hv : cf T N (vs j) t) : cfw T N m vs (va_up w j t) := fun i hi => by
  by_cases e : i = j
  · rw [e, va_up_self]; exact hv
  · rw [va_up_ne _ _ e]; exact h i hi
theorem vlt.up {j m' : Nat} {v : AV} (h : vlt n m vs) (hn : n ≤ n') (hv : ∀ k, v = .inr (k + 1) → k < n') (hm : m' ≤ m ∨ (m' = m + 1 ∧ j = m)) : vlt n' m' (va_up vs j v) := fun i k hi e => by
  by_cases q : i = j
  · rw [q, va_up_self] at e; exact hv k e
  · rw [va_up_ne _ _ q] at e
    have := h i k (by omega) e
    omega
theorem vlt.le (h : vlt n m vs) (hn : n ≤ n') {m' : Nat} (hm : m' ≤ m) : vlt n' m' vs := fun i k hi e => by have := h i k (by omega) e; omega
/-- a value may go where its type goes -/
theorem cf.go2 {v : AV} {x y : Nat} (hw : wf T b) (nk : nok T n N) (hb : ∀ k, v = .inr (k + 1) → k < n) (h : cf T N v x) (hl : goesT T x y) : cf T N v y := h.go hw (fun i e h2 => nk.c i (hb i e) h2) hl
/-- fields of classes below -/
theorem isA_f (hw : wf T b) {c : Nat} : ∀ d, d < T 0 0 → isA T d c → T 6 c ≤ T 6 d ∧ ∀ j, j < T 6 c → T 7 (15 * d + j) = T 7 (15 * c + j) := by
  have h5 := fun c (hc : c < T 0 0) => (hw.2.2.2.2.2.2.1 c hc).1
  intro d
  induction d using Nat.strongRecOn with
  | ind d ih =>
    intro hd ha
    rcases (isA_u h5 hw.2.1 hd).mp ha with e | ⟨e1, e2⟩
    · rw [e]; exact ⟨Nat.le_refl _, fun _ _ => rfl⟩
    · have l5 := h5 d hd
      obtain ⟨a1, a2⟩ := ih (T 5 d - 1) (by omega) (by omega) e2
      obtain ⟨b1, b2, -⟩ := (hw.2.2.2.2.2.2.1 d hd).2.2.2.2.2 e1
      exact ⟨by omega, fun j hj => by rw [b2 j (by omega), a2 j hj]⟩
theorem WT.mo (W : WT T b H Y n N (f :: r) 0 1) (nk : nok T n' N') (hn : n ≤ n') (hle : nle n N N') : WT T b H Y n' N' (f :: r) 0 1 := by
  obtain ⟨a, c, d⟩ := W.2.2.1 f r rfl
  refine ⟨nk, fun q e => by omega, fun f' r' e => ?_, fun _ => List.cons_ne_nil _ _⟩
  cases e
  exact ⟨a.mo hn hle, c, fsT.mo hn hle r f.1 d⟩
theorem e_sm (hw : wf T b) (vk : vOK T b H Y) (W : WT T b H Y n N (f :: r) 0 1) (ho : b (T 17 f.1 + f.2.1) ≤ 25) (nz : ¬ ((b (T 17 f.1 + f.2.1) = 10 ∨ b (T 17 f.1 + f.2.1) = 11) ∧ f.2.2.2 (T 15 f.1 + f.2.2.1 - 1) = .inl 0)) : ∃ o, ASsm T b k lim md cy rch n N f r ids o ∧ WO T b H Y o := by
  obtain ⟨h1, hin, h4, h16, hb, hfs, w, hv, hok, c, t', w', av, hc, q1, q2⟩ := W.top vk
  obtain ⟨o1, o2, o3, o4, o5, o6⟩ := opB hw h1 hin h4
  generalize hpe : T 17 f.1 + f.2.1 = p at *
  have n9 : ∀ j, j < f.2.2.1 → w (T 15 f.1 + j) ≠ 99 := fun j hj => (hok _ (by omega)).2 (by omega)
  have hg : hgt T f.1 (b p) f.2.2.1 := by
    refine ⟨fun q => ?_, fun q => ?_, fun q => ?_, fun q => ?_⟩
    · rcases q with q | q | q
      · exact (av.1 (Or.inl q)).1.mp hc
      · exact (av.2.1 q).1.mp hc
      · exact ((av.2.2.1 q).1.mp hc).2
    · rcases q with q | q | q | q | q | q
      · exact (av.2.2.2.1 q).1.mp hc
      · exact (av.2.2.2.2.1 q).1.mp hc
      · exact ((av.2.2.2.2.2.2.2.2.1 q).1.mp hc).1
      · exact ((av.2.2.2.2.2.2.2.2.2.1 (Or.inl q)).1.mp hc).1
      · exact ((av.2.2.2.2.2.2.2.2.2.2.2.1 (Or.inl q)).1.mp hc).1
      · exact ((av.2.2.2.2.2.2.2.2.2.2.2.1 (Or.inr q)).1.mp hc).1
    · exact (av.2.2.2.2.2.1 q).1.mp hc
    · rcases q with q | q | q | q | q
      · exact (av.2.2.2.2.2.2.1 q).1.mp hc
      · exact ((av.2.2.2.2.2.2.2.1 q).1.mp hc).1
      · exact ((av.2.2.2.2.2.2.2.2.2.2.1 q).1.mp hc).1
      · exact ((av.2.2.2.2.2.2.2.2.2.2.2.2.1 (Or.inl q)).1.mp hc).1
      · exact ((av.2.2.2.2.2.2.2.2.2.2.2.2.1 (Or.inr q)).1.mp hc).1
  have hsm : ∃ (zv : Int32) (jc : Prop), smp b p (T 15 f.1) f.2.2.1 f.2.2.2 zv jc := by
    by_cases c0 : b p = 0
    · exact ⟨c4 b p, False, fun _ => rfl, fun q => by omega, fun q => by omega, fun q => by omega, fun q => by omega, fun q => by omega, fun q => by omega, fun q => by omega, fun q => by omega, fun q => by omega, fun _ => id⟩
    by_cases c7 : 7 ≤ b p ∧ b p ≤ 17
    · obtain ⟨e1, e2, e3⟩ := (av.2.2.2.2.2.2.2.1 c7).1.mp hc
      obtain ⟨y, ey⟩ := hv.i0 (by omega) e2
      obtain ⟨x, ex⟩ := hv.i0 (by omega) e3
      exact ⟨rk2 (b p) x y, False, fun q => by omega, fun _ => ⟨x, y, ey, ex, rfl, fun z => nz ⟨z.1, by rw [ey, z.2]⟩⟩, fun q => by omega, fun q => by omega, fun q => by omega, fun q => by omega, fun q => by omega, fun q => by omega, fun q => by omega, fun q => by omega, fun _ => id⟩
    by_cases c18 : b p = 18
    · obtain ⟨e1, e2⟩ := (av.2.2.2.2.2.2.2.2.1 c18).1.mp hc
      obtain ⟨y, ey⟩ := hv.i0 (by omega) e2
      exact ⟨-y, False, fun q => by omega, fun q => by omega, fun _ => ⟨y, ey, rfl⟩, fun q => by omega, fun q => by omega, fun q => by omega, fun q => by omega, fun q => by omega, fun q => by omega, fun q => by omega, fun _ => id⟩
    by_cases c19 : b p = 19
    · obtain ⟨e1, e2⟩ := (av.2.2.2.2.2.2.2.2.2.1 (Or.inl c19)).1.mp hc
      obtain ⟨y, ey⟩ := hv.i0 (by omega) e2
      exact ⟨0, qst (b (p + 1)) y 0, fun q => by omega, fun q => by omega, fun q => by omega, fun _ => ⟨y, ey, Iff.rfl⟩, fun q => by omega, fun q => by omega, fun q => by omega, fun q => by omega, fun q => by omega, fun q => by omega, fun q => by omega⟩
    by_cases c20 : b p = 20
    · obtain ⟨e1, e2, e3⟩ := (av.2.2.2.2.2.2.2.2.2.2.1 c20).1.mp hc
      obtain ⟨y, ey⟩ := hv.i0 (by omega) e2
      obtain ⟨x, ex⟩ := hv.i0 (by omega) e3
      exact ⟨0, qst (b (p + 1)) x y, fun q => by omega, fun q => by omega, fun q => by omega, fun q => by omega, fun _ => ⟨x, y, ey, ex, Iff.rfl⟩, fun q => by omega, fun q => by omega, fun q => by omega, fun q => by omega, fun q => by omega, fun q => by omega⟩
    by_cases c21 : b p = 21
    · obtain ⟨e1, e2⟩ := (av.2.2.2.2.2.2.2.2.2.2.2.1 (Or.inl c21)).1.mp hc
      obtain ⟨y, ey⟩ := hv.r0 (by omega) e2 ((hok _ (by omega)).2 (by omega))
      exact ⟨0, y = 0, fun q => by omega, fun q => by omega, fun q => by omega, fun q => by omega, fun q => by omega, fun _ => ⟨y, ey, Iff.rfl⟩, fun q => by omega, fun q => by omega, fun q => by omega, fun q => by omega, fun q => by omega⟩
    by_cases c22 : b p = 22
    · obtain ⟨e1, e2⟩ := (av.2.2.2.2.2.2.2.2.2.2.2.1 (Or.inr c22)).1.mp hc
      obtain ⟨y, ey⟩ := hv.r0 (by omega) e2 ((hok _ (by omega)).2 (by omega))
      exact ⟨0, y ≠ 0, fun q => by omega, fun q => by omega, fun q => by omega, fun q => by omega, fun q => by omega, fun q => by omega, fun _ => ⟨y, ey, Iff.rfl⟩, fun q => by omega, fun q => by omega, fun q => by omega, fun q => by omega⟩
    by_cases c23 : b p = 23
    · obtain ⟨e1, e2, e3⟩ := (av.2.2.2.2.2.2.2.2.2.2.2.2.1 (Or.inl c23)).1.mp hc
      obtain ⟨y, ey⟩ := hv.r0 (by omega) e2 ((hok _ (by omega)).2 (by omega))
      obtain ⟨x, ex⟩ := hv.r0 (by omega) e3 ((hok _ (by omega)).2 (by omega))
      exact ⟨0, y = x, fun q => by omega, fun q => by omega, fun q => by omega, fun q => by omega, fun q => by omega, fun q => by omega, fun q => by omega, fun _ => ⟨y, x, ey, ex, Iff.rfl⟩, fun q => by omega, fun q => by omega, fun q => by omega⟩
    by_cases c24 : b p = 24
    · obtain ⟨e1, e2, e3⟩ := (av.2.2.2.2.2.2.2.2.2.2.2.2.1 (Or.inr c24)).1.mp hc
      obtain ⟨y, ey⟩ := hv.r0 (by omega) e2 ((hok _ (by omega)).2 (by omega))
      obtain ⟨x, ex⟩ := hv.r0 (by omega) e3 ((hok _ (by omega)).2 (by omega))
      exact ⟨0, y ≠ x, fun q => by omega, fun q => by omega, fun q => by omega, fun q => by omega, fun q => by omega, fun q => by omega, fun q => by omega, fun q => by omega, fun _ => ⟨y, x, ey, ex, Iff.rfl⟩, fun q => by omega, fun q => by omega⟩
    by_cases c25 : b p = 25
    · exact ⟨0, True, fun q => by omega, fun q => by omega, fun q => by omega, fun q => by omega, fun q => by omega, fun q => by omega, fun q => by omega, fun q => by omega, fun q => by omega, fun _ => trivial, fun q => by omega⟩
    · exact ⟨0, False, fun q => by omega, fun q => by omega, fun q => by omega, fun q => by omega, fun q => by omega, fun q => by omega, fun q => by omega, fun q => by omega, fun q => by omega, fun q => by omega, fun _ => id⟩
  obtain ⟨zv, jc, hs⟩ := hsm
  obtain ⟨ht', vs', he⟩ := ef_ex p (T 15 f.1) f.2.2.1 f.2.2.2 zv (Or.inl ho)
  obtain ⟨et, hv'⟩ := ef_t (Or.inl ho) o1.2.1 av hc hv he (fun q => by omega)
  have hb' : vlt n (T 15 f.1 + ht') vs' := fun i k hi e => by
    obtain ⟨j, j1, j2⟩ := ef_L (Or.inl ho) he o1.2.1 (fun q => by rcases q with q | q; exact hg.2.1 (by omega); exact (hg.2.2.1 q).1) (fun q => hg.2.2.2 (Or.inl q)) i k hi e
    exact hb j k j1 j2
  rw [et] at hb'
  by_cases cj : jc
  · have j19 : 19 ≤ b p ∧ b p ≤ 25 := by
      refine ⟨?_, ho⟩
      by_cases z : b p ≤ 18
      · exact absurd cj (hs.2.2.2.2.2.2.2.2.2.2 z)
      · omega
    refine ⟨_, ⟨by rw [hpe]; exact ho, zv, jc, ht', pr b (jpl b p), vs', by rw [hpe]; exact hg, by rw [hpe]; exact hs, by rw [hpe]; exact he, Or.inl ⟨cj, by rw [hpe]⟩, rfl⟩, ?_⟩
    rw [et]
    exact W.go W.1 (Nat.le_refl _) nle_r rfl (arr_top hw W.1 h1 (q2 j19) rfl hv' hb')
  · have n25 : ¬ (b p = 25 ∨ b p = 37 ∨ b p = 38 ∨ b p = 39) := fun z => by
      have : b p = 25 := by omega
      exact cj (hs.2.2.2.2.2.2.2.2.2.1 this)
    refine ⟨_, ⟨by rw [hpe]; exact ho, zv, jc, ht', f.2.1 + wd (b p), vs', by rw [hpe]; exact hg, by rw [hpe]; exact hs, by rw [hpe]; exact he, Or.inr ⟨cj, by rw [hpe]⟩, rfl⟩, ?_⟩
    rw [et]
    exact W.go W.1 (Nat.le_refl _) nle_r rfl (arr_top hw W.1 h1 (q1 n25) (by omega) hv' hb')
theorem e_dz (hw : wf T b) (vk : vOK T b H Y) (W : WT T b H Y n N (f :: r) 0 1) (ho : b (T 17 f.1 + f.2.1) = 10 ∨ b (T 17 f.1 + f.2.1) = 11) (hz : f.2.2.2 (T 15 f.1 + f.2.2.1 - 1) = .inl 0) : ∃ o, ASdz T b k lim md cy rch n N f r ids o ∧ WO T b H Y o := by
  obtain ⟨h1, hin, h4, h16, hb, hfs, w, hv, hok, c, t', w', av, hc, q1, q2⟩ := W.top vk
  obtain ⟨e1, e2, e3⟩ := (av.2.2.2.2.2.2.2.1 (by omega)).1.mp hc
  obtain ⟨x, ex⟩ := hv.i0 (by omega) e3
  by_cases fu : rch ≤ k * md ∧ lim < rch
  · exact ⟨none, ⟨ho, ⟨e1, h16⟩, ⟨x, ex⟩, hz, fun _ => rfl, fun q => absurd fu q⟩, trivial⟩
  · exact ⟨_, ⟨ho, ⟨e1, h16⟩, ⟨x, ex⟩, hz, fun q => absurd q fu, fun _ => rfl⟩, W.ft (hw.2.2.2.2.2.2.2.1 2 (by decide))⟩
theorem cf_cl {q c : Nat} (hC : T 0 0 ≤ 32) (hc : c < T 0 0) (h2 : (N q).1 = 2) (ha : isA T (N q).2.1 c) : cf T N (.inr (q + 1)) (c + 1) := Or.inr (Or.inr ⟨by omega, by omega, Or.inr ⟨q, rfl, Or.inr (Or.inl ⟨by omega, by omega, h2, ha⟩)⟩⟩)
theorem e_nw (hw : wf T b) (vk : vOK T b H Y) (W : WT T b H Y n N (f :: r) 0 1) (ho : b (T 17 f.1 + f.2.1) = 26) : ∃ o, ASnw T b k lim md cy rch n N f r ids o ∧ WO T b H Y o := by
  obtain ⟨h1, hin, h4, h16, hb, hfs, w, hv, hok, c, t', w', av, hc, q1, q2⟩ := W.top vk
  obtain ⟨o1, o2, o3, o4, o5, o6⟩ := opB hw h1 hin h4
  obtain ⟨e0, e1, e2⟩ := av.2.2.2.2.2.2.2.2.2.2.2.2.2.2.1 ho
  have hh := e0.mp hc
  have hcl := o1.2.2.2.1 (Or.inl ho)
  have hw2 : wd (b (T 17 f.1 + f.2.1)) = 2 := by rw [ho]; rfl
  have aa := q1 (by omega)
  rw [hw2, e1, e2] at aa
  by_cases fu : rch ≤ k * md ∧ lim < rch
  · exact ⟨none, ⟨ho, hh, fun _ => rfl, fun q => absurd fu q⟩, trivial⟩
  · refine ⟨_, ⟨ho, hh, fun q => absurd q fu, fun _ => rfl⟩, ?_⟩
    have nk' : nok T (n + 1) (va_up N n (nob T (b (T 17 f.1 + f.2.1 + 1)))) := W.1.add (nwl_ob hcl) (fun j k _ e => nob_p e)
    have hv' := hv.mo hb (nle_add (x := nob T (b (T 17 f.1 + f.2.1 + 1))))
    exact W.go nk' (Nat.le_succ n) nle_add rfl (arr_top hw nk' h1 aa (by omega) (hv'.up (cf_cl hw.2.1 hcl (by rw [va_up_self]; rfl) (by rw [va_up_self]; exact isA_r _)) (Or.inr ⟨rfl, rfl⟩)) (hb.up (Nat.le_succ n) (fun k' e => by cases e; exact Nat.lt_succ_self n) (Or.inr ⟨rfl, rfl⟩)))
theorem e_ge (hw : wf T b) (vk : vOK T b H Y) (W : WT T b H Y n N (f :: r) 0 1) (ho : b (T 17 f.1 + f.2.1) = 27) : ∃ o, ASge T b k lim md cy rch n N f r ids o ∧ WO T b H Y o := by
  obtain ⟨h1, hin, h4, h16, hb, hfs, w, hv, hok, c, t', w', av, hc, q1, q2⟩ := W.top vk
  obtain ⟨o1, o2, o3, o4, o5, o6⟩ := opB hw h1 hin h4
  obtain ⟨e0, e1, e2⟩ := av.2.2.2.2.2.2.2.2.2.2.2.2.2.2.2.1 ho
  obtain ⟨z1, z2⟩ := e0.mp hc
  obtain ⟨hcl, hcf⟩ := o1.2.2.2.2.1 (Or.inl ho)
  have w32 := hw.2.1
  have hw2 : wd (b (T 17 f.1 + f.2.1)) = 3 := by rw [ho]; rfl
  have aa := q1 (by omega)
  rw [hw2, e1, e2] at aa
  have hvt := (hv (T 15 f.1 + f.2.2.1 - 1) (by omega)).go2 hw W.1 (fun k' e => hb _ k' (by omega) e) z2
  have t9 := ty_n9 w32 ((hw.2.2.2.2.2.2.1 _ hcl).2.2.1 _ hcf)
  rcases hvt.o (by omega) (by omega) with ev | ⟨q, ev, k2, ia⟩
  · by_cases fu : rch ≤ k * md ∧ lim < rch
    · exact ⟨none, ⟨ho, ⟨z1, h16⟩, 0, ev, fun q e => by omega, fun _ _ => rfl, fun _ q => absurd fu q, fun q e => by omega⟩, trivial⟩
    · exact ⟨_, ⟨ho, ⟨z1, h16⟩, 0, ev, fun q e => by omega, fun _ q => absurd q fu, fun _ _ => rfl, fun q e => by omega⟩, W.ft (hw.2.2.2.2.2.2.2.1 0 (by decide))⟩
  · have hqn := hb _ q (by omega) ev
    have hcq := W.1.c q hqn k2
    rw [Nat.add_sub_cancel] at ia
    obtain ⟨f6, f7⟩ := isA_f hw _ hcq ia
    have npq : npt T (N q) = T 6 (N q).2.1 := by unfold npt; rw [if_pos k2]
    have hpt : cf T N ((N q).2.2.2 (b (T 17 f.1 + f.2.1 + 2))) (T 7 (15 * b (T 17 f.1 + f.2.1 + 1) + b (T 17 f.1 + f.2.1 + 2))) := by
      rcases (W.1 q hqn).1 with z | z | z
      · have := z.2.2 (b (T 17 f.1 + f.2.1 + 2)) (by omega)
        rw [f7 _ (by exact hcf)] at this
        exact this
      · omega
      · omega
    refine ⟨_, ⟨ho, ⟨z1, h16⟩, q + 1, ev, fun q' e => ?_, fun e => by omega, fun e => by omega, fun q' e => by cases e; rfl⟩, ?_⟩
    · cases e
      exact ⟨by omega, cf_ri hpt t9⟩
    · exact W.go W.1 (Nat.le_refl _) nle_r rfl (arr_top hw W.1 h1 aa (by omega) (hv.up hpt (Or.inl (Nat.le_refl _))) (hb.up (Nat.le_refl _) (fun k' e => (W.1 q hqn).2 _ k' (by omega) e) (Or.inl (Nat.le_refl _))))
/-- an object's field is written -/
theorem nwl_pu {x : AN} {j : Nat} {v : AV} (hx : nwl T N x) (h2 : x.1 = 2) (hv : cf T N v (T 7 (15 * x.2.1 + j))) : nwl T N (npu x j v) := by
  rcases hx with z | z | z
  · refine Or.inl ⟨z.1, z.2.1, fun i hi => ?_⟩
    show cf T N (va_up x.2.2.2 j v i) (T 7 (15 * x.2.1 + i))
    by_cases e : i = j
    · rw [e, va_up_self]; exact hv
    · rw [va_up_ne _ _ e]; exact z.2.2 i hi
  · omega
  · omega
theorem e_pu (hw : wf T b) (vk : vOK T b H Y) (W : WT T b H Y n N (f :: r) 0 1) (ho : b (T 17 f.1 + f.2.1) = 28) : ∃ o, ASpu T b k lim md cy rch n N f r ids o ∧ WO T b H Y o := by
  obtain ⟨h1, hin, h4, h16, hb, hfs, w, hv, hok, c, t', w', av, hc, q1, q2⟩ := W.top vk
  obtain ⟨o1, o2, o3, o4, o5, o6⟩ := opB hw h1 hin h4
  obtain ⟨e0, e1, e2⟩ := av.2.2.2.2.2.2.2.2.2.2.2.2.2.2.2.2.1 ho
  obtain ⟨z1, z2, z3⟩ := e0.mp hc
  obtain ⟨hcl, hcf⟩ := o1.2.2.2.2.1 (Or.inr ho)
  have w32 := hw.2.1
  have hw2 : wd (b (T 17 f.1 + f.2.1)) = 3 := by rw [ho]; rfl
  have aa := q1 (by omega)
  rw [hw2, e1, e2] at aa
  have hvt := (hv (T 15 f.1 + f.2.2.1 - 2) (by omega)).go2 hw W.1 (fun k' e => hb _ k' (by omega) e) z3
  have hvv := (hv (T 15 f.1 + f.2.2.1 - 1) (by omega)).go2 hw W.1 (fun k' e => hb _ k' (by omega) e) z2
  rcases hvt.o (by omega) (by omega) with ev | ⟨q, ev, k2, ia⟩
  · by_cases fu : rch ≤ k * md ∧ lim < rch
    · exact ⟨none, ⟨ho, ⟨z1, h16⟩, 0, ev, fun q e => by omega, fun _ _ => rfl, fun _ q => absurd fu q, fun q e => by omega⟩, trivial⟩
    · exact ⟨_, ⟨ho, ⟨z1, h16⟩, 0, ev, fun q e => by omega, fun _ q => absurd q fu, fun _ _ => rfl, fun q e => by omega⟩, W.ft (hw.2.2.2.2.2.2.2.1 0 (by decide))⟩
  · have hqn := hb _ q (by omega) ev
    have hcq := W.1.c q hqn k2
    rw [Nat.add_sub_cancel] at ia
    obtain ⟨f6, f7⟩ := isA_f hw _ hcq ia
    have npq : npt T (N q) = T 6 (N q).2.1 := by unfold npt; rw [if_pos k2]
    refine ⟨_, ⟨ho, ⟨z1, h16⟩, q + 1, ev, fun q' e => by cases e; omega, fun e => by omega, fun e => by omega, fun q' e => by cases e; rfl⟩, ?_⟩
    have nk' : nok T n (va_up N q (npu (N q) (b (T 17 f.1 + f.2.1 + 2)) (f.2.2.2 (T 15 f.1 + f.2.2.1 - 1)))) := W.1.wr (nwl_pu (W.1 q hqn).1 k2 (by rw [f7 _ hcf]; exact hvv)) hqn (fun k' e => hb _ k' (by omega) e)
    exact W.go nk' (Nat.le_refl _) nle_wr rfl (arr_top hw nk' h1 aa (by omega) ((hv.le (by omega)).mo (hb.le (Nat.le_refl _) (by omega)) nle_wr) (hb.le (Nat.le_refl _) (by omega)))
theorem e_is (hw : wf T b) (vk : vOK T b H Y) (W : WT T b H Y n N (f :: r) 0 1) (ho : b (T 17 f.1 + f.2.1) = 29) : ∃ o, ASis T b k lim md cy rch n N f r ids o ∧ WO T b H Y o := by
  obtain ⟨h1, hin, h4, h16, hb, hfs, w, hv, hok, c, t', w', av, hc, q1, q2⟩ := W.top vk
  obtain ⟨e0, e1, e2⟩ := av.2.2.2.2.2.2.2.2.2.2.2.2.2.2.2.2.2.1 ho
  obtain ⟨z1, z2⟩ := e0.mp hc
  have hw2 : wd (b (T 17 f.1 + f.2.1)) = 2 := by rw [ho]; rfl
  have aa := q1 (by omega)
  rw [hw2, e1, e2] at aa
  obtain ⟨v, ev⟩ := hv.r0 (i := T 15 f.1 + f.2.2.1 - 1) (by omega) z2 ((hok _ (by omega)).2 (by omega))
  have fin : ∀ zz : Int32, WO T b H Y (KO md cy rch n N ((f.1, f.2.1 + 2, f.2.2.1, va_up f.2.2.2 (T 15 f.1 + f.2.2.1 - 1) (.inl zz)) :: r) 0) := fun zz => W.go W.1 (Nat.le_refl _) nle_r rfl (arr_top hw W.1 h1 aa (by omega) (hv.up (cf_i zz) (Or.inl (Nat.le_refl _))) (hb.up (Nat.le_refl _) (fun k' e => by cases e) (Or.inl (Nat.le_refl _))))
  by_cases ia : isN T N (.inr v) (b (T 17 f.1 + f.2.1 + 1))
  · exact ⟨_, ⟨ho, ⟨z1, h16⟩, v, 1, ev, Or.inl ⟨ia, rfl⟩, rfl⟩, fin 1⟩
  · exact ⟨_, ⟨ho, ⟨z1, h16⟩, v, 0, ev, Or.inr ⟨ia, rfl⟩, rfl⟩, fin 0⟩
theorem e_ca (hw : wf T b) (vk : vOK T b H Y) (W : WT T b H Y n N (f :: r) 0 1) (ho : b (T 17 f.1 + f.2.1) = 30) : ∃ o, ASca T b k lim md cy rch n N f r ids o ∧ WO T b H Y o := by
  obtain ⟨h1, hin, h4, h16, hb, hfs, w, hv, hok, c, t', w', av, hc, q1, q2⟩ := W.top vk
  obtain ⟨o1, o2, o3, o4, o5, o6⟩ := opB hw h1 hin h4
  obtain ⟨e0, e1, e2⟩ := av.2.2.2.2.2.2.2.2.2.2.2.2.2.2.2.2.2.2.1 ho
  obtain ⟨z1, z2⟩ := e0.mp hc
  have hcl := o1.2.2.2.1 (Or.inr (Or.inr ho))
  have hw2 : wd (b (T 17 f.1 + f.2.1)) = 2 := by rw [ho]; rfl
  have aa := q1 (by omega)
  rw [hw2, e1, e2] at aa
  obtain ⟨v, ev⟩ := hv.r0 (i := T 15 f.1 + f.2.2.1 - 1) (by omega) z2 ((hok _ (by omega)).2 (by omega))
  by_cases ia : v = 0 ∨ isN T N (.inr v) (b (T 17 f.1 + f.2.1 + 1))
  · refine ⟨_, ⟨ho, ⟨z1, h16⟩, v, ev, fun q => absurd ia q, fun q => absurd ia q, fun _ => rfl⟩, ?_⟩
    have hcv : cf T N (f.2.2.2 (T 15 f.1 + f.2.2.1 - 1)) (b (T 17 f.1 + f.2.1 + 1) + 1) := by
      rw [ev]
      rcases ia with e | ⟨q, e, k2, i2⟩
      · rw [e]; exact cf_n (by omega)
      · cases e
        exact cf_cl hw.2.1 hcl k2 i2
    exact W.go W.1 (Nat.le_refl _) nle_r rfl (arr_top hw W.1 h1 aa (by omega) (hv.w1 hcv) hb)
  · by_cases fu : rch ≤ k * md ∧ lim < rch
    · exact ⟨none, ⟨ho, ⟨z1, h16⟩, v, ev, fun _ _ => rfl, fun _ q => absurd fu q, fun q => absurd q ia⟩, trivial⟩
    · exact ⟨_, ⟨ho, ⟨z1, h16⟩, v, ev, fun _ q => absurd q fu, fun _ _ => rfl, fun q => absurd q ia⟩, W.ft (hw.2.2.2.2.2.2.2.1 3 (by decide))⟩
end
