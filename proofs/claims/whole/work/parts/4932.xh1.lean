/-! ===== steps of the class that use the heap: tools ===== -/
section
variable {σ0 σ σ' : sm_S} {T : Nat → Nat → Nat} {b : Nat → Nat} {h k lim md cy rch : Nat} {L : Nat → Prop} {N : Nat → AN} {f : AF} {r fs : List AF} {fl B F S R fr : Nat} {C D C0 : Nat → Int64} {s0 : List Nat} {ml : List (Nat × Nat)} {nb : List Nat} {z lv y al : Nat → Nat} {fas t : List Nat} {tp m pc ht nx l : Nat}
theorem RXg.fi (x : RXg σ T b h k lim md cy rch L N fs fl B F S R fr C C0 s0 ml nb z lv y al fas) (hf : frL Irn σ σ' C) : RXg σ' T b h k lim md cy rch L N fs fl B F S R fr C C0 s0 ml nb z lv y al fas := by
  obtain ⟨x1, x2, ⟨i6, i7, i8, i9, i10⟩, x4, x5, x6, x7, x8, x9, x10⟩ := x
  have ni : ∀ kk, ¬ Irn kk → σ'.1 kk = σ.1 kk := hf.2.2.2.2.2
  exact ⟨⟨x1.1.L hf (fun k q => by unfold Irn; omega), by rw [ni 1 (by unfold Irn; omega)]; exact x1.2.1, by rw [ni 2 (by unfold Irn; omega)]; exact x1.2.2.1, by rw [ni 3 (by unfold Irn; omega)]; exact x1.2.2.2.1, by rw [ni 4 (by unfold Irn; omega)]; exact x1.2.2.2.2.1, by rw [ni 5 (by unfold Irn; omega)]; exact x1.2.2.2.2.2.1, by rw [hf.2.1]; exact x1.2.2.2.2.2.2.1, by rw [hf.2.1]; exact x1.2.2.2.2.2.2.2.1, hf.2.2.2.2.1, x1.2.2.2.2.2.2.2.2.2⟩, x2, ⟨by rw [ni 6 (by unfold Irn; omega)]; exact i6, by rw [ni 7 (by unfold Irn; omega)]; exact i7, by rw [ni 8 (by unfold Irn; omega)]; exact i8, by rw [ni 9 (by unfold Irn; omega)]; exact i9, by rw [ni 10 (by unfold Irn; omega)]; exact i10⟩, x4, by rw [ni 11 (by unfold Irn; omega)]; exact x5, x6, x7, x8, x9, x10⟩
theorem WK.re (w : WK σ0 σ T b D tp m pc ht nx l) : WK σ σ T b D tp m pc ht nx l := ⟨frL_r.d w.1.2.2.2.2.1, w.2⟩
/-- where the top frame lies -/
theorem RXg.tb (x : RXg σ T b h k lim md cy rch L N (f :: r) fl B F S R fr C C0 s0 ml nb z lv y al (tp :: t)) : 1 ≤ tp ∧ tp + 16 ≤ σ.2.2.1 17 ∧ σ.2.2.1 17 < 2 ^ 30 ∧ (∀ i, i < 16 → tcl' ml nb z y (tp + i)) ∧ stl (2 * h + 64) B C tp := by
  have x1 := x.1
  have g := x1.2.2.2.2.2.2.2.2.2.1
  obtain ⟨tc, st⟩ := x.2.2.2.1 (fun q => by cases q)
  have b15 := g.tc (tc 15 (by decide))
  have b0 := g.tc (tc 0 (by decide))
  have b15 : tp + 15 < B + (2 * h + 64) := b15.2.1
  have b0 : B ≤ tp + 0 := b0.1
  have ob := g.ob
  have h6 := x1.2.2.2.2.2.2.1
  have h7 := x1.2.2.2.2.2.2.2.1
  exact ⟨by omega, by omega, h7, tc, st⟩
/-- the step goes on at a state that the heap left -/
theorem WK.go {I : Nat → Prop} {C' : Nat → Int64} {tp' l' : Nat} (w : WK σ0 σ T b D tp m pc ht nx l) (im : imX σ' T b) (hf : frL I σ σ' C') (hI : ∀ k, 24 ≤ k ∧ k ≤ 28 → ¬ I k) (i10 : σ'.1 10 = nI tp') (i13 : σ'.1 13 = nI l') (hl : l' < 2 ^ 19) (h1 : 1 ≤ tp') (h2 : tp' + 16 ≤ σ'.2.2.1 17) : WK σ' σ' T b C' tp' m pc ht nx l' := by
  obtain ⟨w1, w2, w3, w4, w5, w6, w7, w8, w9, w10, w11, w12, w13, w14, w15, w16⟩ := w
  have ni := hf.2.2.2.2.2
  exact ⟨frL_r.d hf.2.2.2.2.1, im, i10, by rw [ni 24 (hI 24 (by omega))]; exact w4, by rw [ni 25 (hI 25 (by omega))]; exact w5, by rw [ni 26 (hI 26 (by omega))]; exact w6, by rw [ni 27 (hI 27 (by omega))]; exact w7, i13, w9, w10, w11, w12, hl, h1, h2, by rw [hf.2.1]; exact w16⟩
/-- what making does to the numbers -/
def mr (T : Nat → Nat → Nat) (N : Nat → AN) (fs : List AF) (ids : List Nat) (k lim md rch n : Nat) : Nat := if rch ≤ k * md ∧ lim < rch + md + n then rsm T N fs ids else rch
def mm (k lim md rch n : Nat) : Nat := if rch ≤ k * md ∧ lim < rch + md + n then n else md + n
def mcy (k lim md rch cy n : Nat) : Nat := if rch ≤ k * md ∧ lim < rch + md + n then cy + 1 else cy
theorem k_make {n : Nat} {ids : List Nat} {K : jk} (hw : wf T b) (x : RXg σ T b h k lim md cy rch L N (f :: r) 0 B F S R R C C0 s0 ml nb z lv y al (tp :: t)) (w : WK σ σ T b C tp m pc ht nx l) (hn : 1 ≤ n ∧ n ≤ 16) (hr : rls T N (f :: r) ids) (hl : l < 2 ^ 18) (h0 : rch ≤ k * md → lim < rch → K 0 σ)
    (hK : ∀ σ' L' B' F' S' R' fr' C' C0' s0' ml' nb' z' lv' al' tp' t' l', ¬ (rch ≤ k * md ∧ lim < rch) → RXg σ' T b h k lim (mm k lim md rch n) (mcy k lim md rch cy n) (mr T N (f :: r) ids k lim md rch n) L' N (f :: r) 0 B' F' S' R' fr' C' C0' s0' ml' nb' z' lv' y al' (tp' :: t') → fr' + n = R' → F' ≤ fr' → 1 ≤ fr' → fr' + n < σ'.2.2.1 17 + 1 → (∀ i, L' i → L i) → WK σ' σ' T b C' tp' m pc ht nx l' → l' ≤ l + (96 * k + 560) → frL Imk σ σ' C' → K (nI fr') σ') : mp_X1_make σ (nI n) K := by
  have k64 := x.2.2.2.2.2.2.2.2.2.2.2.2.1
  have r8' := x.2.1.2.2.2.2.2.2.2
  have r7' := x.2.1.2.2.2.2.2.2.1
  rcases e_make hw x hn hr (Or.inl (fun q => by cases q)) w.2.2.2.2.2.2.2.1 w.2.2.2.2.2.2.2.2.2.2.2.2.1 with ⟨q1, q2, q3⟩ | ⟨σ', rch', md', cy', L', B', F', S', R', fr', C', C0', s0', ml', nb', z', lv', al', fas', l', q1, q2, q3, q4, q5, q6, q7, q8, q9, q10⟩
  · exact q3 K (h0 q1 q2)
  · refine q10 K ?_
    have nst : ¬ (rch ≤ k * md ∧ lim < rch) := fun q => by
      rcases q5 with ⟨u1, -⟩ | ⟨u1, u2, u3, -⟩
      · exact u1 ⟨q.1, by omega⟩
      · omega
    have hfl := (fra_f (f :: r) fas' q1.2.1.2.2.2.2.2.1).1
    obtain ⟨tp', t', ef⟩ : ∃ tp' t', fas' = tp' :: t' := by
      cases fas' with
      | nil => cases hfl
      | cons u t => exact ⟨u, t, rfl⟩
    subst ef
    have tb := q1.tb
    have i10 : σ'.1 10 = nI tp' := q1.2.2.1.2.2.2.2
    have gI := q1.1.2.2.2.2.2.2.2.2.2.1
    have gR := (lan_in nb' R' gI.2.2.1).1
    have ob := gI.ob
    have h6 := q1.1.2.2.2.2.2.2.1
    have w' := w.go q1.1.1 q6 (fun k q => by unfold Imk; omega) i10 q7 (by omega) tb.1 tb.2.1
    rcases q5 with ⟨u1, u2, u3, u4, u5⟩ | ⟨u1, u2, u3, u4, u5, u6, u7⟩
    · have e1 : mm k lim md rch n = md' := by unfold mm; rw [if_neg u1, u3]
      have e2 : mcy k lim md rch cy n = cy' := by unfold mcy; rw [if_neg u1, u4]
      have e3 : mr T N (f :: r) ids k lim md rch n = rch' := by unfold mr; rw [if_neg u1, u2]
      exact hK σ' L' B' F' S' R' fr' C' C0' s0' ml' nb' z' lv' al' tp' t' l' nst (by rw [e1, e2, e3]; exact q1) q2 q3 q4 (by omega) (fun i hi => by rw [u5] at hi; exact hi) w' q9 q6
    · have c : rch ≤ k * md ∧ lim < rch + md + n := ⟨u1, u3⟩
      have e1 : mm k lim md rch n = md' := by unfold mm; rw [if_pos c, u5]
      have e2 : mcy k lim md rch cy n = cy' := by unfold mcy; rw [if_pos c, u6]
      have e3 : mr T N (f :: r) ids k lim md rch n = rch' := by unfold mr; rw [if_pos c, u4]
      exact hK σ' L' B' F' S' R' fr' C' C0' s0' ml' nb' z' lv' al' tp' t' l' nst (by rw [e1, e2, e3]; exact q1) q2 q3 q4 (by omega) (fun i hi => by rw [u7] at hi; exact hr.2.2.2 L (fun f i k hf' hi hk => r8' f hf' i k hi hk) (fun i j k _ hi hj hk => r7' i j k hi hj hk) i hi) w' q9 q6
theorem tcl'.nx1 {x s u : Nat} (hx : x ∉ nb) (h : tcl' ml nb z y u) : tcl' ml (x :: nb) z (va_up y x s) u := by
  rcases h with h | ⟨w, i, h1, h2, h3⟩
  · exact Or.inl h
  · exact Or.inr ⟨w, i, List.mem_cons_of_mem _ h1, by rw [va_up_ne _ _ (fun (e : w = x) => hx (e ▸ h1))]; exact h2, h3⟩
/-- the cells that were made are a node now -/
theorem RXg.nn {n s : Nat} {nd : AN} (hw : wf T b) (x : RXg σ T b h k lim md cy rch L N fs fl B F S R fr C C0 s0 ml nb z lv y al fas) (hx : fr + s = R) (hF : F ≤ fr) (hs : s = 1 + npt T nd) (hs2 : s ≤ 16) (hnl : ¬ L n) (n1 : nd.1 = 2 → nd.2.1 < T 0 0) (n2 : nd.1 = 3 → nd.2.1 ≤ 3375 ∧ nd.2.2.1 ≤ 32) (hf : frL Irn σ σ' D) (ho : ∀ u, ¬ (fr ≤ u ∧ u < R) → D u = C u) (hd : D fr = hdv nd) (hp : ∀ j, j < npt T nd → gcl (2 * h + 64) B (D (fr + 1 + j)) ∧ vcl s0 ml nb al (nd.2.2.2 j) (D (fr + 1 + j)) ∧ ∀ k, nd.2.2.2 j = .inr (k + 1) → L k) : RXg σ' T b h k lim md cy rch (fun i => L i ∨ i = n) (va_up N n nd) fs fl B F S fr fr D C0 s0 ml (fr :: nb) z lv (va_up y fr s) (va_up al n fr) fas := by
  obtain ⟨x1, x2, ⟨i6, i7, i8, i9, i10⟩, x4, x5, x6, x7, x8, x9, x10⟩ := x
  have hT : ∀ m, m < T 0 1 → T 15 m + T 16 m ≤ 12 := fun m hm => (hw.2.2.2.2.2.2.2.2.1 m hm).2.2.2.2.2.2.1
  have g := x1.2.2.2.2.2.2.2.2.2.1
  have ob := g.ob
  have hin := lay_in ml F g.2.1
  have hnn := lan_in nb R g.2.2.1
  have ni : ∀ kk, ¬ Irn kk → σ'.1 kk = σ.1 kk := hf.2.2.2.2.2
  obtain ⟨hk, hv, k1, k2, k3⟩ := hdv_k nd
  have hxn : fr ∉ nb := fun q => by have := hnn.2 fr q; omega
  have g' := g.nw hx hF (by omega) hs2 ho (fun i hi => by
    by_cases e : i = 0
    · rw [e, Nat.add_zero, hd, k3]
      exact ⟨Or.inr ⟨hk, nI hv, by omega, by omega, rfl⟩, fun w _ q => absurd q (mk_ne1 (by omega) (by omega))⟩
    · have := (hp (i - 1) (by omega)).1
      rw [show fr + 1 + (i - 1) = fr + i by omega] at this
      exact this)
  have out : ∀ u, tcl' ml nb z y u → D u = C u := fun u hu => ho u (fun q => by
    rcases hu with ⟨p, i, h1, h2, h3⟩ | ⟨p, i, h1, h2, h3⟩
    · have := hin.2 p h1; omega
    · have := hnn.2 p h1; omega)
  refine ⟨⟨x1.1.L hf (fun k q => by unfold Irn; omega), by rw [ni 1 (by unfold Irn; omega)]; exact x1.2.1, by rw [ni 2 (by unfold Irn; omega)]; exact x1.2.2.1, by rw [ni 3 (by unfold Irn; omega)]; exact x1.2.2.2.1, by rw [ni 4 (by unfold Irn; omega)]; exact x1.2.2.2.2.1, by rw [ni 5 (by unfold Irn; omega)]; exact x1.2.2.2.2.2.1, by rw [hf.2.1]; exact x1.2.2.2.2.2.2.1, by rw [hf.2.1]; exact x1.2.2.2.2.2.2.2.1, hf.2.2.2.2.1, g', x1.2.2.2.2.2.2.2.2.2.2.1, Nat.le_refl _, x1.2.2.2.2.2.2.2.2.2.2.2.2⟩, x2.nn hT g hx hF hs ho hnl n1 n2 hd (fun j hj => (hp j hj).2), ⟨by rw [ni 6 (by unfold Irn; omega)]; exact i6, by rw [ni 7 (by unfold Irn; omega)]; exact i7, by rw [ni 8 (by unfold Irn; omega)]; exact i8, by rw [ni 9 (by unfold Irn; omega)]; exact i9, by rw [ni 10 (by unfold Irn; omega)]; exact i10⟩, fun q => ⟨fun i hi => ((x4 q).1 i hi).nx1 hxn, fun i w hi hw' hc => ?_⟩, ?_, x6, x7, x8, x9, x10⟩
  · rw [out _ ((x4 q).1 i hi)] at hc
    exact (x4 q).2 i w hi hw' hc
  · rcases x5 with e | ⟨e1, e2, e3, e4⟩
    · exact Or.inl ⟨e.1, by rw [ni 11 (by unfold Irn; omega)]; exact e.2⟩
    · have ne : fl - 1 ≠ n := fun q => hnl (q ▸ e2)
      exact Or.inr ⟨e1, Or.inl e2, by rw [ni 11 (by unfold Irn; omega), va_up_ne _ _ ne]; exact e3, by rw [va_up_ne _ _ ne]; exact e4.nx1 hxn⟩
/-- a node that lies in the half in use -/
theorem RXg.ar {q : Nat} (x : RXg σ T b h k lim md cy rch L N fs fl B F S R fr C C0 s0 ml nb z lv y al fas) (hq : L q) (hl : ¬ ldb (2 * h + 64) B 1 (al q)) : ∀ j, j < 1 + npt T (N q) → tcl' ml nb z y (al q + j) := by
  have g := x.1.2.2.2.2.2.2.2.2.2.1
  have ob := g.ob
  intro j hj
  rcases (x.2.1.1 q hq).2.2.1 with ⟨p, h1, h2, h3⟩ | ⟨h1, h2⟩ | ⟨h1, h2, h3⟩
  · exact Or.inl ⟨p, j, h1, by omega, by rw [h2]⟩
  · exact Or.inr ⟨al q, j, h1, by omega, rfl⟩
  · have o := g.2.2.2.2.2.2.2.2.2.1 _ h1
    have z1 := (g.2.2.2.2.2.1 (al q)).1
    exact absurd ⟨rfl, by omega, by omega⟩ hl
/-- a node that the top frame holds -/
theorem RXg.tr {i q : Nat} (x : RXg σ T b h k lim md cy rch L N (f :: r) fl B F S R fr C C0 s0 ml nb z lv y al (tp :: t)) (hi : i < T 15 f.1 + f.2.2.1) (hi2 : i < 12) (hv : f.2.2.2 i = .inr (q + 1)) : C (tp + 4 + i) = mkc 1 (nI (al q)) ∧ L q ∧ al q ≠ 0 ∧ al q < 2 ^ 30 ∧ ∀ j, j < 1 + npt T (N q) → tcl' ml nb z y (al q + j) := by
  have g := x.1.2.2.2.2.2.2.2.2.2.1
  obtain ⟨tv0, fc⟩ := x.tv
  have hL := x.2.1.2.2.2.2.2.2.2 f List.mem_cons_self i q hi hv
  have v := tv0.2.2 i hi
  rw [hv] at v
  obtain ⟨e1, e2, e3, e4⟩ := vcl_can g (tv0.2.1 i hi2) v
  exact ⟨e1, hL, e2, e3, x.ar hL e4⟩
/-- as rlQ, but what lies in the half in use stays there -/
def rlK (T : Nat → Nat → Nat) (s0 : List Nat) (nb : List Nat) (z y : Nat → Nat) (L : Nat → Prop) (N : Nat → AN) (fs : List AF) (tp : Nat) (al : Nat → Nat) (C : Nat → Int64) (ml : List (Nat × Nat)) : Prop := ∃ al' fas, rlX T s0 nb z y L N fs al' fas C ml ∧ fas.headD 0 = tp ∧ ∀ i, al i ∉ s0 → al' i = al i
theorem rlK_c (hw : wf T b) {hf : Nat} (hb : ∀ a, a ∈ s0 → bhd T C0 a (z a) (lv a)) (htp : tp ∉ s0) : clQ hf B C0 s0 nb z lv y (rlK T s0 nb z y L N fs tp al) := by
  refine ⟨fun F S R C ml a g ha hm hR h => ?_, fun F S R C ml x a a' g _ hc ha a0 hin h => ?_⟩
  · obtain ⟨al', fas, h1, h2, h3⟩ := h
    refine ⟨_, _, h1.mv hb g ha hm hR (fun m hm => (hw.2.2.2.2.2.2.2.2.1 m hm).2.2.2.2.2.2.1) hw.2.2.2.1, ?_, fun i q => ?_⟩
    · cases fas with
      | nil => exact h2
      | cons u t =>
        have e : u = tp := h2
        show nad a F u = tp
        unfold nad
        rw [if_neg (fun q => htp (by rw [← e, q]; exact ha)), e]
    · show nad a F (al' i) = al i
      rw [h3 i q]
      unfold nad
      rw [if_neg (fun e => q (by rw [e]; exact ha))]
  · obtain ⟨al', fas, h1, h2, h3⟩ := h
    exact ⟨al', fas, h1.fw g hc ha a0 hin, h2, h3⟩
/-- part j of node q is read -/
theorem k_read {q j : Nat} {K : Int64 → sm_S → Prop} (hw : wf T b) (x : RXg σ T b h k lim md cy rch L N (f :: r) 0 B F S R R C C0 s0 ml nb z lv y al (tp :: t)) (w : WK σ σ T b C tp m pc ht nx l) (hq : L q) (hj : j < npt T (N q)) (htc : ∀ j, j < 1 + npt T (N q) → tcl' ml nb z y (al q + j)) (hl : l < 2 ^ 18)
    (hK : ∀ σ' F' C' ml' al' t' l', RXg σ' T b h k lim md cy rch L N (f :: r) 0 B F' S R R C' C0 s0 ml' nb z lv y al' (tp :: t') → WK σ' σ' T b C' tp m pc ht nx l' → l' ≤ l + 36 → frL I133 σ σ' C' → (∀ i, tcl' ml nb z y (al i) → al' i = al i) → (∀ q, q ∈ ml → q ∈ ml') → (∀ i, i < 16 → C' (tp + i) = C (tp + i)) → (∀ u, tcl' ml nb z y u → u ≠ al q + 1 + j → C' u = C u) → gcl (2 * h + 64) B (C' (al q + 1 + j)) → vcl s0 ml' nb al' ((N q).2.2.2 j) (C' (al q + 1 + j)) → K (C' (al q + 1 + j)) σ') : mp_X1_read σ (nI (al q + 1 + j)) K := by
  have x' := x
  have tb := x.tb
  obtain ⟨x1, x2, ⟨i6, i7, i8, i9, i10⟩, x4, x5, x6, x7, x8, x9, x10⟩ := x'
  have g := x1.2.2.2.2.2.2.2.2.2.1
  have htp : tp ∉ s0 := by
    have := s0_no g (tb.2.2.2.1 0 (by decide))
    rw [Nat.add_zero] at this
    exact this
  have hQ := rlK_c (hf := 2 * h + 64) (B := B) (nb := nb) (y := y) (L := L) (N := N) (fs := f :: r) (al := al) hw x1.2.2.2.2.2.2.2.2.2.2.1 htp
  have htj := htc (1 + j) (by omega)
  rw [show al q + (1 + j) = al q + 1 + j by omega] at htj
  obtain ⟨σ', F', C', ml', l', p1, p2, p3, p4, p5, p6, p7, p8, p9, p10, p11, p12, p13, p14⟩ := e_read hw x1 hQ ⟨al, tp :: t, x2, rfl, fun i _ => rfl⟩ htj w.2.2.2.2.2.2.2.1 (by omega)
  obtain ⟨al', fas', a1, a2, a3⟩ := p2
  have hfl := (fra_f (f :: r) fas' a1.2.2.2.2.2.1).1
  obtain ⟨tp', t', ef⟩ : ∃ tp' t', fas' = tp' :: t' := by
    cases fas' with
    | nil => cases hfl
    | cons u t => exact ⟨u, t, rfl⟩
  subst ef
  have a2 : tp' = tp := a2
  subst a2
  have g' := p1.2.2.2.2.2.2.2.2.2.1
  have ni : ∀ kk, ¬ I133 kk → σ'.1 kk = σ.1 kk := p3.2.2.2.2.2
  have dj := lbs_dj g (x2.1 q hq).2.2.1 (x2.2.2.1 tp' List.mem_cons_self) (by omega) (by decide) (fun e => x2.2.2.2.2.1 q hq (by rw [e]; exact List.mem_cons_self))
  have ctp : ∀ i, i < 16 → C' (tp' + i) = C (tp' + i) := fun i hi => p12 _ (tb.2.2.2.1 i hi) (by omega)
  have xx : RXg σ' T b h k lim md cy rch L N (f :: r) 0 B F' S R R C' C0 s0 ml' nb z lv y al' (tp' :: t') := by
    refine ⟨p1, a1, ⟨by rw [ni 6 (by unfold I133; omega)]; exact i6, by rw [ni 7 (by unfold I133; omega)]; exact i7, by rw [ni 8 (by unfold I133; omega)]; exact i8, by rw [ni 9 (by unfold I133; omega)]; exact i9, by rw [ni 10 (by unfold I133; omega)]; exact i10⟩, fun _ => ⟨fun i hi => (tb.2.2.2.1 i hi).m p10, fun i u hi hu hc => ?_⟩, Or.inl ⟨rfl, ?_⟩, ?_, x7, x8, ?_, x10⟩
    · have : C' (tp' + i) = mkc 1 (nI u) := hc
      rw [ctp i hi] at this
      exact tb.2.2.2.2 i u hi hu this
    · rw [ni 11 (by unfold I133; omega)]
      rcases x5 with e | e
      · exact e.2
      · exact absurd rfl e.1
    · rcases x6 with e | ⟨t0, e1, e2⟩
      · exact Or.inl e
      · obtain ⟨u, hu⟩ := e1
        exact Or.inr ⟨t0, ⟨u, p10 _ hu⟩, e2⟩
    · rcases x9 with e | e
      · exact Or.inl (by rw [p9 e]; exact e)
      · exact Or.inr (by omega)
  have w' := w.go p1.1 p3 (fun k q => by unfold I133; omega) (by rw [ni 10 (by unfold I133; omega)]; exact i10) p4 (by omega) tb.1 (by rw [p3.2.1]; exact tb.2.1)
  have alq : al' q = al q := a3 q (by
    have := htc 0 (by omega)
    rw [Nat.add_zero] at this
    exact s0_no g this)
  have vv := (a1.1 q hq).2.2.2.2 j hj
  rw [alq] at vv
  refine p14 K (hK σ' F' C' ml' al' t' l' xx w' p6 p3 (fun i hi => a3 i (s0_no g hi)) p10 ctp p12 ⟨?_, p13⟩ vv)
  have := (g'.tc (htj.m p10)).2.2
  exact this
end
