/-! ===== live blocks lie apart; writing into one ===== -/
theorem lbs_dj {hf B F S R : Nat} {C C0 : Nat → Int64} {s0 : List Nat} {ml : List (Nat × Nat)} {nb : List Nat} {z lv y : Nat → Nat} (g : GI hf B F S R C C0 s0 ml nb z lv y) {c s c' s' : Nat} (h : lbs s0 ml nb z y c s) (h' : lbs s0 ml nb z y c' s') (hs : 1 ≤ s) (hs' : 1 ≤ s') (hne : c ≠ c') : c + s ≤ c' ∨ c' + s' ≤ c := by
  have ob := g.ob
  have gR := (lan_in nb R g.2.2.1).1
  have gF := (lay_in ml F g.2.1).1
  have g4 := g.2.2.2.1
  have i1 := h.in g
  have i2 := h'.in g
  rcases h with ⟨q, h1, h2, h3⟩ | ⟨h1, h2⟩ | ⟨h1, h2, h3⟩
  · rcases h' with ⟨q', k1, k2, k3⟩ | ⟨k1, k2⟩ | ⟨k1, k2, k3⟩
    · have := lay_dj (fun a => (g.2.2.2.2.2.1 a).1) ml F g.2.1 q q' h1 k1 (fun e => hne (by rw [← h2, ← k2, e]))
      omega
    · have := (lay_in ml F g.2.1).2 q h1
      have := (lan_in nb R g.2.2.1).2 c' k1
      omega
    · have := (lay_in ml F g.2.1).2 q h1
      have := g.2.2.2.2.2.2.2.2.2.1 c' k1
      omega
  · rcases h' with ⟨q', k1, k2, k3⟩ | ⟨k1, k2⟩ | ⟨k1, k2, k3⟩
    · have := (lay_in ml F g.2.1).2 q' k1
      have := (lan_in nb R g.2.2.1).2 c h1
      omega
    · have := lan_dj nb R g.2.2.1 c c' h1 k1 hne
      omega
    · have := (lan_in nb R g.2.2.1).2 c h1
      have := g.2.2.2.2.2.2.2.2.2.1 c' k1
      omega
  · rcases h' with ⟨q', k1, k2, k3⟩ | ⟨k1, k2⟩ | ⟨k1, k2, k3⟩
    · have := (lay_in ml F g.2.1).2 q' k1
      have := g.2.2.2.2.2.2.2.2.2.1 c h1
      omega
    · have := (lan_in nb R g.2.2.1).2 c' k1
      have := g.2.2.2.2.2.2.2.2.2.1 c h1
      omega
    · have := g.2.2.2.2.2.2.2.2.2.2.1 c c' h1 k1 hne
      omega
theorem ndc_c {T : Nat → Nat → Nat} {C C' : Nat → Int64} {s0 : List Nat} {ml : List (Nat × Nat)} {nb : List Nat} {al : Nat → Nat} {x : AN} {a : Nat} (h : ndc T C s0 ml nb al x a) (e : ∀ j, j < 1 + npt T x → C' (a + j) = C (a + j)) : ndc T C' s0 ml nb al x a := by
  refine ⟨?_, fun j hj => ?_⟩
  · have := e 0 (by omega)
    rw [Nat.add_zero] at this
    rw [this]; exact h.1
  · have := e (1 + j) (by omega)
    rw [show a + 1 + j = a + (1 + j) by omega, this, show a + (1 + j) = a + 1 + j by omega]
    exact h.2 j hj
theorem frc_c {T : Nat → Nat → Nat} {C C' : Nat → Int64} {s0 : List Nat} {ml : List (Nat × Nat)} {nb : List Nat} {al : Nat → Nat} {f : AF} {a ca : Nat} (hT : ∀ m, m < T 0 1 → T 15 m + T 16 m ≤ 12) (h : frc T C s0 ml nb al f a ca) (e : ∀ j, j < 16 → C' (a + j) = C (a + j)) : frc T C' s0 ml nb al f a ca := by
  obtain ⟨q1, q2, q3, q4, q5, q6, ⟨w, q7, q8, q9⟩, q10⟩ := h
  have := hT _ q1
  have e0 := e 0 (by decide)
  rw [Nat.add_zero] at e0
  refine ⟨q1, q2, q3, by rw [e0]; exact q4, by rw [e 1 (by decide)]; exact q5, by rw [e 2 (by decide)]; exact q6, ⟨w, q7, by rw [e 3 (by decide)]; exact q8, q9⟩, fun i hi => ?_⟩
  have := e (4 + i) (by omega)
  rw [show a + 4 + i = a + (4 + i) by omega, this, show a + (4 + i) = a + 4 + i by omega]
  exact q10 i hi
theorem fra_c {T : Nat → Nat → Nat} {C C' : Nat → Int64} {s0 : List Nat} {ml : List (Nat × Nat)} {nb : List Nat} {al : Nat → Nat} (hT : ∀ m, m < T 0 1 → T 15 m + T 16 m ≤ 12) : ∀ (fs : List AF) (fas : List Nat), fra T C s0 ml nb al fs fas → (∀ a, a ∈ fas → ∀ j, j < 16 → C' (a + j) = C (a + j)) → fra T C' s0 ml nb al fs fas := by
  intro fs
  induction fs with
  | nil => intro fas h _; exact h
  | cons f r ih =>
    intro fas h e
    obtain ⟨u, t, e1, h1, h2⟩ := h
    subst e1
    exact ⟨u, t, rfl, frc_c hT h1 (e u List.mem_cons_self), ih t h2 (fun a ha => e a (List.mem_cons_of_mem _ ha))⟩
/-- the top frame is written -/
theorem rlX.wf {T : Nat → Nat → Nat} {hf B F S R : Nat} {C C' C0 : Nat → Int64} {s0 : List Nat} {ml : List (Nat × Nat)} {nb : List Nat} {z lv y : Nat → Nat} {L : Nat → Prop} {N : Nat → AN} {f f' : AF} {r : List AF} {al : Nat → Nat} {tp : Nat} {t : List Nat} (hT : ∀ m, m < T 0 1 → T 15 m + T 16 m ≤ 12) (g : GI hf B F S R C C0 s0 ml nb z lv y) (h : rlX T s0 nb z y L N (f :: r) al (tp :: t) C ml) (ho : ∀ x, ¬ (tp ≤ x ∧ x < tp + 16) → C' x = C x) (hf' : frc T C' s0 ml nb al f' tp (t.headD 0)) (hL : ∀ i k, i < T 15 f'.1 + f'.2.2.1 → f'.2.2.2 i = .inr (k + 1) → L k) : rlX T s0 nb z y L N (f' :: r) al (tp :: t) C' ml := by
  obtain ⟨r1, r2, r3, r4, r5, r6, r7, r8⟩ := h
  have ltp := r3 tp List.mem_cons_self
  refine ⟨fun i hi => ?_, r2, r3, r4, r5, ?_, r7, fun q hq => ?_⟩
  · obtain ⟨k1, k2, lb, nd⟩ := r1 i hi
    have ne : al i ≠ tp := fun e => r5 i hi (by rw [e]; exact List.mem_cons_self)
    have dj := lbs_dj g lb ltp (by omega) (by decide) ne
    exact ⟨k1, k2, lb, ndc_c nd (fun j hj => ho _ (by omega))⟩
  · obtain ⟨u, t', e1, h1, h2⟩ := r6
    obtain ⟨e2, e3⟩ := List.cons.inj e1
    subst e2
    subst e3
    refine ⟨tp, t, rfl, hf', fra_c hT r t h2 (fun a ha j hj => ho _ ?_)⟩
    have ne : a ≠ tp := fun e => (List.nodup_cons.mp r4).1 (e ▸ ha)
    have dj := lbs_dj g (r3 a (List.mem_cons_of_mem _ ha)) ltp (by decide) (by decide) ne
    omega
  · rcases List.mem_cons.mp hq with e | e
    · rw [e]; exact hL
    · exact r8 q (List.mem_cons_of_mem _ e)
/-- the same node with another part -/
def npu (x : AN) (j : Nat) (v : AV) : AN := (x.1, x.2.1, x.2.2.1, va_up x.2.2.2 j v)
theorem npt_u (T : Nat → Nat → Nat) (x : AN) (j : Nat) (v : AV) : npt T (npu x j v) = npt T x := rfl
/-- a part of a node is written -/
theorem rlX.wn {T : Nat → Nat → Nat} {hf B F S R : Nat} {C C0 : Nat → Int64} {s0 : List Nat} {ml : List (Nat × Nat)} {nb : List Nat} {z lv y : Nat → Nat} {L : Nat → Prop} {N : Nat → AN} {fs : List AF} {al : Nat → Nat} {fas : List Nat} {n j : Nat} {v : AV} {c : Int64} (hT : ∀ m, m < T 0 1 → T 15 m + T 16 m ≤ 12) (g : GI hf B F S R C C0 s0 ml nb z lv y) (h : rlX T s0 nb z y L N fs al fas C ml) (hn : L n) (hj : j < npt T (N n)) (hv : vcl s0 ml nb al v c) (hL : ∀ k, v = .inr (k + 1) → L k) : rlX T s0 nb z y L (va_up N n (npu (N n) j v)) fs al fas (vp_updL C (al n + 1 + j) c) ml := by
  obtain ⟨r1, r2, r3, r4, r5, r6, r7, r8⟩ := h
  obtain ⟨k1, k2, lb, nd⟩ := r1 n hn
  refine ⟨fun i hi => ?_, r2, r3, r4, r5, fra_c hT fs fas r6 (fun a ha i hi => ?_), fun i i' k hi hi' e => ?_, r8⟩
  · by_cases e : i = n
    · subst e
      rw [va_up_self]
      refine ⟨k1, k2, lb, ?_, fun i' hi' => ?_⟩
      · rw [pk_uLn (by omega)]; exact nd.1
      · show vcl s0 ml nb al (va_up (N i).2.2.2 j v i') _
        by_cases e2 : i' = j
        · rw [e2, va_up_self, pk_uLs]; exact hv
        · rw [va_up_ne _ _ e2, pk_uLn (by omega)]; exact nd.2 i' hi'
    · rw [va_up_ne _ _ e]
      obtain ⟨m1, m2, mb, md⟩ := r1 i hi
      have ne : al i ≠ al n := fun q => e (r2 i n hi hn q)
      have dj := lbs_dj g mb lb (by omega) (by omega) ne
      exact ⟨m1, m2, mb, ndc_c md (fun j' hj' => pk_uLn (by omega))⟩
  · have ne : a ≠ al n := fun q => r5 n hn (q ▸ ha)
    have dj := lbs_dj g (r3 a ha) lb (by decide) (by omega) ne
    exact pk_uLn (by omega)
  · by_cases e1 : i = n
    · subst e1
      rw [va_up_self] at hi' e
      have e : va_up (N i).2.2.2 j v i' = .inr (k + 1) := e
      by_cases e2 : i' = j
      · rw [e2, va_up_self] at e; exact hL k e
      · rw [va_up_ne _ _ e2] at e; exact r7 i i' k hi hi' e
    · rw [va_up_ne _ _ e1] at hi' e
      exact r7 i i' k hi hi' e
/-- a cell of a settled frame may be written -/
theorem GI.wt {hf B F S R : Nat} {C C0 : Nat → Int64} {s0 : List Nat} {ml : List (Nat × Nat)} {nb : List Nat} {z lv y : Nat → Nat} (g : GI hf B F S R C C0 s0 ml nb z lv y) {a : Nat} {c : Int64} (ha : tcl' ml nb z y a) (hn : ∀ w, w < 2 ^ 30 → C a = mkc 1 (nI w) → ¬ ldb hf B 1 w) (hc : okx c) (hb : ∀ w, w < 2 ^ 30 → c = mkc 1 (nI w) → ¬ ldb hf B 1 w) : GI hf B F S R (vp_updL C a c) C0 s0 ml nb z lv y := by
  obtain ⟨a1, a2, -⟩ := g.tc ha
  refine g.wr ⟨a1, a2⟩ hc hb (fun q i x hq hi ea hx hx2 hc0 => ?_)
  have iz : i < z q.1 := by have := (g.2.2.2.2.2.1 q.1).2.2; omega
  rcases (g.2.2.2.2.2.2.2.2.2.2.2.2.2.2.2.2.1 q i hq iz).2.1 x hi hx hx2 hc0 with t | ⟨_, t⟩
  · exact t
  · rw [← ea] at t
    have xs := g.2.2.2.2.2.2.2.2.2.2.2.2.2.2.2.2.2.2 q.1 i x (g.2.2.2.2.2.2.2.2.2.2.2.2.1 q hq) hi hx hx2 hc0
    have o := g.2.2.2.2.2.2.2.2.2.1 x xs
    have z1 := (g.2.2.2.2.2.1 x).1
    have ob := g.ob
    exact absurd ⟨rfl, hx, by omega⟩ (hn x hx2 t)
