/-! ===== a made block ===== -/
theorem lan_c {y y' : Nat → Nat} {E : Nat} : ∀ (l : List Nat) (R : Nat), (∀ x, x ∈ l → y' x = y x) → lan y E l R → lan y' E l R := by
  intro l
  induction l with
  | nil => intro R _ h; exact h
  | cons p r ih =>
    intro R he h
    obtain ⟨h1, h2⟩ := h
    have e := he p List.mem_cons_self
    refine ⟨h1, ih _ (fun x hx => he x (List.mem_cons_of_mem _ hx)) ?_⟩
    rw [e]; exact h2
theorem GI.nw {hf B F S R : Nat} {C C' C0 : Nat → Int64} {s0 : List Nat} {ml : List (Nat × Nat)} {nb : List Nat} {z lv y : Nat → Nat} (g : GI hf B F S R C C0 s0 ml nb z lv y) {x s : Nat} (hx : x + s = R) (hF : F ≤ x) (hs : 1 ≤ s) (hs2 : s ≤ 16) (ho : ∀ u, ¬ (x ≤ u ∧ u < R) → C' u = C u) (hc : ∀ i, i < s → okx (C' (x + i)) ∧ ∀ w, w < 2 ^ 30 → C' (x + i) = mkc 1 (nI w) → ¬ ldb hf B 1 w) : GI hf B F S x C' C0 s0 ml (x :: nb) z lv (va_up y x s) := by
  have ob := g.ob
  obtain ⟨g1, g2, g3, g4, g5, g6, g6', g7, g8, g9, g10, g11, g12, g13, g14, g15, g16, g17, g18⟩ := g
  have hin := lay_in ml F g2
  have hnn := lan_in nb R g3
  refine ⟨g1, g2, ⟨rfl, ?_⟩, hF, g5, g6, fun u => ?_, g7, g8, g9, g10, g11, g12, ?_, ?_, g15, ?_, ?_, g18⟩
  · rw [va_up_self, hx]
    refine lan_c nb R (fun u hu => va_up_ne _ _ ?_) g3
    have := hnn.2 u hu
    omega
  · by_cases e : u = x
    · rw [e, va_up_self]; exact ⟨hs, hs2⟩
    · rw [va_up_ne _ _ e]; exact g6' u
  · intro a ha hn i hi
    obtain ⟨p1, p2⟩ := g9 a ha
    rw [ho _ (by omega)]
    exact g13 a ha hn i hi
  · intro q hq
    obtain ⟨p1, p2⟩ := g9 q.1 (g12 q hq)
    have := (g6 q.1).1
    rw [ho _ (by omega)]
    exact g14 q hq
  · intro q i hq hi
    have := hin.2 q hq
    rw [ho _ (by omega)]
    exact g16 q i hq hi
  · intro u i hu hi
    rcases List.mem_cons.mp hu with e | e
    · subst e
      rw [va_up_self] at hi
      exact hc i hi
    · have := hnn.2 u e
      have ne : u ≠ x := by omega
      rw [va_up_ne _ _ ne] at hi
      rw [ho _ (by omega)]
      exact g17 u i e hi
theorem cano.nb {s0 : List Nat} {ml : List (Nat × Nat)} {nb : List Nat} {w u x : Nat} (h : cano s0 ml nb w u) : cano s0 ml (x :: nb) w u := by
  rcases h with h | ⟨e, h | h | h⟩
  · exact Or.inl h
  · exact Or.inr ⟨e, Or.inl h⟩
  · exact Or.inr ⟨e, Or.inr (Or.inl h)⟩
  · exact Or.inr ⟨e, Or.inr (Or.inr (List.mem_cons_of_mem _ h))⟩
theorem vcl.nb {s0 : List Nat} {ml : List (Nat × Nat)} {nb : List Nat} {al al' : Nat → Nat} {v : AV} {c : Int64} {x : Nat} (h : vcl s0 ml nb al v c) (he : ∀ k, v = .inr (k + 1) → al' k = al k) : vcl s0 ml (x :: nb) al' v c := by
  rcases h with h | h | ⟨k, w, h1, h2, h3, h4, h5⟩
  · exact Or.inl h
  · exact Or.inr (Or.inl h)
  · exact Or.inr (Or.inr ⟨k, w, h1, h2, h3, h4, by rw [he k h1]; exact h5.nb⟩)
theorem lbs.nb {s0 : List Nat} {ml : List (Nat × Nat)} {nb : List Nat} {z y : Nat → Nat} {a s x s' : Nat} (hx : x ∉ nb) (h : lbs s0 ml nb z y a s) : lbs s0 ml (x :: nb) z (va_up y x s') a s := by
  rcases h with h | ⟨h1, h2⟩ | h
  · exact Or.inl h
  · refine Or.inr (Or.inl ⟨List.mem_cons_of_mem _ h1, ?_⟩)
    rw [va_up_ne _ _ (fun (e : a = x) => hx (by rw [← e]; exact h1))]; exact h2
  · exact Or.inr (Or.inr h)
theorem frc.nb {T : Nat → Nat → Nat} {C : Nat → Int64} {s0 : List Nat} {ml : List (Nat × Nat)} {nb : List Nat} {al al' : Nat → Nat} {f : AF} {a ca x : Nat} (h : frc T C s0 ml nb al f a ca) (he : ∀ i k, i < T 15 f.1 + f.2.2.1 → f.2.2.2 i = .inr (k + 1) → al' k = al k) : frc T C s0 ml (x :: nb) al' f a ca := by
  obtain ⟨q1, q2, q3, q4, q5, q6, ⟨w, q7, q8, q9⟩, q10⟩ := h
  refine ⟨q1, q2, q3, q4, q5, q6, ⟨w, q7, q8, q9.elim Or.inl (fun q => Or.inr ⟨q.1, q.2.1, q.2.2.nb⟩)⟩, fun i hi => (q10 i hi).nb (fun k hk => he i k hi hk)⟩
theorem fra.nb {T : Nat → Nat → Nat} {C : Nat → Int64} {s0 : List Nat} {ml : List (Nat × Nat)} {nb : List Nat} {al al' : Nat → Nat} {x : Nat} : ∀ (fs : List AF) (fas : List Nat), fra T C s0 ml nb al fs fas → (∀ f, f ∈ fs → ∀ i k, i < T 15 f.1 + f.2.2.1 → f.2.2.2 i = .inr (k + 1) → al' k = al k) → fra T C s0 ml (x :: nb) al' fs fas := by
  intro fs
  induction fs with
  | nil => intro fas h _; exact h
  | cons f r ih =>
    intro fas h e
    obtain ⟨u, t, e1, h1, h2⟩ := h
    exact ⟨u, t, e1, h1.nb (e f List.mem_cons_self), ih t h2 (fun q hq => e q (List.mem_cons_of_mem _ hq))⟩
/-- what is new lies in none of the live blocks -/
theorem lbs_n {hf B F S R : Nat} {C C0 : Nat → Int64} {s0 : List Nat} {ml : List (Nat × Nat)} {nb : List Nat} {z lv y : Nat → Nat} (g : GI hf B F S R C C0 s0 ml nb z lv y) {x s : Nat} (hx : x + s = R) (hF : F ≤ x) (hs : 1 ≤ s) {c s' : Nat} (h : lbs s0 ml nb z y c s') (hs' : 1 ≤ s') : c + s' ≤ x ∨ R ≤ c := by
  have ob := g.ob
  have gR := (lan_in nb R g.2.2.1).1
  have gF := (lay_in ml F g.2.1).1
  rcases h.in g with t | t | t <;> omega
theorem rlX.nn {T : Nat → Nat → Nat} {hf B F S R : Nat} {C C' C0 : Nat → Int64} {s0 : List Nat} {ml : List (Nat × Nat)} {nb : List Nat} {z lv y : Nat → Nat} {L : Nat → Prop} {N : Nat → AN} {fs : List AF} {al : Nat → Nat} {fas : List Nat} {n x s : Nat} {nd : AN} (hT : ∀ m, m < T 0 1 → T 15 m + T 16 m ≤ 12) (g : GI hf B F S R C C0 s0 ml nb z lv y) (h : rlX T s0 nb z y L N fs al fas C ml) (hx : x + s = R) (hF : F ≤ x) (hs : s = 1 + npt T nd) (ho : ∀ u, ¬ (x ≤ u ∧ u < R) → C' u = C u) (hnl : ¬ L n) (n1 : nd.1 = 2 → nd.2.1 < T 0 0) (n2 : nd.1 = 3 → nd.2.1 ≤ 3375 ∧ nd.2.2.1 ≤ 32) (hd : C' x = hdv nd) (hp : ∀ j, j < npt T nd → vcl s0 ml nb al (nd.2.2.2 j) (C' (x + 1 + j)) ∧ ∀ k, nd.2.2.2 j = .inr (k + 1) → L k) : rlX T s0 (x :: nb) z (va_up y x s) (fun i => L i ∨ i = n) (va_up N n nd) fs (va_up al n x) fas C' ml := by
  obtain ⟨r1, r2, r3, r4, r5, r6, r7, r8⟩ := h
  have hxn : x ∉ nb := fun q => by have := (lan_in nb R g.2.2.1).2 x q; omega
  have ne : ∀ i, L i → i ≠ n := fun i hi e => hnl (e ▸ hi)
  have nx : ∀ i, L i → al i ≠ x := fun i hi e => by
    have := lbs_n g hx hF (by omega) (r1 i hi).2.2.1 (by omega)
    omega
  have aL : ∀ k, L k → va_up al n x k = al k := fun k hk => va_up_ne _ _ (ne k hk)
  refine ⟨fun i hi => ?_, fun i j hi hj e => ?_, fun a ha => (r3 a ha).nb hxn, r4, fun i hi q => ?_, ?_, fun i j k hi hj e => ?_, fun f hf i k hi e => Or.inl (r8 f hf i k hi e)⟩
  · by_cases e : i = n
    · subst e
      rw [va_up_self, va_up_self]
      exact ⟨n1, n2, Or.inr (Or.inl ⟨List.mem_cons_self, by rw [va_up_self]; exact hs⟩), hd, fun j hj => (hp j hj).1.nb (fun k hk => aL k ((hp j hj).2 k hk))⟩
    · have hi : L i := hi.elim (fun q => q) (fun q => absurd q e)
      rw [va_up_ne _ _ e, va_up_ne _ _ e]
      obtain ⟨k1, k2, lb, nd'⟩ := r1 i hi
      have dj := lbs_n g hx hF (by omega) lb (by omega)
      obtain ⟨d1, d2⟩ := ndc_c (C' := C') nd' (fun j hj => ho _ (by omega))
      exact ⟨k1, k2, lb.nb hxn, d1, fun j hj => (d2 j hj).nb (fun k hk => aL k (r7 i j k hi hj hk))⟩
  · rcases hi with hi | hi
    · rcases hj with hj | hj
      · rw [aL i hi, aL j hj] at e; exact r2 i j hi hj e
      · rw [aL i hi, hj, va_up_self] at e; exact absurd e (nx i hi)
    · rcases hj with hj | hj
      · rw [hi, va_up_self, aL j hj] at e; exact absurd e.symm (nx j hj)
      · rw [hi, hj]
  · rcases hi with hi | hi
    · rw [aL i hi] at q; exact r5 i hi q
    · rw [hi, va_up_self] at q
      have := lbs_n g hx hF (by omega) (r3 x q) (by decide)
      omega
  · refine fra.nb fs fas (fra_c hT fs fas r6 (fun a ha j hj => ho _ ?_)) (fun f hf i k hi e => aL k (r8 f hf i k hi e))
    have := lbs_n g hx hF (by omega) (r3 a ha) (by decide)
    omega
  · by_cases e1 : i = n
    · subst e1
      rw [va_up_self] at hj e
      exact Or.inl ((hp j hj).2 k e)
    · rw [va_up_ne _ _ e1] at hj e
      exact Or.inl (r7 i j k (hi.elim (fun q => q) (fun q => absurd q e1)) hj e)
theorem rlX.nf {T : Nat → Nat → Nat} {hf B F S R : Nat} {C C' C0 : Nat → Int64} {s0 : List Nat} {ml : List (Nat × Nat)} {nb : List Nat} {z lv y : Nat → Nat} {L : Nat → Prop} {N : Nat → AN} {fs : List AF} {al : Nat → Nat} {fas : List Nat} {x : Nat} {f : AF} (hT : ∀ m, m < T 0 1 → T 15 m + T 16 m ≤ 12) (g : GI hf B F S R C C0 s0 ml nb z lv y) (h : rlX T s0 nb z y L N fs al fas C ml) (hx : x + 16 = R) (hF : F ≤ x) (ho : ∀ u, ¬ (x ≤ u ∧ u < R) → C' u = C u) (hfr : frc T C' s0 ml nb al f x (fas.headD 0)) (hL : ∀ i k, i < T 15 f.1 + f.2.2.1 → f.2.2.2 i = .inr (k + 1) → L k) : rlX T s0 (x :: nb) z (va_up y x 16) L N (f :: fs) al (x :: fas) C' ml := by
  obtain ⟨r1, r2, r3, r4, r5, r6, r7, r8⟩ := h
  have hxn : x ∉ nb := fun q => by have := (lan_in nb R g.2.2.1).2 x q; omega
  refine ⟨fun i hi => ?_, r2, fun a ha => ?_, List.nodup_cons.mpr ⟨fun q => ?_, r4⟩, fun i hi q => ?_, ⟨x, fas, rfl, hfr.nb (fun _ _ _ _ => rfl), fra.nb fs fas (fra_c hT fs fas r6 (fun a ha j hj => ho _ ?_)) (fun _ _ _ _ _ _ => rfl)⟩, r7, fun q hq => ?_⟩
  · obtain ⟨k1, k2, lb, nd'⟩ := r1 i hi
    have dj := lbs_n g hx hF (by decide) lb (by omega)
    obtain ⟨d1, d2⟩ := ndc_c (C' := C') nd' (fun j hj => ho _ (by omega))
    exact ⟨k1, k2, lb.nb hxn, d1, fun j hj => (d2 j hj).nb (fun _ _ => rfl)⟩
  · rcases List.mem_cons.mp ha with e | e
    · rw [e]; exact Or.inr (Or.inl ⟨List.mem_cons_self, va_up_self _ _ _⟩)
    · exact (r3 a e).nb hxn
  · have := lbs_n g hx hF (by decide) (r3 x q) (by decide)
    omega
  · rcases List.mem_cons.mp q with e | e
    · have := lbs_n g hx hF (by decide) (r1 i hi).2.2.1 (by omega)
      omega
    · exact r5 i hi e
  · have := lbs_n g hx hF (by decide) (r3 a ha) (by decide)
    omega
  · rcases List.mem_cons.mp hq with e | e
    · rw [e]; exact hL
    · exact r8 q e
/-- the top frame is left -/
theorem rlX.pf {T : Nat → Nat → Nat} {s0 : List Nat} {ml : List (Nat × Nat)} {nb : List Nat} {z y : Nat → Nat} {L : Nat → Prop} {N : Nat → AN} {f : AF} {r : List AF} {al : Nat → Nat} {tp : Nat} {t : List Nat} {C : Nat → Int64} (h : rlX T s0 nb z y L N (f :: r) al (tp :: t) C ml) : rlX T s0 nb z y L N r al t C ml := by
  obtain ⟨r1, r2, r3, r4, r5, r6, r7, r8⟩ := h
  obtain ⟨u, t', e1, -, h2⟩ := r6
  obtain ⟨-, e3⟩ := List.cons.inj e1
  subst e3
  exact ⟨r1, r2, fun a ha => r3 a (List.mem_cons_of_mem _ ha), (List.nodup_cons.mp r4).2, fun i hi q => r5 i hi (List.mem_cons_of_mem _ q), h2, r7, fun q hq => r8 q (List.mem_cons_of_mem _ hq)⟩
/-- fewer nodes are looked at -/
theorem rlX.sub {T : Nat → Nat → Nat} {s0 : List Nat} {ml : List (Nat × Nat)} {nb : List Nat} {z y : Nat → Nat} {L L' : Nat → Prop} {N : Nat → AN} {fs : List AF} {al : Nat → Nat} {fas : List Nat} {C : Nat → Int64} (h : rlX T s0 nb z y L N fs al fas C ml) (hs : ∀ i, L' i → L i) (hc : ∀ i j k, L' i → j < npt T (N i) → (N i).2.2.2 j = .inr (k + 1) → L' k) (hf : ∀ f, f ∈ fs → ∀ i k, i < T 15 f.1 + f.2.2.1 → f.2.2.2 i = .inr (k + 1) → L' k) : rlX T s0 nb z y L' N fs al fas C ml := by
  obtain ⟨r1, r2, r3, r4, r5, r6, r7, r8⟩ := h
  exact ⟨fun i hi => r1 i (hs i hi), fun i j hi hj => r2 i j (hs i hi) (hs j hj), r3, r4, fun i hi => r5 i (hs i hi), r6, hc, hf⟩
