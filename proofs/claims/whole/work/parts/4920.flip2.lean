/-! ===== a new cycle: what was reached as it begins ===== -/
theorem nd_app {a c : List Nat} (ha : a.Nodup) (hc : c.Nodup) (h : ∀ x, x ∈ a → x ∉ c) : (a ++ c).Nodup := by
  induction a with
  | nil => exact hc
  | cons x a ih =>
    have h1 := List.nodup_cons.mp ha
    refine List.nodup_cons.mpr ⟨fun q => ?_, ih h1.2 (fun y hy => h y (List.mem_cons_of_mem _ hy))⟩
    rcases List.mem_append.mp q with t | t
    · exact h1.1 t
    · exact h x List.mem_cons_self t
theorem nm_nil {a : Nat} : ¬ mvd [] a := fun ⟨u, hu⟩ => absurd hu List.not_mem_nil
theorem fra_f {T : Nat → Nat → Nat} {C : Nat → Int64} {s0 : List Nat} {ml : List (Nat × Nat)} {nb : List Nat} {al : Nat → Nat} : ∀ (fs : List AF) (fas : List Nat), fra T C s0 ml nb al fs fas → fas.length = fs.length ∧ ∀ a, a ∈ fas → ∃ f ca, f ∈ fs ∧ frc T C s0 ml nb al f a ca ∧ (ca = 0 ∨ ca ∈ fas) := by
  intro fs
  induction fs with
  | nil => intro fas h; have h : fas = [] := h; rw [h]; exact ⟨rfl, fun a ha => by cases ha⟩
  | cons f r ih =>
    intro fas h
    obtain ⟨u, t, e, h1, h2⟩ := h
    subst e
    obtain ⟨i1, i2⟩ := ih t h2
    refine ⟨by show t.length + 1 = r.length + 1; rw [i1], fun a ha => ?_⟩
    rcases List.mem_cons.mp ha with q | q
    · rw [q]
      refine ⟨f, t.headD 0, List.mem_cons_self, h1, ?_⟩
      cases t with
      | nil => exact Or.inl rfl
      | cons v t' => exact Or.inr (List.mem_cons_of_mem _ List.mem_cons_self)
    · obtain ⟨f', ca, c1, c2, c3⟩ := i2 a q
      exact ⟨f', ca, List.mem_cons_of_mem _ c1, c2, c3.elim Or.inl (fun z => Or.inr (List.mem_cons_of_mem _ z))⟩
/-- a cell that leads somewhere holds a node -/
theorem vcl_r {s0 : List Nat} {ml : List (Nat × Nat)} {nb : List Nat} {al : Nat → Nat} {v : AV} {x : Nat} (h : vcl s0 ml nb al v (mkc 1 (nI x))) (hx : x ≠ 0) (hx2 : x < 2 ^ 30) : ∃ k, v = .inr (k + 1) ∧ cano s0 ml nb x (al k) := by
  rcases h with ⟨u, -, h2⟩ | ⟨-, h2⟩ | ⟨k, w, h1, h2, h3, h4, h5⟩
  · exact absurd (mk_inj (by decide) (by decide) h2).1 (by decide)
  · exact absurd (mk1_i hx2 (by decide) h2) hx
  · rw [mk1_i hx2 h3 h4]; exact ⟨k, h1, h5⟩
theorem mk_ne1 {k x : Nat} {v : Int32} (hk : k < 8) (h1 : k ≠ 1) : mkc k v ≠ mkc 1 (nI x) := fun h => h1 (mk_inj hk (by decide) h).1
theorem rl_flip {T : Nat → Nat → Nat} {b : Nat → Nat} {hf B F S R : Nat} {C C0 : Nat → Int64} {s0 : List Nat} {ml : List (Nat × Nat)} {nb : List Nat} {z lv y : Nat → Nat} {N : Nat → AN} {fs : List AF} {al : Nat → Nat} {fas ids : List Nat} (hw : wf T b) (hf1 : 1 ≤ hf) (g : GI hf B F S R C C0 s0 ml nb z lv y) (hS : S = F) (hall : ∀ a, a ∈ s0 → mvd ml a) (h : rlX T s0 nb z y (fun i => i ∈ ids) N fs al fas C ml) (hnd : ids.Nodup) :
    GI hf (obs hf B) (obs hf B) (obs hf B) (obs hf B + hf) C C (fas ++ ids.map al) [] [] (zf T C) (lvf T C) y ∧ (∀ a, a ∈ fas ++ ids.map al → bhd T C a (zf T C a) (lvf T C a)) ∧ rlX T (fas ++ ids.map al) [] (zf T C) y (fun i => i ∈ ids) N fs al fas C [] ∧ sumL (zf T C) (fas ++ ids.map al) = 16 * fs.length + sumL (fun i => 1 + npt T (N i)) ids ∧ ((∀ P : Nat → Prop, (∀ f i k, f ∈ fs → i < T 15 f.1 + f.2.2.1 → f.2.2.2 i = .inr (k + 1) → P k) → (∀ i j k, i ∈ ids → P i → j < npt T (N i) → (N i).2.2.2 j = .inr (k + 1) → P k) → ∀ i, i ∈ ids → P i) → ∀ P : Nat → Prop, P (fas.headD 0) → (∀ a i x, P a → a ∈ fas ++ ids.map al → i < lvf T C a → x ≠ 0 → x < 2 ^ 30 → C (a + i) = mkc 1 (nI x) → P x) → ∀ a, a ∈ fas ++ ids.map al → P a) := by
  have w2 := hw.2.1
  have w4 := hw.2.2.2.1
  have hT : ∀ m, m < T 0 1 → T 15 m + T 16 m ≤ 12 := fun m hm => (hw.2.2.2.2.2.2.2.2.1 m hm).2.2.2.2.2.2.1
  obtain ⟨r1, r2, r3, r4, r5, r6, r7, r8⟩ := h
  obtain ⟨fl, ff⟩ := fra_f fs fas r6
  have g1 := g.1
  have hob2 : obs hf (obs hf B) = B := by
    rcases g1 with e | e
    · have h1 : obs hf B = 1 + hf := if_pos e
      rw [h1, e]
      exact if_neg (by omega)
    · have h1 : obs hf B = 1 := if_neg (by omega)
      rw [h1, e]
      exact if_pos rfl
  have hob1 : obs hf B = 1 ∨ obs hf B = 1 + hf := by
    unfold obs
    split
    · exact Or.inr rfl
    · exact Or.inl rfl
  -- what a frame's address gives
  have F1 : ∀ a, a ∈ fas → lbs s0 ml nb z y a (zf T C a) ∧ zf T C a = 16 ∧ bhd T C a (zf T C a) (lvf T C a) ∧ ∃ f ca, f ∈ fs ∧ frc T C s0 ml nb al f a ca ∧ (ca = 0 ∨ ca ∈ fas) ∧ lvf T C a = 4 + T 15 f.1 + f.2.2.1 := fun a ha => by
    obtain ⟨f, ca, c1, c2, c3⟩ := ff a ha
    obtain ⟨z1, z2, z3⟩ := zf_f hT w4 c2
    rw [z1, z2]
    exact ⟨r3 a ha, rfl, z3, f, ca, c1, c2, c3, rfl⟩
  have N1 : ∀ i, i ∈ ids → lbs s0 ml nb z y (al i) (zf T C (al i)) ∧ zf T C (al i) = 1 + npt T (N i) ∧ bhd T C (al i) (zf T C (al i)) (lvf T C (al i)) ∧ lvf T C (al i) = 1 + npt T (N i) := fun i hi => by
    obtain ⟨k1, k2, lb, nd⟩ := r1 i hi
    obtain ⟨z1, z2, z3⟩ := zf_n w2 k1 k2 nd.1
    rw [z1, z2]
    exact ⟨lb, rfl, z3, rfl⟩
  have lb' : ∀ a, a ∈ fas ++ ids.map al → lbs s0 ml nb z y a (zf T C a) ∧ bhd T C a (zf T C a) (lvf T C a) := fun a ha => by
    rcases List.mem_append.mp ha with q | q
    · exact ⟨(F1 a q).1, (F1 a q).2.2.1⟩
    · obtain ⟨i, hi, e⟩ := List.mem_map.mp q
      rw [← e]
      exact ⟨(N1 i hi).1, (N1 i hi).2.2.1⟩
  have zb := fun a => zf_b hw C a
  -- where cells lead
  have FC : ∀ a f ca, a ∈ fas → f ∈ fs → frc T C s0 ml nb al f a ca → ∀ i x, i < 4 + T 15 f.1 + f.2.2.1 → x ≠ 0 → x < 2 ^ 30 → C (a + i) = mkc 1 (nI x) → (i = 3 ∧ x = ca ∧ ca ≠ 0) ∨ ∃ k, 4 ≤ i ∧ f.2.2.2 (i - 4) = .inr (k + 1) ∧ x = al k ∧ k ∈ ids := fun a f ca ha hf' hc i x hi hx hx2 e => by
    obtain ⟨q1, q2, q3, q4, q5, q6, ⟨w, q7, q8, q9⟩, q10⟩ := hc
    have h12 := hT _ q1
    have tc := (lbs_to g hall (r3 a ha)).2
    by_cases i0 : i = 0
    · rw [i0, Nat.add_zero, q4] at e; exact absurd e (mk_ne1 (by decide) (by decide))
    by_cases i1 : i = 1
    · rw [i1, q5] at e; exact absurd e (mk_ne1 (by decide) (by decide))
    by_cases i2 : i = 2
    · rw [i2, q6] at e; exact absurd e (mk_ne1 (by decide) (by decide))
    by_cases i3 : i = 3
    · rw [i3] at e
      have ew : w = x := mk1_i q7 hx2 (q8.symm.trans e)
      subst ew
      rcases q9 with t | ⟨t1, t2, t3⟩
      · exact absurd t.2 hx
      · exact Or.inl ⟨i3, cano_to g hS (tc 3 (by decide)) q7 t2 e t3, t1⟩
    · have v := q10 (i - 4) (by omega)
      rw [show a + 4 + (i - 4) = a + i by omega, e] at v
      obtain ⟨k, k1, k2⟩ := vcl_r v hx hx2
      exact Or.inr ⟨k, by omega, k1, cano_to g hS (tc i (by omega)) hx2 hx e k2, r8 f hf' (i - 4) k (by omega) k1⟩
  have NC : ∀ i, i ∈ ids → ∀ j x, j < 1 + npt T (N i) → x ≠ 0 → x < 2 ^ 30 → C (al i + j) = mkc 1 (nI x) → ∃ k, 1 ≤ j ∧ (N i).2.2.2 (j - 1) = .inr (k + 1) ∧ x = al k ∧ k ∈ ids := fun i hi j x hj hx hx2 e => by
    obtain ⟨k1, k2, lb, nd⟩ := r1 i hi
    have tc := (lbs_to g hall lb).2
    by_cases j0 : j = 0
    · obtain ⟨k', v', d1, d2, d3⟩ := hdv_k (N i)
      rw [j0, Nat.add_zero, nd.1, d3] at e
      exact absurd e (mk_ne1 (by omega) (by omega))
    · have v := nd.2 (j - 1) (by omega)
      rw [show al i + 1 + (j - 1) = al i + j by omega, e] at v
      obtain ⟨k, q1, q2⟩ := vcl_r v hx hx2
      exact ⟨k, by omega, q1, cano_to g hS (tc j hj) hx2 hx e q2, r7 i (j - 1) k hi (by omega) q1⟩
  have nodup : (fas ++ ids.map al).Nodup := nd_app r4 (nd_map hnd (fun x y hx hy e => r2 x y hx hy e)) (fun x hx q => by
    obtain ⟨i, hi, e⟩ := List.mem_map.mp q
    exact r5 i hi (by rw [e]; exact hx))
  have cn : ∀ w, w ∈ fas ++ ids.map al → cano (fas ++ ids.map al) [] [] w w := fun w hw' => Or.inr ⟨rfl, Or.inl ⟨hw', nm_nil⟩⟩
  have lbn : ∀ a, a ∈ fas ++ ids.map al → lbs (fas ++ ids.map al) [] [] (zf T C) y a (zf T C a) := fun a ha => Or.inr (Or.inr ⟨ha, nm_nil, rfl⟩)
  -- a value's cell, seen anew
  have vn : ∀ (x : Nat) (v : AV), tcl' ml nb z y x → (∀ k, v = .inr (k + 1) → k ∈ ids) → vcl s0 ml nb al v (C x) → vcl (fas ++ ids.map al) [] [] al v (C x) := fun x v hx hk hv => by
    rcases hv with t | t | ⟨k, w, h1, h2, h3, h4, h5⟩
    · exact Or.inl t
    · exact Or.inr (Or.inl t)
    · have ew := cano_to g hS hx h3 h2 h4 h5
      refine Or.inr (Or.inr ⟨k, w, h1, h2, h3, h4, ?_⟩)
      rw [← ew]
      exact cn w (List.mem_append.mpr (Or.inr (List.mem_map.mpr ⟨k, hk k h1, ew.symm⟩)))
  refine ⟨⟨hob1, rfl, rfl, by omega, ⟨Nat.le_refl _, Nat.le_refl _⟩, zb, g.2.2.2.2.2.2.1, g.2.2.2.2.2.2.2.1, nodup, fun a ha => ?_, fun a a' ha ha' hne => ?_, List.nodup_nil, fun q hq => absurd hq List.not_mem_nil, fun a ha _ i hi => rfl, fun q hq => absurd hq List.not_mem_nil, fun a i ha hi => ?_, fun q i hq => absurd hq List.not_mem_nil, fun x i hx => absurd hx List.not_mem_nil, fun a i x ha hi hx hx2 e => ?_⟩, fun a ha => (lb' a ha).2, ⟨fun i hi => ?_, r2, fun a ha => ?_, r4, r5, ?_, r7, r8⟩, ?_, fun hmin P hP hcl => ?_⟩
  · rw [hob2]
    have := (lbs_to g hall (lb' a ha).1).1
    omega
  · exact lbs_dj g (lb' a ha).1 (lb' a' ha').1 (zb a).1 (zb a').1 hne
  · exact (g.tc ((lbs_to g hall (lb' a ha).1).2 i hi)).2.2
  · rcases List.mem_append.mp ha with q | q
    · obtain ⟨-, -, -, f, ca, c1, c2, c3, c4⟩ := F1 a q
      rcases FC a f ca q c1 c2 i x (by omega) hx hx2 e with ⟨-, t1, t2⟩ | ⟨k, -, -, t1, t2⟩
      · rw [t1]
        exact List.mem_append.mpr (Or.inl (c3.elim (fun z => absurd z t2) (fun z => z)))
      · rw [t1]
        exact List.mem_append.mpr (Or.inr (List.mem_map.mpr ⟨k, t2, rfl⟩))
    · obtain ⟨n, hn, en⟩ := List.mem_map.mp q
      rw [← en] at hi e
      obtain ⟨k, -, -, t1, t2⟩ := NC n hn i x (by rw [← (N1 n hn).2.2.2]; exact hi) hx hx2 e
      rw [t1]
      exact List.mem_append.mpr (Or.inr (List.mem_map.mpr ⟨k, t2, rfl⟩))
  · obtain ⟨k1, k2, lb, nd⟩ := r1 i hi
    have hz := (N1 i hi).2.1
    have tc := (lbs_to g hall lb).2
    refine ⟨k1, k2, by rw [← hz]; exact lbn _ (List.mem_append.mpr (Or.inr (List.mem_map.mpr ⟨i, hi, rfl⟩))), nd.1, fun j hj => ?_⟩
    have := tc (1 + j) (by omega)
    exact vn _ _ (by rw [show al i + 1 + j = al i + (1 + j) by omega]; exact this) (fun k hk => r7 i j k hi hj hk) (nd.2 j hj)
  · have := lbn a (List.mem_append.mpr (Or.inl ha))
    rw [(F1 a ha).2.1] at this
    exact this
  · -- frames
    have key : ∀ (gs : List AF) (gas : List Nat), (∀ f, f ∈ gs → f ∈ fs) → (∀ a, a ∈ gas → a ∈ fas) → fra T C s0 ml nb al gs gas → fra T C (fas ++ ids.map al) [] [] al gs gas := by
      intro gs
      induction gs with
      | nil => intro gas _ _ h; exact h
      | cons f r ih =>
        intro gas hg ha h
        obtain ⟨u, t, e, h1, h2⟩ := h
        subst e
        have hu := ha u List.mem_cons_self
        have tc := (lbs_to g hall (r3 u hu)).2
        refine ⟨u, t, rfl, ?_, ih t (fun q hq => hg q (List.mem_cons_of_mem _ hq)) (fun q hq => ha q (List.mem_cons_of_mem _ hq)) h2⟩
        obtain ⟨q1, q2, q3, q4, q5, q6, ⟨w, q7, q8, q9⟩, q10⟩ := h1
        have h12 := hT _ q1
        refine ⟨q1, q2, q3, q4, q5, q6, ⟨w, q7, q8, ?_⟩, fun i hi => ?_⟩
        · rcases q9 with t1 | ⟨t1, t2, t3⟩
          · exact Or.inl t1
          · refine Or.inr ⟨t1, t2, ?_⟩
            have ew := cano_to g hS (tc 3 (by decide)) q7 t2 q8 t3
            rw [← ew]
            refine cn w (List.mem_append.mpr (Or.inl (ha w (List.mem_cons_of_mem _ ?_))))
            cases t with
            | nil => exact absurd rfl t1
            | cons v t' => rw [ew]; exact List.mem_cons_self
        · have := tc (4 + i) (by omega)
          exact vn _ _ (by rw [show u + 4 + i = u + (4 + i) by omega]; exact this) (fun k hk => r8 f (hg f List.mem_cons_self) i k hi hk) (q10 i hi)
    exact key fs fas (fun _ q => q) (fun _ q => q) r6
  · rw [sumL_app, sumL_map]
    have e1 : sumL (zf T C) fas = 16 * fs.length := by
      have h1 := sumL_c (f := zf T C) (g := fun _ => 16 * 1) fas (fun a ha => (F1 a ha).2.1)
      have h2 : ∀ l : List Nat, sumL (fun _ => 16 * 1) l = 16 * l.length := by
        intro l
        induction l with
        | nil => rfl
        | cons x l ih => show 16 * 1 + sumL _ l = 16 * (l.length + 1); rw [ih]; omega
      rw [h1, h2, fl]
    rw [e1, sumL_c (f := fun x => zf T C (al x)) (g := fun i => 1 + npt T (N i)) ids (fun i hi => (N1 i hi).2.1)]
  · -- frames first
    have key : ∀ (gs : List AF) (gas : List Nat), (∀ f, f ∈ gs → f ∈ fs) → (∀ a, a ∈ gas → a ∈ fas) → fra T C s0 ml nb al gs gas → (gas ≠ [] → P (gas.headD 0)) → ∀ a, a ∈ gas → P a := by
      intro gs
      induction gs with
      | nil => intro gas _ _ h _ a ha; have h : gas = [] := h; rw [h] at ha; cases ha
      | cons f r ih =>
        intro gas hg ha h hP' a haa
        obtain ⟨u, t, e, h1, h2⟩ := h
        subst e
        have Pu : P u := hP' (fun q => by cases q)
        have hu := ha u List.mem_cons_self
        rcases List.mem_cons.mp haa with q | q
        · rw [q]; exact Pu
        · refine ih t (fun q hq => hg q (List.mem_cons_of_mem _ hq)) (fun q hq => ha q (List.mem_cons_of_mem _ hq)) h2 (fun tn => ?_) a q
          have tc := (lbs_to g hall (r3 u hu)).2
          obtain ⟨-, z2, -⟩ := zf_f hT w4 h1
          obtain ⟨q1, q2, q3, q4, q5, q6, ⟨w, q7, q8, q9⟩, q10⟩ := h1
          rcases q9 with t1 | ⟨t1, t2, t3⟩
          · exfalso
            cases t with
            | nil => exact tn rfl
            | cons v t' =>
              have := lbs_1 g (r3 v (ha v (List.mem_cons_of_mem _ List.mem_cons_self)))
              have : v = 0 := t1.1
              omega
          · have ew := cano_to g hS (tc 3 (by decide)) q7 t2 q8 t3
            rw [← ew]
            exact hcl u 3 w Pu (List.mem_append.mpr (Or.inl hu)) (by omega) t2 q7 q8
    have PF := key fs fas (fun _ q => q) (fun _ q => q) r6 (fun _ => hP)
    have PN : ∀ i, i ∈ ids → P (al i) := hmin (fun k => P (al k)) (fun f i k hf' hi hk => by
      -- the frame's address
      have hx : ∀ (gs : List AF) (gas : List Nat), (∀ a, a ∈ gas → a ∈ fas) → fra T C s0 ml nb al gs gas → ∀ f, f ∈ gs → ∃ a ca, a ∈ fas ∧ frc T C s0 ml nb al f a ca := by
        intro gs
        induction gs with
        | nil => intro gas _ _ f hf'; cases hf'
        | cons f r ih =>
          intro gas ha h f2 hf2
          obtain ⟨u, t, e, h1, h2⟩ := h
          subst e
          rcases List.mem_cons.mp hf2 with q | q
          · rw [q]; exact ⟨u, _, ha u List.mem_cons_self, h1⟩
          · exact ih t (fun q hq => ha q (List.mem_cons_of_mem _ hq)) h2 f2 q
      obtain ⟨a, ca, ha, hc⟩ := hx fs fas (fun _ q => q) r6 f hf'
      have tc := (lbs_to g hall (r3 a ha)).2
      obtain ⟨-, z2, -⟩ := zf_f hT w4 hc
      have h12 := hT _ hc.1
      have h16 := hc.2.2.1
      have v := hc.2.2.2.2.2.2.2 i hi
      rw [hk] at v
      rcases v with ⟨u, t1, -⟩ | ⟨t1, -⟩ | ⟨k', w, t1, t2, t3, t4, t5⟩
      · cases t1
      · cases t1
      · have ek : k' = k := by cases t1; rfl
        subst ek
        have tci : tcl' ml nb z y (a + 4 + i) := by
          rw [show a + 4 + i = a + (4 + i) by omega]
          exact tc (4 + i) (by omega)
        have ew := cano_to g hS tci t3 t2 t4 t5
        show P (al k')
        rw [← ew]
        refine hcl a (4 + i) w (PF a ha) (List.mem_append.mpr (Or.inl ha)) (by omega) t2 t3 ?_
        rw [show a + (4 + i) = a + 4 + i by omega]; exact t4) (fun i j k hi hPi hj hk => by
      obtain ⟨k1, k2, lb, nd⟩ := r1 i hi
      have tc := (lbs_to g hall lb).2
      have v := nd.2 j hj
      rw [hk] at v
      rcases v with ⟨u, t1, -⟩ | ⟨t1, -⟩ | ⟨k', w, t1, t2, t3, t4, t5⟩
      · cases t1
      · cases t1
      · have ek : k' = k := by cases t1; rfl
        subst ek
        have tci : tcl' ml nb z y (al i + 1 + j) := by
          rw [show al i + 1 + j = al i + (1 + j) by omega]
          exact tc (1 + j) (by omega)
        have ew := cano_to g hS tci t3 t2 t4 t5
        show P (al k')
        rw [← ew]
        refine hcl (al i) (1 + j) w hPi (List.mem_append.mpr (Or.inr (List.mem_map.mpr ⟨i, hi, rfl⟩))) (by rw [(N1 i hi).2.2.2]; omega) t2 t3 ?_
        rw [show al i + (1 + j) = al i + 1 + j by omega]; exact t4)
    intro a ha
    rcases List.mem_append.mp ha with q | q
    · exact PF a q
    · obtain ⟨i, hi, e⟩ := List.mem_map.mp q
      rw [← e]; exact PN i hi
