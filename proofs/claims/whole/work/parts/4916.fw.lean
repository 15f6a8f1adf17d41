/-! ===== a cell that is brought up to date keeps the tie ===== -/
theorem vcl.fw {hf B F S R : Nat} {C C0 : Nat → Int64} {s0 : List Nat} {ml : List (Nat × Nat)} {nb : List Nat} {z lv y : Nat → Nat} (g : GI hf B F S R C C0 s0 ml nb z lv y) {x a a' : Nat} (hc : C x = mkc 1 (nI a)) (ha : a < 2 ^ 30) (a0 : a ≠ 0) (hin : (a, a') ∈ ml) {al : Nat → Nat} {v : AV} {c : Nat} (h : vcl s0 ml nb al v (C c)) : vcl s0 ml nb al v (vp_updL C x (mkc 1 (nI a')) c) := by
  have cn : ∀ u, cano s0 ml nb a u → u = a' := fun u hu => by
    have as0 := g.2.2.2.2.2.2.2.2.2.2.2.2.1 (a, a') hin
    have o := g.2.2.2.2.2.2.2.2.2.1 a as0
    have z1 := (g.2.2.2.2.2.1 a).1
    have ob := g.ob
    have gR := (lan_in nb R g.2.2.1).1
    have gF := (lay_in ml F g.2.1).1
    have g4 := g.2.2.2.1
    rcases hu with t | ⟨e, t | ⟨q, t1, t2⟩ | t⟩
    · exact ml_u g.2.2.2.2.2.2.2.2.2.2.2.1 t hin
    · exact absurd ⟨a', hin⟩ t.2
    · have := g.to t1
      omega
    · have := (lan_in nb R g.2.2.1).2 a t
      have := (g.2.2.2.2.2.2.1 a).1
      omega
  by_cases e : c = x
  · rw [e, pk_uLs]
    rw [e, hc] at h
    obtain ⟨t1, t2, t3, t4⟩ := g.to hin
    rcases h with ⟨u, -, h2⟩ | ⟨-, h2⟩ | ⟨k, w, h1, h2, h3, h4, h5⟩
    · exact absurd (mk_inj (by decide) (by decide) h2).1 (by decide)
    · exact absurd (mk1_i ha (by decide) h2) a0
    · have ew := mk1_i ha h3 h4
      rw [← ew] at h5
      refine Or.inr (Or.inr ⟨k, a', h1, t4, t3, rfl, ?_⟩)
      rw [cn _ h5]
      exact Or.inr ⟨rfl, Or.inr (Or.inl ⟨(a, a'), hin, rfl⟩)⟩
  · rw [pk_uLn e]; exact h
theorem num_fw {C : Nat → Int64} {x a a' c k : Nat} {v : Int32} (hc : C x = mkc 1 (nI a)) (hk : k < 8) (h1 : k ≠ 1) (h : C c = mkc k v) : vp_updL C x (mkc 1 (nI a')) c = mkc k v := by
  by_cases e : c = x
  · rw [e, hc] at h
    exact absurd (mk_inj (by decide) hk h).1.symm h1
  · rw [pk_uLn e]; exact h
theorem fra.fw {T : Nat → Nat → Nat} {hf B F S R : Nat} {C C0 : Nat → Int64} {s0 : List Nat} {ml : List (Nat × Nat)} {nb : List Nat} {z lv y : Nat → Nat} {al : Nat → Nat} (g : GI hf B F S R C C0 s0 ml nb z lv y) {x a a' : Nat} (hc : C x = mkc 1 (nI a)) (ha : a < 2 ^ 30) (a0 : a ≠ 0) (hin : (a, a') ∈ ml) : ∀ (fs : List AF) (fas : List Nat), fra T C s0 ml nb al fs fas → fra T (vp_updL C x (mkc 1 (nI a'))) s0 ml nb al fs fas := by
  intro fs
  induction fs with
  | nil => intro fas h; exact h
  | cons f r ih =>
    intro fas h
    obtain ⟨u, t, e, ⟨q1, q2, q3, q4, q5, q6, ⟨w, q7, q8, q9⟩, q10⟩, h2⟩ := h
    refine ⟨u, t, e, ⟨q1, q2, q3, num_fw hc (by decide) (by decide) q4, num_fw hc (by decide) (by decide) q5, num_fw hc (by decide) (by decide) q6, ?_, fun i hi => (q10 i hi).fw g hc ha a0 hin⟩, ih t h2⟩
    by_cases ex : u + 3 = x
    · obtain ⟨t1, t2, t3, t4⟩ := g.to hin
      refine ⟨a', t3, by rw [ex, pk_uLs], ?_⟩
      rw [ex, hc] at q8
      have ew := mk1_i ha q7 q8
      rcases q9 with q | ⟨q, -, q'⟩
      · omega
      · refine Or.inr ⟨q, t4, ?_⟩
        rw [← ew] at q'
        have h := vcl.fw (al := fun _ => t.headD 0) (v := .inr 1) (c := x) g hc ha a0 hin (Or.inr (Or.inr ⟨0, a, rfl, a0, ha, hc, q'⟩))
        rw [pk_uLs] at h
        rcases h with ⟨_, h, -⟩ | ⟨h, -⟩ | ⟨k, w2, h1, h2, h3, h4, h5⟩
        · exact absurd h (by intro q; cases q)
        · exact absurd h (by intro q; cases q)
        · have t3 : a' < 2 ^ 30 := t3
          rw [mk1_i t3 h3 h4]
          exact h5
    · exact ⟨w, q7, by rw [pk_uLn ex]; exact q8, q9⟩
theorem rlX.fw {T : Nat → Nat → Nat} {hf B F S R : Nat} {C C0 : Nat → Int64} {s0 : List Nat} {ml : List (Nat × Nat)} {nb : List Nat} {z lv y : Nat → Nat} {L : Nat → Prop} {N : Nat → AN} {fs : List AF} {al : Nat → Nat} {fas : List Nat} (g : GI hf B F S R C C0 s0 ml nb z lv y) {x a a' : Nat} (hc : C x = mkc 1 (nI a)) (ha : a < 2 ^ 30) (a0 : a ≠ 0) (hin : (a, a') ∈ ml) (h : rlX T s0 nb z y L N fs al fas C ml) : rlX T s0 nb z y L N fs al fas (vp_updL C x (mkc 1 (nI a'))) ml := by
  obtain ⟨r1, r2, r3, r4, r5, r6, r7, r8⟩ := h
  refine ⟨fun i hi => ?_, r2, r3, r4, r5, fra.fw g hc ha a0 hin fs fas r6, r7, r8⟩
  obtain ⟨k1, k2, lb, hd, ps⟩ := r1 i hi
  obtain ⟨k', v', d1, d2, d3⟩ := hdv_k (N i)
  rw [d3] at hd
  exact ⟨k1, k2, lb, by rw [d3]; exact num_fw hc (by omega) (by omega) hd, fun j hj => (ps j hj).fw g hc ha a0 hin⟩
/-- the tie with the top frame's address, and that of what flies -/
def rlQ (T : Nat → Nat → Nat) (s0 : List Nat) (nb : List Nat) (z y : Nat → Nat) (L : Nat → Prop) (N : Nat → AN) (fs : List AF) (tp fl fa : Nat) (C : Nat → Int64) (ml : List (Nat × Nat)) : Prop := ∃ al fas, rlX T s0 nb z y L N fs al fas C ml ∧ fas.headD 0 = tp ∧ (fl ≠ 0 → al (fl - 1) = fa)
theorem rlQ_c {T : Nat → Nat → Nat} {b : Nat → Nat} {hf B : Nat} {C0 : Nat → Int64} {s0 : List Nat} {nb : List Nat} {z lv y : Nat → Nat} {L : Nat → Prop} {N : Nat → AN} {fs : List AF} {tp fl fa : Nat} (hw : wf T b) (hb : ∀ a, a ∈ s0 → bhd T C0 a (z a) (lv a)) (htp : tp ∉ s0) (hfa : fl ≠ 0 → fa ∉ s0) : clQ hf B C0 s0 nb z lv y (rlQ T s0 nb z y L N fs tp fl fa) := by
  refine ⟨fun F S R C ml a g ha hm hR h => ?_, fun F S R C ml x a a' g _ hc ha a0 hin h => ?_⟩
  · obtain ⟨al, fas, h1, h2, h3⟩ := h
    refine ⟨_, _, h1.mv hb g ha hm hR (fun m hm => (hw.2.2.2.2.2.2.2.2.1 m hm).2.2.2.2.2.2.1) hw.2.2.2.1, ?_, fun q => ?_⟩
    · cases fas with
      | nil => exact h2
      | cons u t =>
        have e : u = tp := h2
        show nad a F u = tp
        unfold nad
        rw [if_neg (fun q => htp (by rw [← e, q]; exact ha)), e]
    · show nad a F (al (fl - 1)) = fa
      rw [h3 q]
      unfold nad
      rw [if_neg (fun e => hfa q (by rw [e]; exact ha))]
  · obtain ⟨al, fas, h1, h2, h3⟩ := h
    exact ⟨al, fas, h1.fw g hc ha a0 hin, h2, h3⟩
