/-! ===== the class's heap in a cycle: reading ===== -/
/-- the head of a block at a: its size s, its live cells l -/
def bhd (T : Nat → Nat → Nat) (D : Nat → Int64) (a s l : Nat) : Prop := ∃ k v, 2 ≤ k ∧ k ≤ 5 ∧ D a = mkc k (nI v) ∧ (k = 2 → v < T 0 0) ∧ (k ≠ 2 → v < 2 ^ 30) ∧ s = bsz T k v ∧ (k ≠ 5 → l = s) ∧ (k = 5 → v < T 0 1 ∧ ∃ h, D (a + 2) = mkc 0 (nI h) ∧ h ≤ T 16 v ∧ l = 4 + T 15 v + h)
/-- the state with its heap; fr: made cells lie from there on -/
def HS (σ : sm_S) (T : Nat → Nat → Nat) (b : Nat → Nat) (hf B F S R fr : Nat) (C C0 : Nat → Int64) (s0 : List Nat) (ml : List (Nat × Nat)) (nb : List Nat) (z lv y : Nat → Nat) : Prop := imX σ T b ∧ σ.1 1 = nI hf ∧ σ.1 2 = nI B ∧ σ.1 3 = nI F ∧ σ.1 4 = nI S ∧ σ.1 5 = nI fr ∧ 2 * hf + 1 ≤ σ.2.2.1 17 ∧ σ.2.2.1 17 < 2 ^ 30 ∧ σ.2.2.2.2 17 = C ∧ GI hf B F S R C C0 s0 ml nb z lv y ∧ (∀ a, a ∈ s0 → bhd T C0 a (z a) (lv a)) ∧ fr ≤ R ∧ B ≤ fr ∧ sumL z s0 ≤ fr - B
/-- a cell of a block in use -/
def tcl' (ml : List (Nat × Nat)) (nb : List Nat) (z y : Nat → Nat) (x : Nat) : Prop := (∃ q i, q ∈ ml ∧ i < z q.1 ∧ x = q.2 + i) ∨ (∃ w i, w ∈ nb ∧ i < y w ∧ x = w + i)
theorem imX.L {I : Nat → Prop} {σ σ' : sm_S} {D : Nat → Int64} {T : Nat → Nat → Nat} {b : Nat → Nat} (h : imX σ T b) (hX : frL I σ σ' D) (hI : ∀ k, k = 0 ∨ k = 14 ∨ k = 15 ∨ k = 16 ∨ k = 17 → ¬ I k) : imX σ' T b := by
  have e : fr I A0 σ (σ'.1, σ'.2.1, σ'.2.2.1, σ'.2.2.2.1, σ.2.2.2.2) := ⟨hX.1, hX.2.1, rfl, hX.2.2.2.2.2, fun r j _ => by show σ'.2.2.2.1 r j = _; rw [hX.2.2.1]⟩
  exact (h.f e hI (fun r j _ _ _ q => q) : imX (σ'.1, σ'.2.1, σ'.2.2.1, σ'.2.2.2.1, σ.2.2.2.2) T b)
theorem mvd_of {ml : List (Nat × Nat)} {a : Nat} (h : mvd ml a) : a ∈ ml.map Prod.fst := by
  obtain ⟨x', q⟩ := h
  exact List.mem_map.mpr ⟨(a, x'), q, rfl⟩
theorem HS.F {σ : sm_S} {T : Nat → Nat → Nat} {b : Nat → Nat} {hf B F S R fr : Nat} {C C0 : Nat → Int64} {s0 : List Nat} {ml : List (Nat × Nat)} {nb : List Nat} {z lv y : Nat → Nat} (h : HS σ T b hf B F S R fr C C0 s0 ml nb z lv y) : F ≤ fr ∧ F = B + sumL z (ml.map Prod.fst) ∧ (∀ a, a ∈ s0 → ¬ mvd ml a → F + z a ≤ fr) ∧ F - B ≤ sumL z s0 := by
  obtain ⟨h0, h1, h2, h3, h4, h5, h6, h7, h8, g, h9, h10, h10', h11⟩ := h
  obtain ⟨g1, g2, g3, g4, g5, g6, g6', g7, g8, g9, g10, g11, g12, g13, g14, g15, g16, g17, g18⟩ := g
  have hs := lay_s ml F g2
  have sub : ∀ a, a ∈ ml.map Prod.fst → a ∈ s0 := fun a ha => by
    obtain ⟨q, q1, q2⟩ := List.mem_map.mp ha
    rw [← q2]; exact g12 q q1
  have k1 := sumL_sub (f := z) (ml.map Prod.fst) s0 g11 sub
  refine ⟨by omega, hs, fun a ha hm => ?_, by omega⟩
  have k2 := sumL_sub (f := z) (a :: ml.map Prod.fst) s0 (List.nodup_cons.mpr ⟨fun q => hm ?_, g11⟩) (fun x hx => by
    rcases List.mem_cons.mp hx with e | e
    · rw [e]; exact ha
    · exact sub x e)
  · have : sumL z (a :: ml.map Prod.fst) = z a + sumL z (ml.map Prod.fst) := rfl
    omega
  · obtain ⟨p, p1, p2⟩ := List.mem_map.mp q
    exact ⟨p.2, by rw [← p2]; exact p1⟩
/-- what must stay true of cells and moves alone -/
def clQ (hf B : Nat) (C0 : Nat → Int64) (s0 : List Nat) (nb : List Nat) (z lv y : Nat → Nat) (Q : (Nat → Int64) → List (Nat × Nat) → Prop) : Prop := (∀ F S R C ml a, GI hf B F S R C C0 s0 ml nb z lv y → a ∈ s0 → ¬ mvd ml a → F + z a ≤ R → Q C ml → Q (mvD C a F (z a) (lv a)) ((a, F) :: ml)) ∧ (∀ F S R C ml x a a', GI hf B F S R C C0 s0 ml nb z lv y → tcl' ml nb z y x → C x = mkc 1 (nI a) → a < 2 ^ 30 → a ≠ 0 → (a, a') ∈ ml → Q C ml → Q (vp_updL C x (mkc 1 (nI a'))) ml)
theorem GI.ob {hf B F S R : Nat} {C C0 : Nat → Int64} {s0 : List Nat} {ml : List (Nat × Nat)} {nb : List Nat} {z lv y : Nat → Nat} (g : GI hf B F S R C C0 s0 ml nb z lv y) : (obs hf B = 1 ∧ B = 1 + hf) ∨ (obs hf B = 1 + hf ∧ B = 1) := by
  unfold obs
  rcases g.1 with e | e
  · exact Or.inr ⟨if_pos e, e⟩
  · by_cases h0 : hf = 0
    · exact Or.inr ⟨if_pos (by omega), by omega⟩
    · exact Or.inl ⟨if_neg (by omega), e⟩
theorem GI.tc {hf B F S R : Nat} {C C0 : Nat → Int64} {s0 : List Nat} {ml : List (Nat × Nat)} {nb : List Nat} {z lv y : Nat → Nat} (g : GI hf B F S R C C0 s0 ml nb z lv y) {x : Nat} (h : tcl' ml nb z y x) : B ≤ x ∧ x < B + hf ∧ okx (C x) := by
  obtain ⟨g1, g2, g3, g4, g5, g6, g6', g7, g8, g9, g10, g11, g12, g13, g14, g15, g16, g17, g18⟩ := g
  rcases h with ⟨q, i, h1, h2, h3⟩ | ⟨w, i, h1, h2, h3⟩
  · have := (lay_in ml F g2).2 q h1
    have := (lan_in nb R g3).1
    rw [h3]
    exact ⟨by omega, by omega, (g16 q i h1 h2).1⟩
  · have := (lan_in nb R g3).2 w h1
    have := (lay_in ml F g2).1
    rw [h3]
    exact ⟨by omega, by omega, (g17 w i h1 h2).1⟩
/-- a cell that leads back leads to what was reached -/
theorem GI.lb {hf B F S R : Nat} {C C0 : Nat → Int64} {s0 : List Nat} {ml : List (Nat × Nat)} {nb : List Nat} {z lv y : Nat → Nat} (g : GI hf B F S R C C0 s0 ml nb z lv y) {x a : Nat} (h : tcl' ml nb z y x) (hc : C x = mkc 1 (nI a)) (ha : a < 2 ^ 30) (hl : ldb hf B 1 a) : a ∈ s0 ∧ S ≤ x ∧ x < F := by
  obtain ⟨g1, g2, g3, g4, g5, g6, g6', g7, g8, g9, g10, g11, g12, g13, g14, g15, g16, g17, g18⟩ := g
  rcases h with ⟨q, i, h1, h2, h3⟩ | ⟨w, i, h1, h2, h3⟩
  · rw [h3] at hc
    obtain ⟨t1, t2, t3⟩ := (g16 q i h1 h2).2.2 a ha hl hc
    have := (lay_in ml F g2).2 q h1
    exact ⟨g18 q.1 i a (g12 q h1) t2 hl.2.1 ha t3, by omega, by omega⟩
  · rw [h3] at hc
    exact absurd hl ((g17 w i h1 h2).2 a ha hc)
theorem GI.to {hf B F S R : Nat} {C C0 : Nat → Int64} {s0 : List Nat} {ml : List (Nat × Nat)} {nb : List Nat} {z lv y : Nat → Nat} (g : GI hf B F S R C C0 s0 ml nb z lv y) {q : Nat × Nat} (h : q ∈ ml) : B ≤ q.2 ∧ q.2 < B + hf ∧ q.2 < 2 ^ 30 ∧ q.2 ≠ 0 := by
  obtain ⟨g1, g2, g3, g4, g5, g6, g6', g7, -⟩ := g
  have := (lay_in ml F g2).2 q h
  have := (lan_in nb R g3).1
  have := (g6 q.1).1
  omega
/-- how a cell was read -/
def rdc (C C' : Nat → Int64) (ml' : List (Nat × Nat)) (x : Nat) : Prop := C' x = C x ∨ ∃ a a', a ≠ 0 ∧ a < 2 ^ 30 ∧ C x = mkc 1 (nI a) ∧ (a, a') ∈ ml' ∧ C' x = mkc 1 (nI a')
theorem e_read {σ : sm_S} {T : Nat → Nat → Nat} {b : Nat → Nat} {hf B F S R fr l x : Nat} {C C0 : Nat → Int64} {s0 : List Nat} {ml : List (Nat × Nat)} {nb : List Nat} {z lv y : Nat → Nat} {Q : (Nat → Int64) → List (Nat × Nat) → Prop} (hw : wf T b) (h : HS σ T b hf B F S R fr C C0 s0 ml nb z lv y) (hQ : clQ hf B C0 s0 nb z lv y Q) (q0 : Q C ml) (hx : tcl' ml nb z y x) (i13 : σ.1 13 = nI l) (hl : l < 2 ^ 27) :
    ∃ σ' F' C' ml' l', HS σ' T b hf B F' S R fr C' C0 s0 ml' nb z lv y ∧ Q C' ml' ∧ frL I133 σ σ' C' ∧ σ'.1 13 = nI l' ∧ l ≤ l' ∧ l' ≤ l + 36 ∧ l' ≤ l + 3 * (1 + (F' - F)) ∧ (F ≤ F' ∧ F' ≤ F + 16) ∧ (S = F → F' = F) ∧ (∀ q, q ∈ ml → q ∈ ml') ∧ rdc C C' ml' x ∧ (∀ u, tcl' ml nb z y u → u ≠ x → C' u = C u) ∧ (∀ w, w < 2 ^ 30 → C' x = mkc 1 (nI w) → ¬ ldb hf B 1 w) ∧ ∀ K, K (C' x) σ' → mp_X1_read σ (nI x) K := by
  have hF := h.F
  obtain ⟨h0, h1, h2, h3, h4, h5, h6, h7, h8, g, h9, h10, h10', h11⟩ := h
  obtain ⟨x1, x2, x3⟩ := g.tc hx
  have hob := g.ob
  have g7 := g.2.2.2.2.2.2.2.1
  have hB1 : 1 ≤ B := by omega
  have lk : ∀ K : Int64 → sm_S → Prop, K (C x) (sm_i σ 13 (nI (l + 1))) → mp_X1_look σ (nI x) K := fun K q => l_look (by omega) (by omega) (by omega) (by rw [h8, i13, nI_1]; exact q)
  -- does it lead back?
  by_cases cl : ∃ a, a < 2 ^ 30 ∧ C x = mkc 1 (nI a) ∧ ldb hf B 1 a
  · obtain ⟨a, ha, hc, hlb⟩ := cl
    obtain ⟨as0, aS, aF⟩ := g.lb hx hc ha hlb
    have a0 := hlb.2.1
    obtain ⟨σ1, e1⟩ : ∃ σ1, σ1 = sm_i σ 13 (nI (l + 1)) := ⟨_, rfl⟩
    rw [← e1] at lk
    have i131 : σ1.1 13 = nI (l + 1) := by rw [e1]; rfl
    have f1 : frL I133 σ σ1 C := by rw [e1, ← h8]; exact frL_r.i (by unfold I133; omega)
    have len1 : σ1.2.2.1 17 = σ.2.2.1 17 := by rw [e1]
    have C1 : σ1.2.2.2.2 17 = C := by rw [e1]; exact h8
    have im1 : imX σ1 T b := h0.f (I := I133) (A := A0) (by rw [e1]; exact fr_r.i (by unfold I133; omega)) (fun k q => by unfold I133; omega) (fun r j _ _ _ q => q)
    have llb : ∀ K : jk, K 1 σ1 → mp_X1_leadsBack σ1 (mkc 1 (nI a)) K := fun K q => l_lb (a := a) (hf := hf) (B := B) (by rw [e1]; exact h1) (by rw [e1]; exact h2) (by decide) (by omega) (fun _ => by omega) (fun _ => rfl) (fun _ => q) (fun q' => absurd hlb q')
    -- moving it
    have mvs : ∃ σ2 F' C' ml' l' a', HS σ2 T b hf B F' S R fr C' C0 s0 ml' nb z lv y ∧ Q C' ml' ∧ frL I133 σ σ2 C' ∧ σ2.1 13 = nI l' ∧ l < l' ∧ l' ≤ l + 35 ∧ l' + 1 ≤ l + 3 * (1 + (F' - F)) ∧ (F ≤ F' ∧ F' ≤ F + 16) ∧ (∀ q, q ∈ ml → q ∈ ml') ∧ (a, a') ∈ ml' ∧ (∀ u, tcl' ml nb z y u → C' u = C u) ∧ tcl' ml' nb z y x ∧ ∀ K : jk, K (nI a') σ2 → mp_X1_move σ1 (nI a) K := by
      by_cases cm : mvd ml a
      · obtain ⟨a', ha'⟩ := cm
        have c6 := g.2.2.2.2.2.2.2.2.2.2.2.2.2.2.1 (a, a') ha'
        obtain ⟨t1, t2, t3, t4⟩ := g.to ha'
        have o := g.2.2.2.2.2.2.2.2.2.1 a as0
        have z1 := (g.2.2.2.2.2.1 a).1
        refine ⟨sm_i σ1 13 (nI (l + 2)), F, C, ml, l + 2, a', ⟨im1.f (I := I133) (A := A0) (fr_r.i (by unfold I133; omega)) (fun k q => by unfold I133; omega) (fun r j _ _ _ q => q), by rw [e1]; exact h1, by rw [e1]; exact h2, by rw [e1]; exact h3, by rw [e1]; exact h4, by rw [e1]; exact h5, by rw [e1]; exact h6, by rw [e1]; exact h7, C1, g, h9, h10, h10', h11⟩, q0, f1.i (by unfold I133; omega), rfl, by omega, by omega, by omega, ⟨Nat.le_refl _, by omega⟩, fun q hq => hq, ha', fun u _ => rfl, hx, fun K q => ?_⟩
        unfold mp_X1_move
        refine ⟨fun q => absurd ((nI_ltI (b := 1) (by omega) (by omega)).mp q) (by omega), fun _ => ⟨fun _ s19 e19 => ?_, fun q => absurd ((nI_ltI (by omega) (by omega)).mpr (by omega)) q⟩⟩
        rw [i131, nI_1] at e19
        rw [e19]
        refine ⟨vp_in_nI (show a < σ1.2.2.1 17 by omega) (show σ1.2.2.1 17 < 2 ^ 31 by omega), fun v21 e21 => ⟨vp_in_nI (show a < σ1.2.2.1 17 by omega) (show σ1.2.2.1 17 < 2 ^ 31 by omega), fun v23 e23 => ?_⟩⟩
        rw [nI_clamp (by omega)] at e21 e23
        have hd' : (sm_i σ1 13 (nI (l + 1 + 1))).2.2.2.2 17 a = mkc 6 (nI a') := by show σ1.2.2.2.2 17 a = _; rw [C1]; exact c6
        rw [hd', mk_kd (by decide)] at e21
        rw [hd', mk_lo (by decide)] at e23
        rw [e21, e23]
        exact ⟨fun q => absurd rfl q, fun _ => q⟩
      · have hR := hF.2.2.1 a as0 cm
        obtain ⟨k, v, b1, b2, b3, b4, b5, b6, b7, b8⟩ := h9 a as0
        have o := g.2.2.2.2.2.2.2.2.2.1 a as0
        obtain ⟨z1, z2, z3⟩ := g.2.2.2.2.2.1 a
        have same := g.2.2.2.2.2.2.2.2.2.2.2.2.2.1 a as0 cm
        have c0 : C a = C0 a := same 0 (by omega)
        have gF := (lay_in ml F g.2.1).1
        have gR := (lan_in nb R g.2.2.1).1
        obtain ⟨σ2, m1, m2, m3, m4⟩ := l_move (σ := σ1) (T := T) (b := b) (a := a) (F := F) (l := l + 1) (k := k) (v := v) (lv := lv a) im1 hw ⟨b1, b2⟩ (by rw [C1, c0]; exact b3) (by omega) (by rw [← b6, len1]; omega) (by rw [← b6, len1]; omega) (by rw [len1]; exact h7) (by rw [← b6]; omega) b4 b5 (fun e => by
          obtain ⟨c1, hh, c2, c3, c4⟩ := b8 e
          have s16 : z a = 16 := by rw [b6]; unfold bsz; rw [if_neg (by omega)]
          refine ⟨c1, hh, ?_, c3, c4⟩
          rw [C1, same 2 (by omega)]; exact c2) (fun e => by rw [← b6]; exact b7 e) (by rw [e1]; exact h3) i131 (by omega)
        rw [← b6, C1] at m1
        rw [← b6] at m2 m3
        have cx : ∀ u, tcl' ml nb z y u → mvD C a F (z a) (lv a) u = C u := fun u hu => by
          clear b8 b7 b5 b4
          obtain ⟨u1, u2, -⟩ := g.tc hu
          have u3 : u < F ∨ R ≤ u := by
            rcases hu with ⟨q, i, y1, y2, y3⟩ | ⟨w, i, y1, y2, y3⟩
            · have := (lay_in ml F g.2.1).2 q y1
              omega
            · have := (lan_in nb R g.2.2.1).2 w y1
              omega
          unfold mvD
          rw [if_neg (by omega), if_neg (by omega)]
        refine ⟨σ2, F + z a, mvD C a F (z a) (lv a), (a, F) :: ml, l + 1 + (2 * z a + 2), F, ⟨?_, ?_, ?_, m2, ?_, ?_, ?_, ?_, m1.2.2.2.2.1, g.mv as0 cm (by omega), h9, h10, h10', h11⟩, hQ.1 F S R C ml a g as0 cm (by omega) q0, f1.t m1, m3, by omega, by omega, by omega, ⟨by omega, by omega⟩, fun q hq => List.mem_cons_of_mem _ hq, List.mem_cons_self, cx, ?_, m4⟩
        · exact im1.L m1 (fun k q => by unfold I133; omega)
        · rw [m1.2.2.2.2.2 1 (by unfold I133; omega), e1]; exact h1
        · rw [m1.2.2.2.2.2 2 (by unfold I133; omega), e1]; exact h2
        · rw [m1.2.2.2.2.2 4 (by unfold I133; omega), e1]; exact h4
        · rw [m1.2.2.2.2.2 5 (by unfold I133; omega), e1]; exact h5
        · rw [m1.2.1, len1]; exact h6
        · rw [m1.2.1, len1]; exact h7
        · rcases hx with ⟨q, i, y1, y2, y3⟩ | y
          · exact Or.inl ⟨q, i, List.mem_cons_of_mem _ y1, y2, y3⟩
          · exact Or.inr y
    obtain ⟨σ2, F', C', ml', l', a', H2, Q2, f2, j13, l1, l2, l3, fF, hml, hin, hcu, hx2, a2⟩ := mvs
    have hcx : C' x = mkc 1 (nI a) := (hcu x hx).trans hc
    obtain ⟨k0, k1, k2, k3, k4, k5, k6, k7, k8, g', k9, k10, k10', k11⟩ := H2
    obtain ⟨t1, t2, t3, t4⟩ := g'.to hin
    have t1 : B ≤ a' := t1
    have t2 : a' < B + hf := t2
    have t3 : a' < 2 ^ 30 := t3
    have ev : vp_updL C' x (mkc 1 (nI a')) x = mkc 1 (nI a') := pk_uLs
    have nl : ¬ ldb hf B 1 a' := fun q => by unfold ldb at q; omega
    have j1 : σ2.1 13 + 1 = nI (l' + 1) := by rw [j13, nI_1]
    refine ⟨sm_q (sm_i σ2 13 (nI (l' + 1))) 17 (vp_updL C' x (mkc 1 (nI a'))), F', vp_updL C' x (mkc 1 (nI a')), ml', l' + 1, ⟨k0.L (I := I133) (D := vp_updL C' x (mkc 1 (nI a'))) (frL.q (frL_r.i (by unfold I133; omega))) (fun k q => by unfold I133; omega), k1, k2, k3, k4, k5, k6, k7, va_up_self σ2.2.2.2.2 17 _, g'.wr ⟨x1, x2⟩ (Or.inl ⟨a', t3, rfl⟩) (fun w hw' e => by rw [mk1_i t3 hw' e] at nl; exact nl) (fun q i u hq hi hxq hu hu2 hcw => ?_), k9, k10, k10', k11⟩, hQ.2 F' S R C' ml' x a a' g' hx2 hcx ha a0 hin Q2, frL.q (f2.i (by unfold I133; omega)), rfl, by omega, by omega, by omega, fF, fun e => by omega, hml, Or.inr ⟨a, a', a0, ha, hc, hin, ev⟩, fun u hu hne => (pk_uLn hne).trans (hcu u hu), fun w hw' e => ?_, fun K q => ?_⟩
    · have iz : i < z q.1 := by have := (g'.2.2.2.2.2.1 q.1).2.2; omega
      rcases (g'.2.2.2.2.2.2.2.2.2.2.2.2.2.2.2.2.1 q i hq iz).2.1 u hi hu hu2 hcw with r | ⟨_, r⟩
      · exact r
      · rw [← hxq, hcx] at r
        rw [← mk1_i ha hu2 r]
        exact ⟨a', hin⟩
    · rw [ev] at e
      rw [mk1_i t3 hw' e] at nl
      exact nl
    · rw [ev] at q
      unfold mp_X1_read mp_X1_read_31
      refine lk _ ?_
      rw [hc]
      refine llb _ ?_
      refine ⟨fun q => absurd q (by decide), fun _ => ?_⟩
      rw [mk_lo (by decide)]
      refine a2 _ ?_
      refine l_put (by omega) (by omega) (by omega) ?_
      rw [j1, k8]
      exact q
  · -- it does not
    refine ⟨sm_i σ 13 (nI (l + 1)), F, C, ml, l + 1, ⟨h0.f (I := I133) (A := A0) (fr_r.i (by unfold I133; omega)) (fun k q => by unfold I133; omega) (fun r j _ _ _ q => q), h1, h2, h3, h4, h5, h6, h7, h8, g, h9, h10, h10', h11⟩, q0, by rw [← h8]; exact frL_r.i (by unfold I133; omega), rfl, by omega, by omega, by omega, ⟨Nat.le_refl _, by omega⟩, fun _ => rfl, fun q hq => hq, Or.inl rfl, fun u _ _ => rfl, fun w hw' e q => cl ⟨w, hw', e, q⟩, fun K q => ?_⟩
    unfold mp_X1_read mp_X1_read_31
    refine lk _ ?_
    rcases x3 with ⟨a, ha, hc⟩ | ⟨k, v, u1, u2, hc⟩
    · rw [hc] at q ⊢
      refine l_lb (σ := sm_i σ 13 (nI (l + 1))) (a := a) (hf := hf) (B := B) h1 h2 (by decide) (by omega) (fun _ => by omega) (fun _ => rfl) (fun q' => absurd ⟨a, ha, hc, q'⟩ cl) (fun _ => ?_)
      exact ⟨fun _ => q, fun e => absurd rfl e⟩
    · rw [hc] at q ⊢
      refine l_lb (σ := sm_i σ 13 (nI (l + 1))) (a := 0) (hf := hf) (B := B) h1 h2 (by omega) (by omega) (fun _ => by omega) (fun e => absurd e u2) (fun q' => absurd q'.1 u2) (fun _ => ?_)
      exact ⟨fun _ => q, fun e => absurd rfl e⟩
