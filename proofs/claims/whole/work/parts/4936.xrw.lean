/-! ===== rows: the class, tools ===== -/
theorem hd_mk {i n : Nat} (hi : i ≤ 32) (hn : n < 4096) : (nI i <<< ((12 : Int32) &&& 31)) ||| nI n = nI (4096 * i + n) := by
  rw [pk_shlN ((12 : Int32) &&& 31) 12 (by decide) (by omega)]
  apply Int32.toBitVec_inj.mp
  apply BitVec.eq_of_toNat_eq
  show ((nI (i * 2 ^ 12)).toBitVec ||| (nI n).toBitVec).toNat = _
  rw [BitVec.toNat_or, pk_tn (by omega), pk_tn (by omega), pk_tn (by omega), Nat.mul_comm i, ← Nat.two_pow_add_eq_or_of_lt (by omega) i]
theorem hd_ln {i n : Nat} (hi : i ≤ 32) (hn : n < 4096) : nI (4096 * i + n) &&& 4095 = nI n := by
  rw [pk_andN (by omega) 12 (by decide)]
  congr 1
  omega
theorem hd_it {i n : Nat} (hi : i ≤ 32) (hn : n < 4096) : nI (4096 * i + n) >>> ((12 : Int32) &&& 31) = nI i := by
  rw [pk_shrN (by omega) ((12 : Int32) &&& 31) 12 (by decide)]
  congr 1
  omega
theorem w_span {σ : sm_S} {n : Nat} {K : jk} (hn : n ≤ 3375) (hK : K (nI (15 ^ dpt n)) σ) : mp_X1_span σ (nI n) K := by
  unfold dpt at hK
  unfold mp_X1_span mp_X1_span_25
  by_cases c1 : n ≤ 15
  · rw [if_pos c1] at hK
    exact ⟨fun q => absurd ((nI_ltI (a := 15) (by omega) (by omega)).mp q) (by omega), fun _ => hK⟩
  · rw [if_neg c1] at hK
    refine ⟨fun _ => ?_, fun q => absurd ((nI_ltI (a := 15) (by omega) (by omega)).mpr (by omega)) q⟩
    by_cases c2 : n ≤ 225
    · rw [if_pos c2] at hK
      exact ⟨fun q => absurd ((nI_ltI (a := 225) (by omega) (by omega)).mp q) (by omega), fun _ => hK⟩
    · rw [if_neg c2] at hK
      exact ⟨fun _ => hK, fun q => absurd ((nI_ltI (a := 225) (by omega) (by omega)).mpr (by omega)) q⟩
/-- a new row, a new child -/
def nrw (it n : Nat) : AN := (3, n, it, fun _ => if it = 0 ∧ dpt n = 0 then .inl 0 else .inr 0)
def nch (lv it : Nat) : AN := (4, lv, it, fun _ => if it = 0 ∧ lv = 0 then .inl 0 else .inr 0)
/-- the way to item i of node q, whose children are d deep: q' and j, and how deep it ends if a child lacks -/
def pth (T : Nat → Nat → Nat) (N : Nat → AN) : Nat → Nat → Nat → Nat → Nat → Nat → Prop
  | 0, q, i, q', j, lk => npt T (N q) = 15 ∧ i < 15 ∧ q' = q ∧ j = i ∧ lk = 0
  | d + 1, q, i, q', j, lk => npt T (N q) = 15 ∧ i / 15 ^ (d + 1) < 15 ∧ (((N q).2.2.2 (i / 15 ^ (d + 1)) = .inr 0 ∧ q' = q ∧ j = i / 15 ^ (d + 1) ∧ lk = d + 1) ∨ ∃ u, (N q).2.2.2 (i / 15 ^ (d + 1)) = .inr (u + 1) ∧ pth T N d u (i % 15 ^ (d + 1)) q' j lk)
theorem pth_end {T : Nat → Nat → Nat} {N : Nat → AN} : ∀ (d q i q' j lk : Nat), pth T N d q i q' j lk → npt T (N q') = 15 ∧ j < 15 ∧ (lk ≠ 0 → (N q').2.2.2 j = .inr 0) ∧ lk ≤ d := by
  intro d
  induction d with
  | zero =>
    intro q i q' j lk h
    obtain ⟨h1, h2, h3, h4, h5⟩ := h
    subst h3 h4 h5
    exact ⟨h1, h2, fun q => absurd rfl q, Nat.le_refl _⟩
  | succ d ih =>
    intro q i q' j lk h
    obtain ⟨h1, h2, ⟨h3, h4, h5, h6⟩ | ⟨u, h3, h4⟩⟩ := h
    · subst h4 h5 h6
      exact ⟨h1, h2, fun _ => h3, Nat.le_refl _⟩
    · obtain ⟨k1, k2, k3, k4⟩ := ih u _ q' j lk h4
      exact ⟨k1, k2, k3, by omega⟩
theorem pth_up {T : Nat → Nat → Nat} {N N' : Nat → AN} {L : Nat → Prop} (hN : ∀ u, L u → N' u = N u) (hL : ∀ i j k, L i → j < npt T (N i) → (N i).2.2.2 j = .inr (k + 1) → L k) : ∀ (d q i q' j lk : Nat), L q → pth T N d q i q' j lk → pth T N' d q i q' j lk ∧ L q' := by
  intro d
  induction d with
  | zero =>
    intro q i q' j lk hq h
    obtain ⟨h1, h2, h3, h4, h5⟩ := h
    exact ⟨⟨by rw [hN q hq]; exact h1, h2, h3, h4, h5⟩, by rw [h3]; exact hq⟩
  | succ d ih =>
    intro q i q' j lk hq h
    obtain ⟨h1, h2, ⟨h3, h4, h5, h6⟩ | ⟨u, h3, h4⟩⟩ := h
    · exact ⟨⟨by rw [hN q hq]; exact h1, h2, Or.inl ⟨by rw [hN q hq]; exact h3, h4, h5, h6⟩⟩, by rw [h4]; exact hq⟩
    · obtain ⟨k1, k2⟩ := ih u _ q' j lk (hL q _ u hq (by omega) h3) h4
      exact ⟨⟨by rw [hN q hq]; exact h1, h2, Or.inr ⟨u, by rw [hN q hq]; exact h3, k1⟩⟩, k2⟩
def Ifd (k : Nat) : Prop := k = 3 ∨ k = 13 ∨ k = 28
section
variable {σ0 σ σ' σ1 σ2 : sm_S} {T : Nat → Nat → Nat} {b : Nat → Nat} {h k lim md cy rch n : Nat} {L : Nat → Prop} {N : Nat → AN} {f : AF} {r fs : List AF} {fl st B F S R fr : Nat} {C D C0 : Nat → Int64} {s0 : List Nat} {ml : List (Nat × Nat)} {nb : List Nat} {z lv y al : Nat → Nat} {fas t : List Nat} {tp m pc ht nx l : Nat} {K : jk}
theorem WK.k1 {v : Int32} (w : WK σ0 σ T b D tp m pc ht nx l) : WK σ0 (sm_i σ 28 v) T b D tp m pc ht nx l := by
  obtain ⟨h1, h2, h3, h4, h5, h6, h7, h8, h9, h10, h11, h12, h13, h14, h15, h16⟩ := w
  exact ⟨h1.i (by unfold Irn; omega), h2.f (I := Irn) (A := A0) (fr_r.i (by unfold Irn; omega)) (fun k q => by unfold Irn; omega) (fun r j _ _ _ q => q), h3, h4, h5, h6, h7, h8, h9, h10, h11, h12, h13, h14, h15, h16⟩
theorem l_find {q' j lk : Nat} (hw : wf T b) : ∀ (d q i l : Nat) (σ : sm_S) (F : Nat) (C : Nat → Int64) (ml : List (Nat × Nat)) (al : Nat → Nat) (t : List Nat), RXg σ T b h k lim md cy rch L N (f :: r) 0 B F S R R C C0 s0 ml nb z lv y al (tp :: t) → WK σ σ T b C tp m pc ht nx l → d ≤ 2 → L q → (∀ j, j < 1 + npt T (N q) → tcl' ml nb z y (al q + j)) → pth T N d q i q' j lk → i < 2 ^ 20 → l + 36 * d < 2 ^ 18 → σ.1 28 = 0 →
    (∀ σ' F' C' ml' al' t' l', RXg σ' T b h k lim md cy rch L N (f :: r) 0 B F' S R R C' C0 s0 ml' nb z lv y al' (tp :: t') → WK σ' σ' T b C' tp m pc ht nx l' → l' ≤ l + 36 * d → frL Ifd σ σ' C' → (∀ i, tcl' ml nb z y (al i) → al' i = al i) → (∀ q, q ∈ ml → q ∈ ml') → (∀ i, i < 16 → C' (tp + i) = C (tp + i)) → (∀ j, j < 1 + npt T (N q') → tcl' ml' nb z y (al' q' + j)) → L q' → ((lk = 0 ∧ σ'.1 28 = 0) ∨ (lk ≠ 0 ∧ σ'.1 28 = nI (15 ^ lk))) → (lk ≠ 0 → C' (al' q' + 1 + j) = mkc 1 (nI 0)) → K (nI (al' q' + 1 + j)) σ') → mp_X7_find_26 K (d + 1) σ (nI (al q)) (nI i) (nI (15 ^ d)) := by
  intro d
  induction d with
  | zero =>
    intro q i l σ F C ml al t x w hd hq htc hp hi hl i28 hK
    obtain ⟨h1, h2, h3, h4, h5⟩ := hp
    subst h3 h4 h5
    unfold mp_X7_find_26
    refine ⟨fun _ => ?_, fun q => absurd (by decide) q⟩
    rw [nI_1, nI_add]
    exact hK σ F C ml al t l x w (by omega) (frL_r.d x.1.2.2.2.2.2.2.2.2.1) (fun _ _ => rfl) (fun _ q => q) (fun _ _ => rfl) htc hq (Or.inl ⟨rfl, i28⟩) (fun q => absurd rfl q)
  | succ d ih =>
    intro q i l σ F C ml al t x w hd hq htc hp hi hl i28 hK
    obtain ⟨h1, h2, h3⟩ := hp
    have p1 : 1 ≤ 15 ^ d ∧ 15 ^ d ≤ 15 := by
      have : d = 0 ∨ d = 1 := by omega
      rcases this with e | e <;> subst e <;> decide
    have p2 : 15 ^ (d + 1) = 15 ^ d * 15 := Nat.pow_succ _ _
    unfold mp_X7_find_26
    refine ⟨fun q => absurd ((nI_leI (b := 1) (by omega) (by omega)).mp q) (by omega), fun _ => ⟨nI_ne0 (by omega) (by omega), ?_⟩⟩
    intro v2 e2
    rw [pk_div (by omega) (by omega) (by omega), nI_1, nI_add] at e2
    rw [e2]
    refine k_read hw x w hq (j := i / 15 ^ (d + 1)) (by omega) htc (by omega) (fun σ' F' C' ml' al' t' l' x' w' l1 f1 c1 c2 c3 c4 c5 c6 => ?_)
    have tcq : tcl' ml nb z y (al q) := by have := htc 0 (by omega); rw [Nat.add_zero] at this; exact this
    rcases h3 with ⟨h3, h4, h5, h6⟩ | ⟨u, h3, h4⟩
    · rw [h3] at c6
      have ec : C' (al q + 1 + i / 15 ^ (d + 1)) = mkc 1 (nI 0) := by
        rcases c6 with ⟨x, h1, -⟩ | ⟨-, h1⟩ | ⟨k', w, h1, -⟩
        · cases h1
        · exact h1
        · cases h1
      subst h4 h5 h6
      rw [ec, mk_lo (by decide)]
      refine ⟨fun q => absurd rfl q, fun _ => ?_⟩
      intro s9 e9
      have w9 := w'.k1 (v := nI (15 ^ (d + 1)))
      rw [← e9] at w9
      have eal := c1 q' tcq
      rw [← eal]
      refine hK s9 F' C' ml' al' t' l' (x'.fi w9.1) w9.re (by omega) ?_ c1 c2 c3 (fun j hj => by rw [eal]; exact (htc j hj).m c2) hq (Or.inr ⟨by omega, by rw [e9]; rfl⟩) (fun _ => by rw [eal]; exact ec)
      rw [e9]
      exact (f1.m (fun k q => by unfold I133 at q; unfold Ifd; omega)).i (by unfold Ifd; omega)
    · rw [h3] at c6
      have g' := x'.1.2.2.2.2.2.2.2.2.2.1
      obtain ⟨e1, e0, e3, e4⟩ := vcl_can g' c5 c6
      have hu : L u := x.2.1.2.2.2.2.2.2.1 q _ u hq (by omega) h3
      rw [e1, mk_lo (by decide)]
      refine ⟨fun _ => ⟨nI_ne0 (by omega) (by omega), ?_⟩, fun q => absurd q (nI_ne0 (by omega) (by omega))⟩
      intro v6 e6 v7 e7
      rw [pk_rem (by omega) (by omega) (by omega)] at e6
      rw [l_15, pk_div (by omega) (by omega) (by omega), p2, Nat.mul_div_cancel _ (by decide)] at e7
      rw [e6, e7]
      have hmod : i % 15 ^ (d + 1) < 15 ^ (d + 1) := Nat.mod_lt _ (by omega)
      refine ih u (i % 15 ^ (d + 1)) l' σ' F' C' ml' al' t' x' w' (by omega) hu (x'.ar hu e4) h4 (by omega) (by omega) (by rw [f1.2.2.2.2.2 28 (by unfold I133; omega)]; exact i28) (fun σ9 F9 C9 ml9 al9 t9 l9 x9 w9 q1 q2 q3 q4 q5 q6 q7 q8 q9 => ?_)
      exact hK σ9 F9 C9 ml9 al9 t9 l9 x9 w9 (by omega) ((f1.m (fun k q => by unfold I133 at q; unfold Ifd; omega)).t q2) (fun i hi => by
        have e := c1 i hi
        have := q3 i (by rw [e]; exact hi.m c2)
        rw [this, e]) (fun p hp => q4 p (c2 p hp)) (fun i hi => (q5 i hi).trans (c3 i hi)) q6 q7 q8 q9
/-- the head of a row -/
theorem hdv_r {x : AN} (h : x.1 = 3) : hdv x = mkc 3 (nI (4096 * x.2.2.1 + x.2.1)) := by
  unfold hdv
  rw [if_neg (by omega), if_pos h]
theorem k_find {q i q' j lk : Nat} (hw : wf T b) (x : RXg σ T b h k lim md cy rch L N (f :: r) 0 B F S R R C C0 s0 ml nb z lv y al (tp :: t)) (w : WK σ σ T b C tp m pc ht nx l) (hq : L q) (hk : (N q).1 = 3) (htc : ∀ j, j < 1 + npt T (N q) → tcl' ml nb z y (al q + j)) (hp : pth T N (dpt (N q).2.1) q i q' j lk) (hi : i < 2 ^ 20) (hl : l < 2 ^ 17)
    (hK : ∀ σ' F' C' ml' al' t' l', RXg σ' T b h k lim md cy rch L N (f :: r) 0 B F' S R R C' C0 s0 ml' nb z lv y al' (tp :: t') → WK σ' σ' T b C' tp m pc ht nx l' → l' ≤ l + 73 → frL Ifd σ σ' C' → (∀ i, tcl' ml nb z y (al i) → al' i = al i) → (∀ q, q ∈ ml → q ∈ ml') → (∀ i, i < 16 → C' (tp + i) = C (tp + i)) → (∀ j, j < 1 + npt T (N q') → tcl' ml' nb z y (al' q' + j)) → L q' → ((lk = 0 ∧ σ'.1 28 = 0) ∨ (lk ≠ 0 ∧ σ'.1 28 = nI (15 ^ lk))) → (lk ≠ 0 → C' (al' q' + 1 + j) = mkc 1 (nI 0)) → K (nI (al' q' + 1 + j)) σ') : mp_X7_find σ (nI (al q)) (nI i) K := by
  unfold mp_X7_find
  intro s11 e11
  have w1 := w.k1 (v := 0)
  rw [← e11] at w1
  have t0 := htc 0 (by omega)
  rw [Nat.add_zero] at t0
  have bd := x.bd t0
  have len : s11.2.2.1 17 = σ.2.2.1 17 := by rw [w1.1.2.1]
  have j13 := w1.2.2.2.2.2.2.2.1
  have l30 := w.2.2.2.2.2.2.2.2.2.2.2.2.2.2.2
  have hC : s11.2.2.2.2 17 = C := w1.1.2.2.2.2.1
  refine l_look bd.1 (by omega) (by omega) ?_
  rw [hC, j13, nI_1]
  have w2 := w1.l1 (l' := l + 1) (by omega)
  obtain ⟨σ2, es2⟩ : ∃ σ2, σ2 = sm_i s11 13 (nI (l + 1)) := ⟨_, rfl⟩
  rw [← es2]
  rw [← es2] at w2
  have hn := (x.2.1.1 q hq).2.1 hk
  rw [x.hd hq, hdv_r hk]
  unfold mp_X1_rowLength
  rw [mk_lo (by decide), hd_ln hn.2 (by omega)]
  refine w_span hn.1 ?_
  have dp : dpt (N q).2.1 ≤ 2 := by unfold dpt; (repeat' split) <;> omega
  refine ⟨dpt (N q).2.1 + 1, ?_⟩
  have i28 : σ2.1 28 = 0 := by rw [es2, e11]; rfl
  have f2 : frL Ifd σ σ2 C := by
    rw [es2, e11, ← w.1.2.2.2.2.1]
    exact (frL_r.i (by unfold Ifd; omega)).i (by unfold Ifd; omega)
  refine l_find hw (dpt (N q).2.1) q i (l + 1) σ2 F C ml al t (x.fi w2.1) w2.re dp hq htc hp hi (by omega) i28 (fun σ9 F9 C9 ml9 al9 t9 l9 x9 w9 q1 q2 q3 q4 q5 q6 q7 q8 q9 => ?_)
  exact hK σ9 F9 C9 ml9 al9 t9 l9 x9 w9 (by omega) (f2.t q2) q3 q4 q5 q6 q7 q8 q9
theorem l_fill {a : Nat} {v : Int64} {K : sm_S → Prop} (ha : 1 ≤ a) : ∀ (d j l : Nat) (σ : sm_S) (D : Nat → Int64), j + d = 16 → WK σ0 σ T b D tp m pc ht nx l → l + d < 2 ^ 19 → a + 16 ≤ σ.2.2.1 17 → (∀ σ' D', WK σ0 σ' T b D' tp m pc ht nx (l + d) → (∀ u, ¬ (a + j ≤ u ∧ u < a + 16) → D' u = D u) → (∀ i, j ≤ i → i < 16 → D' (a + i) = v) → K σ') → mp_X7_fill_12 K (d + 1) σ (nI a) v (nI j) := by
  intro d
  induction d with
  | zero =>
    intro j l σ D e w hl hb hK
    unfold mp_X7_fill_12
    exact ⟨fun _ => hK σ D w (fun u _ => rfl) (fun i h1 h2 => by omega), fun q => absurd ((nI_leI (a := 16) (by omega) (by omega)).mpr (by omega)) q⟩
  | succ d ih =>
    intro j l σ D e w hl hb hK
    unfold mp_X7_fill_12
    refine ⟨fun q => absurd ((nI_leI (a := 16) (by omega) (by omega)).mp q) (by omega), fun _ => ?_⟩
    rw [nI_add]
    refine k_put w (by omega) (by omega) (by omega) (fun σ1 w1 => ?_)
    intro v2 e2
    rw [e2, nI_1]
    have len : σ1.2.2.1 17 = σ.2.2.1 17 := by rw [w1.1.2.1, w.1.2.1]
    refine ih (j + 1) (l + 1) σ1 _ (by omega) w1 (by omega) (by omega) (fun σ' D' w' h1 h2 => hK σ' D' (by rw [show l + (d + 1) = l + 1 + d by omega]; exact w') (fun u hu => ?_) (fun i i1 i2 => ?_))
    · rw [h1 u (by omega), pk_uLn (by omega)]
    · by_cases e : i = j
      · rw [e, h1 _ (by omega), pk_uLs]
      · exact h2 i (by omega) i2
theorem k_fill {a : Nat} {c v : Int64} {K : sm_S → Prop} (w : WK σ0 σ T b D tp m pc ht nx l) (ha : 1 ≤ a) (hb : a + 16 ≤ σ.2.2.1 17) (hl : l + 16 < 2 ^ 19) (hK : ∀ σ' D', WK σ0 σ' T b D' tp m pc ht nx (l + 16) → (∀ u, ¬ (a ≤ u ∧ u < a + 16) → D' u = D u) → D' a = c → (∀ i, 1 ≤ i → i < 16 → D' (a + i) = v) → K σ') : mp_X7_fill σ (nI a) c v K := by
  unfold mp_X7_fill
  refine k_put w ha (by omega) (by omega) (fun σ1 w1 => ?_)
  have len : σ1.2.2.1 17 = σ.2.2.1 17 := by rw [w1.1.2.1, w.1.2.1]
  refine ⟨16, ?_⟩
  refine l_fill ha 15 1 (l + 1) σ1 _ (by omega) w1 (by omega) (by omega) (fun σ' D' w' h1 h2 => hK σ' D' w' (fun u hu => ?_) ?_ h2)
  · rw [h1 u (by omega), pk_uLn (by omega)]
  · rw [h1 a (by omega), pk_uLs]
end
