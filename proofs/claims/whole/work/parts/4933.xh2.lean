/-! ===== how a step of the class ends, in general; making an object; a fault ===== -/
def Ixs (k : Nat) : Prop := (2 ≤ k ∧ k ≤ 5) ∨ (8 ≤ k ∧ k ≤ 13) ∨ (22 ≤ k ∧ k ≤ 28)
def Imn (k : Nat) : Prop := Imk k ∨ Irn k
def Ie (k : Nat) : Prop := k = 12 ∨ k = 13 ∨ (22 ≤ k ∧ k ≤ 28)
/-- what a step leaves of the rest -/
def stG (σ σ' : sm_S) : Prop := frL Ixs σ (σ'.1, σ.2.1, σ'.2.2) (σ'.2.2.2.2 17)
/-- the class stands where the abstract machine stands -/
def XH (σ : sm_S) (T : Nat → Nat → Nat) (b : Nat → Nat) (h k lim md cy rch n : Nat) (N : Nat → AN) (fs : List AF) (fl st : Nat) : Prop := ∃ L B F S R C C0 s0 ml nb z lv y al fas, RXg σ T b h k lim md cy rch L N fs fl B F S R R C C0 s0 ml nb z lv y al fas ∧ (∀ i, L i → i < n) ∧ σ.1 12 = 1 ∧ σ.1 22 = nI st ∧ σ.1 23 = nI fs.length
def sOK (σ : sm_S) (K : jk) (T : Nat → Nat → Nat) (b : Nat → Nat) (h k lim md cy rch n : Nat) (N : Nat → AN) (fs : List AF) (fl st : Nat) : Prop := ∀ σ', XH σ' T b h k lim md cy rch n N fs fl st → stG σ σ' → σ'.2.1 = va_up σ.2.1 1 (σ.2.1 1 + 1) → K 1 σ'
def sNO (σ : sm_S) (K : jk) (T : Nat → Nat → Nat) (b : Nat → Nat) (h k lim md cy rch n : Nat) (N : Nat → AN) (fs : List AF) : Prop := ∀ σ', XH σ' T b h k lim md cy rch n N fs 0 4 → stG σ σ' → σ'.2.1 = σ.2.1 → K 0 σ'
section
variable {σ0 σ σ' σ2 : sm_S} {T : Nat → Nat → Nat} {b : Nat → Nat} {h k lim md cy rch n : Nat} {L : Nat → Prop} {N : Nat → AN} {f : AF} {r fs : List AF} {fl st B F S R fr : Nat} {C D C0 : Nat → Int64} {s0 : List Nat} {ml : List (Nat × Nat)} {nb : List Nat} {z lv y al : Nat → Nat} {fas t : List Nat} {tp m pc ht nx l : Nat} {K : jk}
theorem RXg.fe (x : RXg σ T b h k lim md cy rch L N fs fl B F S R fr C C0 s0 ml nb z lv y al fas) (hf : frL Ie σ σ' C) : RXg σ' T b h k lim md cy rch L N fs fl B F S R fr C C0 s0 ml nb z lv y al fas := by
  obtain ⟨x1, x2, ⟨i6, i7, i8, i9, i10⟩, x4, x5, x6, x7, x8, x9, x10⟩ := x
  have ni : ∀ kk, ¬ Ie kk → σ'.1 kk = σ.1 kk := hf.2.2.2.2.2
  exact ⟨⟨x1.1.L hf (fun k q => by unfold Ie; omega), by rw [ni 1 (by unfold Ie; omega)]; exact x1.2.1, by rw [ni 2 (by unfold Ie; omega)]; exact x1.2.2.1, by rw [ni 3 (by unfold Ie; omega)]; exact x1.2.2.2.1, by rw [ni 4 (by unfold Ie; omega)]; exact x1.2.2.2.2.1, by rw [ni 5 (by unfold Ie; omega)]; exact x1.2.2.2.2.2.1, by rw [hf.2.1]; exact x1.2.2.2.2.2.2.1, by rw [hf.2.1]; exact x1.2.2.2.2.2.2.2.1, hf.2.2.2.2.1, x1.2.2.2.2.2.2.2.2.2⟩, x2, ⟨by rw [ni 6 (by unfold Ie; omega)]; exact i6, by rw [ni 7 (by unfold Ie; omega)]; exact i7, by rw [ni 8 (by unfold Ie; omega)]; exact i8, by rw [ni 9 (by unfold Ie; omega)]; exact i9, by rw [ni 10 (by unfold Ie; omega)]; exact i10⟩, x4, by rw [ni 11 (by unfold Ie; omega)]; exact x5, x6, x7, x8, x9, x10⟩
theorem frL.lj {I : Nat → Prop} {a c : sm_S} {E : Nat → Int64} (hf : frL I σ σ0 C) (h2 : frL I σ0 (c.1, a.2.1, c.2.2) E) : frL I σ (c.1, σ.2.1, c.2.2) E := ⟨rfl, h2.2.1.trans hf.2.1, h2.2.2.1.trans hf.2.2.1, fun r q => (h2.2.2.2.1 r q).trans (hf.2.2.2.1 r q), h2.2.2.2.2.1, fun k q => (h2.2.2.2.2.2 k q).trans (hf.2.2.2.2.2 k q)⟩
theorem s_end {xx : Int32} (x : RXg σ2 T b h k lim md cy rch L N fs fl B F S R R C C0 s0 ml nb z lv y al fas) (hn : ∀ i, L i → i < n) (hf : frL Ixs σ σ2 C) (i12 : σ2.1 12 = 1) (i13 : σ2.1 13 = nI l) (hl : l ≤ 700 * k + 200) (i22 : σ2.1 22 = nI st) (i23 : σ2.1 23 = nI fs.length) (hx : xx ≠ -3) (hK : sOK σ K T b h k lim md cy rch n N fs fl st) : mp_X7_step_224 K σ2 xx := by
  have hC : σ2.2.2.2.2 17 = C := x.1.2.2.2.2.2.2.2.2.1
  have hk := x.2.2.2.2.2.2.2.2.2.2.2.2.1
  have i6 := x.2.2.1.1
  refine k_end (σ0 := σ2) (T := T) (b := b) (frL_r.d hC) i6 hk i12 i13 hl hx (fun σ' g1 g2 g3 => ?_)
  have x' := RXg.lj (x.fe (g1.m (fun k q => by unfold Ist at q; unfold Ie; omega)))
  have ni := g1.2.2.2.2.2
  refine hK σ' ⟨L, B, F, S, R, C, C0, s0, ml, nb, z, lv, y, al, fas, x', hn, g3, ?_, ?_⟩ ?_ ?_
  · rw [← i22]; exact ni 22 (by unfold Ist; omega)
  · rw [← i23]; exact ni 23 (by unfold Ist; omega)
  · have e17 : σ'.2.2.2.2 17 = C := g1.2.2.2.2.1
    unfold stG
    rw [e17]
    exact hf.lj (a := σ2) (g1.m (fun k q => by unfold Ist at q; unfold Ixs; omega))
  · rw [g2, hf.1]
theorem s_stuck (x : RXg σ2 T b h k lim md cy rch L N fs 0 B F S R R C C0 s0 ml nb z lv y al fas) (hn : ∀ i, L i → i < n) (hf : frL Ixs σ σ2 C) (i12 : σ2.1 12 = 1) (i13 : σ2.1 13 = nI l) (hl : l ≤ 700 * k + 200) (i23 : σ2.1 23 = nI fs.length) (hK : sNO σ K T b h k lim md cy rch n N fs) : mp_X7_step_224 K σ2 (-3) := by
  have hC : σ2.2.2.2.2 17 = C := x.1.2.2.2.2.2.2.2.2.1
  have hk := x.2.2.2.2.2.2.2.2.2.2.2.2.1
  have i6 := x.2.2.1.1
  unfold mp_X7_step_224 mp_X1_endStep mp_X1_endStep_31 mp_X1_endStep_32
  have n12 : ¬ σ2.1 12 = 0 := by rw [i12]; decide
  have n13 : ¬ (700 * σ2.1 6 + 200 < σ2.1 13) := by
    rw [i6, i13, l_700, pk_mul, l_200, nI_add]
    exact fun q => absurd ((nI_ltI (by omega) (by omega)).mp q) (by omega)
  refine ⟨fun q => absurd q n12, fun _ => ⟨fun q => absurd q n13, fun _ => ⟨sm_z1, fun s2 e2 => ⟨fun q => absurd rfl q, fun _ s3 e3 => ?_⟩⟩⟩⟩
  have f3 : frL Ie σ2 s3 C := by
    rw [e3, e2, ← hC]
    exact (frL_r.i (by unfold Ie; omega)).i (by unfold Ie; omega)
  have x' := x.fe f3
  have ni := f3.2.2.2.2.2
  refine hK s3 ⟨L, B, F, S, R, C, C0, s0, ml, nb, z, lv, y, al, fas, x', hn, by rw [e3, e2]; rfl, by rw [e3]; rfl, ?_⟩ ?_ (f3.1.trans hf.1)
  · rw [← i23, e3, e2]; rfl
  · have e17 : s3.2.2.2.2 17 = C := f3.2.2.2.2.1
    unfold stG
    rw [e17]
    exact hf.lj (a := s3) (f3.m (fun k q => by unfold Ie at q; unfold Ixs; omega))
theorem s_done {vs' : Nat → AV} (hw : wf T b) (x : RXg σ0 T b h k lim md cy rch L N (f :: r) 0 B F S R R C C0 s0 ml nb z lv y al (tp :: t)) (hn : ∀ i, L i → i < n) (hf : frL Ixs σ σ0 C) (i12 : σ0.1 12 = 1) (i22 : σ0.1 22 = nI st) (i23 : σ0.1 23 = nI (f :: r).length) (w : WK σ0 σ2 T b D tp f.1 pc ht nx l) (hl : l + 2 ≤ 700 * k + 200) (hv : tv (2 * h + 64) B s0 ml nb al C tp D (T 15 f.1 + ht) vs') (hL : ∀ i k, i < T 15 f.1 + ht → vs' i = .inr (k + 1) → L k) (hK : sOK σ K T b h k lim md cy rch n N ((f.1, nx, ht, vs') :: r) 0 st) : mp_X7_step_164 K σ2 (-1) := by
  refine x_done hw x i12 w hl hv hL (fun σ' E x' s' => ?_)
  obtain ⟨g1, g2, g3⟩ := s'
  have ni := g1.2.2.2.2.2
  refine hK σ' ⟨L, B, F, S, R, E, C0, s0, ml, nb, z, lv, y, al, tp :: t, x', hn, g3, ?_, ?_⟩ ?_ ?_
  · rw [← i22]; exact ni 22 (by unfold Ist; omega)
  · rw [show ((f.1, nx, ht, vs') :: r).length = (f :: r).length from rfl, ← i23]; exact ni 23 (by unfold Ist; omega)
  · have e17 : σ'.2.2.2.2 17 = E := g1.2.2.2.2.1
    unfold stG
    rw [e17]
    exact hf.lj (a := σ0) (g1.m (fun k q => by unfold Ist at q; unfold Ixs; omega))
  · rw [g2, hf.1]
/-- a new object of a class -/
def nob (T : Nat → Nat → Nat) (c : Nat) : AN := (2, c, 0, fun j => if T 7 (15 * c + j) = 0 then .inl 0 else .inr 0)
theorem npt_ob (T : Nat → Nat → Nat) (c : Nat) : npt T (nob T c) = T 6 c := rfl
def z0c (p : Prop) [Decidable p] : Int64 := if p then mkc 0 0 else mkc 1 (nI 0)
theorem l_mobj {c a : Nat} (hw : wf T b) (hc : c < T 0 0) (ha : 1 ≤ a) : ∀ (d j l : Nat) (σ : sm_S) (D : Nat → Int64), j + d = T 6 c → WK σ0 σ T b D tp m pc ht nx l → l + d < 2 ^ 19 → a + 1 + T 6 c ≤ σ.2.2.1 17 → (∀ σ' D', WK σ0 σ' T b D' tp m pc ht nx (l + d) → (∀ u, ¬ (a + 1 + j ≤ u ∧ u < a + 1 + T 6 c) → D' u = D u) → (∀ i, j ≤ i → i < T 6 c → D' (a + 1 + i) = z0c (T 7 (15 * c + i) = 0)) → K (nI a) σ') → mp_X7_makeObject_41 K (d + 1) σ (nI c) (nI (T 6 c)) (nI a) (nI j) := by
  have w2 := hw.2.1
  have wc := hw.2.2.2.2.2.2.1 c hc
  have w6 := wc.2.1
  intro d
  induction d with
  | zero =>
    intro j l σ D e w hl hb hK
    unfold mp_X7_makeObject_41 mp_X7_makeObject_103
    refine ⟨fun _ => hK σ D w (fun u _ => rfl) (fun i h1 h2 => by omega), fun q => absurd ((nI_leI (by omega) (by omega)).mpr (by omega)) q⟩
  | succ d ih =>
    intro j l σ D e w hl hb hK
    have im := w.2.1
    have hLX := im.2.1
    have ic := (im.2.2.2.2.2.2.2.1.1 c hc).2.2 j (by omega)
    have h7 := wc.2.2.1 j (by omega)
    unfold mp_X7_makeObject_41
    refine ⟨fun q => absurd ((nI_leI (by omega) (by omega)).mp q) (by omega), fun _ => ?_⟩
    rw [l_15, pk_mul, nI_add, nI_clamp (by omega), show c * 15 + j = 15 * c + j by omega, ic]
    have t7 : T 7 (15 * c + j) < 2 ^ 31 := by
      unfold ty_ok at h7
      omega
    have go : ∀ v : Int64, v = z0c (T 7 (15 * c + j) = 0) → mp_X7_makeObject_94 (mp_X7_makeObject_41 K (d + 1)) K σ (nI c) (nI (T 6 c)) (nI a) (nI j) (nI a + 1 + nI j) v := fun v ev => by
      unfold mp_X7_makeObject_94
      rw [nI_1, nI_add]
      refine k_put w (by omega) (by omega) (by omega) (fun σ1 w1 => ?_)
      intro v2 e2
      rw [e2, nI_1]
      have len : σ1.2.2.1 17 = σ.2.2.1 17 := by rw [w1.1.2.1, w.1.2.1]
      refine ih (j + 1) (l + 1) σ1 _ (by omega) w1 (by omega) (by omega) (fun σ' D' w' h1 h2 => hK σ' D' (by rw [show l + (d + 1) = l + 1 + d by omega]; exact w') (fun u hu => ?_) (fun i i1 i2 => ?_))
      · rw [h1 u (by omega), pk_uLn (by omega)]
      · by_cases e : i = j
        · rw [e, h1 _ (by omega), pk_uLs, ev]
        · exact h2 i (by omega) i2
    refine ⟨by rw [lx13 hLX]; exact vp_in_nI (by omega) (by decide), fun q => ?_, fun q => ?_⟩
    · have n0 : ¬ T 7 (15 * c + j) = 0 := fun e => q (by rw [e]; rfl)
      unfold mp_X7_makeObject_70
      refine ⟨fun _ => go _ ?_, fun q => absurd rfl q⟩
      unfold z0c
      rw [if_neg n0, mk_nil]; rfl
    · have n0 : T 7 (15 * c + j) = 0 := (nI_eq (b := 0) t7 (by omega)).mp q
      unfold mp_X7_makeObject_70
      refine ⟨fun q => absurd q (by decide), fun _ => go _ ?_⟩
      unfold z0c
      rw [if_pos n0, mk_0]
theorem k_mobj {c : Nat} {ids : List Nat} (hw : wf T b) (x : RXg σ T b h k lim md cy rch L N (f :: r) 0 B F S R R C C0 s0 ml nb z lv y al (tp :: t)) (hn : ∀ i, L i → i < n) (w : WK σ σ T b C tp m pc ht nx l) (hc : c < T 0 0) (hr : rls T N (f :: r) ids) (hl : l < 2 ^ 17) (h0 : rch ≤ k * md → lim < rch → K 0 σ)
    (hK : ∀ (σ' : sm_S) (L' : Nat → Prop) B' F' S' R' C' C0' s0' ml' nb' z' lv' y' al' tp' t' l', ¬ (rch ≤ k * md ∧ lim < rch) → RXg σ' T b h k lim (mm k lim md rch (1 + T 6 c)) (mcy k lim md rch cy (1 + T 6 c)) (mr T N (f :: r) ids k lim md rch (1 + T 6 c)) (fun i => L' i ∨ i = n) (va_up N n (nob T c)) (f :: r) 0 B' F' S' R' R' C' C0' s0' ml' nb' z' lv' y' al' (tp' :: t') → (∀ i, L' i → L i) → al' n ≠ 0 → al' n < 2 ^ 30 → ¬ ldb (2 * h + 64) B' 1 (al' n) → tcl' ml' nb' z' y' (al' n) → WK σ' σ' T b C' tp' m pc ht nx l' → l' ≤ l + (96 * k + 580) → frL Imn σ σ' C' → K (nI (al' n)) σ') : mp_X7_makeObject σ (nI c) K := by
  have w2 := hw.2.1
  have w6 := (hw.2.2.2.2.2.2.1 c hc).2.1
  have im := w.2.1
  have hLX := im.2.1
  have k64 := x.2.2.2.2.2.2.2.2.2.2.2.2.1
  have ic := (im.2.2.2.2.2.2.2.1.1 c hc).2.1
  unfold mp_X7_makeObject
  rw [nI_clamp (by omega), ic]
  refine ⟨by rw [lx12 hLX]; exact vp_in_nI (by omega) (by decide), ?_⟩
  intro v8 e8
  rw [e8, nI_1a]
  refine k_make hw x w ⟨by omega, by omega⟩ hr (by omega) (fun a1 a2 => ⟨fun _ => h0 a1 a2, fun q => absurd rfl q⟩) (fun σ1 L' B' F' S' R' fr' C' C0' s0' ml' nb' z' lv' al' tp' t' l' nst x1 e1 e2 e3 e4 e5 w1 e6 f1 => ?_)
  have g1 := x1.1.2.2.2.2.2.2.2.2.2.1
  have gR := (lan_in nb' R' g1.2.2.1).1
  have gF := (lay_in ml' F' g1.2.1).1
  have g7 := g1.2.2.2.2.2.2.2.1
  have ob := g1.ob
  have l30 := w1.2.2.2.2.2.2.2.2.2.2.2.2.2.2.2
  refine ⟨fun q => ?_, fun _ => ?_⟩
  · have := (nI_eq (b := 0) (by omega) (by omega)).mp q
    omega
  unfold mp_X1_cell
  refine k_put w1 e3 (by omega) (by omega) (fun σ2 w2' => ?_)
  have len2 : σ2.2.2.1 17 = σ1.2.2.1 17 := by rw [w2'.1.2.1]
  refine ⟨T 6 c + 1, ?_⟩
  refine l_mobj (c := c) hw hc e3 (T 6 c) 0 (l' + 1) σ2 _ (by omega) w2' (by omega) (by omega) (fun σ3 D3 w3 o3 v3 => ?_)
  have hd : D3 fr' = hdv (nob T c) := by
    rw [o3 _ (by omega), pk_uLs]; rfl
  have x3 := x1.nn (n := n) (nd := nob T c) (s := 1 + T 6 c) hw e1 e2 (by rw [npt_ob]) (by omega) (fun q => absurd (hn n (e5 n q)) (by omega)) (fun _ => hc) (fun q => absurd q (by show ¬ (2 : Nat) = 3; decide)) w3.1 (fun u hu => by rw [o3 u (by omega), pk_uLn (by omega)]) hd (fun j hj => by
    rw [npt_ob] at hj
    rw [v3 j (by omega) hj]
    show gcl _ _ (z0c _) ∧ vcl s0' ml' nb' al' (if T 7 (15 * c + j) = 0 then .inl 0 else .inr 0) (z0c _) ∧ ∀ k, (if T 7 (15 * c + j) = 0 then Sum.inl 0 else Sum.inr 0) = Sum.inr (k + 1) → L' k
    unfold z0c
    by_cases e : T 7 (15 * c + j) = 0
    · rw [if_pos e, if_pos e]
      exact ⟨gcl_n _ _ _, vcl_n _, fun k q => by cases q⟩
    · rw [if_neg e, if_neg e]
      exact ⟨gcl_0 _ _, vcl_0, fun k q => by cases q⟩)
  have ea : va_up al' n fr' n = fr' := va_up_self _ _ _
  have nl : ¬ ldb (2 * h + 64) B' 1 fr' := fun q => by
    have := q.2.2
    omega
  have tc : tcl' ml' (fr' :: nb') z' (va_up y fr' (1 + T 6 c)) fr' := Or.inr ⟨fr', 0, List.mem_cons_self, by rw [va_up_self]; omega, rfl⟩
  have fx : frL Imn σ σ3 D3 := (f1.m (fun k q => Or.inl q)).t (w3.1.m (fun k q => Or.inr q))
  have := hK σ3 L' B' F' S' fr' D3 C0' s0' ml' (fr' :: nb') z' lv' _ (va_up al' n fr') tp' t' (l' + 1 + T 6 c) nst x3 e5 (by rw [ea]; omega) (by rw [ea]; omega) (by rw [ea]; exact nl) (by rw [ea]; exact tc) w3.re (by omega) fx
  rw [ea] at this
  exact this
/-- it flies -/
theorem RXg.fly {q : Nat} (x : RXg σ T b h k lim md cy rch L N fs 0 B F S R fr C C0 s0 ml nb z lv y al fas) (hq : L q) (ht : tcl' ml nb z y (al q)) : RXg (sm_i σ 11 (nI (al q))) T b h k lim md cy rch L N fs (q + 1) B F S R fr C C0 s0 ml nb z lv y al fas := by
  obtain ⟨x1, x2, x3, x4, x5, x6⟩ := x
  exact ⟨⟨x1.1.f (I := Ixs) (A := A0) (fr_r.i (by unfold Ixs; omega)) (fun k q => by unfold Ixs; omega) (fun r j _ _ _ q => q), x1.2⟩, x2, x3, x4, Or.inr ⟨by omega, hq, rfl, ht⟩, x6⟩
/-- nothing flies -/
theorem RXg.f0 {v : Int32} (x : RXg σ T b h k lim md cy rch L N fs fl B F S R fr C C0 s0 ml nb z lv y al fas) (hv : v = 0) : RXg (sm_i σ 11 v) T b h k lim md cy rch L N fs 0 B F S R fr C C0 s0 ml nb z lv y al fas := by
  obtain ⟨x1, x2, x3, x4, x5, x6⟩ := x
  exact ⟨⟨x1.1.f (I := Ixs) (A := A0) (fr_r.i (by unfold Ixs; omega)) (fun k q => by unfold Ixs; omega) (fun r j _ _ _ q => q), x1.2⟩, x2, x3, x4, Or.inl ⟨rfl, hv⟩, x6⟩
/-- a fault -/
theorem s_raise {q : Nat} {ids : List Nat} (hw : wf T b) (x : RXg σ0 T b h k lim md cy rch L N (f :: r) 0 B F S R R C C0 s0 ml nb z lv y al (tp :: t)) (hn : ∀ i, L i → i < n) (hf : frL Ixs σ σ0 C) (i12 : σ0.1 12 = 1) (i22 : σ0.1 22 = nI 1) (i23 : σ0.1 23 = nI (f :: r).length) (w : WK σ0 σ2 T b C tp m pc ht nx l) (hl : l ≤ 200) (hq : q < 5) (hr : rls T N (f :: r) ids)
    (h0 : rch ≤ k * md → lim < rch → sNO σ K T b h k lim md cy rch n N (f :: r))
    (hK : ¬ (rch ≤ k * md ∧ lim < rch) → sOK σ K T b h k lim (mm k lim md rch (1 + T 6 (T 10 q))) (mcy k lim md rch cy (1 + T 6 (T 10 q))) (mr T N (f :: r) ids k lim md rch (1 + T 6 (T 10 q))) (n + 1) (va_up N n (nob T (T 10 q))) (f :: r) (n + 1) 1) : mp_X7_step_164 K σ2 (nI q) := by
  have hk1 := x.2.2.2.2.2.2.2.2.2.2.2.1
  have k64 := x.2.2.2.2.2.2.2.2.2.2.2.2.1
  have hc := hw.2.2.2.2.2.2.2.1 q hq
  have im := w.2.1
  have hLX := im.2.1
  have ic := im.2.2.2.2.2.2.2.1.2.2 q hq
  have ni := w.1.2.2.2.2.2
  have j12 : σ2.1 12 = 1 := by rw [ni 12 (by unfold Irn; omega)]; exact i12
  have j22 : σ2.1 22 = nI 1 := by rw [ni 22 (by unfold Irn; omega)]; exact i22
  have j23 : σ2.1 23 = nI (f :: r).length := by rw [ni 23 (by unfold Irn; omega)]; exact i23
  have f2 : frL Ixs σ σ2 C := hf.t (w.1.m (fun k q => by unfold Irn at q; unfold Ixs; omega))
  unfold mp_X7_step_164
  refine ⟨fun _ => ⟨fun z => absurd z (nI_neg (by omega)), fun _ => ?_⟩, fun z => absurd z (nI_m1 (by omega))⟩
  unfold mp_X7_raise
  rw [nI_clamp (by omega), ic]
  refine ⟨by rw [lx16 hLX]; exact vp_in_nI (by omega) (by decide), ?_⟩
  refine k_mobj hw (x.fi w.1) hn w.re hc hr (by omega) (fun a1 a2 => ?_) (fun σ' L' B' F' S' R' C' C0' s0' ml' nb' z' lv' y' al' tp' t' l' nst x1 e1 e2 e3 e4 e5 w1 e6 f1 => ?_)
  · intro s4 e4
    refine ⟨fun q => absurd rfl q, fun _ => ?_⟩
    rw [e4]
    unfold mp_X7_raise_33
    have x4 := (x.fi w.1).f0 (v := 0) rfl
    exact s_stuck x4 hn (f2.i (by unfold Ixs; omega)) j12 w.2.2.2.2.2.2.2.1 (by omega) j23 (h0 a1 a2)
  · intro s4 e4
    have ne : ¬ nI (al' n) = 0 := fun q => e2 ((nI_eq (b := 0) (by omega) (by omega)).mp q)
    refine ⟨fun _ => ?_, fun q => absurd q ne⟩
    rw [e4]
    unfold mp_X7_raise_33
    have x4 := x1.fly (q := n) (Or.inr rfl) e5
    have nj : ∀ kk, kk = 12 ∨ kk = 22 ∨ kk = 23 → σ'.1 kk = σ2.1 kk := fun kk hkk => f1.2.2.2.2.2 kk (fun z => by unfold Imn Imk Irn at z; omega)
    exact s_end x4 (fun i hi => hi.elim (fun q => by have := hn i (e1 i q); omega) (fun q => by omega)) ((f2.t (f1.m (fun k q => by unfold Imn Imk Irn at q; unfold Ixs; omega))).i (by unfold Ixs; omega)) (by show σ'.1 12 = 1; rw [nj 12 (by omega)]; exact j12) w1.2.2.2.2.2.2.2.1 (by omega) (by show σ'.1 22 = _; rw [nj 22 (by omega)]; exact j22) (by show σ'.1 23 = _; rw [nj 23 (by omega)]; exact j23) (by decide) (hK nst)
end
