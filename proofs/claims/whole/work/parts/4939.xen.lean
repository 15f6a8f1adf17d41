/-! ===== a new frame: the class ===== -/
def Ien (k : Nat) : Prop := k = 10 ∨ k = 13 ∨ (23 ≤ k ∧ k ≤ 28)
section
variable {σ0 σ σ' σ1 σ2 σA : sm_S} {T : Nat → Nat → Nat} {b : Nat → Nat} {h k lim md cy rch n : Nat} {L : Nat → Prop} {N : Nat → AN} {f : AF} {r fs : List AF} {fl st B F S R fr : Nat} {C D C0 : Nat → Int64} {s0 : List Nat} {ml : List (Nat × Nat)} {nb : List Nat} {z lv y al : Nat → Nat} {fas t : List Nat} {tp m pc ht nx l : Nat} {K : jk}
/-- the cells that were made are a frame now -/
theorem RXg.nf {nf : AF} (hw : wf T b) (x : RXg σ T b h k lim md cy rch L N fs 0 B F S R fr C C0 s0 ml nb z lv y al fas) (hx : fr + 16 = R) (hF : F ≤ fr) (hf : frL Ien σ σ' D) (i10 : σ'.1 10 = nI fr) (ho : ∀ u, ¬ (fr ≤ u ∧ u < R) → D u = C u) (hfr : frc T D s0 ml nb al nf fr (fas.headD 0)) (hg : ∀ i, i < 16 → okx (D (fr + i)) ∧ ∀ w, w < 2 ^ 30 → D (fr + i) = mkc 1 (nI w) → ¬ ldb (2 * h + 64) B 1 w) (hL : ∀ i k, i < T 15 nf.1 + nf.2.2.1 → nf.2.2.2 i = .inr (k + 1) → L k) : RXg σ' T b h k lim md cy rch L N (nf :: fs) 0 B F S fr fr D C0 s0 ml (fr :: nb) z lv (va_up y fr 16) al (fr :: fas) := by
  obtain ⟨x1, x2, ⟨i6, i7, i8, i9, -⟩, x4, x5, x6, x7, x8, x9, x10⟩ := x
  have hT : ∀ m, m < T 0 1 → T 15 m + T 16 m ≤ 12 := fun m hm => (hw.2.2.2.2.2.2.2.2.1 m hm).2.2.2.2.2.2.1
  have g := x1.2.2.2.2.2.2.2.2.2.1
  have ni : ∀ kk, ¬ Ien kk → σ'.1 kk = σ.1 kk := hf.2.2.2.2.2
  have g' := g.nw hx hF (by decide) (by decide) ho hg
  refine ⟨⟨x1.1.L hf (fun k q => by unfold Ien; omega), by rw [ni 1 (by unfold Ien; omega)]; exact x1.2.1, by rw [ni 2 (by unfold Ien; omega)]; exact x1.2.2.1, by rw [ni 3 (by unfold Ien; omega)]; exact x1.2.2.2.1, by rw [ni 4 (by unfold Ien; omega)]; exact x1.2.2.2.2.1, by rw [ni 5 (by unfold Ien; omega)]; exact x1.2.2.2.2.2.1, by rw [hf.2.1]; exact x1.2.2.2.2.2.2.1, by rw [hf.2.1]; exact x1.2.2.2.2.2.2.2.1, hf.2.2.2.2.1, g', x1.2.2.2.2.2.2.2.2.2.2.1, Nat.le_refl _, x1.2.2.2.2.2.2.2.2.2.2.2.2⟩, x2.nf hT g hx hF ho hfr hL, ⟨by rw [ni 6 (by unfold Ien; omega)]; exact i6, by rw [ni 7 (by unfold Ien; omega)]; exact i7, by rw [ni 8 (by unfold Ien; omega)]; exact i8, by rw [ni 9 (by unfold Ien; omega)]; exact i9, i10⟩, fun _ => ⟨fun i hi => Or.inr ⟨fr, i, List.mem_cons_self, by rw [va_up_self]; exact hi, rfl⟩, fun i w hi hw' hc => (hg i hi).2 w hw' hc⟩, Or.inl ⟨rfl, ?_⟩, x6, x7, x8, x9, x10⟩
  rw [ni 11 (by unfold Ien; omega)]
  rcases x5 with e | e
  · exact e.2
  · exact absurd rfl e.1
/-- the loop over the values -/
theorem l_ent {a m' rest : Nat} (hw : wf T b) (hm' : m' < T 0 1) (ha : 1 ≤ a) (hrt : rest + T 12 m' = ht) (hdj : tp + 16 ≤ a ∨ a + 16 ≤ tp) : ∀ (d j l : Nat) (σ : sm_S) (D : Nat → Int64), j + d = 12 → WK σ0 σ T b D tp m pc ht nx l → l + 2 * d < 2 ^ 19 → a + 16 ≤ σ.2.2.1 17 → (∀ σ' D' l', WK σ0 σ' T b D' tp m pc ht nx l' → l' ≤ l + 2 * d → (∀ u, ¬ (a + 4 + j ≤ u ∧ u < a + 16) → D' u = D u) → (∀ i, j ≤ i → i < 12 → D' (a + 4 + i) = if i < T 12 m' then D (tp + 4 + T 15 m + (rest + i)) else mkc 0 0) → (∀ kk, kk ≠ 13 → σ'.1 kk = σ.1 kk) → (((σ'.1 10) = 0 → (mp_X7_enter_178 K σ' (nI a))) ∧ (¬ (σ'.1 10) = 0 → (mp_X1_put σ' ((σ'.1 10) + 2) (nI rest).toInt64 (fun σ7 => mp_X7_enter_178 K σ7 (nI a)))))) → mp_X7_enter_91 K (d + 1) σ (nI m') (nI a) (nI rest) (nI j) := by
  have w4 := hw.2.2.2.1
  have y12 := (hw.2.2.2.2.2.2.2.2.1 m' hm').2.1
  intro d
  induction d with
  | zero =>
    intro j l σ D e w hl hb hK
    unfold mp_X7_enter_91
    exact ⟨fun _ => hK σ D l w (by omega) (fun u _ => rfl) (fun i h1 h2 => by omega) (fun _ _ => rfl), fun q => absurd ((nI_leI (a := 12) (by omega) (by omega)).mpr (by omega)) q⟩
  | succ d ih =>
    intro j l σ D e w hl hb hK
    have im := w.2.1
    have hLX := im.2.1
    have r21 := (im.2.2.2.2.2.2.2.2 m' hm').2.1
    have t12 := w.t12 hw
    have hht := w.2.2.2.2.2.2.2.2.2.2.1
    have h14 := w.2.2.2.2.2.2.2.2.2.2.2.2.2.1
    have h15 := w.2.2.2.2.2.2.2.2.2.2.2.2.2.2.1
    unfold mp_X7_enter_91
    refine ⟨fun q => absurd ((nI_leI (a := 12) (by omega) (by omega)).mp q) (by omega), fun _ => ⟨by rw [lx21 hLX]; exact vp_in_nI (by omega) (by decide), ?_⟩⟩
    rw [nI_clamp (by omega), r21]
    have go : ∀ (c : Int64) σ1 l1, WK σ0 σ1 T b D tp m pc ht nx l1 → l1 ≤ l + 1 → (∀ kk, kk ≠ 13 → σ1.1 kk = σ.1 kk) → c = (if j < T 12 m' then D (tp + 4 + T 15 m + (rest + j)) else mkc 0 0) → mp_X7_enter_141 (mp_X7_enter_91 K (d + 1)) K σ1 (nI m') (nI a) (nI rest) (nI j) (nI a + 4 + nI j) c := fun c σ1 l1 w1 hl1 n1 ec => by
      unfold mp_X7_enter_141
      rw [l_4, nI_add, nI_add]
      have len1 : σ1.2.2.1 17 = σ.2.2.1 17 := by rw [w1.1.2.1, w.1.2.1]
      have hD : σ1.2.2.2.2 17 = D := w1.1.2.2.2.2.1
      have h16 := w1.2.2.2.2.2.2.2.2.2.2.2.2.2.2.2
      refine l_put (by omega) (by omega) (by omega) ?_
      rw [hD, w1.2.2.2.2.2.2.2.1, nI_1 l1]
      have w2 := (w1.l1 (l' := l1 + 1) (by omega)).q1 (vp_updL D (a + 4 + j) c)
      obtain ⟨σ2, es2⟩ : ∃ σ2, σ2 = sm_q (sm_i σ1 13 (nI (l1 + 1))) 17 (vp_updL D (a + 4 + j) c) := ⟨_, rfl⟩
      rw [← es2]
      rw [← es2] at w2
      intro v2 e2
      rw [e2, nI_1]
      have n2 : ∀ kk, kk ≠ 13 → σ2.1 kk = σ.1 kk := fun kk hk => by
        rw [es2]
        exact (va_up_ne _ _ hk).trans (n1 kk hk)
      have len2 : σ2.2.2.1 17 = σ.2.2.1 17 := by rw [w2.1.2.1, w.1.2.1]
      refine ih (j + 1) (l1 + 1) σ2 _ (by omega) w2 (by omega) (by omega) (fun σ' D' l' w' hl' h1 h2 h3 => hK σ' D' l' w' (by omega) (fun u hu => ?_) (fun i i1 i2 => ?_) (fun kk hk => (h3 kk hk).trans (n2 kk hk)))
      · rw [h1 u (by omega), pk_uLn (by omega)]
      · by_cases e : i = j
        · rw [e, h1 _ (by omega), pk_uLs, ec]
        · rw [h2 i (by omega) i2]
          by_cases c' : i < T 12 m'
          · rw [if_pos c', if_pos c', pk_uLn (by omega)]
          · rw [if_neg c', if_neg c']
    refine ⟨fun q => ?_, fun q => ?_⟩
    · have c : ¬ j < T 12 m' := by
        have := (nI_leI (by omega) (by omega)).mp q
        omega
      exact go _ σ l w (by omega) (fun _ _ => rfl) (by rw [if_neg c, mk_0])
    · have c : j < T 12 m' := by
        have : ¬ T 12 m' ≤ j := fun z => q ((nI_leI (by omega) (by omega)).mpr z)
        omega
      rw [nI_add]
      refine k_slot hw w ?_
      refine k_look2 w (by omega) (by omega) (by omega) (fun σ1 w1 n1 => ?_)
      exact go _ σ1 (l + 1) w1 (by omega) n1 (by rw [if_pos c])
/-- the frames behind a call -/
def cfr (T : Nat → Nat → Nat) (f : AF) (m' : Nat) : AF := (m', 0, 0, fun i => if i < T 12 m' then f.2.2.2 (T 15 f.1 + (f.2.2.1 - T 12 m') + i) else .inl 0)
def cbl (T : Nat → Nat → Nat) (f : AF) (m' : Nat) : AF := (f.1, f.2.1, f.2.2.1 - T 12 m', f.2.2.2)
theorem k_enter {m' : Nat} {ids : List Nat} (hw : wf T b) (x : RXg σ T b h k lim md cy rch L N (f :: r) 0 B F S R R C C0 s0 ml nb z lv y al (tp :: t)) (hn : ∀ i, L i → i < n) (hf : frL Ixs σA σ C) (i12 : σ.1 12 = 1) (i22 : σ.1 22 = nI 1) (i23 : σ.1 23 = nI (f :: r).length) (w : WK σ σ T b C tp f.1 pc f.2.2.1 nx l) (hl : l ≤ 100) (hm' : m' < T 0 1) (hp : T 12 m' ≤ f.2.2.1) (hr : rls T N (f :: r) ids)
    (h0 : rch ≤ k * md → lim < rch → sNO σA K T b h k lim md cy rch n N (f :: r))
    (hK : ¬ (rch ≤ k * md ∧ lim < rch) → sOK σA K T b h k lim (mm k lim md rch 16) (mcy k lim md rch cy 16) (mr T N (f :: r) ids k lim md rch 16) n N (cfr T f m' :: cbl T f m' :: r) 0 1) : mp_X7_enter σ (nI m') (fun r s => mp_X7_step_164 K s r) := by
  have k64 := x.2.2.2.2.2.2.2.2.2.2.2.2.1
  have hk1 := x.2.2.2.2.2.2.2.2.2.2.2.1
  have w4 := hw.2.2.2.1
  have yy := hw.2.2.2.2.2.2.2.2.1 m' hm'
  have y12 := yy.2.1
  have y15 := yy.2.2.2.2.2.1
  have y16 := yy.2.2.2.2.2.2.1
  clear yy
  have t12 := w.t12 hw
  have hht := w.2.2.2.2.2.2.2.2.2.2.1
  unfold mp_X7_enter
  rw [l_16]
  refine k_make hw x w (by decide) hr (by omega) (fun u1 u2 => ⟨fun q => absurd rfl q, fun _ => ?_⟩) (fun σ3 L' B' F' S' R' fr' C' C0' s0' ml' nb' z' lv' al' tp' t' l' nst x1 e1 e2 e3 e4 e5 w3 e6 f1 => ?_)
  · unfold mp_X7_step_164
    refine ⟨fun _ => ⟨fun _ => ?_, fun q => absurd (by decide) q⟩, fun q => absurd q (by decide)⟩
    exact s_stuck x hn hf i12 w.2.2.2.2.2.2.2.1 (by omega) i23 (h0 u1 u2)
  · have l30 := w3.2.2.2.2.2.2.2.2.2.2.2.2.2.2.2
    refine ⟨fun _ => ?_, fun q => absurd q (nI_ne0 (by omega) (by omega))⟩
    have im := w3.2.1
    have hLX := im.2.1
    have r21 := (im.2.2.2.2.2.2.2.2 m' hm').2.1
    rw [nI_clamp (by omega), r21, w3.2.2.2.2.2.2.1]
    refine ⟨by rw [lx21 hLX]; exact vp_in_nI (by omega) (by decide), ?_⟩
    intro v18 e18
    rw [nI_sub hp] at e18
    rw [e18]
    have g1 := x1.1.2.2.2.2.2.2.2.2.2.1
    have hnn := lan_in nb' R' g1.2.2.1
    have gF := lay_in ml' F' g1.2.1
    have ob := g1.ob
    have tb := x1.tb
    have dj : tp' + 16 ≤ fr' ∨ fr' + 16 ≤ tp' := by
      have := lbs_n g1 e1 e2 (by decide) (x1.2.1.2.2.1 tp' List.mem_cons_self) (by decide)
      omega
    unfold mp_X1_cell
    refine k_put w3 e3 (by omega) (by omega) (fun σ4 w4' => ?_)
    have len4 : σ4.2.2.1 17 = σ3.2.2.1 17 := by rw [w4'.1.2.1]
    rw [nI_1, mk_0]
    refine k_put w4' (by omega) (by omega) (by omega) (fun σ5 w5 => ?_)
    have len5 : σ5.2.2.1 17 = σ3.2.2.1 17 := by rw [w5.1.2.1]
    rw [k_p2]
    refine k_put w5 (by omega) (by omega) (by omega) (fun σ6 w6 => ?_)
    have len6 : σ6.2.2.1 17 = σ3.2.2.1 17 := by rw [w6.1.2.1]
    rw [w6.2.2.1, l_3, nI_add]
    refine k_put w6 (by omega) (by omega) (by omega) (fun σ7 w7 => ?_)
    have len7 : σ7.2.2.1 17 = σ3.2.2.1 17 := by rw [w7.1.2.1]
    refine ⟨13, ?_⟩
    refine l_ent (m' := m') (rest := f.2.2.1 - T 12 m') hw hm' e3 (by omega) dj 12 0 (l' + 1 + 1 + 1 + 1) σ7 _ (by omega) w7 (by omega) (by omega) (fun σ8 D8 l8 w8 hl8 o8 v8 n8 => ?_)
    have i10 := w8.2.2.1
    have len8 : σ8.2.2.1 17 = σ3.2.2.1 17 := by rw [w8.1.2.1]
    rw [i10]
    refine ⟨fun q => absurd q (nI_ne0 (by omega) (by omega)), fun _ => ?_⟩
    rw [k_p2, mk_N (by omega)]
    refine k_put w8 (by omega) (by omega) (by omega) (fun σ9 w9 => ?_)
    unfold mp_X7_enter_178
    intro s1 q1 s2 q2
    -- the cells
    have d0 : D8 fr' = mkc 5 (nI m') := by rw [o8 _ (by omega), pk_uLn (by omega), pk_uLn (by omega), pk_uLn (by omega), pk_uLs]; rfl
    have d1 : D8 (fr' + 1) = mkc 0 (nI 0) := by rw [o8 _ (by omega), pk_uLn (by omega), pk_uLn (by omega), pk_uLs]; rfl
    have d2 : D8 (fr' + 2) = mkc 0 (nI 0) := by rw [o8 _ (by omega), pk_uLn (by omega), pk_uLs]; rfl
    have d3 : D8 (fr' + 3) = mkc 1 (nI tp') := by rw [o8 _ (by omega), pk_uLs]; rfl
    have dout : ∀ u, ¬ (fr' ≤ u ∧ u < R') → D8 u = C' u := fun u hu => by
      rw [o8 _ (by omega), pk_uLn (by omega), pk_uLn (by omega), pk_uLn (by omega), pk_uLn (by omega)]
    have dval : ∀ i, i < 12 → D8 (fr' + 4 + i) = if i < T 12 m' then C' (tp' + 4 + (T 15 f.1 + (f.2.2.1 - T 12 m') + i)) else mkc 0 0 := fun i hi => by
      rw [v8 i (by omega) hi]
      by_cases c : i < T 12 m'
      · rw [if_pos c, if_pos c, pk_uLn (by omega), pk_uLn (by omega), pk_uLn (by omega), pk_uLn (by omega)]
        congr 1
        omega
      · rw [if_neg c, if_neg c]
    obtain ⟨tv1, fc1⟩ := x1.tv
    -- the caller's height
    have xa := x1.tf (σ' := sm_q σ3 17 (vp_updL C' (tp' + 2) (mkc 0 (nI (f.2.2.1 - T 12 m'))))) (pc' := f.2.1) (ht' := f.2.2.1 - T 12 m') (vs' := f.2.2.2) hw (frL.q (D := C') (by have := frL_r (I := Ist) (σ := σ3); rw [x1.1.2.2.2.2.2.2.2.2.1] at this; exact this)) (fun u hu => pk_uLn (by omega)) (pk_uLn (by omega)) (by rw [pk_uLn (by omega)]; exact fc1.2.2.2.2.1) pk_uLs fc1.2.1 (by omega) (fun i hi => by rw [pk_uLn (by omega)]; exact tv1.2.2 i (by omega)) (fun i hi => by rw [pk_uLn (by omega)]; exact tv1.2.1 i hi) (fun i k hi hk => x1.2.1.2.2.2.2.2.2.2 f List.mem_cons_self i k (by omega) hk)
    have hL1 := x1.2.1.2.2.2.2.2.2.2 f List.mem_cons_self
    have z31 := (lbs_1 g1 (x1.2.1.2.2.1 tp' List.mem_cons_self))
    have ntl : ¬ ldb (2 * h + 64) B' 1 tp' := fun q => by
      have := g1.tc (tb.2.2.2.1 0 (by decide))
      have := q.2.2
      omega
    have cst : cano s0' ml' nb' tp' tp' := (x1.2.1.2.2.1 tp' List.mem_cons_self).cs
    obtain ⟨E, hE⟩ : ∃ E, E = vp_updL D8 (tp' + 2) (mkc 0 (nI (f.2.2.1 - T 12 m'))) := ⟨_, rfl⟩
    rw [← hE] at w9
    have eE : ∀ u, u ≠ tp' + 2 → E u = D8 u := fun u hu => by rw [hE, pk_uLn hu]
    have fE : frL Irn σ3 σ9 E := w9.1
    have f2' : frL Ien (sm_q σ3 17 (vp_updL C' (tp' + 2) (mkc 0 (nI (f.2.2.1 - T 12 m'))))) s2 E := by
      rw [q2, q1]
      refine (frL.i (frL.i ?_ (by unfold Ien; omega)) (by unfold Ien; omega))
      exact ⟨fE.1, fE.2.1, fE.2.2.1, fun r q => (fE.2.2.2.1 r q).trans (va_up_ne σ3.2.2.2.2 _ q).symm, fE.2.2.2.2.1, fun k q => fE.2.2.2.2.2 k (fun z => q (by unfold Irn at z; unfold Ien; omega))⟩
    have xb := xa.nf (σ' := s2) (D := E) (nf := cfr T f m') hw e1 e2 f2' (by rw [q2, q1]; rfl) (fun u hu => by
        by_cases e : u = tp' + 2
        · rw [e, hE, pk_uLs, pk_uLs]
        · rw [eE u e, dout u hu, pk_uLn e]) ⟨hm', by show 0 < 2 ^ 16; decide, Nat.zero_le _, by rw [eE _ (by omega)]; exact d0, by rw [eE _ (by omega)]; exact d1, by rw [eE _ (by omega)]; exact d2, ⟨tp', by omega, by rw [eE _ (by omega)]; exact d3, Or.inr ⟨by show tp' ≠ 0; omega, by omega, cst⟩⟩, fun i hi => ?_⟩ (fun i hi => ?_) (fun i k hi hk => ?_)
    · have fxs : frL Ixs σA s2 E := by
        rw [q2, q1]
        exact (((hf.t (f1.m (fun k q => by unfold Imk at q; unfold Ixs; omega))).t w9.fx).i (by unfold Ixs; omega)).i (by unfold Ixs; omega)
      have nj : ∀ kk, kk = 12 ∨ kk = 22 ∨ kk = 23 → σ9.1 kk = σ.1 kk := fun kk hkk => (fE.2.2.2.2.2 kk (fun z => by unfold Irn at z; omega)).trans (f1.2.2.2.2.2 kk (fun z => by unfold Imk at z; omega))
      unfold mp_X7_step_164
      refine ⟨fun _ => ⟨fun _ => ?_, fun q => absurd (by decide) q⟩, fun q => absurd q (by decide)⟩
      refine s_end xb (fun i hi => hn i (e5 i hi)) fxs (by rw [q2, q1]; show σ9.1 12 = 1; rw [nj 12 (by omega)]; exact i12) (by rw [q2, q1]; exact w9.2.2.2.2.2.2.2.1) (by omega) (by rw [q2, q1]; show σ9.1 22 = _; rw [nj 22 (by omega)]; exact i22) ?_ (by decide) (hK nst)
      rw [q2, q1]
      show σ9.1 23 + 1 = _
      rw [nj 23 (by omega), i23, nI_1]
      rfl
    · show vcl s0' ml' nb' al' (if i < T 12 m' then f.2.2.2 (T 15 f.1 + (f.2.2.1 - T 12 m') + i) else .inl 0) _
      have hi : i < T 15 m' + 0 := hi
      rw [eE _ (by omega), dval i (by omega)]
      by_cases c : i < T 12 m'
      · rw [if_pos c, if_pos c]
        exact tv1.2.2 _ (by omega)
      · rw [if_neg c, if_neg c]
        exact vcl_n 0
    · by_cases j0 : i = 0
      · rw [j0, Nat.add_zero, eE _ (by omega), d0]
        exact ⟨Or.inr ⟨5, _, by decide, by decide, rfl⟩, fun w _ q => absurd q (mk_ne1 (by decide) (by decide))⟩
      by_cases j1 : i = 1
      · rw [j1, eE _ (by omega), d1]; exact gcl_n _ _ _
      by_cases j2 : i = 2
      · rw [j2, eE _ (by omega), d2]; exact gcl_n _ _ _
      by_cases j3 : i = 3
      · rw [j3, eE _ (by omega), d3]
        exact ⟨Or.inl ⟨tp', by omega, rfl⟩, fun w hw' q => by rw [← mk1_i (by omega) hw' q]; exact ntl⟩
      · have := dval (i - 4) (by omega)
        rw [show fr' + 4 + (i - 4) = fr' + i by omega] at this
        rw [eE _ (by omega), this]
        by_cases c : i - 4 < T 12 m'
        · rw [if_pos c]; exact tv1.2.1 _ (by omega)
        · rw [if_neg c]; exact gcl_n _ _ _
    · have hi : i < T 15 m' + 0 := hi
      have hk : (if i < T 12 m' then f.2.2.2 (T 15 f.1 + (f.2.2.1 - T 12 m') + i) else .inl 0) = .inr (k + 1) := hk
      by_cases c : i < T 12 m'
      · rw [if_pos c] at hk
        exact hL1 _ k (by omega) hk
      · rw [if_neg c] at hk; cases hk
end
