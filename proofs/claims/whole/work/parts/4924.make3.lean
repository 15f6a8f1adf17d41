/-! ===== making cells: the class, with a new cycle ===== -/
/-- the nodes that the frames reach -/
def rls (T : Nat → Nat → Nat) (N : Nat → AN) (fs : List AF) (ids : List Nat) : Prop := ids.Nodup ∧ (∀ f i k, f ∈ fs → i < T 15 f.1 + f.2.2.1 → f.2.2.2 i = .inr (k + 1) → k ∈ ids) ∧ (∀ i j k, i ∈ ids → j < npt T (N i) → (N i).2.2.2 j = .inr (k + 1) → k ∈ ids) ∧ ∀ P : Nat → Prop, (∀ f i k, f ∈ fs → i < T 15 f.1 + f.2.2.1 → f.2.2.2 i = .inr (k + 1) → P k) → (∀ i j k, i ∈ ids → P i → j < npt T (N i) → (N i).2.2.2 j = .inr (k + 1) → P k) → ∀ i, i ∈ ids → P i
/-- how many cells they have -/
def rsm (T : Nat → Nat → Nat) (N : Nat → AN) (fs : List AF) (ids : List Nat) : Nat := 16 * fs.length + sumL (fun i => 1 + npt T (N i)) ids
/-- what is live is no more than what was reached and made -/
theorem RXg.sum {σ : sm_S} {T : Nat → Nat → Nat} {b : Nat → Nat} {h k lim md cy rch : Nat} {L : Nat → Prop} {N : Nat → AN} {fs : List AF} {fl B F S R : Nat} {C C0 : Nat → Int64} {s0 : List Nat} {ml : List (Nat × Nat)} {nb : List Nat} {z lv y al : Nat → Nat} {fas : List Nat} {ids : List Nat} (hw : wf T b) (x : RXg σ T b h k lim md cy rch L N fs fl B F S R R C C0 s0 ml nb z lv y al fas) (hnd : ids.Nodup) (hL : ∀ i, i ∈ ids → L i) : rsm T N fs ids ≤ rch + md := by
  obtain ⟨x1, x2, -, -, -, -, x7, x8, -⟩ := x
  have g := x1.2.2.2.2.2.2.2.2.2.1
  obtain ⟨r1, r2, r3, r4, r5, r6, -⟩ := x2
  have fl' := (fra_f fs fas r6).1
  -- sizes
  obtain ⟨f, hf⟩ : ∃ f : Nat → Nat, f = fun a => if a ∈ fas then 16 else zf T C a := ⟨_, rfl⟩
  have nd : (fas ++ ids.map al).Nodup := nd_app r4 (nd_map hnd (fun x y hx hy e => r2 x y (hL x hx) (hL y hy) e)) (fun u hu q => by
    obtain ⟨i, hi, e⟩ := List.mem_map.mp q
    exact r5 i (hL i hi) (by rw [e]; exact hu))
  have fa : ∀ a, a ∈ fas → f a = 16 := fun a ha => by rw [hf]; exact if_pos ha
  have fi : ∀ i, i ∈ ids → f (al i) = 1 + npt T (N i) := fun i hi => by
    rw [hf]
    show (if al i ∈ fas then 16 else zf T C (al i)) = _
    rw [if_neg (r5 i (hL i hi))]
    obtain ⟨k1, k2, lb, ndd⟩ := r1 i (hL i hi)
    exact (zf_n hw.2.1 k1 k2 ndd.1).1
  have := blk_sum g (f := f) nd (fun a ha => by
    rcases List.mem_append.mp ha with q | q
    · rw [fa a q]; exact ⟨r3 a q, by decide⟩
    · obtain ⟨i, hi, e⟩ := List.mem_map.mp q
      rw [← e, fi i hi]
      exact ⟨(r1 i (hL i hi)).2.2.1, by omega⟩)
  rw [sumL_app, sumL_map, sumL_c (f := fun x => f (al x)) (g := fun i => 1 + npt T (N i)) ids fi, sumL_c (f := f) (g := fun _ => 16 * 1) fas fa] at this
  have h2 : ∀ l : List Nat, sumL (fun _ => 16 * 1) l = 16 * l.length := by
    intro l
    induction l with
    | nil => rfl
    | cons x l ih => show 16 * 1 + sumL _ l = 16 * (l.length + 1); rw [ih]; omega
  rw [h2, fl'] at this
  unfold rsm
  omega
theorem ac_flip {h k lim rch md : Nat} (a : ACb h k lim rch md) (hl : rch ≤ lim) : rch + md ≤ h + 16 := by
  have hle := a.le
  obtain ⟨a1, a2, a3, a4, a5, a6, a7, a8⟩ := a
  rcases a8 with a8 | a8
  · omega
  · have h1 : k * (rch + md) ≤ k * (h + 16) := by
      have e1 : k * (rch + md) = k * rch + k * md := Nat.mul_add _ _ _
      have e2 : k * (h + 16) = k * h + k * 16 := Nat.mul_add _ _ _
      have e3 : rch * (k + 1) ≤ lim * (k + 1) := Nat.mul_le_mul_right _ hl
      have e4 : rch * (k + 1) = rch * k + rch := Nat.mul_succ _ _
      have e5 : k * rch = rch * k := Nat.mul_comm _ _
      have e6 : k * h = h * k := Nat.mul_comm _ _
      omega
    exact Nat.le_of_mul_le_mul_left h1 a3
def Imk (k : Nat) : Prop := k = 13 ∨ (2 ≤ k ∧ k ≤ 5) ∨ (8 ≤ k ∧ k ≤ 10)
theorem e_make {σ : sm_S} {T : Nat → Nat → Nat} {b : Nat → Nat} {h k lim md cy rch n l : Nat} {L : Nat → Prop} {N : Nat → AN} {fs : List AF} {B F S R : Nat} {C C0 : Nat → Int64} {s0 : List Nat} {ml : List (Nat × Nat)} {nb : List Nat} {z lv y al : Nat → Nat} {fas ids : List Nat} (hw : wf T b) (x : RXg σ T b h k lim md cy rch L N fs 0 B F S R R C C0 s0 ml nb z lv y al fas) (hn : 1 ≤ n ∧ n ≤ 16) (hr : rls T N fs ids) (hfs : fs ≠ [] ∨ (rch = 0 ∧ md = 0)) (i13 : σ.1 13 = nI l) (hl : l < 2 ^ 19) :
    (rch ≤ k * md ∧ lim < rch ∧ ∀ K : jk, K 0 σ → mp_X1_make σ (nI n) K) ∨ (∃ σ' rch' md' cy' L' B' F' S' R' fr' C' C0' s0' ml' nb' z' lv' al' fas' l', RXg σ' T b h k lim md' cy' rch' L' N fs 0 B' F' S' R' fr' C' C0' s0' ml' nb' z' lv' y al' fas' ∧ fr' + n = R' ∧ F' ≤ fr' ∧ 1 ≤ fr' ∧ ((¬ (rch ≤ k * md ∧ lim < rch + md + n) ∧ rch' = rch ∧ md' = md + n ∧ cy' = cy ∧ L' = L) ∨ (rch ≤ k * md ∧ rch ≤ lim ∧ lim < rch + md + n ∧ rch' = rsm T N fs ids ∧ md' = n ∧ cy' = cy + 1 ∧ L' = fun i => i ∈ ids)) ∧ frL Imk σ σ' C' ∧ σ'.1 13 = nI l' ∧ l ≤ l' ∧ l' ≤ l + (96 * k + 560) ∧ ∀ K : jk, K (nI fr') σ' → mp_X1_make σ (nI n) K) := by
  have dn := x.dn
  have x' := x
  obtain ⟨x1, x2, ⟨i6, i7, i8, i9, i10⟩, x4, x5, x6, x7, x8, x9, x10⟩ := x'
  have hb := x10.le
  have hAC := x10
  obtain ⟨a1, a2, a3, a4, a5, a6, a7, a8⟩ := x10
  have g := x1.2.2.2.2.2.2.2.2.2.1
  have ob := g.ob
  have hF := x1.F
  have gR := (lan_in nb R g.2.2.1).1
  have gF := (lay_in ml F g.2.1).1
  have g5 := g.2.2.2.2.1
  have i2 := x1.2.2.1
  have i3 := x1.2.2.2.1
  have i4 := x1.2.2.2.2.1
  have i11 : σ.1 11 = 0 := by
    rcases x5 with q | q
    · exact q.2
    · exact absurd rfl q.1
  have e1 : k * (md + n) = k * md + k * n := Nat.mul_add _ _ _
  have kn : k * n ≤ k * 16 := Nat.mul_le_mul_left _ hn.2
  -- within the cycle
  have plain : ACb h k lim rch (md + n) → (¬ (rch ≤ k * md ∧ lim < rch + md + n)) → (∀ K : jk, mp_X1_make_90 K σ (nI n) → mp_X1_make σ (nI n) K) → ∃ σ' rch' md' cy' L' B' F' S' R' fr' C' C0' s0' ml' nb' z' lv' al' fas' l', RXg σ' T b h k lim md' cy' rch' L' N fs 0 B' F' S' R' fr' C' C0' s0' ml' nb' z' lv' y al' fas' ∧ fr' + n = R' ∧ F' ≤ fr' ∧ 1 ≤ fr' ∧ ((¬ (rch ≤ k * md ∧ lim < rch + md + n) ∧ rch' = rch ∧ md' = md + n ∧ cy' = cy ∧ L' = L) ∨ (rch ≤ k * md ∧ rch ≤ lim ∧ lim < rch + md + n ∧ rch' = rsm T N fs ids ∧ md' = n ∧ cy' = cy + 1 ∧ L' = fun i => i ∈ ids)) ∧ frL Imk σ σ' C' ∧ σ'.1 13 = nI l' ∧ l ≤ l' ∧ l' ≤ l + (96 * k + 560) ∧ ∀ K : jk, K (nI fr') σ' → mp_X1_make σ (nI n) K := fun hA hc hrun => by
    obtain ⟨σ', F', S', fr', C', ml', al', fas', l', q1, q2, q3, q4, q5, q6, q7, q8, q9, q10⟩ := e_90 hw x1 x2 i6 i7 i8 i9 i10 x4 i11 x6 x7 x8 x9 hA hn i13 (by omega)
    exact ⟨σ', rch, md + n, cy, L, B, F', S', R, fr', C', C0, s0, ml', nb, z, lv, al', fas', l', q1, q2, q3, q4, Or.inl ⟨hc, rfl, rfl, rfl, rfl⟩, q5.m (fun k q => by unfold I90 at q; unfold Imk; omega), q6, q7, by omega, fun K q => hrun K (q10 K q)⟩
  have mI : ∀ s : sm_S, s.1 3 = nI F → s.1 2 = nI B → s.1 3 - s.1 2 = nI (F - B) := fun s h1 h2 => by rw [h1, h2, nI_sub (by omega)]
  by_cases cd : rch ≤ k * md
  · have eS := dn.2 cd
    obtain ⟨eF, hall⟩ := dn.1 eS
    have run1 : ∀ K : jk, ((nI rch ≤ nI lim → ((nI (rch + md + n) ≤ nI lim → mp_X1_make_90 K σ (nI n)) ∧ (¬ nI (rch + md + n) ≤ nI lim → ((¬ (σ.1 2) = 1 → (mp_X1_make_57 K σ (nI n) 1)) ∧ ((σ.1 2) = 1 → (mp_X1_make_57 K σ (nI n) (1 + (σ.1 1)))))))) ∧ (¬ nI rch ≤ nI lim → K 0 σ)) → mp_X1_make σ (nI n) K := fun K z => by
      unfold mp_X1_make mp_X1_isDone mp_X1_isDone_31 mp_X1_isDone_32 mp_X1_moved
      have d1 : σ.1 4 = σ.1 3 := by rw [i3, i4, eS]
      have d2 : ¬ (σ.1 6 * σ.1 8 < σ.1 3 - σ.1 2) := by
        rw [mI σ i3 i2, i6, i8, pk_mul, eF]
        exact fun q => absurd ((nI_ltI (by omega) (by omega)).mp q) (by omega)
      refine ⟨fun q => absurd d1 q, fun _ => ⟨fun q => absurd q d2, fun _ => ⟨sm_z1, fun q => absurd q (by decide), fun _ => ?_⟩⟩⟩
      dsimp only
      rw [mI σ i3 i2, i7, i8, eF, nI_add, nI_add]
      exact z
    by_cases cl : rch ≤ lim
    · have nl : nI rch ≤ nI lim := (nI_leI (by omega) (by omega)).mpr cl
      by_cases cf : rch + md + n ≤ lim
      · refine Or.inr (plain ⟨a1, a2, a3, a4, a5, a6, a7, Or.inl (by omega)⟩ (fun q => by omega) (fun K z => run1 K ⟨fun _ => ⟨fun _ => z, fun q => absurd ((nI_leI (by omega) (by omega)).mpr cf) q⟩, fun q => absurd nl q⟩))
      · -- a new cycle
        right
        have hfs' : fs ≠ [] := by
          rcases hfs with q | q
          · exact q
          · omega
        have r8' := x2.2.2.2.2.2.2.2
        have r7' := x2.2.2.2.2.2.2.1
        have hLi : ∀ i, i ∈ ids → L i := hr.2.2.2 L (fun f i k hf' hi hk => r8' f hf' i k hi hk) (fun i j k _ hi hj hk => r7' i j k hi hj hk)
        have rl0 : rlX T s0 nb z y (fun i => i ∈ ids) N fs al fas C ml := x2.sub hLi (fun i j k hi hj hk => hr.2.2.1 i j k hi hj hk) (fun f hf' i k hi hk => hr.2.1 f i k hf' hi hk)
        obtain ⟨G1, G2, G3, G4, G5⟩ := rl_flip (y := y) hw (by omega) g eS hall rl0 hr.1
        have hsum := x.sum hw hr.1 hLi
        have hcap := ac_flip hAC cl
        have G4' : sumL (zf T C) (fas ++ ids.map al) = rsm T N fs ids := G4
        have hfl := (fra_f fs fas x2.2.2.2.2.2.1).1
        have fne : fas ≠ [] := fun e => by
          rw [e] at hfl
          exact hfs' (List.length_eq_zero_iff.mp hfl.symm)
        obtain ⟨tp, tl, eft⟩ : ∃ tp tl, fas = tp :: tl := by
          cases fas with
          | nil => exact absurd rfl fne
          | cons u t => exact ⟨u, t, rfl⟩
        have ehd : fas.headD 0 = tp := by rw [eft]; rfl
        have tpf : tp ∈ fas := by rw [eft]; exact List.mem_cons_self
        have tps0 : tp ∈ fas ++ ids.map al := List.mem_append.mpr (Or.inl tpf)
        have z16 : zf T C tp = 16 := by
          obtain ⟨f, ca, -, c2, -⟩ := (fra_f fs fas x2.2.2.2.2.2.1).2 tp tpf
          exact (zf_f (fun m hm => (hw.2.2.2.2.2.2.2.2.1 m hm).2.2.2.2.2.2.1) hw.2.2.2.1 c2).1
        have hrm := G5 hr.2.2.2
        rw [ehd] at hrm
        generalize hB' : obs (2 * h + 64) B = B' at G1 ob
        generalize hs0' : fas ++ ids.map al = s0' at G1 G2 G3 G4' hrm tps0
        -- ints
        obtain ⟨σ1, es1⟩ : ∃ σ1, σ1 = sm_i (sm_i (sm_i (sm_i (sm_i (sm_i σ 2 (nI B')) 3 (nI B')) 4 (nI B')) 5 (nI (B' + (2 * h + 64)))) 8 (nI 0)) 9 (nI (cy + 1)) := ⟨_, rfl⟩
        have f1 : frL Imk σ σ1 C := by
          rw [es1, ← x1.2.2.2.2.2.2.2.2.1]
          exact (((((frL_r.i (by unfold Imk; omega)).i (by unfold Imk; omega)).i (by unfold Imk; omega)).i (by unfold Imk; omega)).i (by unfold Imk; omega)).i (by unfold Imk; omega)
        have H1 : HS σ1 T b (2 * h + 64) B' B' B' (B' + (2 * h + 64)) (B' + (2 * h + 64)) C C s0' [] [] (zf T C) (lvf T C) y := by
          refine ⟨x1.1.L f1 (fun k q => by unfold Imk; omega), ?_, ?_, ?_, ?_, ?_, ?_, ?_, f1.2.2.2.2.1, G1, G2, Nat.le_refl _, by omega, by omega⟩
          · rw [es1]; exact x1.2.1
          · rw [es1]; rfl
          · rw [es1]; rfl
          · rw [es1]; rfl
          · rw [es1]; rfl
          · rw [es1]; exact x1.2.2.2.2.2.2.1
          · rw [es1]; exact x1.2.2.2.2.2.2.2.1
        have hT12 : ∀ m, m < T 0 1 → T 15 m + T 16 m ≤ 12 := fun m hm => (hw.2.2.2.2.2.2.2.2.1 m hm).2.2.2.2.2.2.1
        obtain ⟨σ2, H2, f2, j13, a2'⟩ := e_mvs hw H1 tps0 nm_nil (by rw [es1]; exact i13) (by omega)
        have rl1 := G3.mv G2 G1 tps0 nm_nil (by rw [z16]; omega) hT12 hw.2.2.2.1
        obtain ⟨σ3, es3⟩ : ∃ σ3, σ3 = sm_i σ2 10 (nI B') := ⟨_, rfl⟩
        have C2 := H2.2.2.2.2.2.2.2.2.1
        have H3 : HS σ3 T b (2 * h + 64) B' (B' + zf T C tp) B' (B' + (2 * h + 64)) (B' + (2 * h + 64)) (mvD C tp B' (zf T C tp) (lvf T C tp)) C s0' [(tp, B')] [] (zf T C) (lvf T C) y := by
          rw [es3]
          obtain ⟨c0, c1, c2, c3, c4, c5, c6, c7, c8, c9, c10, c11, c12, c13⟩ := H2
          exact ⟨c0.f (I := Imk) (A := A0) (fr_r.i (by unfold Imk; omega)) (fun k q => by unfold Imk; omega) (fun r j _ _ _ q => q), c1, c2, c3, c4, c5, c6, c7, c8, c9, c10, c11, c12, c13⟩
        have g3 := H3.2.2.2.2.2.2.2.2.2.1
        -- the top frame where it is now
        have hd1 : (fas.map (nad tp B')).headD 0 = B' := by
          rw [eft]
          show nad tp B' tp = B'
          unfold nad; rw [if_pos rfl]
        have tcB : ∀ i, i < 16 → tcl' [(tp, B')] [] (zf T C) y (B' + i) := fun i hi => Or.inl ⟨(tp, B'), i, List.mem_cons_self, by show i < zf T C tp; omega, rfl⟩
        have hB0 : B' ∉ s0' := s0_no g3 (by have := tcB 0 (by decide); rw [Nat.add_zero] at this; exact this)
        have hQ := rlQ_c (hf := 2 * h + 64) (B := B') (nb := ([] : List Nat)) (y := y) (L := fun i => i ∈ ids) (N := N) (fs := fs) (tp := B') (fl := 0) (fa := 0) hw G2 hB0 (fun q => absurd rfl q)
        have low3 : ∀ j w, j < 3 → w < 2 ^ 30 → mvD C tp B' (zf T C tp) (lvf T C tp) (B' + j) = mkc 1 (nI w) → ¬ ldb (2 * h + 64) B' 1 w := fun j w hj _ hc => by
          have r6 := rl1.2.2.2.2.2.1
          rw [eft] at r6
          cases fs with
          | nil => exact absurd rfl hfs'
          | cons f r =>
            obtain ⟨u, t, e, ⟨-, -, -, q4, q5, q6, -⟩, -⟩ := r6
            have eu : u = B' := by
              have := (List.cons.inj e).1
              rw [← this]
              show nad tp B' tp = B'
              unfold nad; rw [if_pos rfl]
            rw [eu] at q4 q5 q6
            by_cases j0 : j = 0
            · rw [j0, Nat.add_zero, q4] at hc; exact absurd hc (mk_ne1 (by decide) (by decide))
            by_cases j1 : j = 1
            · rw [j1, q5] at hc; exact absurd hc (mk_ne1 (by decide) (by decide))
            · rw [show j = 2 by omega, q6] at hc; exact absurd hc (mk_ne1 (by decide) (by decide))
        have j13' : σ3.1 13 = nI (l + (2 * zf T C tp + 2)) := by rw [es3]; exact j13
        obtain ⟨σ4, F4, C4, ml4, l4, H4, Q4, f4, k13, n1, n2, n4, n5, n6, n7, n8, n9, n10⟩ := e_settle (tp := B') hw hQ (by omega) 13 3 (l + (2 * zf T C tp + 2)) (B' + zf T C tp) σ3 (mvD C tp B' (zf T C tp) (lvf T C tp)) [(tp, B')] (by omega) (by omega) H3 ⟨_, _, rl1, hd1, fun q => absurd rfl q⟩ tcB low3 j13' (by omega)
        obtain ⟨al4, fas4, rl4, hd4, -⟩ := Q4
        have gi : ∀ kk, ¬ I133 kk → kk ≠ 10 → σ4.1 kk = σ1.1 kk := fun kk h1 h2 => by
          rw [f4.2.2.2.2.2 kk h1, es3]
          show va_up σ2.1 10 (nI B') kk = _
          rw [va_up_ne _ _ h2, f2.2.2.2.2.2 kk h1]
        have hA' : ACb h k lim (rsm T N fs ids) (0 + n) := ⟨a1, a2, a3, a4, a5, a6, by omega, Or.inr (by rw [Nat.zero_add]; omega)⟩
        have fne4 : fas4 ≠ [] := fun e => by
          have h2 := (fra_f fs fas4 rl4.2.2.2.2.2.1).1
          rw [e] at h2
          exact hfs' (List.length_eq_zero_iff.mp h2.symm)
        obtain ⟨σ5, F5, S5, fr5, C5, ml5, al5, fas5, l5, q1, q2, q3, q4, q5, q6, q7, q8, q9, q10⟩ := e_90 (h := h) (k := k) (lim := lim) (md := 0) (cy := cy + 1) (rch := rsm T N fs ids) (n := n) hw H4 rl4 (by rw [gi 6 (by unfold I133; omega) (by decide), es1]; exact i6) (by rw [gi 7 (by unfold I133; omega) (by decide), es1]; exact i7) (by rw [gi 8 (by unfold I133; omega) (by decide), es1]; rfl) (by rw [gi 9 (by unfold I133; omega) (by decide), es1]; rfl) (by rw [f4.2.2.2.2.2 10 (by unfold I133; omega), es3, hd4]; rfl) (fun _ => by rw [hd4]; exact ⟨fun i hi => (tcB i hi).m n6, n9⟩) (by rw [gi 11 (by unfold I133; omega) (by decide), es1]; exact i11) (Or.inr ⟨tp, ⟨B', n6 _ List.mem_cons_self⟩, hrm⟩) G4' (by omega) (Or.inr (by omega)) hA' hn k13 (by omega)
        rw [Nat.zero_add] at q1
        refine ⟨σ5, rsm T N fs ids, n, cy + 1, fun i => i ∈ ids, B', F5, S5, _, fr5, C5, C, s0', ml5, [], zf T C, lvf T C, al5, fas5, l5, q1, q2, q3, q4, Or.inr ⟨cd, cl, by omega, rfl, rfl, rfl, rfl⟩, ?_, q6, by omega, by omega, fun K q => ?_⟩
        · have f3 : frL Imk σ σ3 (mvD C tp B' (zf T C tp) (lvf T C tp)) := by
            rw [es3]
            exact (f1.t (f2.m (fun k q => by unfold I133 at q; unfold Imk; omega))).i (by unfold Imk; omega)
          exact (f3.t (f4.m (fun k q => by unfold I133 at q; unfold Imk; omega))).t (q5.m (fun k q => by unfold I90 at q; unfold Imk; omega))
        · have z1 := q10 K q
          have z2 := n10 (fun σ9 => mp_X1_make_90 K σ9 (nI n)) z1
          have z3 : mp_X1_settle σ3 (nI B') (fun σ9 => mp_X1_make_90 K σ9 (nI n)) := ⟨_, z2⟩
          have z4 := a2' (fun r7 σ6 => ∀ σ8 : sm_S, σ8 = sm_i σ6 10 r7 → mp_X1_settle σ8 (σ8.1 10) (fun σ9 => mp_X1_make_90 K σ9 (nI n))) (fun s8 e8 => by
            rw [e8, ← es3]
            have : σ3.1 10 = nI B' := by rw [es3]; rfl
            rw [this]
            exact z3)
          have t10 : σ1.1 10 = nI tp := by rw [es1, ← ehd]; exact i10
          have z5 : mp_X1_make_57 K σ (nI n) (nI B') := by
            unfold mp_X1_make_57 mp_X1_useHalf
            intro s1 u1 s2 u2 s3 u3 s4 u4 s5 u5 s6 u6
            have i1 : σ.1 1 = nI (2 * h + 64) := x1.2.1
            have w4 : s4 = sm_i s3 5 (nI (B' + (2 * h + 64))) := by
              rw [u4]
              have : s3.1 1 = nI (2 * h + 64) := by rw [u3, u2, u1]; exact i1
              rw [this, nI_add]
            have w6 : s6 = σ1 := by
              have : s5.1 9 = nI cy := by rw [u5, w4, u3, u2, u1]; exact i9
              rw [u6, this, nI_1, u5, w4, u3, u2, u1, es1]
              rfl
            rw [w6, t10]
            exact z4
          refine run1 K ⟨fun _ => ⟨fun q => absurd ((nI_leI (by omega) (by omega)).mp q) cf, fun _ => ⟨fun q => ?_, fun q => ?_⟩⟩, fun q => absurd nl q⟩
          · have eB : B' = 1 := by
              rcases ob with o | o
              · exact o.1
              · exfalso
                rw [i2, o.2] at q
                exact q rfl
            rw [eB] at z5
            exact z5
          · have eB : B' = 1 + (2 * h + 64) := by
              rcases ob with o | o
              · exfalso
                rw [i2] at q
                have := (nI_eq (b := 1) (by omega) (by omega)).mp q
                omega
              · exact o.1
            rw [eB] at z5
            have i1 : σ.1 1 = nI (2 * h + 64) := x1.2.1
            rw [i1, nI_1a]
            exact z5
    · left
      exact ⟨cd, by omega, fun K z => run1 K ⟨fun q => absurd ((nI_leI (by omega) (by omega)).mp q) cl, fun _ => z⟩⟩
  · -- not done
    right
    refine plain ⟨a1, a2, a3, a4, a5, a6, a7, Or.inr (by omega)⟩ (fun q => cd q.1) (fun K z => ?_)
    unfold mp_X1_make mp_X1_isDone mp_X1_isDone_31 mp_X1_isDone_32 mp_X1_moved
    by_cases eS : S = F
    · obtain ⟨eF, -⟩ := dn.1 eS
      have d1 : σ.1 4 = σ.1 3 := by rw [i3, i4, eS]
      have d2 : σ.1 6 * σ.1 8 < σ.1 3 - σ.1 2 := by
        rw [mI σ i3 i2, i6, i8, pk_mul, eF]
        exact (nI_ltI (by omega) (by omega)).mpr (by omega)
      exact ⟨fun q => absurd d1 q, fun _ => ⟨fun _ => ⟨sm_z0, fun _ => z, fun q => absurd rfl q⟩, fun q => absurd d2 q⟩⟩
    · have d1 : ¬ σ.1 4 = σ.1 3 := by
        rw [i3, i4]
        exact fun q => eS ((nI_eq (by omega) (by omega)).mp q)
      exact ⟨fun _ => ⟨sm_z0, fun _ => z, fun q => absurd rfl q⟩, fun q => absurd q d1⟩
