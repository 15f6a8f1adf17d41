/-! ===== start, each side: the first frame ===== -/
def N0 : Nat → AN := fun _ => (0, 0, 0, fun _ => .inl 0)
/-- the first state of a run -/
def a0 (T : Nat → Nat → Nat) : OC := (16, 0, 0, 0, N0, [(T 0 2, 0, 0, fun _ => .inl 0)], 0, 1)
def rsS (σ σ' : sm_S) : Prop := (∀ r, r ≠ 17 → σ'.2.2.1 r = σ.2.2.1 r) ∧ σ'.2.2.2.1 = σ.2.2.2.1 ∧ ∀ k, k = 0 ∨ (14 ≤ k ∧ k ≤ 18) ∨ 29 ≤ k → σ'.1 k = σ.1 k
def Is0 (k : Nat) : Prop := k = 13
section
variable {σ μ : sm_S} {T : Nat → Nat → Nat} {b : Nat → Nat} {H Y : Nat → Nat → Nat} {h k : Nat}
theorem e_put0 {I : Nat → Prop} {σ0 : sm_S} {D : Nat → Int64} {a : Nat} {c : Int64} {K : sm_S → Prop} (hf : frL I σ0 σ D) (hI : I 13) (h1 : 1 ≤ a) (h2 : a < σ.2.2.1 17) (h3 : σ.2.2.1 17 < 2 ^ 31) (hK : ∀ s', frL I σ0 s' (vp_updL D a c) → (∀ kk, kk ≠ 13 → s'.1 kk = σ.1 kk) → K s') : mp_X1_put σ (nI a) c K := by
  refine l_put h1 h2 h3 ?_
  rw [hf.2.2.2.2.1]
  exact hK _ ((hf.i hI).q) (fun kk hk => va_up_ne _ _ hk)
/-- the values of the first frame -/
theorem l_ent0 {σ0 : sm_S} {a m' : Nat} {rest : Int32} {K : jk} (hw : wf T b) (im : imX σ0 T b) (hm' : m' < T 0 1) (h12 : T 12 m' = 0) (ha : 1 ≤ a) (hl : a + 16 ≤ σ0.2.2.1 17) (hl2 : σ0.2.2.1 17 < 2 ^ 30) (i10 : σ0.1 10 = 0) : ∀ (d j : Nat) (σ : sm_S) (D : Nat → Int64), j + d = 12 → frL Is0 σ0 σ D → (∀ σ' D', frL Is0 σ0 σ' D' → (∀ u, ¬ (a + 4 + j ≤ u ∧ u < a + 16) → D' u = D u) → (∀ i, j ≤ i → i < 12 → D' (a + 4 + i) = mkc 0 0) → mp_X7_enter_178 K σ' (nI a)) → mp_X7_enter_91 K (d + 1) σ (nI m') (nI a) rest (nI j) := by
  have w64 := hw.2.2.2.1
  intro d
  induction d with
  | zero =>
    intro j σ D hj hf hK
    have t10 : σ.1 10 = 0 := by rw [hf.2.2.2.2.2 10 (by unfold Is0; omega)]; exact i10
    unfold mp_X7_enter_91
    refine ⟨fun _ => ⟨fun _ => hK σ D hf (fun _ _ => rfl) (fun i h1 h2 => by omega), fun q => absurd t10 q⟩, fun z => absurd ((nI_leI (a := 12) (by omega) (by omega)).mpr (by omega)) z⟩
  | succ d ih =>
    intro j σ D hj hf hK
    have r21 : σ.2.2.2.1 21 m' = nI 0 := by rw [hf.2.2.1, (im.2.2.2.2.2.2.2.2 m' hm').2.1, h12]
    have l21 : σ.2.2.1 21 = 64 := by rw [hf.2.1]; exact lx21 im.2.1
    have l17 : σ.2.2.1 17 = σ0.2.2.1 17 := by rw [hf.2.1]
    unfold mp_X7_enter_91
    refine ⟨fun z => absurd ((nI_leI (a := 12) (by omega) (by omega)).mp z) (by omega), fun _ => ?_⟩
    rw [nI_clamp (by omega), r21, l21]
    refine ⟨vp_in_nI (by omega) (by decide), fun _ => ?_, fun z => absurd (nI_le (Nat.zero_le _) (by omega)) z⟩
    unfold mp_X7_enter_141
    rw [l_4, nI_add, nI_add]
    refine e_put0 hf rfl (by omega) (by omega) (by omega) (fun s' f' n' => ?_)
    intro v4 e4
    rw [e4, nI_1]
    refine ih (j + 1) s' _ (by omega) f' (fun σ' D' g1 g2 g3 => ?_)
    refine hK σ' D' g1 (fun u hu => ?_) (fun i h1 h2 => ?_)
    · rw [g2 u (by omega), up_q, if_neg (by omega)]
    · by_cases e : i = j
      · rw [e, g2 (a + 4 + j) (by omega), up_q, if_pos rfl, mk_0]
      · exact g3 i (by omega) h2
theorem x_beg {K : sm_S → Prop} {s : sm_S} {i : Nat} {inF : Nat → Int32} (hw : wf T b) (im : imX σ T b) (h1 : 1024 ≤ h) (h2 : h ≤ 60000) (k1 : 1 ≤ k) (k2 : k ≤ 64) (o : opn σ s h k) (hl : s.2.2.1 17 < 2 ^ 30) (q18 : σ.1 18 = nI i) (q30 : σ.2.2.1 30 = 1000) (q31 : σ.2.2.1 31 = 1000) (qin : ∀ j : Nat, j < i → σ.2.2.2.1 30 j = inF j)
    (hK : ∀ σ', XA σ' T b h k (h * k / (k + 1)) (a0 T) i inF 0 0 inF 0 → rsS σ σ' → σ'.2.2.1 17 = s.2.2.1 17 → K σ') : mp_X5_rewind s (fun σ4 => mp_X7_begin σ4 (fun σ5 => K σ5)) := by
  obtain ⟨⟨i1, i2, i3, i4, i5, i6, i7, i8, i9, i10, i11, i12⟩, po, p1, pl, pr', pg, pn⟩ := o
  have hk : h * k ≤ 60000 * 64 := Nat.mul_le_mul h2 k2
  have hlim : h * k / (k + 1) ≤ h * k := Nat.div_le_self _ _
  have ac := ACb_0 (md := 16) h1 h2 k1 k2 (by decide)
  have lim5 := ac.2.2.2.2.2.1
  have hm := hw.2.2.2.2.2.2.2.2.2.2.2.2.1
  have h12 := hw.2.2.2.2.2.2.2.2.2.2.2.2.2.2.1
  have w64 := hw.2.2.2.1
  unfold mp_X5_rewind mp_X7_begin
  intro s1 e1 s2 e2 s3 e3 s4 e4 s5 e5 s6 e6
  have o6 : ∀ kk, ¬ (kk = 19 ∨ kk = 22 ∨ kk = 23 ∨ kk = 27) → s6.1 kk = s.1 kk := fun kk q => by
    rw [e6, e5, e4, e3, e2, e1]
    exact (((va_up_ne _ _ (by omega)).trans (va_up_ne _ _ (by omega))).trans (va_up_ne _ _ (by omega))).trans (va_up_ne _ _ (by omega))
  have j19 : s6.1 19 = nI 0 := by rw [e6, e5, e4, e3, e2, e1]; rfl
  have j22 : s6.1 22 = nI 1 := by rw [e6, e5, e4, e3]; rfl
  have j23 : s6.1 23 = nI 0 := by rw [e6, e5, e4]; rfl
  have z6 : s6.2.2 = s.2.2 := by rw [e6, e5, e4, e3, e2, e1]
  have g0 : s6.2.1 0 = lN 0 := by rw [e6, e5, e4, e3, e2]; rfl
  have g1 : s6.2.1 1 = 0 := by rw [e6, e5]; rfl
  have im6 : imX s6 T b := im.o (fun r q => by rw [z6]; exact pl r q) (by rw [z6]; exact pr') (fun kk q => by rw [o6 kk (by omega)]; exact po kk (by omega))
  have l17 : s6.2.2.1 17 = s.2.2.1 17 := by rw [z6]
  have t17 : s6.1 17 = nI (T 0 2) := im6.2.2.2.2.2.1
  rw [t17]
  unfold mp_X7_enter mp_X1_make mp_X1_isDone mp_X1_isDone_32 mp_X1_moved
  dsimp only
  rw [o6 2 (by omega), o6 3 (by omega), o6 4 (by omega), o6 6 (by omega), o6 7 (by omega), o6 8 (by omega), i2, i3, i4, i6, i7, i8, pk_mul, Nat.mul_zero]
  have e11 : nI 1 - nI 1 = nI 0 := by decide
  rw [e11, l_16, nI_add, nI_add]
  refine ⟨fun q => absurd rfl q, fun _ => ⟨fun q => absurd q (by decide), fun _ => ⟨sm_z1, fun q => absurd q (by decide), fun _ => ⟨fun _ => ⟨fun _ => ?_, fun q => absurd (nI_le (by omega) (by omega)) q⟩, fun q => absurd (nI_le (by omega) (by omega)) q⟩⟩⟩⟩
  unfold mp_X1_make_90 mp_X1_moveOn
  intro s7 e7 v10 e10
  have o7 : ∀ kk, kk ≠ 8 → s7.1 kk = s6.1 kk := fun kk q => by rw [e7]; exact va_up_ne _ _ q
  refine ⟨1, ?_⟩
  unfold mp_X1_moveOn_14 mp_X1_moveOn_73
  have go : ∀ s8 : sm_S, s8 = sm_i s7 5 (s7.1 5 - nI 16) → ((¬ s8.1 5 = 0 → (vp_in (nI (T 0 2)) (s8.2.2.1 21) ∧ ∀ v18 : Int32, v18 = ((s8.1 27) - ((s8.2.2.2.1 21) (nI (T 0 2)).toNatClampNeg)) → mp_X1_cell s8 5 (nI (T 0 2)) (fun r20 σ19 => mp_X1_put σ19 (s8.1 5) r20 (fun σ21 => mp_X1_put σ21 ((s8.1 5) + 1) 0 (fun σ22 => mp_X1_put σ22 ((s8.1 5) + 2) 0 (fun σ23 => mp_X1_cell σ23 1 (σ23.1 10) (fun r25 σ24 => mp_X1_put σ24 ((s8.1 5) + 3) r25 (fun σ26 => ∃ n91 : Nat, mp_X7_enter_91 (fun r6 σ5 => K σ5) n91 σ26 (nI (T 0 2)) (s8.1 5) v18 0)))))))) ∧ (s8.1 5 = 0 → (K s8))) := fun s8 e8 => by
    have o8 : ∀ kk, kk ≠ 8 → kk ≠ 5 → s8.1 kk = s6.1 kk := fun kk q q2 => by rw [e8]; exact (va_up_ne _ _ q2).trans (o7 kk q)
    have j5 : s8.1 5 = nI (2 * h + 49) := by
      rw [e8]
      show s7.1 5 - nI 16 = _
      rw [o7 5 (by decide), o6 5 (by omega), i5, nI_sub (by omega), show 2 * h + 65 - 16 = 2 * h + 49 by omega]
    have j8 : s8.1 8 = nI 16 := by
      rw [e8]
      show s7.1 8 = _
      rw [e7]
      show s6.1 8 + nI 16 = _
      rw [o6 8 (by omega), i8, nI_add]
    have z8 : s8.2 = s6.2 := by rw [e8, e7]
    have im8 : imX s8 T b := im6.o (fun r _ => by rw [z8]) (by rw [z8]) (fun kk q => o8 kk (by omega) (by omega))
    have L17 : s8.2.2.1 17 = s.2.2.1 17 := by rw [z8]; exact l17
    have t10 : s8.1 10 = nI 0 := by rw [o8 10 (by decide) (by decide), o6 10 (by omega)]; exact i10
    rw [j5]
    refine ⟨fun _ => ⟨by rw [show s8.2.2.1 21 = 64 from lx21 im8.2.1]; exact vp_in_nI (by omega) (by decide), ?_⟩, fun q => absurd q (nI_ne0 (by omega) (by omega))⟩
    intro v18 _
    unfold mp_X1_cell
    have f0 : frL Is0 s8 s8 (s8.2.2.2.2 17) := frL_r
    generalize hC : s8.2.2.2.2 17 = C at *
    refine e_put0 f0 rfl (by omega) (by omega) (by omega) (fun s21 f21 n21 => ?_)
    rw [nI_1]
    refine e_put0 f21 rfl (by omega) (by rw [f21.2.1]; omega) (by rw [f21.2.1]; omega) (fun s22 f22 n22 => ?_)
    rw [l_2, nI_add]
    refine e_put0 f22 rfl (by omega) (by rw [f22.2.1]; omega) (by rw [f22.2.1]; omega) (fun s23 f23 n23 => ?_)
    rw [l_3, nI_add]
    refine e_put0 f23 rfl (by omega) (by rw [f23.2.1]; omega) (by rw [f23.2.1]; omega) (fun s26 f26 n26 => ?_)
    have c10 : s23.1 10 = nI 0 := by rw [f23.2.2.2.2.2 10 (by unfold Is0; omega)]; exact t10
    rw [c10] at f26
    refine ⟨13, ?_⟩
    refine l_ent0 hw im8 hm h12 (by omega) (by omega) (by omega) t10 12 0 s26 _ rfl f26 (fun σ9 D9 f9 d1 d2 => ?_)
    unfold mp_X7_enter_178
    intro s10 e10' s11 e11'
    have hcell : ((5 : Int32).toInt64 <<< ((32 : Int32).toInt64 &&& 63)) ||| ((nI (T 0 2)).toInt64 &&& 4294967295) = mkc 5 (nI (T 0 2)) := rfl
    have hnil : ((1 : Int32).toInt64 <<< ((32 : Int32).toInt64 &&& 63)) ||| ((nI 0).toInt64 &&& 4294967295) = mkc 1 (nI 0) := rfl
    rw [hcell, hnil] at d1
    have n9 : ∀ kk, kk ≠ 13 → σ9.1 kk = s8.1 kk := fun kk q => f9.2.2.2.2.2 kk (by unfold Is0; exact q)
    have a23 : s10.1 23 = nI 0 := by rw [e10']; show σ9.1 23 = _; rw [n9 23 (by decide), o8 23 (by decide) (by decide)]; exact j23
    have fE : frL Ien s8 s11 D9 := by
      rw [e11', e10']
      exact ((f9.m (fun k q => by unfold Is0 at q; unfold Ien; omega)).i (by unfold Ien; omega)).i (by unfold Ien; omega)
    have cc : ∀ u, D9 (2 * h + 49 + u) = if u = 0 then mkc 5 (nI (T 0 2)) else if u = 1 then mkc 0 0 else if u = 2 then mkc 0 0 else if u = 3 then mkc 1 (nI 0) else if u < 16 then mkc 0 0 else C (2 * h + 49 + u) := fun u => by
      by_cases c4 : 4 ≤ u ∧ u < 16
      · have := d2 (u - 4) (Nat.zero_le _) (by omega)
        rw [show 2 * h + 49 + 4 + (u - 4) = 2 * h + 49 + u by omega] at this
        rw [this, if_neg (by omega), if_neg (by omega), if_neg (by omega), if_neg (by omega), if_pos c4.2]
      · rw [d1 _ (by omega), up_q, up_q, up_q, up_q]
        by_cases u3 : u = 3
        · subst u3; rw [if_pos rfl, if_neg (by omega), if_neg (by omega), if_neg (by omega), if_pos rfl]
        by_cases u2 : u = 2
        · subst u2; rw [if_neg (by omega), if_pos rfl, if_neg (by omega), if_neg (by omega), if_pos rfl, mk_0]
        by_cases u1 : u = 1
        · subst u1; rw [if_neg (by omega), if_neg (by omega), if_pos rfl, if_neg (by omega), if_pos rfl, mk_0]
        by_cases u0 : u = 0
        · subst u0; rw [if_neg (by omega), if_neg (by omega), if_neg (by omega), if_pos (by omega), if_pos rfl]
        · rw [if_neg (by omega), if_neg (by omega), if_neg (by omega), if_neg (by omega), if_neg u0, if_neg u1, if_neg u2, if_neg u3, if_neg (by omega)]
    have dlo : ∀ u, ¬ (2 * h + 49 ≤ u ∧ u < 2 * h + 65) → D9 u = C u := fun u hu => by
      by_cases c : 2 * h + 49 ≤ u
      · have := cc (u - (2 * h + 49))
        rw [show 2 * h + 49 + (u - (2 * h + 49)) = u by omega] at this
        rw [this, if_neg (by omega), if_neg (by omega), if_neg (by omega), if_neg (by omega), if_neg (by omega)]
      · rw [d1 u (by omega), up_q, up_q, up_q, up_q, if_neg (by omega), if_neg (by omega), if_neg (by omega), if_neg (by omega)]
    have gi : GI (2 * h + 64) 1 1 1 (2 * h + 65) C C [] [] [] (fun _ => 16) (fun _ => 16) (fun _ => 16) := by
      refine ⟨Or.inl rfl, rfl, by show 2 * h + 65 = 1 + (2 * h + 64); omega, by omega, ⟨Nat.le_refl _, Nat.le_refl _⟩, fun _ => ⟨(by show (1 : Nat) ≤ 16; decide), (by show (16 : Nat) ≤ 16; decide), (by show (16 : Nat) ≤ 16; decide)⟩, fun _ => ⟨(by show (1 : Nat) ≤ 16; decide), (by show (16 : Nat) ≤ 16; decide)⟩, by omega, List.nodup_nil, fun a h => (List.not_mem_nil h).elim, fun a a' h => (List.not_mem_nil h).elim, List.nodup_nil, fun q h => (List.not_mem_nil h).elim, fun a h => (List.not_mem_nil h).elim, fun q h => (List.not_mem_nil h).elim, fun a i h => (List.not_mem_nil h).elim, fun q i h => (List.not_mem_nil h).elim, fun x i h => (List.not_mem_nil h).elim, fun a i x h => (List.not_mem_nil h).elim⟩
    have x8 : RXg s8 T b h k (h * k / (k + 1)) 16 0 0 (fun _ => False) N0 [] 0 1 1 1 (2 * h + 65) (2 * h + 49) C C [] [] [] (fun _ => 16) (fun _ => 16) (fun _ => 16) (fun _ => 0) [] := by
      refine ⟨⟨im8, by rw [o8 1 (by decide) (by decide), o6 1 (by omega)]; exact i1, by rw [o8 2 (by decide) (by decide), o6 2 (by omega)]; exact i2, by rw [o8 3 (by decide) (by decide), o6 3 (by omega)]; exact i3, by rw [o8 4 (by decide) (by decide), o6 4 (by omega)]; exact i4, j5, by rw [L17]; omega, by rw [L17]; exact hl, hC, gi, fun a h => (List.not_mem_nil h).elim, by omega, by omega, Nat.zero_le _⟩, ⟨fun i h => h.elim, fun i j h => h.elim, fun a h => (List.not_mem_nil h).elim, List.nodup_nil, fun i h => h.elim, rfl, fun i j k h => h.elim, fun f h => (List.not_mem_nil h).elim⟩, ⟨by rw [o8 6 (by decide) (by decide), o6 6 (by omega)]; exact i6, by rw [o8 7 (by decide) (by decide), o6 7 (by omega)]; exact i7, j8, by rw [o8 9 (by decide) (by decide), o6 9 (by omega)]; exact i9, t10⟩, fun q => absurd rfl q, Or.inl ⟨rfl, by rw [o8 11 (by decide) (by decide), o6 11 (by omega)]; exact i11⟩, Or.inl rfl, rfl, by omega, Or.inl rfl, ac⟩
    have wm := hw.2.2.2.2.2.2.2.2.1 (T 0 2) hm
    have w12 := wm.2.2.2.2.2.2.1
    have frf : frc T D9 [] [] [] (fun _ => 0) (T 0 2, 0, 0, fun _ => .inl 0) (2 * h + 49) 0 := by
      refine ⟨hm, by show (0 : Nat) < 2 ^ 16; decide, Nat.zero_le _, ?_, ?_, ?_, ⟨0, by decide, ?_, Or.inl ⟨rfl, rfl⟩⟩, fun i hi => ?_⟩
      · have := cc 0; rw [if_pos rfl] at this; exact this
      · have := cc 1; rw [if_neg (by decide), if_pos rfl] at this; exact this
      · have := cc 2; rw [if_neg (by decide), if_neg (by decide), if_pos rfl] at this; exact this
      · have := cc 3; rw [if_neg (by decide), if_neg (by decide), if_neg (by decide), if_pos rfl] at this; exact this
      · have hi : i < T 15 (T 0 2) + 0 := hi
        have := cc (4 + i)
        rw [if_neg (by omega), if_neg (by omega), if_neg (by omega), if_neg (by omega), if_pos (by omega)] at this
        rw [show 2 * h + 49 + 4 + i = 2 * h + 49 + (4 + i) by omega, this]
        exact vcl_n 0
    have hg : ∀ i, i < 16 → okx (D9 (2 * h + 49 + i)) ∧ ∀ w, w < 2 ^ 30 → D9 (2 * h + 49 + i) = mkc 1 (nI w) → ¬ ldb (2 * h + 64) 1 1 w := fun i hi => by
      have gz : ∀ v, gcl (2 * h + 64) 1 (mkc 0 v) := fun v => gcl_n _ _ _
      rw [cc i]
      by_cases c0 : i = 0
      · rw [if_pos c0]
        exact ⟨Or.inr ⟨5, nI (T 0 2), by decide, by decide, rfl⟩, fun w hw' e => absurd e (mk_ne1 (by decide) (by decide))⟩
      · rw [if_neg c0]
        by_cases c1 : i = 1
        · rw [if_pos c1]; exact gz 0
        · rw [if_neg c1]
          by_cases c2 : i = 2
          · rw [if_pos c2]; exact gz 0
          · rw [if_neg c2]
            by_cases c3 : i = 3
            · rw [if_pos c3]; exact gcl_0 _ _
            · rw [if_neg c3, if_pos hi]; exact gz 0
    have xE := x8.nf (σ' := s11) (D := D9) (nf := (T 0 2, 0, 0, fun _ => .inl 0)) hw (by omega) (by omega) fE (by rw [e11', e10']; rfl) dlo frf hg (fun i k' hi e => by cases e)
    have n11 : ∀ kk, kk ≠ 10 → kk ≠ 13 → kk ≠ 23 → s11.1 kk = s8.1 kk := fun kk q1 q2 q3 => by rw [e11', e10']; exact ((va_up_ne _ _ q3).trans (va_up_ne _ _ q1)).trans (n9 kk q2)
    have n6 : ∀ kk, ¬ (kk = 5 ∨ kk = 8 ∨ kk = 10 ∨ kk = 13 ∨ kk = 23) → s11.1 kk = s6.1 kk := fun kk q => by rw [n11 kk (by omega) (by omega) (by omega)]; exact o8 kk (by omega) (by omega)
    have z11 : s11.2.1 = s6.2.1 := by rw [fE.1, z8]
    have r11 : s11.2.2.2.1 = σ.2.2.2.1 := by rw [fE.2.2.1, z8, z6]; exact pr'
    have l11 : ∀ r, r ≠ 17 → s11.2.2.1 r = σ.2.2.1 r := fun r q => by rw [fE.2.1, z8, z6]; exact pl r q
    refine hK s11 ⟨⟨_, _, _, _, _, _, _, _, _, _, _, _, _, _, _, xE, fun i q => q.elim, ?_, ?_, ?_⟩, ⟨?_, ?_, ?_, ?_, ?_, ?_, ?_⟩, ?_⟩ ⟨l11, r11, ?_⟩ ?_
    · rw [n6 12 (by omega), o6 12 (by omega)]; exact i12
    · rw [n6 22 (by omega)]; exact j22
    · rw [e11']
      show s10.1 23 + 1 = _
      rw [a23, nI_1]
      rfl
    · rw [n6 18 (by omega), o6 18 (by omega), po 18 (by omega)]; exact q18
    · rw [l11 30 (by decide)]; exact q30
    · rw [l11 31 (by decide)]; exact q31
    · rw [r11]; exact qin
    · rw [n6 19 (by omega)]; exact j19
    · rw [z11]; exact g0
    · intro j hj; exact absurd hj (by omega)
    · rw [z11]; exact g1
    · intro kk q
      rw [n6 kk (by omega), o6 kk (by omega)]
      exact po kk (by omega)
    · rw [fE.2.1]; exact L17
  have e43 : s7.1 3 ≤ s7.1 4 := by
    rw [o7 3 (by decide), o7 4 (by decide), o6 3 (by omega), o6 4 (by omega), i3, i4]
    decide
  refine ⟨fun _ => ?_, fun _ => ⟨fun _ => ?_, fun q => absurd e43 q⟩⟩
  · intro s8 e8; exact go s8 e8
  · intro s8 e8; exact go s8 e8
end
