/-! ===== rows: the reference ===== -/
section
variable {μ μ' μ0 : sm_S} {T : Nat → Nat → Nat} {b : Nat → Nat} {h k lim md cy rch n sb : Nat} {N : Nat → AN} {f : AF} {r fs : List AF} {fl st : Nat} {th nd bg : Nat → Nat} {nt us s : Nat} {ids : List Nat} {K : jk}
theorem k_mk27 {sz : Nat} (hw : wf T b) (x : RMg μ T b k lim md cy rch n N fs 0 st th nd bg nt us s) (np : npo T n N) (hA : ACb h k lim rch md) (hsz : sz ≤ 16) (hs : s + 1 < 2 ^ 31) (hr : rls T N fs ids) (h0 : rch ≤ k * md → lim < rch → K 0 μ)
    (hK : ¬ (rch ≤ k * md ∧ lim < rch) → ∀ μ' s', RMg μ' T b k lim (mm k lim md rch sz) (mcy k lim md rch cy sz) (mr T N fs ids k lim md rch sz) n N fs 0 st th nd bg nt us s' → s' ≤ s + 1 → stM μ μ' → μ'.1 27 = μ.1 27 → K 1 μ') : mp_X12_make μ (nI sz) K := by
  obtain ⟨x1, x2, x3, ⟨i21, i22, i23, l2, i24, i17⟩, x5⟩ := x
  have hb := hA.le
  have hh := hA.2.1
  have hk := hA.2.2.2.1
  have i15 : μ.1 15 = 0 := by
    rcases x5 with q | q
    · exact q.2
    · exact absurd rfl q.1
  unfold mp_X12_make mp_X12_isDone mp_X12_isDone_24
  have h64 : k * md < 2 ^ 62 := by omega
  dsimp only
  rw [i21, i22, i23, l2, nI_l (by omega), nI_l (by omega), nI_l (by omega), nI_l (by omega), lN_m, lN_p, lN_p]
  have fin : ∀ (μ1 : sm_S) md1 cy1 rch1 s1, RMg μ1 T b k lim md1 cy1 rch1 n N fs 0 st th nd bg nt us s1 → s1 ≤ s + 1 → stM μ μ1 → μ1.1 27 = μ.1 27 → md1 + sz = mm k lim md rch sz → cy1 = mcy k lim md rch cy sz → rch1 = mr T N fs ids k lim md rch sz → ¬ (rch ≤ k * md ∧ lim < rch) → mp_X12_make_65 K μ1 (nI sz) := fun μ1 md1 cy1 rch1 s1 y hs1 sM e27 e1 e2 e3 ns => by
    unfold mp_X12_make_65
    intro s2 q2
    obtain ⟨y1, y2, y3, ⟨j21, j22, j23, jl2, j24, j17⟩, y5⟩ := y
    rw [jl2, nI_l (by omega), lN_p, e1] at q2
    rw [e2] at j24
    rw [e3] at j23
    refine hK ns s2 s1 ?_ hs1 (by rw [q2]; exact sM.j) (by rw [q2]; exact e27)
    have c : RMt s2 T b n N fs th nd bg nt us := by rw [q2]; exact y1.c y1.1 y1.2.1 (fun _ _ _ _ _ => rfl) (fun _ _ => rfl)
    exact ⟨c, by rw [q2]; exact y2, by rw [q2]; exact y3, ⟨by rw [q2]; exact j21, by rw [q2]; exact j22, by rw [q2]; exact j23, by rw [q2]; rfl, by rw [q2]; exact j24, by rw [q2]; exact j17⟩, by rw [q2]; exact y5⟩
  have X : RMg μ T b k lim md cy rch n N fs 0 st th nd bg nt us s := ⟨x1, x2, x3, ⟨i21, i22, i23, l2, i24, i17⟩, x5⟩
  refine ⟨fun z => ⟨sm_z0, fun _ => ?_, fun q => absurd rfl q⟩, fun z => ⟨sm_z1, fun q => absurd q (by decide), fun _ => ?_⟩⟩
  · have c := (lc_lt h64 (by omega)).mp z
    have nc : ¬ (rch ≤ k * md ∧ lim < rch + md + sz) := fun q => by omega
    refine fin μ md cy rch s X (by omega) stM_r rfl ?_ ?_ ?_ (fun q => by omega)
    · unfold mm; rw [if_neg nc]
    · unfold mcy; rw [if_neg nc]
    · unfold mr; rw [if_neg nc]
  · have c : rch ≤ k * md := by
      have : ¬ k * md < rch := fun q => z ((lc_lt h64 (by omega)).mpr q)
      omega
    refine ⟨fun z1 => ?_, fun z1 => ?_⟩
    · have c1 : rch ≤ lim := (nI_leI (by omega) (by omega)).mp z1
      refine ⟨fun z2 => ?_, fun z2 => ?_⟩
      · have c2 := (lc_le (by omega) (by omega)).mp z2
        have nc : ¬ (rch ≤ k * md ∧ lim < rch + md + sz) := fun q => by omega
        refine fin μ md cy rch s X (by omega) stM_r rfl ?_ ?_ ?_ (fun q => by omega)
        · unfold mm; rw [if_neg nc]
        · unfold mcy; rw [if_neg nc]
        · unfold mr; rw [if_neg nc]
      · have c2 : lim < rch + md + sz := by
          have : ¬ rch + md + sz ≤ lim := fun q => z2 ((lc_le (by omega) (by omega)).mpr q)
          omega
        have pc : rch ≤ k * md ∧ lim < rch + md + sz := ⟨c, c2⟩
        refine k_reach hw x1 np x2 hs i15 hr (fun μ1 Mk R _ => ?_)
        intro s9 q9 s10 q10 s11 q11
        have f11 : stM μ s11 := by
          have e := R.1
          have : stM μ μ1 := ⟨e.2.1, fun r q => e.row (fun j => by unfold Arc; omega), e.2.2.1, fun kk q => e.2.2.2.1 kk (by unfold Irc; omega), fun j _ => by rw [e.1]⟩
          rw [q11, q10, q9]
          exact ((this.i (by omega)).j).i (by omega)
        have ii : ∀ kk, kk ≠ 12 → kk ≠ 25 → μ1.1 kk = μ.1 kk := fun kk h1 h2 => R.1.2.2.2.1 kk (by unfold Irc; omega)
        have Y : RMg s11 T b k lim 0 (cy + 1) (rsm T N fs ids) n N fs 0 st th nd bg nt us (s + 1) := by
          refine ⟨x1.c (f11.im x1.1) (f11.ln x1.2.1) (fun r h1 h2 h3 h4 => by rw [q11, q10, q9]; exact R.f r h3 h4) (fun kk hk => by rw [q11, q10, q9]; exact ((va_up_ne _ _ (by omega)).trans (va_up_ne _ _ (by omega))).trans (ii kk (by omega) (by omega))), ⟨by rw [q11, q10, q9]; exact R.2.1, fun t ht => by rw [q11, q10, q9]; exact (R.2.2.2.2.1 t ht).1⟩, ?_, ⟨?_, ?_, ?_, ?_, ?_, ?_⟩, Or.inl ⟨rfl, ?_⟩⟩
          · rw [q11, q10, q9]; exact (ii 4 (by decide) (by decide)).trans x3
          · rw [q11, q10, q9]; exact (ii 21 (by decide) (by decide)).trans i21
          · rw [q11, q10, q9]; exact (ii 22 (by decide) (by decide)).trans i22
          · rw [q11, q10, q9]; rfl
          · rw [q11, q10]; rfl
          · rw [q11]
            show s10.1 24 + 1 = _
            rw [q10, q9]
            show μ1.1 24 + 1 = _
            rw [ii 24 (by decide) (by decide), i24, nI_1]
          · rw [q11, q10, q9]; exact (ii 17 (by decide) (by decide)).trans i17
          · rw [q11, q10, q9]; exact (ii 15 (by decide) (by decide)).trans i15
        refine fin s11 0 (cy + 1) (rsm T N fs ids) (s + 1) Y (Nat.le_refl _) f11 (by rw [q11, q10, q9]; exact ii 27 (by decide) (by decide)) ?_ ?_ ?_ (fun q => by omega)
        · unfold mm; rw [if_pos pc]; omega
        · unfold mcy; rw [if_pos pc]
        · unfold mr; rw [if_pos pc]
    · have c1 : lim < rch := by
        have : ¬ rch ≤ lim := fun q => z1 ((nI_leI (by omega) (by omega)).mpr q)
        omega
      exact h0 c c1
theorem w_deep {l : Nat} (hl : l ≤ 3375) (hK : K (nI (dpt l)) μ) : mp_X12_deep μ (nI l) K := by
  unfold dpt at hK
  unfold mp_X12_deep mp_X12_deep_22
  refine ⟨fun z => ⟨fun z2 => ?_, fun z2 => ?_⟩, fun z => ?_⟩
  · have c1 := (nI_ltI (a := 15) (by omega) (by omega)).mp z
    have c2 := (nI_ltI (a := 225) (by omega) (by omega)).mp z2
    rw [if_neg (by omega), if_neg (by omega)] at hK
    exact hK
  · have c1 := (nI_ltI (a := 15) (by omega) (by omega)).mp z
    have c2 : ¬ 225 < l := fun q => z2 ((nI_ltI (a := 225) (by omega) (by omega)).mpr q)
    rw [if_neg (by omega), if_pos (by omega)] at hK
    exact hK
  · have c1 : ¬ 15 < l := fun q => z ((nI_ltI (a := 15) (by omega) (by omega)).mpr q)
    rw [if_pos (by omega)] at hK
    exact hK
theorem w_wide2 {d : Nat} (hd : d = 1 ∨ d = 2) (hK : K (nI (15 ^ d)) μ) : mp_X12_wideOf μ (nI d) K := by
  unfold mp_X12_wideOf mp_X12_wideOf_22
  rcases hd with e | e <;> subst e
  · exact ⟨fun _ => ⟨fun z => absurd rfl z, fun _ => hK⟩, fun z => absurd z (by decide)⟩
  · exact ⟨fun z => absurd rfl z, fun _ => hK⟩
/-- what itemCell leaves when a child lacks -/
def icS (μ : sm_S) (c lk : Nat) : sm_S := sm_i (sm_i μ 26 (nI c)) 27 (if lk = 1 then 1 else 0)
theorem l_item {q' j lk : Nat} (y : RMg μ T b k lim md cy rch n N fs fl st th nd bg nt us s) (h0 : lk = 0 → inT th nd nt q' → K (nI (bg (th q') + j)) μ) (h1 : lk ≠ 0 → inT th nd nt q' → K (-1) (icS μ (bg (th q') + j) lk)) : ∀ (d q i : Nat), d ≤ 2 → inT th nd nt q → pth T N d q i q' j lk → i < 2 ^ 20 → mp_X12_itemCell_16 K (d + 1) μ (nI (th q)) (nI i) (nI d) := by
  have ln := y.1.2.1
  intro d
  induction d with
  | zero =>
    intro q i hd hq hp hi
    obtain ⟨p1, p2, p3, p4, p5⟩ := hp
    subst p3 p4 p5
    obtain ⟨a1, a2, a3, a4, a5⟩ := y.tg hq
    unfold mp_X12_itemCell_16
    refine ⟨fun _ => ⟨by rw [lr29 ln]; exact vp_in_nI a4 (by decide), ?_⟩, fun z => absurd (by decide) z⟩
    rw [nI_clamp (by omega), a2.2.2.2.2.1, nI_add]
    exact h0 rfl hq
  | succ d ih =>
    intro q i hd hq hp hi
    obtain ⟨p1, p2, p3⟩ := hp
    obtain ⟨a1, a2, a3, a4, a5⟩ := y.tg hq
    have pw : 1 ≤ 15 ^ (d + 1) ∧ 15 ^ (d + 1) ≤ 225 := by
      have : d = 0 ∨ d = 1 := by omega
      rcases this with e | e <;> subst e <;> decide
    have d12 : d + 1 = 1 ∨ d + 1 = 2 := by omega
    have hcell := a2.2.2.2.2.2 (i / 15 ^ (d + 1)) (by omega)
    unfold mp_X12_itemCell_16
    refine ⟨fun z => absurd ((nI_leI (b := 0) (by omega) (by omega)).mp z) (by omega), fun _ => ⟨by rw [lr29 ln]; exact vp_in_nI a4 (by decide), ?_⟩⟩
    refine w_wide2 d12 ⟨nI_ne0 (by omega) (by omega), ?_⟩
    intro v8 e8
    rw [nI_clamp (by omega), a2.2.2.2.2.1, pk_div (by omega) (by omega) (by omega), nI_add] at e8
    refine w_wide2 d12 ⟨nI_ne0 (by omega) (by omega), ?_⟩
    intro v11 e11
    rw [pk_rem (by omega) (by omega) (by omega)] at e11
    rw [e8, e11, nI_clamp (by omega), hcell]
    refine ⟨by rw [lr31 ln]; exact vp_in_nI (by omega) (by decide), ?_⟩
    rcases p3 with ⟨p3, p4, p5, p6⟩ | ⟨u, p3, p4⟩
    · rw [p3]
      refine ⟨fun z => absurd rfl z, fun _ => ?_⟩
      intro s17 e17
      subst p4
      have e1 : ∀ x : Int32, x = (if lk = 1 then 1 else 0) → sm_z x → mp_X12_itemCell_77 (mp_X12_itemCell_16 K (d + 1)) K s17 x := fun x ex sx => by
        unfold mp_X12_itemCell_77
        refine ⟨sx, ?_⟩
        intro s2 e2
        have := h1 (by omega) hq
        unfold icS at this
        rw [p5, ← ex] at this
        rw [e2, e17]
        exact this
      refine ⟨fun z => e1 0 ?_ sm_z0, fun z => e1 1 ?_ sm_z1⟩
      · rw [if_neg (fun q => z (by rw [← p6, q]; rfl))]
      · have := (nI_eq (b := 1) (by omega) (by omega)).mp z
        rw [if_pos (by omega)]
    · have hu := a5 _ u (by omega) p3
      rw [p3, vM_s]
      have := hu.1
      have hnt := y.1.2.2.1.2.1
      refine ⟨fun _ => ⟨by rw [lr31 ln]; exact vp_in_nI (by omega) (by decide), ?_⟩, fun z => absurd z (nI_m1 (by omega))⟩
      intro v15 e15 v16 e16
      rw [nI_am (by omega), Nat.add_sub_cancel] at e16
      rw [e15, e16]
      have hmod : i % 15 ^ (d + 1) < 15 ^ (d + 1) := Nat.mod_lt _ (by omega)
      exact ih u (i % 15 ^ (d + 1)) (by omega) hu p4 (by omega)
theorem k_item {q i q' j lk : Nat} (y : RMg μ T b k lim md cy rch n N fs fl st th nd bg nt us s) (np : npo T n N) (hq : inT th nd nt q) (hk : (N q).1 = 3) (hp : pth T N (dpt (N q).2.1) q i q' j lk) (hi : i < 2 ^ 20) (h0 : lk = 0 → inT th nd nt q' → K (nI (bg (th q') + j)) μ) (h1 : lk ≠ 0 → inT th nd nt q' → K (-1) (icS μ (bg (th q') + j) lk)) : mp_X12_itemCell μ (nI (th q)) (nI i) K := by
  obtain ⟨a1, a2, a3, a4, a5⟩ := y.tg hq
  obtain ⟨n1, n2, n3, n4⟩ := np q a1
  unfold mp_X12_itemCell
  refine ⟨by rw [lr26 y.1.2.1]; exact vp_in_nI a4 (by decide), ?_⟩
  rw [nI_clamp (by omega), a2.2.1 (by omega)]
  refine w_deep (n3 hk).1 ⟨dpt (N q).2.1 + 1, ?_⟩
  refine l_item y h0 h1 _ q i ?_ hq hp hi
  unfold dpt
  (repeat' split) <;> omega
theorem RMg.ic {c lk : Nat} (y : RMg μ T b k lim md cy rch n N fs fl st th nd bg nt us s) : RMg (icS μ c lk) T b k lim md cy rch n N fs fl st th nd bg nt us s ∧ stM μ (icS μ c lk) := by
  obtain ⟨y1, y2, y3, y4, y5⟩ := y
  have sm : stM μ (icS μ c lk) := (stM_r.i (by omega)).i (by omega)
  exact ⟨⟨y1.c (sm.im y1.1) (sm.ln y1.2.1) (fun _ _ _ _ _ => rfl) (fun k hk => (va_up_ne _ _ (by omega)).trans (va_up_ne _ _ (by omega))), y2, y3, y4, y5⟩, sm⟩
theorem D_row {xv : Int32} (hw : wf T b) (y : RMg μ T b k lim md cy rch n N (f :: r) 0 1 th nd bg nt us s) (hsb : s ≤ sb) (S : stp T h k lim md rch n N (f :: r) ids sb) (hin : inC T f.1 (T 17 f.1 + f.2.1)) (h4 : T 4 (T 17 f.1 + f.2.1) = 1) (ho : b (T 17 f.1 + f.2.1) = 31) (hh : 1 ≤ f.2.2.1 ∧ f.2.2.1 ≤ T 16 f.1) (hv : f.2.2.2 (T 15 f.1 + f.2.2.1 - 1) = .inl xv)
    (h0 : rch ≤ k * md → lim < rch → mNO μ K T b k lim md cy rch n N (f :: r) sb)
    (h1 : ¬ (∃ j, j ≤ 3375 ∧ xv = nI j) → ¬ (rch ≤ k * md ∧ lim < rch) → mOK μ K T b k lim (mm k lim md rch (1 + T 6 (T 10 4))) (mcy k lim md rch cy (1 + T 6 (T 10 4))) (mr T N (f :: r) ids k lim md rch (1 + T 6 (T 10 4))) (n + 1) (va_up N n (nob T (T 10 4))) (f :: r) (n + 1) 1 sb)
    (hK : ∀ j, j ≤ 3375 → xv = nI j → ¬ (rch ≤ k * md ∧ lim < rch) → mOK μ K T b k lim (mm k lim md rch 16) (mcy k lim md rch cy 16) (mr T N (f :: r) ids k lim md rch 16) (n + 1) (va_up N n (nrw (b (T 17 f.1 + f.2.1 + 1)) j)) ((f.1, f.2.1 + 2, f.2.2.1, va_up f.2.2.2 (T 15 f.1 + f.2.2.1 - 1) (.inr (n + 1))) :: r) 0 1 sb) : TD K μ (nI (T 17 f.1 + f.2.1)) (nI (b (T 17 f.1 + f.2.1))) (nI (b (T 17 f.1 + f.2.1 + 1))) (nI (b (T 17 f.1 + f.2.1 + 2))) := by
  obtain ⟨t, f1, f2, f3, f4, f5, f6, f7⟩ := y.ti hw
  obtain ⟨o1, o2, o3, o4, o5, o6⟩ := opB hw f2 hin h4
  have w32 := hw.2.1
  have hc := o1.2.2.2.2.2.1 ho
  have hin2 := hin.2
  have hw2 : wd (b (T 17 f.1 + f.2.1)) = 2 := by rw [ho]; rfl
  have e10 : T 15 f.1 + f.2.2.1 - 1 - 0 = T 15 f.1 + f.2.2.1 - 1 := by omega
  rw [ho]
  refine td_31 ?_
  unfold mp_X12_doRow
  refine ⟨fun z => absurd rfl z, fun _ => ?_⟩
  refine k_val (j := 0) hw y (by omega) ?_
  rw [e10, hv, vM_i]
  have bad : ¬ (∃ j, j ≤ 3375 ∧ xv = nI j) → mp_X12_doRow_26 (fun r s => sm_z r ∧ K r s) μ := fun hb => by
    unfold mp_X12_doRow_26
    exact k_flt (q := 4) hw y hsb S stM_r (by decide) (fun a c => (h0 a c).z) (fun a => (h1 hb a).z)
  refine ⟨fun q => bad (fun ⟨j, j1, j2⟩ => by rw [j2] at q; exact nI_neg (by omega) q), fun q1 => ⟨fun q2 => ?_, fun q => bad (fun ⟨j, j1, j2⟩ => q (by rw [j2]; exact nI_le j1 (by decide)))⟩⟩
  clear bad h1
  obtain ⟨len, l1, l2⟩ := nI_of2 (M := 3375) (n := 3375) (by decide) q1 q2
  obtain ⟨S1, S2, S3, S4, S5⟩ := S
  rw [l2, l_16]
  refine k_mk hw y S4 S2 (by omega) (by omega) S1 (fun a1 a2 => ⟨fun z => absurd rfl z, fun _ => k_no y (by omega) stM_r (h0 a1 a2).z⟩) (fun ns μ1 s1 y1 hs1 sm1 => ⟨fun _ => ?_, fun z => absurd z (by decide)⟩)
  have go : ∀ p3 : Int32, ((isP T (nrw (b (T 17 f.1 + f.2.1 + 1)) len) 0 → p3 = 1) ∧ (¬ isP T (nrw (b (T 17 f.1 + f.2.1 + 1)) len) 0 → p3 = 0)) → mp_X12_doRow_67 (fun r s => sm_z r ∧ K r s) μ1 (nI (T 17 f.1 + f.2.1)) (nI (b (T 17 f.1 + f.2.1 + 1))) 1 (nI len) p3 := fun p3 hp3 => by
    unfold mp_X12_doRow_67
    refine k_thing hw y1 S4 (npo_rw S4 l1 hc) ⟨rfl, fun _ => rfl, fun _ => hp3, fun _ => rfl⟩ (prt_rw T _ _) (by omega) S1 S3 (fun μ2 th2 nd2 bg2 nt2 us2 s2 y2 hs2 i2 j2 sm2 => ?_)
    refine k_drop (j := 1) hw y2 hh.1 (fun μ3 y3 sm3 => ?_)
    refine k_putT (v := n + 1) hw y3 (by show f.2.2.1 - 1 < T 16 f.1; omega) (fun q e => by cases e; exact i2) (fun μ4 y4 sm4 => ?_)
    refine k_on hw y4 (by omega) o6 (by show f.2.1 + _ < _; omega) (fun μ5 y5 sm5 => ?_)
    exact ⟨sm_z1, hK len l1 l2 ns μ5 ⟨_, _, _, _, _, _, y5.eq (by show f.2.1 + _ = _; omega) (by show f.2.2.1 - 1 + 1 = _; omega) (by show T 15 f.1 + (f.2.2.1 - 1) = _; omega), by omega⟩ (sm1.t (sm2.t (sm3.t (sm4.t sm5))))⟩
  have ip : isP T (nrw (b (T 17 f.1 + f.2.1 + 1)) len) 0 ↔ (b (T 17 f.1 + f.2.1 + 1) ≠ 0 ∨ dpt len ≠ 0) := by
    unfold isP nrw
    rw [if_neg (by show ¬ (3 : Nat) = 2; decide), if_pos rfl]
  unfold mp_X12_doRow_62
  refine ⟨fun z => go 1 ⟨fun _ => rfl, fun q => absurd (ip.mpr (Or.inl ?_)) q⟩, fun z => ?_⟩
  · have := (nI_ltI (a := 0) (by omega) (by omega)).mp z
    omega
  · have z0 : ¬ 0 < b (T 17 f.1 + f.2.1 + 1) := fun q => z ((nI_ltI (a := 0) (by omega) (by omega)).mpr q)
    have d2 : dpt len ≤ 2 := by
      unfold dpt
      (repeat' split) <;> omega
    refine w_deep l1 ⟨fun z2 => go 0 ⟨fun q => ?_, fun _ => rfl⟩, fun z2 => go 1 ⟨fun _ => rfl, fun q => absurd (ip.mpr (Or.inr ?_)) q⟩⟩
    · have c := (nI_leI (b := 0) (by omega) (by omega)).mp z2
      have := ip.mp q
      omega
    · intro e
      exact z2 (by rw [e]; decide)
theorem D_len {v : Nat} (hw : wf T b) (y : RMg μ T b k lim md cy rch n N (f :: r) 0 1 th nd bg nt us s) (hsb : s ≤ sb) (S : stp T h k lim md rch n N (f :: r) ids sb) (hin : inC T f.1 (T 17 f.1 + f.2.1)) (h4 : T 4 (T 17 f.1 + f.2.1) = 1) (ho : b (T 17 f.1 + f.2.1) = 32) (hh : 1 ≤ f.2.2.1 ∧ f.2.2.1 ≤ T 16 f.1) (hv : f.2.2.2 (T 15 f.1 + f.2.2.1 - 1) = .inr v) (hj : ∀ q, v = q + 1 → (N q).1 = 3)
    (h0 : v = 0 → rch ≤ k * md → lim < rch → mNO μ K T b k lim md cy rch n N (f :: r) sb)
    (h1 : v = 0 → ¬ (rch ≤ k * md ∧ lim < rch) → mOK μ K T b k lim (mm k lim md rch (1 + T 6 (T 10 0))) (mcy k lim md rch cy (1 + T 6 (T 10 0))) (mr T N (f :: r) ids k lim md rch (1 + T 6 (T 10 0))) (n + 1) (va_up N n (nob T (T 10 0))) (f :: r) (n + 1) 1 sb)
    (hK : ∀ q, v = q + 1 → mOK μ K T b k lim md cy rch n N ((f.1, f.2.1 + 1, f.2.2.1, va_up f.2.2.2 (T 15 f.1 + f.2.2.1 - 1) (.inl (nI (N q).2.1))) :: r) 0 1 sb) : TD K μ (nI (T 17 f.1 + f.2.1)) (nI (b (T 17 f.1 + f.2.1))) (nI (b (T 17 f.1 + f.2.1 + 1))) (nI (b (T 17 f.1 + f.2.1 + 2))) := by
  obtain ⟨t, f1, f2, f3, f4, f5, f6, f7⟩ := y.ti hw
  obtain ⟨o1, o2, o3, o4, o5, o6⟩ := opB hw f2 hin h4
  have hnt : nt ≤ 140000 := y.1.2.2.1.2.1
  have hin2 := hin.2
  have hw2 : wd (b (T 17 f.1 + f.2.1)) = 1 := by rw [ho]; rfl
  have e10 : T 15 f.1 + f.2.2.1 - 1 - 0 = T 15 f.1 + f.2.2.1 - 1 := by omega
  have hvi : ∀ q, v = q + 1 → inT th nd nt q := fun q e => y.vi hw (by omega) (hv.trans (by rw [e]))
  rw [ho]
  refine td_32 ?_
  unfold mp_X12_doRow
  refine ⟨fun _ => ⟨fun z => absurd rfl z, fun _ => ?_⟩, fun z => absurd z (by decide)⟩
  unfold mp_X12_doRow_113
  refine k_val (j := 0) hw y (by omega) ?_
  rw [e10, hv]
  refine ⟨fun z => ⟨fun q => absurd rfl q, fun _ => ?_⟩, fun z => ?_⟩
  · cases v with
    | zero => exact absurd rfl z
    | succ q =>
      refine k_drop (j := 1) hw y hh.1 (fun μ1 y1 sm1 => ?_)
      obtain ⟨a1, a2, a3, a4, a5⟩ := y1.tg (hvi q rfl)
      rw [vM_s, nI_clamp (by omega), a2.2.1 (by rw [hj q rfl]; decide)]
      refine ⟨by rw [lr26 y1.1.2.1]; exact vp_in_nI a4 (by decide), ?_⟩
      refine k_putI hw y1 (by show f.2.2.1 - 1 < T 16 f.1; omega) (fun μ2 y2 sm2 => ?_)
      refine k_on hw y2 (by omega) o6 (by show f.2.1 + _ < _; omega) (fun μ3 y3 sm3 => ?_)
      exact ⟨sm_z1, hK q rfl μ3 ⟨_, _, _, _, _, _, y3.eq (by show f.2.1 + _ = _; omega) (by show f.2.2.1 - 1 + 1 = _; omega) (by show T 15 f.1 + (f.2.2.1 - 1) = _; omega), by omega⟩ (sm1.t (sm2.t sm3))⟩
  · have v0 := (vM_n hnt hvi).mp z
    exact k_flt (q := 0) hw y hsb S stM_r (by decide) (fun a c => (h0 v0 a c).z) (fun a => (h1 v0 a).z)
theorem D_at {v : Nat} {xi : Int32} (hw : wf T b) (y : RMg μ T b k lim md cy rch n N (f :: r) 0 1 th nd bg nt us s) (hsb : s ≤ sb) (S : stp T h k lim md rch n N (f :: r) ids sb) (hin : inC T f.1 (T 17 f.1 + f.2.1)) (h4 : T 4 (T 17 f.1 + f.2.1) = 1) (ho : b (T 17 f.1 + f.2.1) = 33) (hh : 2 ≤ f.2.2.1 ∧ f.2.2.1 ≤ T 16 f.1) (hv : f.2.2.2 (T 15 f.1 + f.2.2.1 - 2) = .inr v) (hxi : f.2.2.2 (T 15 f.1 + f.2.2.1 - 1) = .inl xi) (hj : ∀ q, v = q + 1 → (N q).1 = 3)
    (h0 : ∀ e, (v = 0 ∧ e = 0) ∨ (e = 1 ∧ ∃ q, v = q + 1 ∧ ¬ ∃ i, i < (N q).2.1 ∧ xi = nI i) → rch ≤ k * md → lim < rch → mNO μ K T b k lim md cy rch n N (f :: r) sb)
    (h1 : ∀ e, (v = 0 ∧ e = 0) ∨ (e = 1 ∧ ∃ q, v = q + 1 ∧ ¬ ∃ i, i < (N q).2.1 ∧ xi = nI i) → ¬ (rch ≤ k * md ∧ lim < rch) → mOK μ K T b k lim (mm k lim md rch (1 + T 6 (T 10 e))) (mcy k lim md rch cy (1 + T 6 (T 10 e))) (mr T N (f :: r) ids k lim md rch (1 + T 6 (T 10 e))) (n + 1) (va_up N n (nob T (T 10 e))) (f :: r) (n + 1) 1 sb)
    (hK : ∀ q i, v = q + 1 → i < (N q).2.1 → xi = nI i → ∃ q' j lk, pth T N (dpt (N q).2.1) q i q' j lk ∧ ((N q).2.2.1 ≠ 0 ↔ ∃ w, rval N q q' j lk = .inr w) ∧ mOK μ K T b k lim md cy rch n N ((f.1, f.2.1 + 1, f.2.2.1 - 1, va_up f.2.2.2 (T 15 f.1 + f.2.2.1 - 2) (rval N q q' j lk)) :: r) 0 1 sb) : TD K μ (nI (T 17 f.1 + f.2.1)) (nI (b (T 17 f.1 + f.2.1))) (nI (b (T 17 f.1 + f.2.1 + 1))) (nI (b (T 17 f.1 + f.2.1 + 2))) := by
  obtain ⟨t, f1, f2, f3, f4, f5, f6, f7⟩ := y.ti hw
  obtain ⟨o1, o2, o3, o4, o5, o6⟩ := opB hw f2 hin h4
  have w32 := hw.2.1
  have np := S.2.2.2.1
  have hnt : nt ≤ 140000 := y.1.2.2.1.2.1
  have hin2 := hin.2
  have hw2 : wd (b (T 17 f.1 + f.2.1)) = 1 := by rw [ho]; rfl
  have e10 : T 15 f.1 + f.2.2.1 - 1 - 0 = T 15 f.1 + f.2.2.1 - 1 := by omega
  have e11 : T 15 f.1 + f.2.2.1 - 1 - 1 = T 15 f.1 + f.2.2.1 - 2 := by omega
  have hvi : ∀ q, v = q + 1 → inT th nd nt q := fun q e => y.vi hw (by omega) (hv.trans (by rw [e]))
  rw [ho]
  refine td_33 ?_
  unfold mp_X12_doRow
  refine ⟨fun _ => ⟨fun _ => ⟨fun z => absurd rfl z, fun _ => ?_⟩, fun z => absurd z (by decide)⟩, fun z => absurd z (by decide)⟩
  unfold mp_X12_doRow_113
  refine k_val (j := 1) hw y (by omega) ?_
  rw [e11, hv]
  refine ⟨fun z => ⟨fun _ => ⟨fun q => absurd rfl q, fun _ => ?_⟩, fun q => absurd q (by decide)⟩, fun z => ?_⟩
  · cases v with
    | zero => exact absurd rfl z
    | succ q =>
      have hq := hvi q rfl
      have hk := hj q rfl
      obtain ⟨a1, a2, a3, a4, a5⟩ := y.tg hq
      obtain ⟨n1, n2, n3, n4⟩ := np q a1
      have hn3 := n3 hk
      unfold mp_X12_doRow_171
      refine k_val (j := 0) hw y (by omega) ?_
      rw [e10, hxi, vM_i, vM_s]
      have bad : (¬ ∃ i, i < (N q).2.1 ∧ xi = nI i) → mp_X12_doRow_193 (fun r s => sm_z r ∧ K r s) μ := fun hb => by
        unfold mp_X12_doRow_193
        exact k_flt (q := 1) hw y hsb S stM_r (by decide) (fun a c => (h0 1 (Or.inr ⟨rfl, q, rfl, hb⟩) a c).z) (fun a => (h1 1 (Or.inr ⟨rfl, q, rfl, hb⟩) a).z)
      refine ⟨fun z => bad (fun ⟨i, j1, j2⟩ => by rw [j2] at z; exact nI_neg (by omega) z), fun z1 => ⟨by rw [lr26 t.2.1]; exact vp_in_nI a4 (by decide), ?_⟩⟩
      rw [nI_clamp (by omega), a2.2.1 (by omega)]
      refine ⟨fun z2 => ?_, fun z => bad (fun ⟨i, j1, j2⟩ => z (by rw [j2]; exact nI_lt j1 (by omega)))⟩
      clear bad h1 h0
      obtain ⟨i, i1, i2⟩ := nI_of z1
      rw [i2] at z2
      have hi : i < (N q).2.1 := (nI_ltI i1 (by omega)).mp z2
      obtain ⟨q', j, lk, hp, hty, hK⟩ := hK q i rfl hi i2
      have pe := pth_end _ _ _ _ _ _ hp
      rw [i2]
      -- the end
      have fin : ∀ (μ1 : sm_S) (x7 v5 : Int32), RMg μ1 T b k lim md cy rch n N (f :: r) 0 1 th nd bg nt us s → stM μ μ1 → inT th nd nt q' → v5 = vM th (rval N q q' j lk) → ((x7 = 0 ∧ (N q).2.2.1 = 0) ∨ (x7 = 1 ∧ (N q).2.2.1 ≠ 0)) → mp_X12_doRow_258 (fun r s => sm_z r ∧ K r s) μ1 (nI (T 17 f.1 + f.2.1)) x7 v5 := fun μ1 x7 v5 y1 sm1 hq' ev hx => by
        unfold mp_X12_doRow_258 mp_X12_doRow_285
        refine k_drop (j := 2) hw y1 hh.1 (fun μ2 y2 sm2 => ?_)
        rw [ev]
        refine ⟨fun z => ?_, fun z => ?_⟩
        · have it0 : (N q).2.2.1 = 0 := by
            rcases hx with c | c
            · exact c.2
            · exact absurd (c.1.symm.trans z) (by decide)
          have ex : ∃ x, rval N q q' j lk = .inl x := by
            cases hpv : rval N q q' j lk with
            | inl x => exact ⟨x, rfl⟩
            | inr w => exact absurd it0 (hty.mpr ⟨w, hpv⟩)
          obtain ⟨x, ex⟩ := ex
          rw [ex, vM_i]
          rw [ex] at hK
          refine k_putI hw y2 (by show f.2.2.1 - 2 < T 16 f.1; omega) (fun μ3 y3 sm3 => ?_)
          refine k_on hw y3 (by omega) o6 (by show f.2.1 + _ < _; omega) (fun μ4 y4 sm4 => ?_)
          exact ⟨sm_z1, hK μ4 ⟨_, _, _, _, _, _, y4.eq (by show f.2.1 + _ = _; omega) (by show f.2.2.1 - 2 + 1 = _; omega) (by show T 15 f.1 + (f.2.2.1 - 2) = _; omega), by omega⟩ (sm1.t (sm2.t (sm3.t sm4)))⟩
        · have it0 : (N q).2.2.1 ≠ 0 := by
            rcases hx with c | c
            · exact absurd c.1 z
            · exact c.2
          obtain ⟨w, ex⟩ := hty.mp it0
          have hin3 : ∀ q2, w = q2 + 1 → inT th nd nt q2 := fun q2 e => by
            unfold rval at ex
            by_cases l0 : lk = 0
            · rw [if_pos l0] at ex
              exact (y.tg hq').2.2.2.2 j q2 (by omega) (by rw [ex, e])
            · rw [if_neg l0, if_neg it0] at ex
              cases ex
              exact absurd e (by omega)
          rw [ex]
          rw [ex] at hK
          refine k_putT hw y2 (by show f.2.2.1 - 2 < T 16 f.1; omega) hin3 (fun μ3 y3 sm3 => ?_)
          refine k_on hw y3 (by omega) o6 (by show f.2.1 + _ < _; omega) (fun μ4 y4 sm4 => ?_)
          exact ⟨sm_z1, hK μ4 ⟨_, _, _, _, _, _, y4.eq (by show f.2.1 + _ = _; omega) (by show f.2.2.1 - 2 + 1 = _; omega) (by show T 15 f.1 + (f.2.2.1 - 2) = _; omega), by omega⟩ (sm1.t (sm2.t (sm3.t sm4)))⟩
      refine k_item y np hq hk hp (by omega) (fun l0 hq' => ?_) (fun l0 hq' => ?_)
      · obtain ⟨c1, c2, c3, c4, c5⟩ := y.tg hq'
        have nm1 : ¬ nI (bg (th q') + j) = -1 := nI_m1 (by omega)
        have hr0 : rval N q q' j lk = (N q').2.2.2 j := by unfold rval; rw [if_pos l0]
        rw [a2.2.2.2.1 hk]
        refine ⟨by rw [lr28 t.2.1]; exact vp_in_nI a4 (by decide), fun z => ?_, fun z => ?_⟩
        · have i0 := (nI_leI (b := 0) (by omega) (by omega)).mp z
          unfold mp_X12_doRow_224
          refine ⟨fun q => absurd rfl q, fun _ => ⟨fun _ => ?_, fun q => absurd q nm1⟩⟩
          rw [nI_clamp (by omega), c2.2.2.2.2.2 j (by omega)]
          exact ⟨by rw [lr31 t.2.1]; exact vp_in_nI (by omega) (by decide), fin μ 0 _ y stM_r hq' (by rw [hr0]) (Or.inl ⟨rfl, by omega⟩)⟩
        · have i0 : (N q).2.2.1 ≠ 0 := fun e => z (by rw [e]; decide)
          unfold mp_X12_doRow_224
          refine ⟨fun q => absurd rfl q, fun _ => ⟨fun _ => ?_, fun q => absurd q nm1⟩⟩
          rw [nI_clamp (by omega), c2.2.2.2.2.2 j (by omega)]
          exact ⟨by rw [lr31 t.2.1]; exact vp_in_nI (by omega) (by decide), fin μ 1 _ y stM_r hq' (by rw [hr0]) (Or.inr ⟨rfl, i0⟩)⟩
      · obtain ⟨y1, sm1⟩ := y.ic (c := bg (th q') + j) (lk := lk)
        have a28 : (icS μ (bg (th q') + j) lk).2.2.2.1 28 (th q) = nI (N q).2.2.1 := a2.2.2.2.1 hk
        have l28 : (icS μ (bg (th q') + j) lk).2.2.1 28 = 140000 := lr28 t.2.1
        rw [a28, l28]
        refine ⟨vp_in_nI a4 (by decide), fun z => ?_, fun z => ?_⟩
        · have i0 := (nI_leI (b := 0) (by omega) (by omega)).mp z
          unfold mp_X12_doRow_224
          refine ⟨fun q => absurd rfl q, fun _ => ⟨fun q => absurd rfl q, fun _ => ⟨fun _ => ?_, fun q => absurd rfl q⟩⟩⟩
          exact fin _ 0 0 y1 sm1 hq' (by unfold rval; rw [if_neg l0, if_pos (by omega)]; rfl) (Or.inl ⟨rfl, by omega⟩)
        · have i0 : (N q).2.2.1 ≠ 0 := fun e => z (by rw [e]; decide)
          unfold mp_X12_doRow_224
          refine ⟨fun q => absurd rfl q, fun _ => ⟨fun q => absurd rfl q, fun _ => ⟨fun q => absurd q (by decide), fun _ => ?_⟩⟩⟩
          exact fin _ 1 (-1) y1 sm1 hq' (by unfold rval; rw [if_neg l0, if_neg i0]; rfl) (Or.inr ⟨rfl, i0⟩)
  · have v0 := (vM_n hnt hvi).mp z
    exact k_flt (q := 0) hw y hsb S stM_r (by decide) (fun a c => (h0 0 (Or.inl ⟨v0, rfl⟩) a c).z) (fun a => (h1 0 (Or.inl ⟨v0, rfl⟩) a).z)
end
