/-! ===== end, both sides: all of it ===== -/
theorem lnX.g {R I : Nat → Prop} {A : Nat → Nat → Prop} {σ σ' : sm_S} (h : lnX σ) (hX : frg R I A σ σ') (hR : ∀ r, (11 ≤ r ∧ r ≤ 16) ∨ (20 ≤ r ∧ r ≤ 29) → ¬ R r) : lnX σ' := by
  have ll : ∀ r, (11 ≤ r ∧ r ≤ 16) ∨ (20 ≤ r ∧ r ≤ 29) → σ'.2.2.1 r = σ.2.2.1 r := fun r a => hX.2.1 r (hR r a)
  unfold lnX at h ⊢
  rw [ll 11 (by decide), ll 12 (by decide), ll 13 (by decide), ll 14 (by decide), ll 15 (by decide), ll 16 (by decide), ll 20 (by decide), ll 21 (by decide), ll 22 (by decide), ll 23 (by decide), ll 24 (by decide), ll 25 (by decide), ll 26 (by decide), ll 27 (by decide), ll 28 (by decide), ll 29 (by decide)]
  exact h
theorem and255 (x : Int32) : x &&& 255 = nI (x &&& 255).toNatClampNeg ∧ (x &&& 255).toNatClampNeg < 256 := by
  obtain ⟨j, h1, h2⟩ := pk_andE x (m := 255) 8 (by decide)
  rw [h2, nI_clamp (by omega)]
  exact ⟨rfl, h1⟩
theorem w_113w {μ : sm_S} {w : Nat} {K : jk} (h : μ.1 3 = nI w) (hw : w < 2 ^ 30) (z : K (-3 - nI w) (sm_i μ 4 0)) : mp_X11_end_113 K μ := by
  unfold mp_X11_end_113 mp_X11_end_126 mp_X11_end_150
  rw [h]
  refine ⟨fun _ => ⟨sm_z0, fun s es => ?_⟩, fun q => absurd ((nI_leI (a := 0) (by omega) (by omega)).mpr (Nat.zero_le _)) q⟩
  rw [es]
  refine ⟨fun _ => ?_, fun q => absurd rfl q⟩
  show K (-3 - μ.1 3) _
  rw [h]
  exact z
theorem w_113g {μ : sm_S} {K : jk} (h : μ.1 3 = -1) (z : K (μ.1 7) (sm_i μ 4 1)) : mp_X11_end_113 K μ := by
  unfold mp_X11_end_113 mp_X11_end_126 mp_X11_end_150
  rw [h]
  refine ⟨fun q => absurd q (by decide), fun _ => ⟨sm_z1, fun s es => ?_⟩⟩
  rw [es]
  exact ⟨fun q => absurd q (by decide : ¬ (1 : Int32) = 0), fun _ => z⟩
def I34 (k : Nat) : Prop := k = 3 ∨ k = 4
theorem j_end1 {σ μ : sm_S} {mc1 ms1 mc2 ms2 n t : Nat} {K : Int32 → sm_S → Int32 → sm_S → Prop} (hT : iv_tape σ μ) (hs0 : σ.1 35 = nI t) (hnt : n ≤ t) (ht8 : t ≤ 8000) (hl : iml σ μ) (hmc1 : 2 ≤ mc1) (hms1 : σ.2.2.1 18 < n → 2 * max n (2 * σ.2.2.1 18) ≤ ms1) (hmc2 : 3 ≤ mc2) (hms2 : σ.2.2.1 34 < n → 14 * max n (2 * σ.2.2.1 34) ≤ ms2) (hK : ∀ r σ' r' μ', endR σ μ n r σ' r' μ' → K r σ' r' μ') : mp_X10_end mc1 ms1 mc2 ms2 σ (nI n) (fun r σ' => mp_X12_end μ (nI n) (fun r' μ' => K r σ' r' μ')) := by
  obtain ⟨t', ht, hs, hm, hl1, hl2, hml, heq, hfit⟩ := hT
  have et : t' = t := by
    have := hs.symm.trans hs0
    exact (nI_eq (by omega) (by omega)).mp this
  subst et
  obtain ⟨a1, a2, a3, a4, a5, a6, a7, a8, a9, a10, a11, a12, a13⟩ := hl
  have hn : n ≤ 8000 := by omega
  -- the class takes the bytes
  have start : mp_X2_take mc1 ms1 (sm_i (sm_i (sm_i σ 35 0) 22 0) 36 0) (nI n) (fun σ13 => mp_X6_firstWrong σ13 (fun r16 σ15 => ((¬ r16 = (-1) → (mp_X10_end_67 mc1 ms1 mc2 ms2 (fun r σ' => mp_X12_end μ (nI n) (fun r' μ' => K r σ' r' μ')) σ15 r16)) ∧ (r16 = (-1) → (mp_X3_firstWrong σ15 (fun r19 σ18 => mp_X10_end_67 mc1 ms1 mc2 ms2 (fun r σ' => mp_X12_end μ (nI n) (fun r' μ' => K r σ' r' μ')) σ18 r19)))))) := by
    refine w_take hn (show n ≤ σ.2.2.1 36 by omega) hfit a4 a3 hmc1 hms1 (fun N f g hN1 hN2 hNc hf hg => ?_)
    obtain ⟨σ1, e1⟩ : ∃ σ1, σ1 = sm_i (sm_i (sm_x (sm_x (sm_i (sm_i (sm_i σ 35 0) 22 0) 36 0) 18 N f) 19 N g) 14 (nI n)) 15 0 := ⟨_, rfl⟩
    rw [← e1]
    have f1 : frg RE IE AE σ σ1 := by
      rw [e1]
      refine frg.t (b := sm_i (sm_i (sm_i σ 35 0) 22 0) 36 0) (fr.g (((fr_r.i (by unfold IE; omega)).i (by unfold IE; omega)).i (by unfold IE; omega))) ?_
      refine frg.t (b := sm_x (sm_x (sm_i (sm_i (sm_i σ 35 0) 22 0) 36 0) 18 N f) 19 N g) ((frg_x (by unfold RE; omega) (fun j => (by unfold AE; omega))).t (frg_x (by unfold RE; omega) (fun j => (by unfold AE; omega)))) (fr.g ((fr_r.i (by unfold IE; omega)).i (by unfold IE; omega)))
    have k18 : σ1.2.2.1 18 = N := by rw [e1]; rfl
    have k19 : σ1.2.2.1 19 = N := by rw [e1]; rfl
    have k34 : σ1.2.2.1 34 = σ.2.2.1 34 := by rw [e1]; rfl
    have k32 : σ1.2.2.1 32 = σ.2.2.1 34 := by rw [← a6, e1]; rfl
    have k33 : σ1.2.2.1 33 = 12 * σ.2.2.1 34 := by rw [← a5, e1]; rfl
    have k35 : σ1.2.2.1 35 = 12 := by rw [← a8, e1]; rfl
    have s14 : σ1.1 14 = nI n := by rw [e1]; rfl
    have s15 : σ1.1 15 = 0 := by rw [e1]; rfl
    have s35 : σ1.1 35 = 0 := by rw [e1]; rfl
    have s22 : σ1.1 22 = 0 := by rw [e1]; rfl
    have s36 : σ1.1 36 = 0 := by rw [e1]; rfl
    have r18 : σ1.2.2.2.1 18 = f := by rw [e1]; rfl
    have r19 : σ1.2.2.2.1 19 = g := by rw [e1]; rfl
    have q1 : lnX σ1 := a1.g f1 (fun r z => by unfold RE; omega)
    clear e1
    -- the reference takes them
    obtain ⟨μ0, d0⟩ : ∃ μ0, μ0 = sm_i (sm_i μ 17 0) 1 (nI n) := ⟨_, rfl⟩
    have f0 : fr IG AG μ μ0 := by rw [d0]; exact (fr_r.i (by unfold IG; omega)).i (by unfold IG; omega)
    obtain ⟨μ1', g1', g2', g3'⟩ := l_mcp hn n 0 μ0 (by omega) (by rw [d0]; exact hml) (by rw [d0]; exact a9) (by rw [d0]; exact lm4 a2) (fun j hj => absurd hj (by omega))
    have x2 : μ0.2.2.2.1 2 = μ.2.2.2.1 2 := by rw [d0]
    rw [x2] at g2'
    obtain ⟨μ1, d1⟩ : ∃ μ1, μ1 = sm_i (sm_i (sm_i (sm_i (sm_i μ1' 0 0) 2 0) 3 (-1)) 7 0) 4 0 := ⟨_, rfl⟩
    rw [← d1] at g3'
    have g1 : fr IG AG μ μ1 := by
      rw [d1]
      exact (((((f0.t (g1'.m (fun k q => q.elim) (fun r j q => by unfold A34 at q; unfold AG; omega))).i (by unfold IG; omega)).i (by unfold IG; omega)).i (by unfold IG; omega)).i (by unfold IG; omega)).i (by unfold IG; omega)
    have m1 : μ1.1 1 = nI n := by
      rw [d1]
      show μ1'.1 1 = nI n
      rw [g1'.2.2.2.1 1 (fun q => q), d0]; rfl
    have m17 : μ1.1 17 = 0 := by
      rw [d1]
      show μ1'.1 17 = 0
      rw [g1'.2.2.2.1 17 (fun q => q), d0]; rfl
    have m0 : μ1.1 0 = 0 := by rw [d1]; rfl
    have m2 : μ1.1 2 = 0 := by rw [d1]; rfl
    have m3 : μ1.1 3 = -1 := by rw [d1]; rfl
    have m7 : μ1.1 7 = 0 := by rw [d1]; rfl
    have m4 : μ1.1 4 = 0 := by rw [d1]; rfl
    have y3 : ∀ j, j < n → μ1.2.2.2.1 3 j = μ.2.2.2.1 2 j := fun j hj => by rw [d1]; exact (g2' j hj).1
    have y4 : ∀ j, j < n → μ1.2.2.2.1 4 j = 0 := fun j hj => by rw [d1]; exact (g2' j hj).2
    have q2 : lnM μ1 := g1.lM a2
    clear d1
    -- the bytes
    obtain ⟨b, hb⟩ : ∃ b : Nat → Nat, b = fun j => if j < n then (μ.2.2.2.1 2 j).toNatClampNeg else 0 := ⟨_, rfl⟩
    have hbv : ∀ j, j < n → μ.2.2.2.1 2 j = nI (b j) ∧ b j < 256 := fun j hj => by
      have := heq j (by omega)
      rw [hb]
      show μ.2.2.2.1 2 j = nI (if j < n then (μ.2.2.2.1 2 j).toNatClampNeg else 0) ∧ (if j < n then (μ.2.2.2.1 2 j).toNatClampNeg else 0) < 256
      rw [if_pos hj, ← this]
      exact and255 _
    have hb256 : ∀ j, b j < 256 := fun j => by
      by_cases c : j < n
      · exact (hbv j c).2
      · rw [hb]
        show (if j < n then (μ.2.2.2.1 2 j).toNatClampNeg else 0) < 256
        rw [if_neg c]; decide
    have hrg : rg σ1 μ1 n b := ⟨⟨hn, s14, by omega, by omega, hb256, fun j hj => by rw [r18, hf j hj]; exact (heq j (by omega)).trans (hbv j hj).1⟩, ⟨hn, m1, by rw [g1.ln]; exact a9, hb256, fun j hj => by rw [y3 j hj]; exact (hbv j hj).1⟩, q1, q2⟩
    have rd := jc_reader hrg m2 m3 (by omega) (by omega) (fun j hj => ⟨by rw [r19]; exact hg j hj, y4 j hj⟩) s15 m7
    have goM0 : ∀ K : jk, mp_X11_readAll μ1 (fun r15 σ14 => ((r15 = 0 → (mp_X11_end_113 (fun r18 σ17 => (((0 : Int32) ≤ r18 → (∃ n47 : Nat, mp_X12_end_47 K n47 σ17 r18 0)) ∧ (¬ (0 : Int32) ≤ r18 → (K r18 σ17)))) σ14)) ∧ (¬ r15 = 0 → (mp_X11_checkSlots σ14 (fun σ17 => ∃ n94 : Nat, mp_X11_end_94 (fun r18 σ17 => (((0 : Int32) ≤ r18 → (∃ n47 : Nat, mp_X12_end_47 K n47 σ17 r18 0)) ∧ (¬ (0 : Int32) ≤ r18 → (K r18 σ17)))) n94 σ17 0))))) → mp_X12_end μ (nI n) K := fun K z => by
      have z2 := g3' _ z
      rw [d0] at z2
      unfold mp_X12_end mp_X11_end
      simp (disch := (first | ((try simp (disch := omega) only [va_up_self, va_up_ne, ne_eq, reduceCtorEq, Nat.reduceEqDiff, not_false_eq_true, l_0, l_2, l_3, l_4, l_5, l_6, l_7, l_8, l_9, l_10, l_11, l_12, l_13, l_14, l_15, l_16, l_17, l_18, l_19, l_20, l_21, l_22, l_23, l_24, l_25, l_26, l_27, l_28, l_29, l_30, l_31, l_32, l_33, l_34, l_35, l_36, l_37, l_38, l_39, l_40, l_41, l_42, l_43, l_44, l_45, l_46, l_47, l_48, l_49, l_50, l_51, l_52, l_53, l_54, l_55, l_56, l_57, l_58, l_59, l_60, l_61, l_62, l_63, l_64, l_97, l_98, l_99, l_200, l_225, l_232, l_255, l_256, l_700, l_1000, l_1024, l_3375, l_4095, l_8000, l_20000, l_60000, vp_nIs, zz0, zz1, e10, nI_leI, nI_ltI, nI_eq, nI_1, nI_1a, nI_add, nI_sub, nI_sub1, pk_mul, nI_clamp, nI_le1, nI_le1', nI_lt1, nI_lt1', nI_eq1, nI_eqm, m1_eqN, m1_le, m1_lt, m1_leN, m1_ltN, nI_am, not_true_eq_false, not_false_eq_true, oN_eqm, hm]) <;> omega) | fail)) only [↓numW, ↓zb_t, ↓zb_f, ↓zb_tt, ↓zb_ff, ↓zb_i, ↓zb_z0, ↓zb_z1, ↓zb_z, ↓zb_l, ↓zb_v, vi32, vi64, true_and, pk_us, Int32.add_zero, Nat.add_sub_cancel, nI_add, nI_1, nI_1a, nI_clamp, k7, k7', k8, k8', k12, k12', k15, k15', k16, k16', nI_sub1, va_up_self, va_up_ne, ne_eq, reduceCtorEq, Nat.reduceEqDiff, not_false_eq_true, hm]
      exact ⟨_, z2⟩
    -- what is wanted at the end
    have hfin : ∀ (r : Int32) (σ' μ' : sm_S) (N2 : Nat), frg RE IE AE σ σ' → fr IG AG μ μ' → σ'.1 35 = 0 → μ'.1 0 = 0 → σ'.1 22 = 0 → μ'.1 17 = 0 → σ'.2.2.1 18 = N → σ'.2.2.1 19 = N → σ'.2.2.1 34 = N2 → σ'.2.2.1 32 = N2 → σ'.2.2.1 33 = 12 * N2 → N2 ≤ 16000 → grw n (σ.2.2.1 34) N2 → ((σ'.1 36 = 0 ∧ μ'.1 4 = 0) ∨ (σ'.1 36 = 1 ∧ μ'.1 4 = 1 ∧ img σ' μ')) → endR σ μ n r σ' r μ' := fun r σ' μ' N2 z1 z2 z3 z4 z5 z6 z7 z8 z9 z10 z11 z12 z13 z14 => by
      refine ⟨rfl, z1, z2, z3, z4, z5, z6, ⟨a1.g z1 (fun r z => by unfold RE; omega), z2.lM a2, by omega, by omega, by omega, by omega, by omega, by rw [z1.2.1 35 (by unfold RE; omega)]; exact a8, by rw [z2.ln]; exact a9, by rw [z2.ln]; exact a10, by rw [z2.ln]; exact a11, by rw [z2.ln]; exact a12, by rw [z2.ln]; exact a13⟩, ?_, by rw [z9]; exact z13, z14⟩
      rw [z7]
      rcases hNc with q | q
      · exact Or.inl q.1
      · exact Or.inr q
    obtain ⟨r, σ2, r', μ2, aX, aM, f2, g2, hc⟩ := rd
    have f2' : frg RE IE AE σ σ2 := f1.t ((fr.g f2).m (fun k q => q) (fun k q => by unfold IX at q; unfold IE; omega) (fun r j q => by unfold AX at q; unfold AE; omega))
    have g2' : fr IG AG μ μ2 := g1.t (g2.m (fun k q => by unfold IM at q; unfold IG; omega) (fun r j q => by unfold AM at q; unfold AG; omega))
    have x35 : σ2.1 35 = 0 := by rw [f2.2.2.2.1 35 (by unfold IX; omega)]; exact s35
    have x22 : σ2.1 22 = 0 := by rw [f2.2.2.2.1 22 (by unfold IX; omega)]; exact s22
    have x36 : σ2.1 36 = 0 := by rw [f2.2.2.2.1 36 (by unfold IX; omega)]; exact s36
    have x14 : σ2.1 14 = nI n := by rw [f2.2.2.2.1 14 (by unfold IX; omega)]; exact s14
    have u0 : μ2.1 0 = 0 := by rw [g2.2.2.2.1 0 (by unfold IM; omega)]; exact m0
    have u17 : μ2.1 17 = 0 := by rw [g2.2.2.2.1 17 (by unfold IM; omega)]; exact m17
    have c18 : σ2.2.2.1 18 = N := by rw [f2.ln]; exact k18
    have c19 : σ2.2.2.1 19 = N := by rw [f2.ln]; exact k19
    have c34 : σ2.2.2.1 34 = σ.2.2.1 34 := by rw [f2.ln]; exact k34
    have c32 : σ2.2.2.1 32 = σ.2.2.1 34 := by rw [f2.ln]; exact k32
    have c33 : σ2.2.2.1 33 = 12 * σ.2.2.1 34 := by rw [f2.ln]; exact k33
    have c35 : σ2.2.2.1 35 = 12 := by rw [f2.ln]; exact k35
    have key : jt (fun K => mp_X6_firstWrong σ1 (fun r16 σ15 => ((¬ r16 = (-1) → (mp_X10_end_67 mc1 ms1 mc2 ms2 K σ15 r16)) ∧ (r16 = (-1) → (mp_X3_firstWrong σ15 (fun r19 σ18 => mp_X10_end_67 mc1 ms1 mc2 ms2 K σ18 r19)))))) (fun K => mp_X12_end μ (nI n) K) (endR σ μ n) := by
      refine jt_m goM0 ?_
      rcases hc with ⟨er, er', hq⟩ | ⟨w, hw1, er, er', ew⟩
      · -- read: the linker
        have hm3 : μ2.1 3 = -1 := by
          obtain ⟨C, M, fz, k, pc, p1, p2, -, -, -, -, -, -, -, -, -, -, -, -, -, -, -, -, -, -, -, h3⟩ := hq
          exact h3
        obtain ⟨hX, hMi, hwf, hT4⟩ := im_ex hq (by omega) (by omega)
        generalize tb σ2 = T at hX hMi hwf hT4
        obtain ⟨r0, h0⟩ := mn_ex (S := bad T b) (fun w z => by have := bad_lt hwf z; omega)
        have w4 := hwf.2.2.2.1
        have goX : ∀ K : jk, mp_X10_end_67 mc1 ms1 mc2 ms2 K σ2 r0 → mp_X6_firstWrong σ1 (fun r16 σ15 => ((¬ r16 = (-1) → (mp_X10_end_67 mc1 ms1 mc2 ms2 K σ15 r16)) ∧ (r16 = (-1) → (mp_X3_firstWrong σ15 (fun r19 σ18 => mp_X10_end_67 mc1 ms1 mc2 ms2 K σ18 r19))))) := fun K z => aX _ ⟨fun q => absurd er q, fun _ => w_linkX hX hwf (fun r hr => by rw [mn_eq hr h0]; exact z)⟩
        have goM : ∀ K2 : jk, mp_X11_end_113 K2 (sm_i μ2 3 r0) → mp_X11_readAll μ1 (fun r15 σ14 => ((r15 = 0 → (mp_X11_end_113 K2 σ14)) ∧ (¬ r15 = 0 → (mp_X11_checkSlots σ14 (fun σ17 => ∃ n94 : Nat, mp_X11_end_94 K2 n94 σ17 0))))) := fun K2 z => aM _ ⟨fun q => absurd (q.symm.trans er') (by decide), fun _ => w_chkS hMi hwf hm3 (fun v hv => ⟨T 0 1 + 1, w_chkA hMi hwf (fun v' hv' => by rw [mn_eq hv' h0]; exact z) (T 0 1) 0 v (by omega) (mn_c hv (fun w => ⟨fun q => Or.inl q, fun q => q.elim (fun q => q) (fun ⟨m', q, _⟩ => absurd q (by omega))⟩))⟩)⟩
        rcases h0 with ⟨e0, lk⟩ | ⟨w, hw1, e0, hw2, -⟩
        · -- the verifier
          rw [e0] at goX goM
          obtain ⟨N2, σ3, n1, n2, n3, n4, n5, n6, n7, n8, n9, n10⟩ := w_fbad (mc := mc2) (ms := ms2) hn x14 c32 c33 c34 a7 hmc2 hms2
          obtain ⟨μ3, d3⟩ : ∃ μ3, μ3 = sm_i (sm_i μ2 3 (-1)) 4 1 := ⟨_, rfl⟩
          have f3 : fr I34 Ag μ2 μ3 := by rw [d3]; exact (fr_r.i (by unfold I34; omega)).i (by unfold I34; omega)
          have i7 : (sm_i μ2 3 (-1)).1 7 = nI (T 0 3) := hMi.2.2.2.2.2.1
          have t03 := hwf.2.2.2.2.2.1
          have t04 := hwf.2.2.2.2.1
          obtain ⟨μ4, f4, r4, go4⟩ := l_me47 (x2 := nI (T 0 3)) 8000 0 μ3 (by omega) (by rw [f3.ln, g2'.ln]; exact a10) (by rw [f3.ln, g2'.ln]; exact a12) (fun p hp => absurd hp (by omega))
          have f34 : fr I34 Ag μ2 μ4 := f3.t (f4.m (fun k q => q.elim) (fun r j q => q))
          have i4 : μ4.1 4 = 1 := by rw [f4.2.2.2.1 4 (fun q => q), d3]; rfl
          have v3 : imX σ3 T b := hX.g n4 (fun r z1 z2 => by unfold Rf; omega) (fun k q => by unfold If; omega) (fun r j z1 z2 z3 => by unfold Af; omega)
          have b4 : bM μ4 T b := ⟨hMi.f f34 (fun k q => by unfold I34; omega) (fun r j z1 z2 => by unfold Ag; omega), i4, by rw [f34.ln, g2'.ln]; exact a13⟩
          have hvb : vbs σ3 μ4 T b := ⟨v3, b4, ⟨by omega, by omega, by omega, by omega, by omega, by omega⟩, ⟨by rw [f34.ln, g2'.ln]; exact a10, by rw [f34.ln, g2'.ln]; exact a11, by rw [f34.ln, g2'.ln]; exact a12⟩, by rw [n4.2.1 35 (by unfold Rf; omega)]; exact c35⟩
          obtain ⟨rk, σ5, rk', μ5, ak, ak', kr⟩ := j_mets (σ0 := σ3) (μ0 := μ4) (mc := mc2) (ms := ms2) (x2 := nI (T 0 3)) hwf lk (T 0 1) 0 σ3 μ4 (by omega) hvb n8 (fun m' hm' => absurd hm' (by omega)) (fun m' _ hm' p hp => by
            have y := hwf.2.2.2.2.2.2.2.2.1 m' hm'
            have y11 := y.2.2.2.2.2.2.2.2.2.2.1
            have y12 := y.2.2.2.2.2.2.2.2.2.2.2.1
            unfold inC at hp
            have z1 := n9 p (by omega)
            have z2 := r4 p (by omega)
            exact ⟨z1.1, z2.1, z1.2, z2.2⟩) fr_r fr_r
          have runX : ∀ K : jk, ((rk = (-1) → (K ((sm_i σ5 36 1).1 15) (sm_i σ5 36 1))) ∧ (¬ rk = (-1) → (K ((-10003) - rk) σ5))) → mp_X10_end_67 mc1 ms1 mc2 ms2 K σ2 (-1) := fun K z => by
            have z2 := ak (fun r4 σ2 => ((r4 = (-1) → (∀ σ6 : sm_S, σ6 = sm_i σ2 36 1 → K (σ6.1 15) σ6)) ∧ (¬ r4 = (-1) → (K ((-10003) - r4) σ2)))) ⟨fun q s es => by rw [es]; exact z.1 q, z.2⟩
            unfold mp_X10_end_67
            exact ⟨fun _ => n10 _ ⟨_, z2⟩, fun q => absurd rfl q⟩
          have runM : ∀ K : jk, K rk' μ5 → mp_X11_end_113 (fun r18 σ17 => (((0 : Int32) ≤ r18 → (∃ n47 : Nat, mp_X12_end_47 K n47 σ17 r18 0)) ∧ (¬ (0 : Int32) ≤ r18 → (K r18 σ17)))) (sm_i μ2 3 (-1)) := fun K z => by
            refine w_113g rfl ?_
            rw [i7, ← d3]
            exact ⟨fun _ => ⟨_, go4 K ⟨_, ak' K z⟩⟩, fun q => absurd ((nI_leI (a := 0) (by omega) (by omega)).mpr (Nat.zero_le _)) q⟩
          have F3 : frg RE IE AE σ σ3 := f2'.t (n4.m (fun k q => by unfold Rf at q; unfold RE; omega) (fun k q => by unfold If at q; unfold IE; omega) (fun r j q => by unfold Af at q; unfold AE; omega))
          have G4 : fr IG AG μ μ4 := g2'.t (f34.m (fun k q => by unfold I34 at q; unfold IG; omega) (fun r j q => by unfold Ag at q; unfold AG; omega))
          have n3' : grw n (σ.2.2.1 34) N2 := by
            rcases n3 with q | q
            · exact Or.inl q.1
            · exact Or.inr q
          have e18 : σ3.2.2.1 18 = N := by rw [n4.2.1 18 (by unfold Rf; omega)]; exact c18
          have e19 : σ3.2.2.1 19 = N := by rw [n4.2.1 19 (by unfold Rf; omega)]; exact c19
          have p35 : σ3.1 35 = 0 := by rw [n4.2.2.2.1 35 (by unfold If; omega)]; exact x35
          have p22 : σ3.1 22 = 0 := by rw [n4.2.2.2.1 22 (by unfold If; omega)]; exact x22
          have p36 : σ3.1 36 = 0 := by rw [n4.2.2.2.1 36 (by unfold If; omega)]; exact x36
          have o0 : μ4.1 0 = 0 := by rw [f34.2.2.2.1 0 (by unfold I34; omega)]; exact u0
          have o17 : μ4.1 17 = 0 := by rw [f34.2.2.2.1 17 (by unfold I34; omega)]; exact u17
          rcases kr with ⟨k1, k2, k3, k4, k5, k6⟩ | ⟨x, hx, k1, k2, k3, μ6, k4, k5⟩
          · have s15' : (sm_i σ5 36 1).1 15 = nI (T 0 3) := k5.1.2.2.2.2.2.2.1
            have F5 : frg RE IE AE σ (sm_i σ5 36 1) := F3.t (fr.g ((k3.m (fun k q => by unfold IVX at q; unfold IE; omega) (fun r j q => by unfold AVx at q; unfold AE; omega)).i (by unfold IE; omega)))
            have G5 : fr IG AG μ μ5 := G4.t (k4.m (fun k q => by unfold IVM at q; unfold IG; omega) (fun r j q => by unfold AVm at q; unfold AG; omega))
            have v5 : vbs (sm_i σ5 36 1) μ5 T b := by
              obtain ⟨z1, z2, z3, z4, z5⟩ := k5
              exact ⟨z1.f (I := I36) (A := A0) (fr_r.i (by unfold I36; omega)) (fun k q => by unfold I36; omega) (fun r j _ _ _ q => q), z2, z3, z4, z5⟩
            refine ⟨nI (T 0 3), sm_i σ5 36 1, nI (T 0 3), μ5, fun K z => goX K (runX K ⟨fun _ => by rw [s15']; exact z, fun q => absurd k1 q⟩), fun K z => goM _ (runM K (by rw [k2]; exact z)), hfin _ _ _ N2 F5 G5 ?_ ?_ ?_ ?_ ?_ ?_ ?_ ?_ ?_ n2 n3' (Or.inr ⟨rfl, ?_, T, b, v5, hwf, lk, fun m hm => (k6 m hm).r rfl rfl⟩)⟩
            · show σ5.1 35 = 0
              rw [k3.2.2.2.1 35 (by unfold IVX; omega)]; exact p35
            · rw [k4.2.2.2.1 0 (by unfold IVM; omega)]; exact o0
            · show σ5.1 22 = 0
              rw [k3.2.2.2.1 22 (by unfold IVX; omega)]; exact p22
            · rw [k4.2.2.2.1 17 (by unfold IVM; omega)]; exact o17
            · show σ5.2.2.1 18 = N
              rw [k3.ln]; exact e18
            · show σ5.2.2.1 19 = N
              rw [k3.ln]; exact e19
            · show σ5.2.2.1 34 = N2
              rw [k3.ln]; exact n7
            · show σ5.2.2.1 32 = N2
              rw [k3.ln]; exact n5
            · show σ5.2.2.1 33 = 12 * N2
              rw [k3.ln]; exact n6
            · rw [k4.2.2.2.1 4 (by unfold IVM; omega)]; exact i4
          · have F5 : frg RE IE AE σ σ5 := F3.t (fr.g (k3.m (fun k q => by unfold IVX at q; unfold IE; omega) (fun r j q => by unfold AVx at q; unfold AE; omega)))
            have G5 : fr IG AG μ μ5 := by
              rw [k5]
              exact (G4.t (k4.m (fun k q => by unfold IVM at q; unfold IG; omega) (fun r j q => by unfold AVm at q; unfold AG; omega))).i (by unfold IG; omega)
            refine ⟨-10003 - nI x, σ5, -10003 - nI x, μ5, fun K z => goX K (runX K ⟨fun q => absurd (k1.symm.trans q) (nI_m1 (by omega)), fun _ => by rw [k1]; exact z⟩), fun K z => goM _ (runM K (by rw [k2]; exact z)), hfin _ _ _ N2 F5 G5 ?_ ?_ ?_ ?_ ?_ ?_ ?_ ?_ ?_ n2 n3' (Or.inl ⟨?_, ?_⟩)⟩
            · rw [k3.2.2.2.1 35 (by unfold IVX; omega)]; exact p35
            · rw [k5]
              show μ6.1 0 = 0
              rw [k4.2.2.2.1 0 (by unfold IVM; omega)]; exact o0
            · rw [k3.2.2.2.1 22 (by unfold IVX; omega)]; exact p22
            · rw [k5]
              show μ6.1 17 = 0
              rw [k4.2.2.2.1 17 (by unfold IVM; omega)]; exact o17
            · rw [k3.ln]; exact e18
            · rw [k3.ln]; exact e19
            · rw [k3.ln]; exact n7
            · rw [k3.ln]; exact n5
            · rw [k3.ln]; exact n6
            · rw [k3.2.2.2.1 36 (by unfold IVX; omega)]; exact p36
            · rw [k5]; rfl
        · -- the linker found a wrong one
          have hw3 := bad_lt hwf hw2
          rw [e0] at goX goM
          refine ⟨-3 - nI w, σ2, -3 - nI w, sm_i (sm_i μ2 3 (nI w)) 4 0, fun K z => goX K ?_, fun K z => goM _ (w_113w rfl (by omega) ⟨fun q => absurd q (n3_neg (by omega)), fun _ => z⟩), hfin _ _ _ (σ.2.2.1 34) f2' ((g2'.i (by unfold IG; omega)).i (by unfold IG; omega)) x35 u0 x22 u17 c18 c19 c34 c32 c33 a7 (Or.inl rfl) (Or.inl ⟨x36, rfl⟩)⟩
          unfold mp_X10_end_67
          exact ⟨fun q => absurd q (nI_m1 (by omega)), fun _ => z⟩
      · -- the reader found a wrong byte
        refine ⟨-3 - nI w, σ2, -3 - nI w, sm_i μ2 4 0, fun K z => aX _ ⟨fun _ => ?_, fun q => absurd (er.symm.trans q) (nI_m1 (by omega))⟩, fun K z => aM _ ⟨fun _ => w_113w ew (by omega) ⟨fun q => absurd q (n3_neg (by omega)), fun _ => z⟩, fun q => absurd er' q⟩, hfin _ _ _ (σ.2.2.1 34) f2' (g2'.i (by unfold IG; omega)) x35 u0 x22 u17 c18 c19 c34 c32 c33 a7 (Or.inl rfl) (Or.inl ⟨x36, rfl⟩)⟩
        unfold mp_X10_end_67
        rw [er]
        exact ⟨fun q => absurd q (nI_m1 (by omega)), fun _ => z⟩
    exact jt_K key hK
  unfold mp_X10_end
  simp (disch := (first | ((try simp (disch := omega) only [va_up_self, va_up_ne, ne_eq, reduceCtorEq, Nat.reduceEqDiff, not_false_eq_true, l_0, l_2, l_3, l_4, l_5, l_6, l_7, l_8, l_9, l_10, l_11, l_12, l_13, l_14, l_15, l_16, l_17, l_18, l_19, l_20, l_21, l_22, l_23, l_24, l_25, l_26, l_27, l_28, l_29, l_30, l_31, l_32, l_33, l_34, l_35, l_36, l_37, l_38, l_39, l_40, l_41, l_42, l_43, l_44, l_45, l_46, l_47, l_48, l_49, l_50, l_51, l_52, l_53, l_54, l_55, l_56, l_57, l_58, l_59, l_60, l_61, l_62, l_63, l_64, l_97, l_98, l_99, l_200, l_225, l_232, l_255, l_256, l_700, l_1000, l_1024, l_3375, l_4095, l_8000, l_20000, l_60000, vp_nIs, zz0, zz1, e10, nI_leI, nI_ltI, nI_eq, nI_1, nI_1a, nI_add, nI_sub, nI_sub1, pk_mul, nI_clamp, nI_le1, nI_le1', nI_lt1, nI_lt1', nI_eq1, nI_eqm, m1_eqN, m1_le, m1_lt, m1_leN, m1_ltN, nI_am, not_true_eq_false, not_false_eq_true, oN_eqm, hs0]) <;> omega) | fail)) only [↓numW, ↓zb_t, ↓zb_f, ↓zb_tt, ↓zb_ff, ↓zb_i, ↓zb_z0, ↓zb_z1, ↓zb_z, ↓zb_l, ↓zb_v, vi32, vi64, true_and, pk_us, Int32.add_zero, Nat.add_sub_cancel, nI_add, nI_1, nI_1a, nI_clamp, k7, k7', k8, k8', k12, k12', k15, k15', k16, k16', nI_sub1, va_up_self, va_up_ne, ne_eq, reduceCtorEq, Nat.reduceEqDiff, not_false_eq_true, hs0]
  exact start
