/-! ===== a step, each side alone, with one outcome for both ===== -/
def PX (σ : sm_S) (i : Nat) (inF : Nat → Int32) (tk g : Nat) (ouF : Nat → Int32) : Prop := σ.1 18 = nI i ∧ σ.2.2.1 30 = 1000 ∧ σ.2.2.1 31 = 1000 ∧ (∀ j : Nat, j < i → σ.2.2.2.1 30 j = inF j) ∧ σ.1 19 = nI tk ∧ σ.2.1 0 = lN g ∧ ∀ j : Nat, j < min g 1000 → σ.2.2.2.1 31 j = ouF j
def PM (μ : sm_S) (i : Nat) (inF : Nat → Int32) (tk g : Nat) (ouF : Nat → Int32) : Prop := μ.1 19 = nI i ∧ μ.2.2.1 38 = 1000 ∧ μ.2.2.1 39 = 1000 ∧ (∀ j : Nat, j < i → μ.2.2.2.1 38 j = inF j) ∧ μ.1 18 = nI tk ∧ μ.2.1 1 = lN g ∧ μ.1 20 = nI (min g 1000) ∧ ∀ j : Nat, j < min g 1000 → μ.2.2.2.1 39 j = ouF j
def XA (σ : sm_S) (T : Nat → Nat → Nat) (b : Nat → Nat) (h k lim : Nat) (a : OC) (i : Nat) (inF : Nat → Int32) (tk g : Nat) (ouF : Nat → Int32) (s : Int64) : Prop := XH σ T b h k lim a.1 a.2.1 a.2.2.1 a.2.2.2.1 a.2.2.2.2.1 a.2.2.2.2.2.1 a.2.2.2.2.2.2.1 a.2.2.2.2.2.2.2 ∧ PX σ i inF tk g ouF ∧ σ.2.1 1 = s
def MA (μ : sm_S) (T : Nat → Nat → Nat) (b : Nat → Nat) (k lim : Nat) (a : OC) (i : Nat) (inF : Nat → Int32) (tk g : Nat) (ouF : Nat → Int32) (s : Int64) (sb : Nat) : Prop := MH μ T b k lim a.1 a.2.1 a.2.2.1 a.2.2.2.1 a.2.2.2.2.1 a.2.2.2.2.2.1 a.2.2.2.2.2.2.1 a.2.2.2.2.2.2.2 sb ∧ PM μ i inF tk g ouF ∧ μ.2.1 0 = s
def WA (T : Nat → Nat → Nat) (b : Nat → Nat) (H Y : Nat → Nat → Nat) (a : OC) : Prop := WT T b H Y a.2.2.2.1 a.2.2.2.2.1 a.2.2.2.2.2.1 a.2.2.2.2.2.2.1 a.2.2.2.2.2.2.2
theorem PX.g {σ σ' : sm_S} {i : Nat} {inF : Nat → Int32} {tk g : Nat} {ouF : Nat → Int32} (h : PX σ i inF tk g ouF) (hs : stG σ σ') (hl : σ'.2.1 0 = σ.2.1 0) : PX σ' i inF tk g ouF := by
  obtain ⟨a1, a2, a3, a4, a5, a6, a7⟩ := h
  have s1 : σ'.2.2.1 = σ.2.2.1 := hs.2.1
  have s2 : σ'.2.2.2.1 = σ.2.2.2.1 := hs.2.2.1
  have s3 : ∀ k, ¬ Ixs k → σ'.1 k = σ.1 k := hs.2.2.2.2.2
  exact ⟨by rw [s3 18 (by unfold Ixs; omega)]; exact a1, by rw [s1]; exact a2, by rw [s1]; exact a3, by rw [s2]; exact a4, by rw [s3 19 (by unfold Ixs; omega)]; exact a5, by rw [hl]; exact a6, by rw [s2]; exact a7⟩
theorem PM.g {μ μ' : sm_S} {i : Nat} {inF : Nat → Int32} {tk g : Nat} {ouF : Nat → Int32} (h : PM μ i inF tk g ouF) (hm : stM μ μ') : PM μ' i inF tk g ouF := by
  obtain ⟨a1, a2, a3, a4, a5, a6, a7, a8⟩ := h
  exact ⟨by rw [hm.2.2.2.1 19 (by omega)]; exact a1, by rw [hm.1]; exact a2, by rw [hm.1]; exact a3, by rw [hm.2.1 38 (by omega)]; exact a4, by rw [hm.2.2.2.1 18 (by omega)]; exact a5, by rw [hm.2.2.2.2 1 (by decide)]; exact a6, by rw [hm.2.2.2.1 20 (by omega)]; exact a7, by rw [hm.2.1 39 (by omega)]; exact a8⟩
def tkn (i tk : Nat) : Nat := if tk < i then tk + 1 else tk
def tkv (i : Nat) (inF : Nat → Int32) (tk : Nat) : Int32 := if tk < i then inF tk else 0
theorem PX.in {σ : sm_S} {i : Nat} {inF : Nat → Int32} {tk g : Nat} {ouF : Nat → Int32} (h : PX σ i inF tk g ouF) (bi : i ≤ 1000) (bt : tk ≤ 1000) : zin σ = tkv i inF tk ∧ PX (pin σ) i inF (tkn i tk) g ouF ∧ (pin σ).2 = σ.2 ∧ (∀ k, k ≠ 19 → (pin σ).1 k = σ.1 k) := by
  obtain ⟨a1, a2, a3, a4, a5, a6, a7⟩ := h
  have cc : σ.1 19 < σ.1 18 ↔ tk < i := by rw [a1, a5]; exact nI_ltI (by omega) (by omega)
  unfold zin tkv pin tkn
  by_cases c : tk < i
  · rw [if_pos (cc.mpr c), if_pos c, if_pos (cc.mpr c), if_pos c]
    refine ⟨by rw [a5, nI_clamp (by omega), a4 tk c], ⟨a1, a2, a3, a4, by show σ.1 19 + 1 = _; rw [a5, nI_1], a6, a7⟩, rfl, fun kk hk => va_up_ne _ _ hk⟩
  · rw [if_neg (fun q => c (cc.mp q)), if_neg c, if_neg (fun q => c (cc.mp q)), if_neg c]
    exact ⟨rfl, ⟨a1, a2, a3, a4, a5, a6, a7⟩, rfl, fun _ _ => rfl⟩
theorem PM.in {μ : sm_S} {i : Nat} {inF : Nat → Int32} {tk g : Nat} {ouF : Nat → Int32} (h : PM μ i inF tk g ouF) : zinM μ i tk = tkv i inF tk ∧ PM (pinM μ i tk) i inF (tkn i tk) g ouF := by
  obtain ⟨a1, a2, a3, a4, a5, a6, a7, a8⟩ := h
  unfold zinM tkv pinM tkn
  by_cases c : tk < i
  · rw [if_pos c, if_pos c, if_pos c]
    exact ⟨a4 tk c, ⟨a1, a2, a3, a4, rfl, a6, a7, a8⟩⟩
  · rw [if_neg c, if_neg c, if_neg c]
    exact ⟨rfl, ⟨a1, a2, a3, a4, rfl, a6, a7, a8⟩⟩
def ouN (g : Nat) (ouF : Nat → Int32) (v : Int32) : Nat → Int32 := if g < 1000 then upd ouF g v else ouF
theorem PX.ou {σ : sm_S} {i : Nat} {inF : Nat → Int32} {tk g : Nat} {ouF : Nat → Int32} (h : PX σ i inF tk g ouF) (bg : g < 2 ^ 62) (v : Int32) : (¬ (0 : Int32) ≤ lg_cmp (σ.2.1 0) 1000 → vp_in ((σ.2.1 0).toInt32) (σ.2.2.1 31)) ∧ PX (pou σ v) i inF tk (g + 1) (ouN g ouF v) ∧ rsX σ (pou σ v) ∧ (pou σ v).2.1 1 = σ.2.1 1 := by
  obtain ⟨a1, a2, a3, a4, a5, a6, a7⟩ := h
  have c1 : (0 : Int32) ≤ lg_cmp (σ.2.1 0) 1000 ↔ 1000 ≤ g := by
    rw [a6]
    exact lc_ge (b := 1000) (by omega) (by omega)
  refine ⟨fun z => ?_, ?_, ?_, ?_⟩
  · have : ¬ 1000 ≤ g := fun q => z (c1.mpr q)
    rw [a6, lN_32 (by omega), a3]
    exact vp_in_nI (by omega) (by decide)
  · unfold pou ouN
    by_cases c : 1000 ≤ g
    · rw [if_pos (c1.mpr c), if_neg (by omega), a6, l1N]
      exact ⟨a1, a2, a3, a4, a5, rfl, fun j hj => a7 j (by omega)⟩
    · rw [if_neg (fun q => c (c1.mp q)), if_pos (by omega), a6, l1N, lN_32 (by omega), nI_clamp (by omega)]
      refine ⟨a1, a2, a3, a4, a5, rfl, fun j hj => ?_⟩
      show upd (σ.2.2.2.1 31) g v j = upd ouF g v j
      by_cases e : j = g
      · rw [e, pk_us, pk_us]
      · rw [pk_un e, pk_un e]; exact a7 j (by omega)
  · unfold pou
    by_cases c : (0 : Int32) ≤ lg_cmp (σ.2.1 0) 1000
    · rw [if_pos c]; exact ⟨rfl, fun _ _ => rfl, fun _ _ => rfl⟩
    · rw [if_neg c]; exact ⟨rfl, fun r q => va_up_ne _ _ q, fun _ _ => rfl⟩
  · unfold pou
    by_cases c : (0 : Int32) ≤ lg_cmp (σ.2.1 0) 1000
    · rw [if_pos c]; rfl
    · rw [if_neg c]; rfl
theorem PM.ou {μ : sm_S} {i : Nat} {inF : Nat → Int32} {tk g : Nat} {ouF : Nat → Int32} (h : PM μ i inF tk g ouF) (v : Int32) : PM (pouM μ (min g 1000) v) i inF tk (g + 1) (ouN g ouF v) ∧ rsM μ (pouM μ (min g 1000) v) ∧ (pouM μ (min g 1000) v).2.1 0 = μ.2.1 0 := by
  obtain ⟨a1, a2, a3, a4, a5, a6, a7, a8⟩ := h
  refine ⟨?_, ?_, ?_⟩
  · unfold pouM ouN
    by_cases c : 1000 ≤ g
    · rw [if_neg (by omega), if_neg (by omega), a6, l1N]
      exact ⟨a1, a2, a3, a4, a5, rfl, by show μ.1 20 = _; rw [a7, show min (g + 1) 1000 = min g 1000 by omega], fun j hj => a8 j (by omega)⟩
    · rw [if_pos (by omega), if_pos (by omega), a6, l1N]
      refine ⟨a1, a2, a3, a4, a5, rfl, ?_, fun j hj => ?_⟩
      · show nI (min g 1000 + 1) = _
        rw [show min (g + 1) 1000 = min g 1000 + 1 by omega]
      · show upd (μ.2.2.2.1 39) (min g 1000) v j = upd ouF g v j
        rw [show min g 1000 = g by omega]
        by_cases e : j = g
        · rw [e, pk_us, pk_us]
        · rw [pk_un e, pk_un e]; exact a8 j (by omega)
  · unfold pouM
    by_cases c : min g 1000 < 1000
    · rw [if_pos c]; exact ⟨rfl, fun r q => va_up_ne _ _ (by omega), fun k q => va_up_ne _ _ (by omega)⟩
    · rw [if_neg c]; exact ⟨rfl, fun _ _ => rfl, fun _ _ => rfl⟩
  · unfold pouM
    by_cases c : min g 1000 < 1000
    · rw [if_pos c]; rfl
    · rw [if_neg c]; rfl
section
variable {σ : sm_S} {T : Nat → Nat → Nat} {b : Nat → Nat} {H Y : Nat → Nat → Nat} {h k lim sb : Nat} {a : OC} {i tk g : Nat} {inF ouF : Nat → Int32} {s : Int64}
theorem s_ex (hw : wf T b) (lk : lkd T b) (vk : vOK T b H Y) (X : XA σ T b h k lim a i inF tk g ouF s) (W : WA T b H Y a) (h1 : a.2.2.2.2.2.2.2 = 1) (bi : i ≤ 1000) (bt : tk ≤ 1000) (bg : g < 2 ^ 62) (hsb : sb + 3 < 2 ^ 31) : ∃ (a' : OC) (tk' g' : Nat) (ouF' : Nat → Int32) (d : Nat), (d = 1 ∨ (d = 0 ∧ a'.2.2.2.2.2.2.2 = 4)) ∧ WA T b H Y a' ∧ a'.2.2.2.2.2.2.2 ≤ 4 ∧ a'.2.2.2.2.2.2.2 ≠ 0 ∧ tk' ≤ 1000 ∧ g' ≤ g + 1 ∧ (∀ K : jk, (∀ σ', XA σ' T b h k lim a' i inF tk' g' ouF' (if d = 1 then s + 1 else s) → rsX σ σ' → K (nI d) σ') → mp_X7_step σ K) ∧ (∀ μ, MA μ T b k lim a i inF tk g ouF s sb → ∀ K : jk, (∀ μ', MA μ' T b k lim a' i inF tk' g' ouF' s (sb + 2) → rsM μ μ' → K (nI d) μ') → mp_X12_step μ K) := by
  obtain ⟨md, cy, rch, n, N, fs, fl, st⟩ := a
  have h1 : st = 1 := h1
  subst h1
  obtain ⟨X, P, es⟩ := X
  have X : XH σ T b h k lim md cy rch n N fs fl 1 := X
  have W : WT T b H Y n N fs fl 1 := W
  cases fs with
  | nil => exact absurd rfl (W.2.2.2 rfl)
  | cons f r =>
    obtain ⟨ids, hr⟩ := rls_ex W.1 W.vl
    obtain ⟨ac, bd⟩ := X.bd hw hr
    have np := W.1.np hw
    have S : stp T h k lim md rch n N (f :: r) ids sb := ⟨hr, ac, by omega, np, hsb⟩
    have hfl : (f :: r).length < 7600 := by omega
    cases fl with
    | zero =>
      obtain ⟨h1, hin, h4, h16, hb, hfs, w, hv, hok, c, t', w', av, hc, q1, q2⟩ := W.top vk
      obtain ⟨o1, o2, o3, o4, o5, o6⟩ := opB hw h1 hin h4
      by_cases c40 : b (T 17 f.1 + f.2.1) < 40
      · obtain ⟨o, a, wo⟩ := e_all (k := k) (lim := lim) (md := md) (cy := cy) (rch := rch) (ids := ids) hw lk vk W c40
        cases o with
        | none =>
          refine ⟨(md, cy, rch, n, N, f :: r, 0, 4), tk, g, ouF, 0, Or.inr ⟨rfl, rfl⟩, ⟨W.1, W.2.1, W.2.2.1, fun e => absurd e (by show ¬ (4 : Nat) = 1; decide)⟩, Nat.le_refl _, (by show (4 : Nat) ≠ 0; decide), bt, by omega, fun K hK => ?_, fun μ M K hK => ?_⟩
          · refine x_all hw lk X h1 hin h4 hr ?_ a
            intro σ' X' sg e1
            exact hK σ' ⟨X', P.g sg (by rw [e1]), by rw [e1]; exact es⟩ sg.rs
          · obtain ⟨M, Q, em⟩ := M
            refine m_all hw lk M S hfl hin h4 ?_ a
            intro μ' M' sm
            exact hK μ' ⟨M', Q.g sm, by rw [sm.2.2.2.2 0 (by decide)]; exact em⟩ sm.rs
        | some p =>
          have s4 := AS_st a
          refine ⟨p, tk, g, ouF, 1, Or.inl rfl, wo, s4.1, s4.2, bt, by omega, fun K hK => ?_, fun μ M K hK => ?_⟩
          · refine x_all hw lk X h1 hin h4 hr ?_ a
            intro σ' X' sg e1
            exact hK σ' ⟨X', P.g sg (by rw [e1]; rfl), by rw [e1, if_pos rfl, ← es]; rfl⟩ sg.rs
          · obtain ⟨M, Q, em⟩ := M
            refine m_all hw lk M S hfl hin h4 ?_ a
            intro μ' M' sm
            exact hK μ' ⟨M', Q.g sm, by rw [sm.2.2.2.2 0 (by decide)]; exact em⟩ sm.rs
      · by_cases c41 : b (T 17 f.1 + f.2.1) = 40
        · obtain ⟨e0, e1, e2⟩ := av.1 (Or.inr c41)
          have hh := e0.mp hc
          have hwd : wd (b (T 17 f.1 + f.2.1)) = 1 := by rw [c41]; rfl
          have aa := q1 (by omega)
          rw [hwd, e1, e2] at aa
          have W' : WT T b H Y n N ((f.1, f.2.1 + 1, f.2.2.1 + 1, va_up f.2.2.2 (T 15 f.1 + f.2.2.1) (.inl (tkv i inF tk))) :: r) 0 1 := W.go W.1 (Nat.le_refl _) nle_r rfl (arr_top hw W.1 h1 aa (by omega) (hv.up (cf_i _) (Or.inr ⟨rfl, rfl⟩)) (hb.up (Nat.le_refl _) (fun k' e => by cases e) (Or.inr ⟨rfl, rfl⟩)))
          refine ⟨(md, cy, rch, n, N, (f.1, f.2.1 + 1, f.2.2.1 + 1, va_up f.2.2.2 (T 15 f.1 + f.2.2.1) (.inl (tkv i inF tk))) :: r, 0, 1), tkn i tk, g, ouF, 1, Or.inl rfl, W', (by show (1 : Nat) ≤ 4; decide), (by show (1 : Nat) ≠ 0; decide), by unfold tkn; split <;> omega, by omega, fun K hK => ?_, fun μ M K hK => ?_⟩
          · obtain ⟨p9, p10, p11, p12⟩ := P.in bi bt
            refine X_in hw X h1 hin h4 c41 hh P.1 P.2.2.2.2.1 ⟨bi, bt⟩ P.2.1 ?_
            intro σ' X' sg e3
            rw [p9] at X'
            have rx : rsX σ (pin σ) := ⟨by rw [p11], fun r _ => by rw [p11], fun kk q => p12 kk (fun e => q (Or.inr e))⟩
            exact hK σ' ⟨X', p10.g sg (by rw [e3]; rfl), by
              rw [e3, if_pos rfl, ← es]
              show (pin σ).2.1 1 + 1 = _
              rw [p11]⟩ (rx.t sg.rs)
          · obtain ⟨M, Q, em⟩ := M
            obtain ⟨p9, p10⟩ := Q.in
            refine M_in hw M hin h4 c41 hh Q.1 Q.2.2.2.2.1 ⟨bi, bt⟩ Q.2.1 ?_
            intro μ' M' sm
            rw [p9] at M'
            have rm : rsM μ (pinM μ i tk) := ⟨rfl, fun _ _ => rfl, fun kk q => va_up_ne _ _ (by omega)⟩
            exact hK μ' ⟨M', p10.g sm, by rw [sm.2.2.2.2 0 (by decide)]; exact em⟩ (rm.t sm.rs)
        · have c41 : b (T 17 f.1 + f.2.1) = 41 := by omega
          obtain ⟨e0, e1, e2⟩ := av.2.2.2.2.2.2.2.2.2.1 (Or.inr c41)
          obtain ⟨hh, z2⟩ := e0.mp hc
          obtain ⟨xv, ex⟩ := hv.i0 (i := T 15 f.1 + f.2.2.1 - 1) (by omega) z2
          have hwd : wd (b (T 17 f.1 + f.2.1)) = 1 := by rw [c41]; rfl
          have aa := q1 (by omega)
          rw [hwd, e1, e2] at aa
          have W' : WT T b H Y n N ((f.1, f.2.1 + 1, f.2.2.1 - 1, f.2.2.2) :: r) 0 1 := W.go W.1 (Nat.le_refl _) nle_r rfl (arr_top hw W.1 h1 aa (by omega) (hv.le (by omega)) (hb.le (Nat.le_refl _) (by omega)))
          refine ⟨(md, cy, rch, n, N, (f.1, f.2.1 + 1, f.2.2.1 - 1, f.2.2.2) :: r, 0, 1), tk, g + 1, ouN g ouF xv, 1, Or.inl rfl, W', (by show (1 : Nat) ≤ 4; decide), (by show (1 : Nat) ≠ 0; decide), bt, Nat.le_refl _, fun K hK => ?_, fun μ M K hK => ?_⟩
          · obtain ⟨p4, p5, p6, p8⟩ := P.ou bg xv
            refine X_out hw X h1 hin h4 c41 ⟨hh, h16⟩ ex p4 ?_
            intro σ' X' sg e3
            exact hK σ' ⟨X', p5.g sg (by rw [e3]; rfl), by
              rw [e3, if_pos rfl, ← es]
              show (pou σ xv).2.1 1 + 1 = _
              rw [p8]⟩ (p6.t sg.rs)
          · obtain ⟨M, Q, em⟩ := M
            obtain ⟨p5, p7, p9⟩ := Q.ou xv
            refine M_out hw M hin h4 c41 hh ex Q.2.2.2.2.2.2.1 (by omega) Q.2.2.1 ?_
            intro μ' M' sm
            exact hK μ' ⟨M', p5.g sm, by rw [sm.2.2.2.2 0 (by decide), p9]; exact em⟩ (p7.t sm.rs)
    | succ q =>
      obtain ⟨hq, k2⟩ := W.2.1 q rfl
      obtain ⟨⟨f1, f2, f3, f4, f5, f6⟩, -, ff⟩ := W.2.2.1 f r rfl
      obtain ⟨v1, v2, v3, v4⟩ := (vk f.1 f1).1 _ f2 f3
      have hcl := W.1.c q hq k2
      have cv : ∀ i, hdl T b f.1 f.2.1 (N q).2.1 i → cov T b f.1 (T 17 f.1 + f.2.1) i := fun i hd => ⟨by rw [Nat.add_sub_cancel_left]; exact hd.1, by rw [Nat.add_sub_cancel_left]; exact hd.2.1⟩
      have hh : ∀ i, i < T 19 f.1 → hdl T b f.1 f.2.1 (N q).2.1 i → 1 ≤ T 16 f.1 := fun i hi hd => (v4.1 i hi (cv i hd)).1
      have ex : (∃ i, i < T 19 f.1 ∧ hdl T b f.1 f.2.1 (N q).2.1 i ∧ ∀ i', i' < i → ¬ hdl T b f.1 f.2.1 (N q).2.1 i') ∨ (∀ i', i' < T 19 f.1 → ¬ hdl T b f.1 f.2.1 (N q).2.1 i') := by
        have : ∀ m, m ≤ T 19 f.1 → (∃ i, i < T 19 f.1 ∧ hdl T b f.1 f.2.1 (N q).2.1 i ∧ ∀ i', i' < i → ¬ hdl T b f.1 f.2.1 (N q).2.1 i') ∨ (∀ i', i' < m → ¬ hdl T b f.1 f.2.1 (N q).2.1 i') := by
          intro m
          induction m with
          | zero => intro _; exact Or.inr (fun i' hi' => absurd hi' (Nat.not_lt_zero _))
          | succ m ih =>
            intro hm
            rcases ih (by omega) with z | z
            · exact Or.inl z
            · by_cases hd : hdl T b f.1 f.2.1 (N q).2.1 m
              · exact Or.inl ⟨m, by omega, hd, z⟩
              · refine Or.inr (fun i' hi' => ?_)
                by_cases e : i' = m
                · rw [e]; exact hd
                · exact z i' (by omega)
        exact this _ (Nat.le_refl _)
      rcases ex with ⟨i0, hi, hd, hmin⟩ | hno
      · have same : ∀ i', hdl T b f.1 f.2.1 (N q).2.1 i' → (∀ j, j < i' → ¬ hdl T b f.1 f.2.1 (N q).2.1 j) → i' = i0 := fun i' hd' hmin' => by
          rcases Nat.lt_trichotomy i' i0 with z | z | z
          · exact absurd hd' (hmin i' z)
          · exact z
          · exact absurd hd (hmin' i0 z)
        obtain ⟨s1, s2, s3, s4, s5⟩ := v4.1 i0 hi (cv i0 hd)
        have hhc := (hw.2.2.2.2.2.2.2.2.1 f.1 f1).2.2.2.2.2.2.2.2.2.2.2.2.1 i0 hi
        have W' : WT T b H Y n N ((f.1, pr b (T 20 f.1 + 7 * i0 + 5), 1, va_up f.2.2.2 (T 15 f.1) (.inr (q + 1))) :: r) 0 1 := by
          refine ⟨W.1, fun q e => by omega, fun f' r' e => ?_, fun _ => List.cons_ne_nil _ _⟩
          cases e
          have hbb : vlt n (T 15 f.1 + 1) (va_up f.2.2.2 (T 15 f.1) (.inr (q + 1))) := (f6.le (Nat.le_refl _) (Nat.le_add_right _ _)).up (Nat.le_refl _) (fun k' e => by cases e; exact hq) (Or.inr ⟨rfl, rfl⟩)
          refine ⟨⟨f1, s2, by show H f.1 (T 17 f.1 + pr b (T 20 f.1 + 7 * i0 + 5)) ≠ 0; omega, by show 1 + 1 ≤ H f.1 (T 17 f.1 + pr b (T 20 f.1 + 7 * i0 + 5)); omega, fun j hj => ?_, hbb⟩, fun _ => by show 1 + 1 = H f.1 (T 17 f.1 + pr b (T 20 f.1 + 7 * i0 + 5)); omega, ff⟩
          have hj : j < T 15 f.1 + 1 := hj
          show cf T N (va_up f.2.2.2 (T 15 f.1) (.inr (q + 1)) j) (Y f.1 (12 * (T 17 f.1 + pr b (T 20 f.1 + 7 * i0 + 5)) + j))
          by_cases e : j = T 15 f.1
          · rw [e, va_up_self]
            exact (cf_cl hw.2.1 hhc k2 hd.2.2).le hw (Or.inl (by omega)) (fun i e h2 => by cases e; exact hcl) s4
          · rw [va_up_ne _ _ e]
            exact (f5 j (by omega)).le hw (v3 j (by omega)).1 (fun i' e' h2 => W.1.c i' (f6 j i' (by omega) e') h2) (s5 j (by omega))
        refine ⟨(md, cy, rch, n, N, (f.1, pr b (T 20 f.1 + 7 * i0 + 5), 1, va_up f.2.2.2 (T 15 f.1) (.inr (q + 1))) :: r, 0, 1), tk, g, ouF, 1, Or.inl rfl, W', (by show (1 : Nat) ≤ 4; decide), (by show (1 : Nat) ≠ 0; decide), bt, by omega, fun K hK => ?_, fun μ M K hK => ?_⟩
        · refine X_fly hw X f1 k2 hh (fun i' hi' hd' hmin' => ?_) (fun hno => absurd hd (hno i0 hi))
          rw [same i' hd' hmin']
          intro σ' X' sg e3
          exact hK σ' ⟨X', P.g sg (by rw [e3]; rfl), by rw [e3, if_pos rfl, ← es]; rfl⟩ sg.rs
        · obtain ⟨M, Q, em⟩ := M
          refine M_fly hw M np k2 hh (fun i' hi' hd' hmin' => ?_) (fun hno => absurd hd (hno i0 hi))
          rw [same i' hd' hmin']
          intro μ' M' sm
          exact hK μ' ⟨M', Q.g sm, by rw [sm.2.2.2.2 0 (by decide)]; exact em⟩ sm.rs
      · have W' : WT T b H Y n N r (q + 1) (if r = [] then 3 else 1) := by
          cases r with
          | nil => exact WT_nil W.1 (fun q' e => by cases e; exact ⟨hq, k2⟩) (by decide)
          | cons g r' =>
            refine ⟨W.1, fun q' e => by cases e; exact ⟨hq, k2⟩, fun f' r2 e => ?_, fun _ => List.cons_ne_nil _ _⟩
            cases e
            exact ⟨ff.1.1, fun e => absurd e (Nat.succ_ne_zero q), ff.2⟩
        refine ⟨(md, cy, rch, n, N, r, q + 1, if r = [] then 3 else 1), tk, g, ouF, 1, Or.inl rfl, W', by show (if r = [] then 3 else 1) ≤ 4; split <;> decide, by show (if r = [] then 3 else 1) ≠ 0; split <;> decide, bt, by omega, fun K hK => ?_, fun μ M K hK => ?_⟩
        · refine X_fly hw X f1 k2 hh (fun i' hi' hd' _ => absurd hd' (hno i' hi')) (fun _ => ?_)
          intro σ' X' sg e3
          exact hK σ' ⟨X', P.g sg (by rw [e3]; rfl), by rw [e3, if_pos rfl, ← es]; rfl⟩ sg.rs
        · obtain ⟨M, Q, em⟩ := M
          refine M_fly hw M np k2 hh (fun i' hi' hd' _ => absurd hd' (hno i' hi')) (fun _ => ?_)
          intro μ' M' sm
          exact hK μ' ⟨M', Q.g sm, by rw [sm.2.2.2.2 0 (by decide)]; exact em⟩ sm.rs
end
