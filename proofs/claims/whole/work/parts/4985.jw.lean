/-! ===== value and same, both sides ===== -/
section
variable {σ μ : sm_S} {T : Nat → Nat → Nat} {b : Nat → Nat} {H Y : Nat → Nat → Nat} {h k lim md cy rch n sb : Nat} {L : Nat → Prop} {N : Nat → AN} {fs : List AF} {fl st : Nat} {th nd bg : Nat → Nat} {nt us s : Nat}
theorem a12_0 (p : Int64) : lg_cmp (p &&& 4095) 0 = 0 ↔ xp p % 4096 = 0 := by rw [lg0, xp_0, xp_and]
/-- where a path ends, the kinds of its part -/
theorem pth_kd (nk : nok T n N) : ∀ {d q i q' j lk : Nat}, pth T N d q i q' j lk → q < n → ((N q).1 = 3 ∨ (N q).1 = 4) → lk = 0 → ∀ k', (N q').2.2.2 j = .inr (k' + 1) → lvn (N q) = d → ((N k').1 = 2 ∨ (N k').1 = 3) := by
  intro d
  induction d with
  | zero =>
    intro q i q' j lk hp hq hk l0 k' e hl
    obtain ⟨p1, p2, p3, p4, p5⟩ := hp
    subst p3 p4
    have pp := ((nk _ hq).1.pl hk).2.2.2.2 j p2
    unfold ptl at pp
    rw [if_pos hl] at pp
    exact (pp.vk nk (fun k2 e2 => (nk _ hq).2 j k2 (by omega) e2) k' e).2
  | succ d ih =>
    intro q i q' j lk hp hq hk l0 k' e hl
    obtain ⟨p1, p2, p3⟩ := hp
    have pp := ((nk q hq).1.pl hk).2.2.2.2 (i / 15 ^ (d + 1)) p2
    unfold ptl at pp
    rw [if_neg (by omega)] at pp
    rcases p3 with ⟨-, -, -, p6⟩ | ⟨u, p3, p4⟩
    · omega
    · have hu := (nk q hq).2 (i / 15 ^ (d + 1)) u (by rw [p1]; exact p2) p3
      rw [p3] at pp
      rcases pp with z | ⟨u', z, z1, z2, z3⟩
      · cases z
      · cases z
        exact ih p4 hu (Or.inr z1) l0 k' e (by unfold lvn; rw [if_neg (by omega), z2, hl]; rfl)
theorem l_valM {K : Int64 → sm_S → Prop} {w : Nat} {o : Option AV} (hw : wf T b) (nk : nok T n N) (h2 : w ≤ 2) : ∀ (d : Nat) (p : Int64) (v : AV) (μ : sm_S), xp p < 4096 ^ d → wk T N d (xp p) (some v) o → vok n N v → (∀ k, v = .inr (k + 1) → inT th nd nt k) → RMg μ T b k lim md cy rch n N fs fl st th nd bg nt us s → (∀ μ', RMg μ' T b k lim md cy rch n N fs fl st th nd bg nt us s → rsV μ μ' → K (ans T N w o) μ') → mp_X12_value__119 K (d + 1) μ (nI w) (vM th v) (iM v) p := by
  have np := nk.np hw
  have w32 := hw.2.1
  intro d
  induction d with
  | zero =>
    intro p v μ hx hk hv hin y hK
    have e : o = some v := hk
    subst e
    have x0 : xp p % 4096 = 0 := by
      have : xp p < 1 := hx
      omega
    unfold mp_X12_value__119
    exact ⟨fun _ => m_end hw y np h2 hv hin (hK μ y rsV_r), fun q => absurd ((a12_0 p).mpr x0) q⟩
  | succ d ih =>
    intro p v μ hx hk hv hin y hK
    have ln := y.1.2.1
    have im := y.1.1
    have lt : xp p % 4096 < 4096 := Nat.mod_lt _ (by decide)
    unfold mp_X12_value__119 mp_X12_value__152
    rcases hk with ⟨x0, e⟩ | ⟨x0, v', a1, a2⟩
    · subst e
      exact ⟨fun _ => m_end hw y np h2 hv hin (hK μ y rsV_r), fun q => absurd ((a12_0 p).mpr x0) q⟩
    · refine ⟨fun q => absurd ((a12_0 p).mp q) x0, fun _ => ?_⟩
      intro v26 e26
      rw [xp_32, nI_sub1 (by omega)] at e26
      rw [e26]
      have hxd : xp p / 4096 < 4096 ^ d := by
        rw [Nat.div_lt_iff_lt_mul (by decide)]
        rw [Nat.pow_succ] at hx
        exact hx
      have no : v' = none → K (-1) μ := fun e => by
        subst e
        have := wk_none _ _ _ a2
        subst this
        exact hK μ y rsV_r
      generalize hii : xp p % 4096 - 1 = i at *
      have nxt : ∀ (μ1 : sm_S) (v1 : AV) (x8 x9 : Int32), v' = some v1 → x8 = vM th v1 → x9 = iM v1 → vok n N v1 → (∀ k, v1 = .inr (k + 1) → inT th nd nt k) → RMg μ1 T b k lim md cy rch n N fs fl st th nd bg nt us s → rsV μ μ1 → mp_X12_value__312 (mp_X12_value__119 K (d + 1)) K μ1 (nI w) x8 x9 p := fun μ1 v1 x8 x9 e1 e8 e9 ok1 in1 y1 r1 => by
        unfold mp_X12_value__312
        intro v10 e10
        rw [e10, e8, e9]
        rw [e1] at a2
        exact ih _ v1 μ1 (by rw [xp_sh]; exact hxd) (by rw [xp_sh]; exact a2) ok1 in1 y1 (fun μ2 y2 r2 => hK μ2 y2 (r1.t r2))
      cases v with
      | inl x => exact ⟨fun _ => no a1, fun q => absurd rfl q⟩
      | inr q =>
        cases q with
        | zero => exact ⟨fun q => absurd q (by show ¬ (1 : Int32) = 0; decide), fun _ => ⟨fun q => absurd rfl q, fun _ => no a1⟩⟩
        | succ q =>
          have hq := hin q rfl
          obtain ⟨b1, b2, b3, b4, b5⟩ := y.tg hq
          obtain ⟨n1, n2, n3, n4⟩ := np q b1
          have kk := (hv q rfl).2
          rw [vM_s, nI_clamp (by omega), b2.1, b2.2.1 (by omega)]
          refine ⟨fun q => absurd q (by show ¬ (1 : Int32) = 0; decide), fun _ => ⟨fun _ => ⟨by rw [lr25 ln]; exact vp_in_nI b4 (by decide), ?_⟩, fun q => absurd q (nI_m1 (by omega))⟩⟩
          have a1 : ((N q).1 = 2 ∧ ((i < T 6 (N q).2.1 ∧ v' = some ((N q).2.2.2 i)) ∨ (¬ i < T 6 (N q).2.1 ∧ v' = none))) ∨ ((N q).1 = 3 ∧ ((i < (N q).2.1 ∧ ∃ q' j lk, pth T N (dpt (N q).2.1) q i q' j lk ∧ ((N q).2.2.1 ≠ 0 ↔ ∃ w, rval N q q' j lk = .inr w) ∧ v' = some (rval N q q' j lk)) ∨ (¬ i < (N q).2.1 ∧ v' = none))) := a1
          rcases a1 with ⟨k2, a1⟩ | ⟨k3, a1⟩
          · have cl := n2 k2
            have r6 := (im.2.2.2.2.2.2.1.1 _ cl).2.1
            have w15 := (hw.2.2.2.2.2.2.1 _ cl).2.1
            have npq : npt T (N q) = T 6 (N q).2.1 := by unfold npt; rw [if_pos k2]
            refine ⟨fun q => absurd (by rw [k2]; rfl) q, fun _ => ⟨by rw [lr26 ln]; exact vp_in_nI b4 (by decide), ?_⟩⟩
            rw [nI_clamp (by omega), r6]
            refine ⟨by rw [show μ.2.2.1 6 = 32 from im.2.1.2.2.1]; exact vp_in_nI (by omega) (by decide), fun u => ?_, fun u => ?_⟩
            · have hi := (nI_ltI (by omega) (by omega)).mp u
              have r7 := (im.2.2.2.2.2.2.1.1 _ cl).2.2 i hi
              have t255 := ty_le ((hw.2.2.2.2.2.2.1 _ cl).2.2.1 i hi) w32
              have ip := n4 i (by omega)
              unfold isP at ip
              rw [if_pos k2] at ip
              have ev : v' = some ((N q).2.2.2 i) := by
                rcases a1 with z | z
                · exact z.2
                · exact absurd hi z.1
              rw [l_15, pk_mul, nI_add, nI_clamp (by omega), r7]
              refine ⟨by rw [lr26 ln]; exact vp_in_nI b4 (by decide), by rw [show μ.2.2.1 7 = 480 from im.2.1.2.2.2.1]; exact vp_in_nI (by omega) (by decide), ?_⟩
              have okp : vok n N ((N q).2.2.2 i) := by
                rcases (nk q b1).1 with z | z | z
                · exact (z.2.2 i hi).vk nk (fun k' e => (nk q b1).2 i k' (by omega) e)
                · omega
                · omega
              have go : ∀ y0 : Int32, y0 = iM ((N q).2.2.2 i) → mp_X12_value__219 (mp_X12_value__119 K (d + 1)) K μ (nI w) (nI (th q)) p (nI i) y0 := fun y0 ey => by
                unfold mp_X12_value__219
                rw [nI_clamp (by omega), b2.2.2.2.2.1, nI_add, nI_clamp (by omega), b2.2.2.2.2.2 i (by omega)]
                refine ⟨by rw [lr29 ln]; exact vp_in_nI b4 (by decide), by rw [lr31 ln]; exact vp_in_nI (by omega) (by decide), ?_⟩
                intro v18 e18
                exact nxt μ _ v18 y0 ev e18 ey okp (fun k' e => b5 i k' (by omega) e) y rsV_r
              refine ⟨fun z => go 0 ?_, fun z => go 1 ?_⟩
              · have t0 := (nI_leI (b := 0) (by omega) (by omega)).mp z
                cases hp : (N q).2.2.2 i with
                | inl x => rfl
                | inr w' => exact absurd (ip.mpr ⟨w', hp⟩) (by omega)
              · obtain ⟨w', hw'⟩ := ip.mp (fun e => z (by rw [e]; decide))
                rw [hw']; rfl
            · have hi : ¬ i < T 6 (N q).2.1 := fun p => u (nI_lt p (by omega))
              rcases a1 with z | z
              · exact absurd z.1 hi
              · exact no z.2
          · have hn3 := n3 k3
            have n0 : ¬ nI ((N q).1 - 2) = 0 := by rw [k3]; decide
            refine ⟨fun _ => ⟨by rw [lr26 ln]; exact vp_in_nI b4 (by decide), fun u => ?_, fun u => ?_⟩, fun q => absurd q n0⟩
            · have hi := (nI_ltI (by omega) (by omega)).mp u
              rcases a1 with ⟨-, q', j, lk, p1, p2, p3⟩ | z
              · have pe := pth_end _ _ _ _ _ _ p1
                rw [b2.2.2.2.1 k3]
                refine ⟨by rw [lr28 ln]; exact vp_in_nI b4 (by decide), ?_⟩
                have okr : inT th nd nt q' → vok n N (rval N q q' j lk) ∧ ∀ k', rval N q q' j lk = .inr (k' + 1) → inT th nd nt k' := fun hq' => by
                  obtain ⟨c1, c2, c3, c4, c5⟩ := y.tg hq'
                  have in3 : ∀ k', rval N q q' j lk = .inr (k' + 1) → inT th nd nt k' := fun k' e => by
                    unfold rval at e
                    by_cases l0 : lk = 0
                    · rw [if_pos l0] at e; exact c5 j k' (by omega) e
                    · rw [if_neg l0] at e
                      by_cases i0 : (N q).2.2.1 = 0
                      · rw [if_pos i0] at e; cases e
                      · rw [if_neg i0] at e; cases e
                  refine ⟨fun k' e => ?_, in3⟩
                  have hk' := (y.tg (in3 k' e)).1
                  refine ⟨hk', ?_⟩
                  unfold rval at e
                  by_cases l0 : lk = 0
                  · rw [if_pos l0] at e
                    exact pth_kd nk p1 b1 (Or.inl k3) l0 k' e (by unfold lvn; rw [if_pos k3])
                  · rw [if_neg l0] at e
                    by_cases i0 : (N q).2.2.1 = 0
                    · rw [if_pos i0] at e; cases e
                    · rw [if_neg i0] at e; cases e
                have go : ∀ y0 : Int32, ((y0 = 0 ∧ (N q).2.2.1 = 0) ∨ (y0 = 1 ∧ (N q).2.2.1 ≠ 0)) → mp_X12_value__272 (mp_X12_value__119 K (d + 1)) K μ (nI w) (nI (th q)) p (nI i) y0 := fun y0 hy => by
                  have ey : y0 = iM (rval N q q' j lk) := by
                    rcases hy with c | c
                    · cases hp : rval N q q' j lk with
                      | inl x => exact c.1
                      | inr w' => exact absurd c.2 (p2.mpr ⟨w', hp⟩)
                    · obtain ⟨w', hw'⟩ := p2.mp c.2
                      rw [hw']; exact c.1
                  unfold mp_X12_value__272 mp_X12_value__310
                  refine k_item y np hq k3 p1 (by omega) (fun l0 hq' => ?_) (fun l0 hq' => ?_)
                  · obtain ⟨c1, c2, c3, c4, c5⟩ := y.tg hq'
                    have er : rval N q q' j lk = (N q').2.2.2 j := by unfold rval; rw [if_pos l0]
                    refine ⟨fun _ => ?_, fun q => absurd q (nI_m1 (by omega))⟩
                    rw [nI_clamp (by omega), c2.2.2.2.2.2 j (by omega)]
                    exact ⟨by rw [lr31 ln]; exact vp_in_nI (by omega) (by decide), nxt μ _ _ y0 p3 (by rw [er]) ey (okr hq').1 (okr hq').2 y rsV_r⟩
                  · obtain ⟨y1, sm1⟩ := y.ic (c := bg (th q') + j) (lk := lk)
                    refine ⟨fun q => absurd rfl q, fun _ => ⟨fun z => ?_, fun z => ?_⟩⟩
                    · refine nxt _ _ _ y0 p3 ?_ ey (okr hq').1 (okr hq').2 y1 rsV_ic
                      rcases hy with c | c
                      · unfold rval; rw [if_neg l0, if_pos c.2]; rfl
                      · exact absurd (c.1.symm.trans z) (by decide)
                    · refine nxt _ _ _ y0 p3 ?_ ey (okr hq').1 (okr hq').2 y1 rsV_ic
                      rcases hy with c | c
                      · exact absurd c.1 z
                      · unfold rval; rw [if_neg l0, if_neg c.2]; rfl
                refine ⟨fun z => go 0 (Or.inl ⟨rfl, ?_⟩), fun z => go 1 (Or.inr ⟨rfl, fun e => z (by rw [e]; decide)⟩)⟩
                have := (nI_leI (b := 0) (by omega) (by omega)).mp z
                omega
              · exact absurd hi z.1
            · have hi : ¬ i < (N q).2.1 := fun p => u (nI_lt p (by omega))
              rcases a1 with ⟨z, -⟩ | z
              · exact absurd z hi
              · exact no z.2
end
