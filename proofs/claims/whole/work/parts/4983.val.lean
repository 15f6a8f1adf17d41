/-! ===== value, same ===== -/
def vco (s0 : List Nat) (ml : List (Nat × Nat)) (nb : List Nat) (al : Nat → Nat) (L : Nat → Prop) : Option AV → Int64 → Prop
  | none, c => c = -1
  | some v, c => vcl s0 ml nb al v c ∧ ∀ k, v = .inr (k + 1) → L k
/-- a value that may be looked at -/
def vok (n : Nat) (N : Nat → AN) (v : AV) : Prop := ∀ k, v = .inr (k + 1) → k < n ∧ ((N k).1 = 2 ∨ (N k).1 = 3)
def voo (n : Nat) (N : Nat → AN) : Option AV → Prop
  | none => True
  | some v => vok n N v
/-- a part of a value -/
def apt (T : Nat → Nat → Nat) (N : Nat → AN) : Option AV → Nat → Option AV → Prop
  | none, _, o => o = none
  | some (.inl _), _, o => o = none
  | some (.inr 0), _, o => o = none
  | some (.inr (q + 1)), i, o => ((N q).1 = 2 ∧ ((i < T 6 (N q).2.1 ∧ o = some ((N q).2.2.2 i)) ∨ (¬ i < T 6 (N q).2.1 ∧ o = none))) ∨ ((N q).1 = 3 ∧ ((i < (N q).2.1 ∧ ∃ q' j lk, pth T N (dpt (N q).2.1) q i q' j lk ∧ ((N q).2.2.1 ≠ 0 ↔ ∃ w, rval N q q' j lk = .inr w) ∧ o = some (rval N q q' j lk)) ∨ (¬ i < (N q).2.1 ∧ o = none)))
/-- along a path -/
def wk (T : Nat → Nat → Nat) (N : Nat → AN) : Nat → Nat → Option AV → Option AV → Prop
  | 0, _, v, o => o = v
  | d + 1, x, v, o => (x % 4096 = 0 ∧ o = v) ∨ (x % 4096 ≠ 0 ∧ ∃ v', apt T N v (x % 4096 - 1) v' ∧ wk T N d (x / 4096) v' o)
/-- what is answered -/
def ans (T : Nat → Nat → Nat) (N : Nat → AN) (w : Nat) : Option AV → Int64
  | none => -1
  | some (.inl x) => if w = 1 then x.toInt64 else 0
  | some (.inr 0) => if w = 0 then 1 else 0
  | some (.inr (q + 1)) => if (N q).1 = 2 then (if w = 0 then 2 else if w = 1 then (nI (N q).2.1).toInt64 else (nI (T 6 (N q).2.1)).toInt64) else (if w = 0 then (if (N q).2.2.1 = 0 then 3 else 4) else if w = 1 then (nI (N q).2.1).toInt64 else 0)
section
variable {σ : sm_S} {T : Nat → Nat → Nat} {b : Nat → Nat} {h k lim md cy rch n : Nat} {L : Nat → Prop} {N : Nat → AN} {fs : List AF} {fl st B F S R : Nat} {C C0 : Nat → Int64} {s0 : List Nat} {ml : List (Nat × Nat)} {nb : List Nat} {z lv y al : Nat → Nat} {fas : List Nat}
theorem cf.vk {v : AV} {t : Nat} (nk : nok T n N) (h : cf T N v t) (hb : ∀ k, v = .inr (k + 1) → k < n) : vok n N v := fun k e => by
  have k4 := h.k k e
  have hk := hb k e
  refine ⟨hk, ?_⟩
  rcases (nk k hk).1 with z | z | z
  · exact Or.inl z.1
  · exact Or.inr z.1
  · exact absurd z.1 k4
theorem apt_ex (hw : wf T b) (nk : nok T n N) (v : Option AV) (hv : voo n N v) (i : Nat) : ∃ o, apt T N v i o ∧ voo n N o := by
  cases v with
  | none => exact ⟨none, rfl, trivial⟩
  | some v =>
    cases v with
    | inl x => exact ⟨none, rfl, trivial⟩
    | inr q =>
      cases q with
      | zero => exact ⟨none, rfl, trivial⟩
      | succ q =>
        obtain ⟨hq, hk⟩ := hv q rfl
        rcases hk with k2 | k3
        · by_cases c : i < T 6 (N q).2.1
          · refine ⟨some ((N q).2.2.2 i), Or.inl ⟨k2, Or.inl ⟨c, rfl⟩⟩, ?_⟩
            have npq : npt T (N q) = T 6 (N q).2.1 := by unfold npt; rw [if_pos k2]
            rcases (nk q hq).1 with z | z | z
            · exact (z.2.2 i c).vk nk (fun k' e => (nk q hq).2 i k' (by omega) e)
            · omega
            · omega
          · exact ⟨none, Or.inl ⟨k2, Or.inr ⟨c, rfl⟩⟩, trivial⟩
        · by_cases c : i < (N q).2.1
          · obtain ⟨q', j, lk, a1, a2, a3, a4, a5, a6⟩ := row_ex nk hq k3 c
            obtain ⟨p1, p2, p3, p4, p5⟩ := (nk q' a2).1.pl a4
            have it9 : (N q).2.2.1 ≠ 99 := by have := hw.2.1; omega
            have hrv : cf T N (rval N q q' j lk) (N q).2.2.1 := by
              unfold rval
              by_cases l0 : lk = 0
              · rw [if_pos l0]
                have := p5 j a3
                unfold ptl at this
                rw [if_pos (by omega), a5] at this
                exact this
              · rw [if_neg l0]
                by_cases i0 : (N q).2.2.1 = 0
                · rw [if_pos i0, i0]; exact cf_i 0
                · rw [if_neg i0]; exact cf_n i0
            have hrl : ∀ k', rval N q q' j lk = .inr (k' + 1) → k' < n := fun k' e => by
              unfold rval at e
              by_cases l0 : lk = 0
              · rw [if_pos l0] at e; exact (nk q' a2).2 j k' (by omega) e
              · rw [if_neg l0] at e
                by_cases i0 : (N q).2.2.1 = 0
                · rw [if_pos i0] at e; cases e
                · rw [if_neg i0] at e; cases e
            exact ⟨_, Or.inr ⟨k3, Or.inl ⟨c, q', j, lk, a1, cf_ri hrv it9, rfl⟩⟩, hrv.vk nk hrl⟩
          · exact ⟨none, Or.inr ⟨k3, Or.inr ⟨c, rfl⟩⟩, trivial⟩
theorem wk_ex (hw : wf T b) (nk : nok T n N) : ∀ (d x : Nat) (v : Option AV), voo n N v → ∃ o, wk T N d x v o ∧ voo n N o := by
  intro d
  induction d with
  | zero => intro x v hv; exact ⟨v, rfl, hv⟩
  | succ d ih =>
    intro x v hv
    by_cases c : x % 4096 = 0
    · exact ⟨v, Or.inl ⟨c, rfl⟩, hv⟩
    · obtain ⟨v', a1, a2⟩ := apt_ex hw nk v hv (x % 4096 - 1)
      obtain ⟨o, b1, b2⟩ := ih (x / 4096) v' a2
      exact ⟨o, Or.inr ⟨c, v', a1, b1⟩, b2⟩
theorem wk_none : ∀ (d x : Nat) (o : Option AV), wk T N d x none o → o = none := by
  intro d
  induction d with
  | zero => intro x o h; exact h
  | succ d ih =>
    intro x o h
    rcases h with ⟨-, e⟩ | ⟨-, v', e, h⟩
    · exact e
    · have e : v' = none := e
      subst e
      exact ih _ o h
/-- the cell of a node -/
theorem RXg.nc {q : Nat} (x : RXg σ T b h k lim md cy rch L N fs fl B F S R R C C0 s0 ml nb z lv y al fas) (hq : L q) : C (al q) = hdv (N q) ∧ 1 ≤ al q ∧ al q + (1 + npt T (N q)) ≤ 2 * (2 * h + 64) + 1 ∧ (∀ j, j < npt T (N q) → vcl s0 ml nb al ((N q).2.2.2 j) (C (al q + 1 + j))) := by
  obtain ⟨r1, r2, r3, r4⟩ := x.2.1.1 q hq
  obtain ⟨b1, b2⟩ := x.lb r3
  exact ⟨r4.1, b1, b2, r4.2⟩
theorem l_itm {q' j lk it ln : Nat} {K : Int64 → sm_S → Prop} (x : RXg σ T b h k lim md cy rch L N fs fl B F S R R C C0 s0 ml nb z lv y al fas) (hit : it ≤ 32) (hln : ln < 4096) (h0 : lk = 0 → L q' → K (C (al q' + 1 + j)) σ) (h1 : lk ≠ 0 → K (if it = 0 then 0 else 4294967296) σ) : ∀ (d q i : Nat), d ≤ 2 → L q → pth T N d q i q' j lk → i < 2 ^ 20 → mp_X9_item_16 K (d + 1) σ (mkc 3 (nI (4096 * it + ln))) (nI (al q)) (nI i) (nI (15 ^ d)) := by
  intro d
  induction d with
  | zero =>
    intro q i hd hq hp hi
    obtain ⟨p1, p2, p3, p4, p5⟩ := hp
    subst p3 p4 p5
    obtain ⟨n1, n2, n3, n4⟩ := x.nc hq
    unfold mp_X9_item_16
    refine ⟨fun _ => ?_, fun q => absurd (by decide) q⟩
    rw [nI_1, nI_add]
    exact x.pk (by omega) (by omega) (h0 rfl hq)
  | succ d ih =>
    intro q i hd hq hp hi
    obtain ⟨p1, p2, p3⟩ := hp
    obtain ⟨n1, n2, n3, n4⟩ := x.nc hq
    have pw : 1 ≤ 15 ^ d ∧ 15 ^ d ≤ 15 := by
      have : d = 0 ∨ d = 1 := by omega
      rcases this with e | e <;> subst e <;> decide
    have pe : 15 ^ (d + 1) = 15 ^ d * 15 := Nat.pow_succ _ _
    have hcell := n4 (i / 15 ^ (d + 1)) (by omega)
    unfold mp_X9_item_16 mp_X9_item_64
    refine ⟨fun q => absurd ((nI_leI (b := 1) (by omega) (by omega)).mp q) (by omega), fun _ => ⟨nI_ne0 (by omega) (by omega), ?_⟩⟩
    have ed : nI i / nI (15 ^ (d + 1)) = nI (i / 15 ^ (d + 1)) := pk_div (by omega) (by omega) (by omega)
    rw [ed, nI_1, nI_add]
    have b1 : 1 ≤ al q + 1 + i / 15 ^ (d + 1) := by
      generalize i / 15 ^ (d + 1) = jj
      omega
    refine x.pk b1 (by omega) ?_
    rcases p3 with ⟨p3, p4, p5, p6⟩ | ⟨u, p3, p4⟩
    · rw [p3] at hcell
      have ec : C (al q + 1 + i / 15 ^ (d + 1)) = mkc 1 (nI 0) := by
        rcases hcell with ⟨x, e, -⟩ | ⟨-, e⟩ | ⟨k', w, e, -⟩
        · cases e
        · exact e
        · cases e
      rw [ec]
      refine k_tg0 ?_
      refine ⟨fun q => absurd rfl q, fun _ => ?_⟩
      unfold mp_X1_rowItem
      rw [mk_lo (by decide), hd_it hit hln]
      have hh := h1 (by omega)
      refine ⟨fun q => ?_, fun q => ?_⟩
      · rw [if_neg (fun e => q (by rw [e]; rfl))] at hh; exact hh
      · have e : it = 0 := (nI_eq (b := 0) (by omega) (by omega)).mp q
        rw [if_pos e] at hh; exact hh
    · rw [p3] at hcell
      have hu : L u := x.2.1.2.2.2.2.2.2.1 q _ u hq (by omega) p3
      obtain ⟨m1, m2, m3, m4⟩ := x.nc hu
      have l2 := x.1.2.2.2.2.2.2.2.1
      have l1 := x.1.2.2.2.2.2.2.1
      obtain ⟨w, w0, w1, ec, cn⟩ : ∃ w, w ≠ 0 ∧ w < 2 ^ 30 ∧ C (al q + 1 + i / 15 ^ (d + 1)) = mkc 1 (nI w) ∧ cano s0 ml nb w (al u) := by
        rcases hcell with ⟨x, e, -⟩ | ⟨e, -⟩ | ⟨k', w, e, w0, w1, w2, w3⟩
        · cases e
        · cases e
        · cases e
          exact ⟨w, w0, w1, w2, w3⟩
      rw [ec]
      refine k_tgt x w0 w1 cn ?_
      refine ⟨fun _ => ⟨nI_ne0 (by omega) (by omega), ?_⟩, fun q => absurd q (nI_ne0 (by omega) (by omega))⟩
      intro v9 e9 v10 e10
      rw [← ed, pk_rem (by omega) (by omega) (by omega)] at e9
      rw [l_15, pk_div (by omega) (by omega) (by omega), pe, Nat.mul_div_cancel _ (by decide)] at e10
      rw [e9, e10]
      have hmod : i % 15 ^ (d + 1) < 15 ^ (d + 1) := Nat.mod_lt _ (by omega)
      exact ih u (i % 15 ^ (d + 1)) (by omega) hu p4 (by omega)
theorem kd_m1 : ((-1 : Int64) >>> s32).toInt32 = -1 := by decide
theorem k_part {i : Nat} {v o : Option AV} {c : Int64} {K : Int64 → sm_S → Prop} (hw : wf T b) (x : RXg σ T b h k lim md cy rch L N fs fl B F S R R C C0 s0 ml nb z lv y al fas) (hv : vco s0 ml nb al L v c) (ha : apt T N v i o) (hi : i < 4096) (hK : ∀ c', vco s0 ml nb al L o c' → K c' σ) : mp_X9_part σ c (nI i) K := by
  unfold mp_X9_part mp_X9_part_16 mp_X9_part_81 mp_X9_part_106
  cases v with
  | none =>
    have e : c = -1 := hv
    have eo : o = none := ha
    subst e eo
    unfold mp_X1_kind
    rw [kd_m1]
    exact ⟨fun _ => hK (-1) rfl, fun q => absurd q (by decide)⟩
  | some v =>
    obtain ⟨hv, hL⟩ := hv
    cases v with
    | inl x1 =>
      have eo : o = none := ha
      subst eo
      have e := hv.nu
      rw [e]
      unfold mp_X1_kind
      rw [mk_kd (by decide)]
      exact ⟨fun _ => hK (-1) rfl, fun q => absurd q (by decide)⟩
    | inr q =>
      cases q with
      | zero =>
        have eo : o = none := ha
        subst eo
        have e : c = mkc 1 (nI 0) := by
          rcases hv with ⟨x, e, -⟩ | ⟨-, e⟩ | ⟨k', w, e, -⟩
          · cases e
          · exact e
          · cases e
        rw [e]
        unfold mp_X1_kind
        rw [mk_kd (by decide)]
        refine ⟨fun q => absurd rfl q, fun _ => ⟨fun q => absurd ((lg0 _ _).mpr mk_nil.symm) q, fun _ => hK (-1) rfl⟩⟩
      | succ q =>
        obtain ⟨w, w0, w1, ec, cn⟩ : ∃ w, w ≠ 0 ∧ w < 2 ^ 30 ∧ c = mkc 1 (nI w) ∧ cano s0 ml nb w (al q) := by
          rcases hv with ⟨x, e, -⟩ | ⟨e, -⟩ | ⟨k', w, e, w0, w1, w2, w3⟩
          · cases e
          · cases e
          · cases e
            exact ⟨w, w0, w1, w2, w3⟩
        have hq := hL q rfl
        obtain ⟨n1, n2, n3, n4⟩ := x.nc hq
        have l2 := x.1.2.2.2.2.2.2.2.1
        have l1 := x.1.2.2.2.2.2.2.1
        have w32 := hw.2.1
        rw [ec]
        unfold mp_X1_kind
        rw [mk_kd (by decide)]
        refine ⟨fun q => absurd rfl q, fun _ => ⟨fun _ => ?_, fun z => ?_⟩⟩
        · refine k_tgt x w0 w1 cn ?_
          refine x.pk n2 (by omega) ?_
          rw [n1]
          have ha : ((N q).1 = 2 ∧ ((i < T 6 (N q).2.1 ∧ o = some ((N q).2.2.2 i)) ∨ (¬ i < T 6 (N q).2.1 ∧ o = none))) ∨ ((N q).1 = 3 ∧ ((i < (N q).2.1 ∧ ∃ q' j lk, pth T N (dpt (N q).2.1) q i q' j lk ∧ ((N q).2.2.1 ≠ 0 ↔ ∃ w, rval N q q' j lk = .inr w) ∧ o = some (rval N q q' j lk)) ∨ (¬ i < (N q).2.1 ∧ o = none))) := ha
          rcases ha with ⟨k2, ha⟩ | ⟨k3, ha⟩
          · have cl := (x.2.1.1 q hq).1 k2
            have npq : npt T (N q) = T 6 (N q).2.1 := by unfold npt; rw [if_pos k2]
            have hd : hdv (N q) = mkc 2 (nI (N q).2.1) := by unfold hdv; rw [if_pos k2]
            have r12 := (x.1.1.2.2.2.2.2.2.2.1.1 _ cl).2.1
            have w15 := (hw.2.2.2.2.2.2.1 _ cl).2.1
            rw [hd, mk_kd (by decide), mk_lo (by decide), nI_clamp (by omega)]
            dsimp only
            rw [r12]
            refine ⟨fun q => absurd rfl q, fun _ => ⟨by rw [show σ.2.2.1 12 = 32 from lx12 x.1.1.2.1]; exact vp_in_nI (by omega) (by decide), fun u => ?_, fun u => ?_⟩⟩
            · have := (nI_leI (by omega) (by omega)).mp u
              rcases ha with a | a
              · omega
              · rw [a.2] at hK; exact hK (-1) rfl
            · have : i < T 6 (N q).2.1 := by
                have : ¬ T 6 (N q).2.1 ≤ i := fun p => u (nI_le p (by omega))
                omega
              rcases ha with a | a
              · rw [nI_1, nI_add]
                refine x.pk (by omega) (by omega) ?_
                rw [a.2] at hK
                exact hK _ ⟨n4 i (by omega), fun k' e => x.2.1.2.2.2.2.2.2.1 q i k' hq (by omega) e⟩
              · exact absurd this a.1
          · obtain ⟨l3, i3⟩ := (x.2.1.1 q hq).2.1 k3
            have npq : npt T (N q) = 15 := by unfold npt; rw [if_neg (by omega)]
            rw [hdv_r k3, mk_kd (by decide)]
            refine ⟨fun _ => ?_, fun q => absurd q (by decide)⟩
            unfold mp_X1_rowLength
            rw [mk_lo (by decide), hd_ln i3 (by omega)]
            refine ⟨fun u => ?_, fun u => ?_⟩
            · have := (nI_leI (by omega) (by omega)).mp u
              rcases ha with a | a
              · omega
              · rw [a.2] at hK; exact hK (-1) rfl
            · have hlt : i < (N q).2.1 := by
                have : ¬ (N q).2.1 ≤ i := fun p => u (nI_le p (by omega))
                omega
              rcases ha with ⟨-, q', j, lk, p1, p2, p3⟩ | a
              · unfold mp_X9_item mp_X1_rowLength
                rw [mk_lo (by decide), hd_ln i3 (by omega)]
                refine w_span l3 ⟨dpt (N q).2.1 + 1, ?_⟩
                have pe := pth_end _ _ _ _ _ _ p1
                rw [p3] at hK
                refine l_itm x i3 (by omega) (fun l0 hq' => ?_) (fun l0 => ?_) _ q i ?_ hq p1 (by omega)
                · refine hK _ ⟨?_, fun k' e => ?_⟩
                  · unfold rval; rw [if_pos l0]
                    exact (x.nc hq').2.2.2 j (by omega)
                  · unfold rval at e; rw [if_pos l0] at e
                    exact x.2.1.2.2.2.2.2.2.1 q' j k' hq' (by omega) e
                · refine hK _ ⟨?_, fun k' e => ?_⟩
                  · unfold rval; rw [if_neg l0]
                    by_cases i0 : (N q).2.2.1 = 0
                    · rw [if_pos i0, if_pos i0, mk_0]; exact vcl_n 0
                    · rw [if_neg i0, if_neg i0, mk_nil]; exact vcl_0
                  · unfold rval at e; rw [if_neg l0] at e
                    by_cases i0 : (N q).2.2.1 = 0
                    · rw [if_pos i0] at e; cases e
                    · rw [if_neg i0] at e; cases e
                · unfold dpt
                  (repeat' split) <;> omega
              · exact absurd hlt a.1
        · have e2 := (lg0 _ _).mp z
          rw [mk_nil] at e2
          have e3 := (mk_inj (by decide) (by decide) e2).2
          exact absurd ((nI_eq (b := 0) (by omega) (by omega)).mp e3) w0
theorem l_alg {K : Int64 → sm_S → Prop} {o : Option AV} (hw : wf T b) (x : RXg σ T b h k lim md cy rch L N fs fl B F S R R C C0 s0 ml nb z lv y al fas) (hK : ∀ c', vco s0 ml nb al L o c' → K c' σ) : ∀ (d : Nat) (p : Int64) (v : Option AV) (c : Int64), d ≤ 6 → wk T N d (xp p) v o → vco s0 ml nb al L v c → mp_X9_along_9 K (d + 1) σ c p (nI (6 - d)) := by
  intro d
  induction d with
  | zero =>
    intro p v c hd h1 hc
    have e : o = v := h1
    subst e
    unfold mp_X9_along_9 mp_X9_along_65
    exact ⟨fun _ => hK c hc, fun q => absurd (by decide) q⟩
  | succ d ih =>
    intro p v c hd h1 hc
    unfold mp_X9_along_9 mp_X9_along_65
    refine ⟨fun q => absurd ((nI_leI (a := 6) (by omega) (by omega)).mp q) (by omega), fun _ => ⟨fun q => ?_, fun q => ?_⟩⟩
    · have e0 := (xp_0 p).mp ((lg0 _ _).mp q)
      rcases h1 with ⟨-, e⟩ | ⟨n, -⟩
      · rw [e] at hK; exact hK c hc
      · rw [e0] at n; exact absurd rfl n
    · intro v3 e3
      rw [xp_32] at e3
      have lt : xp p % 4096 < 4096 := Nat.mod_lt _ (by decide)
      rw [e3]
      refine ⟨fun q => ?_, fun q => ?_⟩
      · have n0 : xp p % 4096 ≠ 0 := fun e => q (by rw [e]; rfl)
        rcases h1 with ⟨e, -⟩ | ⟨-, v', a1, a2⟩
        · exact absurd e n0
        · rw [nI_sub1 (by omega)]
          refine k_part hw x hc a1 (by omega) (fun c' hc' => ?_)
          intro v7 e7 v8 e8
          rw [e8, nI_1, e7, show 6 - (d + 1) + 1 = 6 - d by omega]
          exact ih _ v' c' (by omega) (by rw [xp_sh]; exact a2) hc'
      · have e0 : xp p % 4096 = 0 := (nI_eq (b := 0) (by omega) (by omega)).mp q
        rcases h1 with ⟨-, e⟩ | ⟨n, -⟩
        · rw [e] at hK; exact hK c hc
        · exact absurd e0 n
theorem k_ask {K : Int64 → sm_S → Prop} {o : Option AV} {c : Int64} {w : Nat} (hw : wf T b) (x : RXg σ T b h k lim md cy rch L N fs fl B F S R R C C0 s0 ml nb z lv y al fas) (hc : vco s0 ml nb al L o c) (hv : voo n N o) (h2 : w ≤ 2) (hK : K (ans T N w o) σ) : mp_X9_ask σ c (nI w) K := by
  have w0 : nI w = 0 ↔ w = 0 := nI_eq (b := 0) (by omega) (by omega)
  have w1 : nI w = 1 ↔ w = 1 := nI_eq (b := 1) (by omega) (by omega)
  unfold mp_X9_ask mp_X9_ask_31 mp_X9_ask_49 mp_X9_ask_107 mp_X9_ask_121 mp_X9_ask_148
  cases o with
  | none =>
    have e : c = -1 := hc
    subst e
    exact ⟨fun q => absurd ((lg0 _ _).mpr rfl) q, fun _ => hK⟩
  | some v =>
    obtain ⟨hv', hL⟩ := hc
    have nm : ∀ k' v', k' < 8 → ¬ lg_cmp (mkc k' v') (-1) = 0 := fun k' v' hk' q => mk_m1 hk' v' ((lg0 _ _).mp q)
    cases v with
    | inl x1 =>
      have e := hv'.nu
      rw [e]
      refine ⟨fun _ => ?_, fun q => absurd q (nm 0 x1 (by decide))⟩
      unfold mp_X1_kind
      rw [mk_kd (by decide), mk_lo (by decide)]
      have hK : K (if w = 1 then x1.toInt64 else 0) σ := hK
      exact ⟨fun q => absurd rfl q, fun _ => ⟨fun q => by rw [if_neg (fun e => q (w1.mpr e))] at hK; exact hK, fun q => by rw [if_pos (w1.mp q)] at hK; exact hK⟩⟩
    | inr q =>
      cases q with
      | zero =>
        have e : c = mkc 1 (nI 0) := by
          rcases hv' with ⟨x, e, -⟩ | ⟨-, e⟩ | ⟨k', w, e, -⟩
          · cases e
          · exact e
          · cases e
        rw [e]
        refine ⟨fun _ => ?_, fun q => absurd q (nm 1 (nI 0) (by decide))⟩
        unfold mp_X1_kind
        rw [mk_kd (by decide)]
        have hK : K (if w = 0 then 1 else 0) σ := hK
        refine ⟨fun _ => ⟨fun q => absurd ((lg0 _ _).mpr mk_nil.symm) q, fun _ => ⟨fun q => ?_, fun q => ?_⟩⟩, fun q => absurd q (by decide)⟩
        · rw [if_neg (fun e => q (w0.mpr e))] at hK; exact hK
        · rw [if_pos (w0.mp q)] at hK; exact hK
      | succ q =>
        obtain ⟨w', w0', w1', ec, cn⟩ : ∃ w, w ≠ 0 ∧ w < 2 ^ 30 ∧ c = mkc 1 (nI w) ∧ cano s0 ml nb w (al q) := by
          rcases hv' with ⟨x, e, -⟩ | ⟨e, -⟩ | ⟨k', w, e, w0, w1, w2, w3⟩
          · cases e
          · cases e
          · cases e
            exact ⟨w, w0, w1, w2, w3⟩
        have hq := hL q rfl
        obtain ⟨n1, n2, n3, n4⟩ := x.nc hq
        have w32 := hw.2.1
        have kk := (hv q rfl).2
        rw [ec]
        refine ⟨fun _ => ?_, fun q => absurd q (nm 1 (nI w') (by decide))⟩
        unfold mp_X1_kind
        rw [mk_kd (by decide)]
        refine ⟨fun _ => ⟨fun _ => ?_, fun u => ?_⟩, fun q => absurd q (by decide)⟩
        · refine k_tgt x w0' w1' cn ?_
          refine x.pk n2 (by omega) ?_
          rw [n1]
          have hK : K (if (N q).1 = 2 then (if w = 0 then 2 else if w = 1 then (nI (N q).2.1).toInt64 else (nI (T 6 (N q).2.1)).toInt64) else (if w = 0 then (if (N q).2.2.1 = 0 then 3 else 4) else if w = 1 then (nI (N q).2.1).toInt64 else 0)) σ := hK
          rcases kk with k2 | k3
          · rw [if_pos k2] at hK
            have cl := (x.2.1.1 q hq).1 k2
            have hd : hdv (N q) = mkc 2 (nI (N q).2.1) := by unfold hdv; rw [if_pos k2]
            have r12 := (x.1.1.2.2.2.2.2.2.2.1.1 _ cl).2.1
            rw [hd, mk_kd (by decide), mk_lo (by decide), nI_clamp (by omega)]
            dsimp only
            rw [r12]
            refine ⟨fun q => absurd rfl q, fun _ => ⟨fun q0 => ⟨fun q1 => ?_, fun q1 => ?_⟩, fun q0 => ?_⟩⟩
            · rw [if_neg (fun e => q0 (w0.mpr e)), if_neg (fun e => q1 (w1.mpr e))] at hK
              exact ⟨by rw [show σ.2.2.1 12 = 32 from lx12 x.1.1.2.1]; exact vp_in_nI (by omega) (by decide), hK⟩
            · rw [if_neg (fun e => q0 (w0.mpr e)), if_pos (w1.mp q1)] at hK
              exact hK
            · rw [if_pos (w0.mp q0)] at hK
              exact hK
          · rw [if_neg (by omega)] at hK
            obtain ⟨l3, i3⟩ := (x.2.1.1 q hq).2.1 k3
            rw [hdv_r k3, mk_kd (by decide)]
            refine ⟨fun _ => ?_, fun q => absurd q (by decide)⟩
            unfold mp_X1_rowItem mp_X1_rowLength
            rw [mk_lo (by decide), hd_it i3 (by omega), hd_ln i3 (by omega)]
            have i0 : nI (N q).2.2.1 = 0 ↔ (N q).2.2.1 = 0 := nI_eq (b := 0) (by omega) (by omega)
            refine ⟨fun u => ⟨fun q0 => ⟨fun q1 => ?_, fun q1 => ?_⟩, fun q0 => ?_⟩, fun u => ⟨fun q0 => ⟨fun q1 => ?_, fun q1 => ?_⟩, fun q0 => ?_⟩⟩
            · rw [if_neg (fun e => q0 (w0.mpr e)), if_neg (fun e => q1 (w1.mpr e))] at hK; exact hK
            · rw [if_neg (fun e => q0 (w0.mpr e)), if_pos (w1.mp q1)] at hK; exact hK
            · rw [if_pos (w0.mp q0), if_neg (fun e => u (i0.mpr e))] at hK; exact hK
            · rw [if_neg (fun e => q0 (w0.mpr e)), if_neg (fun e => q1 (w1.mpr e))] at hK; exact hK
            · rw [if_neg (fun e => q0 (w0.mpr e)), if_pos (w1.mp q1)] at hK; exact hK
            · rw [if_pos (w0.mp q0), if_pos (i0.mp u)] at hK; exact hK
        · have e2 := (lg0 _ _).mp u
          rw [mk_nil] at e2
          have e3 := (mk_inj (by decide) (by decide) e2).2
          exact absurd ((nI_eq (b := 0) (by omega) (by omega)).mp e3) w0'
end
