/-! ===== the verifier of the class: takeFor, takeReference, takeRow ===== -/
def goesI (T : Nat → Nat → Nat) (a : Nat) (x : Int32) : Prop := nI a = x ∨ (a = 97 ∧ ¬ x = 0 ∧ ¬ x = 98) ∨ ∃ ty, x = nI ty ∧ 1 ≤ a ∧ a ≤ T 0 0 ∧ 1 ≤ ty ∧ ty ≤ T 0 0 ∧ isA T (a - 1) (ty - 1)
theorem goesI_T {T : Nat → Nat → Nat} {a ty : Nat} (hC : T 0 0 ≤ 32) (ha : vt T a) (hy : ty < 2 ^ 20) (hy2 : 1 ≤ ty → ty ≤ 32 → ty ≤ T 0 0) : goesI T a (nI ty) ↔ goesT T a ty := by
  unfold vt at ha
  unfold goesI goesT
  rw [nI_eq (by omega) (by omega), show (nI ty = 0) = (nI ty = nI 0) from rfl, nI_eq (by omega) (by omega), show (nI ty = 98) = (nI ty = nI 98) from rfl, nI_eq (by omega) (by omega)]
  constructor
  · intro q
    rcases q with q | q | ⟨t, q1, q2, q3, q4, q5, q6⟩
    · exact Or.inl q
    · exact Or.inr (Or.inl q)
    · have e := (nI_eq (by omega) (by omega)).mp q1
      rw [e]
      exact Or.inr (Or.inr ⟨q2, by omega, q4, by omega, q6⟩)
  · intro q
    rcases q with q | q | ⟨q1, q2, q3, q4, q5⟩
    · exact Or.inl q
    · exact Or.inr (Or.inl q)
    · exact Or.inr (Or.inr ⟨ty, rfl, q1, by omega, q3, hy2 q3 q4, q5⟩)
theorem w_isClass {σ : sm_S} {x : Int32} {K : jk} (h1 : ¬ x < 1 → ¬ (32 : Int32) < x → K 1 σ) (h0 : (x < 1 ∨ (32 : Int32) < x) → K 0 σ) : mp_X8_isClass σ x K := by
  unfold mp_X8_isClass mp_X8_isClass_15 mp_X8_isClass_16
  exact ⟨fun q => ⟨sm_z0, h0 (Or.inl q)⟩, fun q => ⟨fun q2 => ⟨sm_z0, h0 (Or.inr q2)⟩, fun q2 => ⟨sm_z1, h1 q q2⟩⟩⟩
theorem okv_c {T : Nat → Nat → Nat} {x : Int32} (h : okv T x) (h1 : ¬ x < 1) (h2 : ¬ (32 : Int32) < x) : ∃ v, x = nI v ∧ 1 ≤ v ∧ v ≤ T 0 0 := by
  rcases h with h | h | h
  · exact h
  · exact absurd h h1
  · exact absurd h h2
theorem e_takeFor {σ : sm_S} {T : Nat → Nat → Nat} {b : Nat → Nat} {m t : Nat} {c : Prop} {w : Nat → Nat} {x1 : Int32} (hb : bX σ T b m) (hw : wf T b) (hm : m < T 0 1) (h : sX σ T m c t w) (hx : okv T x1) : et (fun K => mp_X8_takeFor σ x1 (fun σ => K 0 σ)) (rX σ T m ((c ∧ 1 ≤ t) ∧ goesI T (w (T 15 m + t - 1)) x1) (t - 1) w) := by
  have w2 := hw.2.1
  unfold mp_X8_takeFor
  refine et_b (e_take hb hw hm h) (fun r σ1 q => ?_)
  obtain ⟨⟨f1, s1⟩, ok, hr⟩ := q
  have b1 := hb.v f1
  -- y tells whether the class is below
  have fin : ∀ y : Int32, (y = 0 ∨ y = 1) → (∀ a, r = nI a → vt T a → (y = 1 ↔ ∃ ty, x1 = nI ty ∧ 1 ≤ a ∧ a ≤ T 0 0 ∧ 1 ≤ ty ∧ ty ≤ T 0 0 ∧ isA T (a - 1) (ty - 1))) → et (fun K => mp_X8_takeFor_40 (fun σ => K 0 σ) σ1 x1 r y) (rX σ T m ((c ∧ 1 ≤ t) ∧ goesI T (w (T 15 m + t - 1)) x1) (t - 1) w) := by
    intro y hy hh
    refine et_w (e_tf40 (d := goesI T (w (T 15 m + t - 1)) x1) w2 s1 hy (fun q => ?_) (fun q1 q2 => ?_)) (fun _ σ2 q => ⟨f1.t q.1, q.2⟩)
    · obtain ⟨e1, e2⟩ := hr q.1
      have ea : w (T 15 m + t - 1) ≤ 99 := by unfold vt at e2; omega
      rw [hh _ e1 e2, e1]
      rcases q.2 with z | z | z
      · exact Or.inl z
      · exact Or.inr (Or.inl ⟨by rw [z.1]; rfl, z.2⟩)
      · exact Or.inr (Or.inr z)
    · obtain ⟨e1, e2⟩ := hr q1
      have ea : w (T 15 m + t - 1) ≤ 99 := by unfold vt at e2; omega
      rw [hh _ e1 e2, e1]
      intro z
      apply q2
      rcases z with z | z | z
      · exact Or.inl z
      · exact Or.inr (Or.inl ⟨(nI_eq (b := 97) (by omega) (by omega)).mp z.1, z.2⟩)
      · exact Or.inr (Or.inr z)
  by_cases c1 : r < 1 ∨ (32 : Int32) < r
  · have F := fin 0 (Or.inl rfl) (fun a ea va => ⟨fun q => absurd q (by decide), fun ⟨ty, q1, q2, q3, q4⟩ => by
      exfalso
      rw [ea] at c1
      rcases c1 with c1 | c1
      · have := (nI_lt1' (by omega)).mp c1; omega
      · have := (nI_ltI (a := 32) (b := a) (by omega) (by omega)).mp c1; omega⟩)
    refine et_x (fun K z => w_isClass (fun a1 a2 => absurd c1 (fun q => q.elim a1 a2)) (fun _ => ⟨fun _ => z, fun q => absurd rfl q⟩)) F
  · have c1a : ¬ r < 1 := fun q => c1 (Or.inl q)
    have c1b : ¬ (32 : Int32) < r := fun q => c1 (Or.inr q)
    obtain ⟨v, ev, v1, v2⟩ := okv_c ok c1a c1b
    by_cases c2 : x1 < 1 ∨ (32 : Int32) < x1
    · have F := fin 0 (Or.inl rfl) (fun a ea va => ⟨fun q => absurd q (by decide), fun ⟨ty, q1, q2, q3, q4, q5, q6⟩ => by
        exfalso
        rw [q1] at c2
        rcases c2 with c2 | c2
        · have := (nI_lt1' (by omega)).mp c2; omega
        · have := (nI_ltI (a := 32) (b := ty) (by omega) (by omega)).mp c2; omega⟩)
      refine et_x (fun K z => w_isClass (fun a1 a2 => ⟨fun q => absurd q (by decide), fun _ => w_isClass (fun a1 a2 => absurd c2 (fun q => q.elim a1 a2)) (fun _ => ⟨fun _ => z, fun q => absurd rfl q⟩)⟩) (fun q => absurd q c1)) F
    · have c2a : ¬ x1 < 1 := fun q => c2 (Or.inl q)
      have c2b : ¬ (32 : Int32) < x1 := fun q => c2 (Or.inr q)
      obtain ⟨ty, ety, t1, t2⟩ := okv_c hx c2a c2b
      have key : ∀ y : Int32, (y = 0 ∨ y = 1) → (y = 1 ↔ isA T (v - 1) (ty - 1)) → et (fun K => mp_X8_takeFor_40 (fun σ => K 0 σ) σ1 x1 r y) (rX σ T m ((c ∧ 1 ≤ t) ∧ goesI T (w (T 15 m + t - 1)) x1) (t - 1) w) := fun y hy hi => fin y hy (fun a ea va => by
        have ea2 : a = v := by
          rw [ev] at ea
          have : a ≤ 99 := by unfold vt at va; omega
          exact ((nI_eq (by omega) (by omega)).mp ea).symm
        rw [hi]
        constructor
        · intro q
          exact ⟨ty, ety, by omega, by omega, t1, t2, by rw [ea2]; exact q⟩
        · intro ⟨ty', q1, q2, q3, q4, q5, q6⟩
          have e3 : ty = ty' := by
            rw [ety] at q1
            exact (nI_eq (by omega) (by omega)).mp q1
          rw [← ea2, e3]; exact q6)
      by_cases ci : isA T (v - 1) (ty - 1)
      · refine et_x (fun K z => w_isClass (fun a1 a2 => ⟨fun q => absurd q (by decide), fun _ => w_isClass (fun a1 a2 => ⟨fun q => absurd q (by decide), fun _ => ?_⟩) (fun q => absurd q c2)⟩) (fun q => absurd q c1)) (key 1 (Or.inr rfl) ⟨fun _ => ci, fun _ => rfl⟩)
        have z2 := z
        rw [ev, ety, nI_sub1 v1, nI_sub1 t1]
        rw [ev, ety] at z2
        exact w_iob b1.1 hw (by omega) (by omega) (fun _ => ⟨fun q => absurd q (by decide), fun _ => z2⟩) (fun q => absurd ci q)
      · refine et_x (fun K z => w_isClass (fun a1 a2 => ⟨fun q => absurd q (by decide), fun _ => w_isClass (fun a1 a2 => ⟨fun q => absurd q (by decide), fun _ => ?_⟩) (fun q => absurd q c2)⟩) (fun q => absurd q c1)) (key 0 (Or.inl rfl) ⟨fun q => absurd q (by decide), fun q => absurd q ci⟩)
        have z2 := z
        rw [ev, ety, nI_sub1 v1, nI_sub1 t1]
        rw [ev, ety] at z2
        exact w_iob b1.1 hw (by omega) (by omega) (fun q => absurd q ci) (fun _ => ⟨fun _ => z2, fun q => absurd rfl q⟩)
theorem e_takeRef {σ : sm_S} {T : Nat → Nat → Nat} {b : Nat → Nat} {m t : Nat} {c : Prop} {w : Nat → Nat} (hb : bX σ T b m) (hw : wf T b) (hm : m < T 0 1) (h : sX σ T m c t w) : et (fun K => mp_X8_takeReference σ (fun σ => K 0 σ)) (rX σ T m ((c ∧ 1 ≤ t) ∧ w (T 15 m + t - 1) ≠ 0) (t - 1) w) := by
  have w2 := hw.2.1
  unfold mp_X8_takeReference
  refine et_b (e_take hb hw hm h) (fun r σ1 q => ?_)
  obtain ⟨⟨f1, s1⟩, ok, hr⟩ := q
  have hf := s1.f
  have b1 : ∀ y : Int32, ((c ∧ 1 ≤ t) ∧ w (T 15 m + t - 1) ≠ 0 → y = 1) → (¬ ((c ∧ 1 ≤ t) ∧ w (T 15 m + t - 1) ≠ 0) → y = 0) → (y = 0 ∨ y = 1) → et (fun K => mp_X8_takeReference_22 (fun σ => K 0 σ) σ1 y) (rX σ T m ((c ∧ 1 ≤ t) ∧ w (T 15 m + t - 1) ≠ 0) (t - 1) w) := by
    intro y h1 h0 hy
    have hz : sm_z y := by
      rcases hy with e | e
      · rw [e]; exact sm_z0
      · rw [e]; exact sm_z1
    unfold mp_X8_takeReference_22
    refine et_x (fun K z => ⟨hz, fun σ2 e2 => ?_⟩) (et_e (r := 0) (σ := sm_i σ1 33 y) ⟨f1.t (by repeat' (first | exact fr_r | assumption | refine fr.i ?_ (by unfold IvX; omega) | refine fr.u ?_ (by rfl) (by unfold AvX; omega))), s1.z w2 h1 h0⟩)
    rw [e2]; exact z
  by_cases hc : c ∧ 1 ≤ t
  · have g1 := hf.1 hc
    have ne : ¬ σ1.1 33 = 0 := by rw [g1]; decide
    obtain ⟨e1, e2⟩ := hr hc
    have ea : w (T 15 m + t - 1) ≤ 99 := by unfold vt at e2; omega
    by_cases d1 : w (T 15 m + t - 1) = 0
    · refine et_x (fun K z => ?_) (b1 0 (fun q => absurd d1 q.2) (fun _ => rfl) (Or.inl rfl))
      exact ⟨fun _ => z, fun _ => ⟨fun _ => z, fun q => absurd (by rw [e1, d1]; rfl) q⟩⟩
    · refine et_x (fun K z => ?_) (b1 1 (fun _ => rfl) (fun q => absurd ⟨hc, d1⟩ q) (Or.inr rfl))
      exact ⟨fun q => absurd q ne, fun _ => ⟨fun q => absurd ((nI_eq (b := 0) (by omega) (by omega)).mp (e1.symm.trans q)) d1, fun _ => z⟩⟩
  · have g0 := hf.2 hc
    refine et_x (fun K z => ?_) (b1 0 (fun q => absurd q.1 hc) (fun _ => rfl) (Or.inl rfl))
    exact ⟨fun _ => z, fun q => absurd g0 q⟩
theorem e_takeRow {σ : sm_S} {T : Nat → Nat → Nat} {b : Nat → Nat} {m t : Nat} {c : Prop} {w : Nat → Nat} (hb : bX σ T b m) (hw : wf T b) (hm : m < T 0 1) (h : sX σ T m c t w) : et (fun K => mp_X8_takeRow σ K) (fun r σ' => rX σ T m ((c ∧ 1 ≤ t) ∧ 64 ≤ w (T 15 m + t - 1) ∧ w (T 15 m + t - 1) ≤ 97) (t - 1) w r σ' ∧ okv T r ∧ (c ∧ 1 ≤ t → r = nI (w (T 15 m + t - 1)) ∧ vt T (w (T 15 m + t - 1)))) := by
  have w2 := hw.2.1
  unfold mp_X8_takeRow
  refine et_b (e_take hb hw hm h) (fun r σ1 q => ?_)
  obtain ⟨⟨f1, s1⟩, ok, hr⟩ := q
  have hf := s1.f
  have b1 : ∀ y : Int32, ((c ∧ 1 ≤ t) ∧ 64 ≤ w (T 15 m + t - 1) ∧ w (T 15 m + t - 1) ≤ 97 → y = 1) → (¬ ((c ∧ 1 ≤ t) ∧ 64 ≤ w (T 15 m + t - 1) ∧ w (T 15 m + t - 1) ≤ 97) → y = 0) → (y = 0 ∨ y = 1) → et (fun K => mp_X8_takeRow_30 K σ1 r y) (fun r σ' => rX σ T m ((c ∧ 1 ≤ t) ∧ 64 ≤ w (T 15 m + t - 1) ∧ w (T 15 m + t - 1) ≤ 97) (t - 1) w r σ' ∧ okv T r ∧ (c ∧ 1 ≤ t → r = nI (w (T 15 m + t - 1)) ∧ vt T (w (T 15 m + t - 1)))) := by
    intro y h1 h0 hy
    have hz : sm_z y := by
      rcases hy with e | e
      · rw [e]; exact sm_z0
      · rw [e]; exact sm_z1
    unfold mp_X8_takeRow_30
    refine et_x (fun K z => ⟨hz, fun σ2 e2 => ?_⟩) (et_e (r := r) (σ := sm_i σ1 33 y) ⟨⟨f1.t (by repeat' (first | exact fr_r | assumption | refine fr.i ?_ (by unfold IvX; omega) | refine fr.u ?_ (by rfl) (by unfold AvX; omega))), s1.z w2 h1 h0⟩, ok, hr⟩)
    rw [e2]; exact z
  by_cases hc : c ∧ 1 ≤ t
  · have g1 := hf.1 hc
    have ne : ¬ σ1.1 33 = 0 := by rw [g1]; decide
    obtain ⟨e1, e2⟩ := hr hc
    have ea : w (T 15 m + t - 1) ≤ 99 := by unfold vt at e2; omega
    by_cases d1 : w (T 15 m + t - 1) < 64
    · refine et_x (fun K z => ?_) (b1 0 (fun q => by omega) (fun _ => rfl) (Or.inl rfl))
      rw [e1] at z ⊢
      exact ⟨fun _ => z, fun _ => ⟨fun _ => z, fun q => absurd ((nI_ltI (b := 64) (by omega) (by omega)).mpr d1) q⟩⟩
    · by_cases d2 : 97 < w (T 15 m + t - 1)
      · refine et_x (fun K z => ?_) (b1 0 (fun q => by omega) (fun _ => rfl) (Or.inl rfl))
        rw [e1] at z ⊢
        exact ⟨fun _ => z, fun _ => ⟨fun _ => z, fun _ => ⟨fun _ => z, fun q => absurd ((nI_ltI (a := 97) (by omega) (by omega)).mpr d2) q⟩⟩⟩
      · refine et_x (fun K z => ?_) (b1 1 (fun _ => rfl) (fun q => absurd ⟨hc, by omega, by omega⟩ q) (Or.inr rfl))
        rw [e1] at z ⊢
        exact ⟨fun q => absurd q ne, fun _ => ⟨fun q => absurd ((nI_ltI (b := 64) (by omega) (by omega)).mp q) d1, fun _ => ⟨fun q => absurd ((nI_ltI (a := 97) (by omega) (by omega)).mp q) d2, fun _ => z⟩⟩⟩
  · have g0 := hf.2 hc
    refine et_x (fun K z => ?_) (b1 0 (fun q => absurd q.1 hc) (fun _ => rfl) (Or.inl rfl))
    exact ⟨fun _ => z, fun q => absurd g0 q⟩
theorem goesI_0 {T : Nat → Nat → Nat} {a : Nat} (hC : T 0 0 ≤ 32) (ha : a < 2 ^ 20) : goesI T a 0 ↔ a = 0 := by
  unfold goesI
  constructor
  · intro q
    rcases q with q | q | ⟨ty, q1, q2, q3, q4, q5, q6⟩
    · exact (nI_eq (b := 0) (by omega) (by omega)).mp q
    · exact absurd rfl q.2.1
    · have := (nI_eq (a := 0) (b := ty) (by omega) (by omega)).mp q1
      omega
  · intro q
    rw [q]
    exact Or.inl rfl
