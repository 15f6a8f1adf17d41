/-! ===== a new cycle ===== -/
def kof (C : Nat → Int64) (a : Nat) : Int32 := (C a >>> s32).toInt32
def vof (C : Nat → Int64) (a : Nat) : Nat := (C a).toInt32.toNatClampNeg
/-- sizes and live cells, read off the heads -/
def zf (T : Nat → Nat → Nat) (C : Nat → Int64) (a : Nat) : Nat := if kof C a = 2 ∧ vof C a < T 0 0 then 1 + T 6 (vof C a) else 16
def lvf (T : Nat → Nat → Nat) (C : Nat → Int64) (a : Nat) : Nat := if kof C a = 5 ∧ vof C a < T 0 1 ∧ vof C (a + 2) ≤ T 16 (vof C a) then 4 + T 15 (vof C a) + vof C (a + 2) else zf T C a
theorem kv_of {C : Nat → Int64} {a k v : Nat} (hk : k < 8) (hv : v < 2 ^ 31) (h : C a = mkc k (nI v)) : kof C a = nI k ∧ vof C a = v := by
  unfold kof vof
  rw [h, mk_kd hk, mk_lo hk, nI_clamp hv]
  exact ⟨rfl, rfl⟩
theorem zf_b {T : Nat → Nat → Nat} {b : Nat → Nat} (hw : wf T b) (C : Nat → Int64) (a : Nat) : 1 ≤ zf T C a ∧ zf T C a ≤ 16 ∧ lvf T C a ≤ zf T C a := by
  have h1 : 1 ≤ zf T C a ∧ zf T C a ≤ 16 := by
    unfold zf
    by_cases e : kof C a = 2 ∧ vof C a < T 0 0
    · rw [if_pos e]
      have := (hw.2.2.2.2.2.2.1 _ e.2).2.1
      omega
    · rw [if_neg e]; omega
  refine ⟨h1.1, h1.2, ?_⟩
  unfold lvf
  by_cases e : kof C a = 5 ∧ vof C a < T 0 1 ∧ vof C (a + 2) ≤ T 16 (vof C a)
  · rw [if_pos e]
    have := (hw.2.2.2.2.2.2.2.2.1 _ e.2.1).2.2.2.2.2.2.1
    have z16 : zf T C a = 16 := by
      unfold zf
      rw [if_neg (fun q => absurd (q.1.symm.trans e.1) (by decide))]
    omega
  · rw [if_neg e]; exact Nat.le_refl _
theorem zf_n {T : Nat → Nat → Nat} {C : Nat → Int64} {x : AN} {a : Nat} (hC : T 0 0 ≤ 32) (k1 : x.1 = 2 → x.2.1 < T 0 0) (k2 : x.1 = 3 → x.2.1 ≤ 3375 ∧ x.2.2.1 ≤ 32) (h : C a = hdv x) : zf T C a = 1 + npt T x ∧ lvf T C a = 1 + npt T x ∧ bhd T C a (1 + npt T x) (1 + npt T x) := by
  unfold hdv at h
  by_cases e : x.1 = 2
  · rw [if_pos e] at h
    have v1 := k1 e
    obtain ⟨q1, q2⟩ := kv_of (by decide) (by omega) h
    have hz : zf T C a = 1 + npt T x := by
      unfold zf npt
      rw [q1, q2, if_pos ⟨rfl, v1⟩, if_pos e]
    refine ⟨hz, ?_, 2, x.2.1, by decide, by decide, h, fun _ => v1, fun q => absurd rfl q, ?_, fun _ => rfl, fun q => absurd q (by decide)⟩
    · unfold lvf
      rw [if_neg (fun q => absurd (q1.symm.trans q.1) (by decide)), hz]
    · unfold npt bsz
      rw [if_pos e, if_pos rfl]
  · rw [if_neg e] at h
    have n15 : npt T x = 15 := by unfold npt; rw [if_neg e]
    rw [n15]
    by_cases e3 : x.1 = 3
    · rw [if_pos e3] at h
      have v3 := k2 e3
      obtain ⟨q1, q2⟩ := kv_of (by decide) (by omega) h
      have hz : zf T C a = 16 := by
        unfold zf
        rw [if_neg (fun q => absurd (q1.symm.trans q.1) (by decide))]
      refine ⟨hz, ?_, 3, _, by decide, by decide, h, fun q => absurd q (by decide), fun _ => by omega, rfl, fun _ => rfl, fun q => absurd q (by decide)⟩
      unfold lvf
      rw [if_neg (fun q => absurd (q1.symm.trans q.1) (by decide)), hz]
    · rw [if_neg e3] at h
      obtain ⟨q1, q2⟩ := kv_of (by decide) (by omega) h
      have hz : zf T C a = 16 := by
        unfold zf
        rw [if_neg (fun q => absurd (q1.symm.trans q.1) (by decide))]
      refine ⟨hz, ?_, 4, 0, by decide, by decide, h, fun q => absurd q (by decide), fun _ => by omega, rfl, fun _ => rfl, fun q => absurd q (by decide)⟩
      unfold lvf
      rw [if_neg (fun q => absurd (q1.symm.trans q.1) (by decide)), hz]
theorem zf_f {T : Nat → Nat → Nat} {C : Nat → Int64} {s0 : List Nat} {ml : List (Nat × Nat)} {nb : List Nat} {al : Nat → Nat} {f : AF} {a ca : Nat} (hT : ∀ m, m < T 0 1 → T 15 m + T 16 m ≤ 12) (hM : T 0 1 ≤ 64) (h : frc T C s0 ml nb al f a ca) : zf T C a = 16 ∧ lvf T C a = 4 + T 15 f.1 + f.2.2.1 ∧ bhd T C a 16 (4 + T 15 f.1 + f.2.2.1) := by
  obtain ⟨q1, q2, q3, q4, q5, q6, -⟩ := h
  have := hT _ q1
  obtain ⟨e1, e2⟩ := kv_of (by decide) (by omega) q4
  obtain ⟨e3, e4⟩ := kv_of (by decide) (by omega) q6
  have hz : zf T C a = 16 := by
    unfold zf
    rw [if_neg (fun q => absurd (e1.symm.trans q.1) (by decide))]
  refine ⟨hz, ?_, 5, f.1, by decide, by decide, q4, fun q => absurd q (by decide), fun _ => by omega, rfl, fun q => absurd rfl q, fun _ => ⟨q1, _, q6, q3, rfl⟩⟩
  unfold lvf
  rw [e2, e4, if_pos ⟨e1, q1, q3⟩]
/-- all that was reached is moved when all is scanned -/
theorem all_mv {hf B F S R : Nat} {C C0 : Nat → Int64} {s0 : List Nat} {ml : List (Nat × Nat)} {nb : List Nat} {z lv y : Nat → Nat} (g : GI hf B F S R C C0 s0 ml nb z lv y) (hS : S = F) {t0 : Nat} (ht : mvd ml t0) (hmin : ∀ P : Nat → Prop, P t0 → (∀ a i x, P a → a ∈ s0 → i < lv a → x ≠ 0 → x < 2 ^ 30 → C0 (a + i) = mkc 1 (nI x) → P x) → ∀ a, a ∈ s0 → P a) : ∀ a, a ∈ s0 → mvd ml a := by
  refine hmin (mvd ml) ht (fun a i x ha has hi hx hx2 hc => ?_)
  obtain ⟨a', q⟩ := ha
  have zl := (g.2.2.2.2.2.1 a).2.2
  have iz : i < z a := by omega
  rcases (g.2.2.2.2.2.2.2.2.2.2.2.2.2.2.2.2.1 (a, a') i q iz).2.1 x hi hx hx2 hc with t | ⟨t, -⟩
  · exact t
  · have := (lay_in ml F g.2.1).2 (a, a') q
    have : a' + z a ≤ F := this.2
    have : S ≤ a' + i := t
    omega
/-- then no live block is in the half that was left, and nothing leads back -/
theorem lbs_to {hf B F S R : Nat} {C C0 : Nat → Int64} {s0 : List Nat} {ml : List (Nat × Nat)} {nb : List Nat} {z lv y : Nat → Nat} (g : GI hf B F S R C C0 s0 ml nb z lv y) (hall : ∀ a, a ∈ s0 → mvd ml a) {c s : Nat} (h : lbs s0 ml nb z y c s) : (B ≤ c ∧ c + s ≤ B + hf) ∧ ∀ i, i < s → tcl' ml nb z y (c + i) := by
  have gR := (lan_in nb R g.2.2.1).1
  have gF := (lay_in ml F g.2.1).1
  have g4 := g.2.2.2.1
  refine ⟨?_, fun i hi => ?_⟩
  · rcases h.in g with t | t | t
    · omega
    · omega
    · exact absurd (hall c t.1) t.2.1
  · rcases h with ⟨q, h1, h2, h3⟩ | ⟨h1, h2⟩ | ⟨h1, h2, h3⟩
    · exact Or.inl ⟨q, i, h1, by omega, by omega⟩
    · exact Or.inr ⟨c, i, h1, by omega, rfl⟩
    · exact absurd (hall c h1) h2
theorem cano_to {hf B F S R : Nat} {C C0 : Nat → Int64} {s0 : List Nat} {ml : List (Nat × Nat)} {nb : List Nat} {z lv y : Nat → Nat} (g : GI hf B F S R C C0 s0 ml nb z lv y) (hS : S = F) {x w u : Nat} (hx : tcl' ml nb z y x) (hw : w < 2 ^ 30) (w0 : w ≠ 0) (hc : C x = mkc 1 (nI w)) (h : cano s0 ml nb w u) : w = u := by
  rcases h with t | t
  · have as0 := g.2.2.2.2.2.2.2.2.2.2.2.2.1 (w, u) t
    have o := g.2.2.2.2.2.2.2.2.2.1 w as0
    have z1 := (g.2.2.2.2.2.1 w).1
    have ob := g.ob
    have := g.lb hx hc hw ⟨rfl, w0, by omega⟩
    omega
  · exact t.1
