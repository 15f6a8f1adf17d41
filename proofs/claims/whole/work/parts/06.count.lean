/-! ===== count, steady: answers that are read off numbers ===== -/
def ct_v (z : Bool) (s1 s2 s3 s4 : Int64) (fl th : Bool) (s5 s6 : Int64) (a : Int32) : Int64 := if a = 0 then (if z then s1 else 0) else if a = 1 then (if z then s2 else 0) else if a = 2 then (if z then s3 else 0) else if a = 3 then (if z then s4 else 0) else if a = 4 then (if z then (if fl then 1 else 0) else 0) else if a = 5 then (if th then s5 else 0) else if a = 6 then (if th then s6 else 0) else -1
theorem w_count {K : Int64 → sm_S → Prop} {σ : sm_S} {a : Int32} (h : K (ct_v (decide (¬ σ.1 22 = 0)) (σ.2.1 1) (σ.1 19).toInt64 (σ.2.1 0) (σ.1 23).toInt64 (decide (¬ σ.1 11 = 0)) (decide (¬ σ.1 36 = 0)) (σ.1 0).toInt64 (σ.1 16).toInt64 a) σ) : mp_X10_count σ a K := by
  unfold ct_v at h
  unfold mp_X10_count mp_X10_count_15 mp_X10_count_75 mp_X10_count_92 mp_X10_count_108 mp_X10_count_125 mp_X10_count_144 mp_X10_count_145 mp_X10_count_168 mp_X10_count_191
  refine ⟨fun q => ?_, fun q => ?_⟩
  all_goals
    refine ⟨fun e => ?_, fun e => ?_, fun e => ?_, fun e => ?_, fun e => ?_, fun e => ?_, fun e => ?_, fun e0 e1 e2 e3 e4 e5 e6 => ?_⟩ <;> simp_all
  all_goals exact ⟨fun q2 => by rw [if_pos q2] at h; exact h, fun q2 => by rw [if_neg q2] at h; exact h⟩
theorem w_mcount {K : Int64 → sm_S → Prop} {μ : sm_S} {a : Int32} (h : K (ct_v (decide (¬ μ.1 17 ≤ 0)) (μ.2.1 0) (μ.1 18).toInt64 (μ.2.1 1) (μ.1 14).toInt64 (decide (¬ μ.1 15 = 0)) (decide (¬ μ.1 4 = 0)) (μ.1 5).toInt64 (μ.1 6).toInt64 a) μ) : mp_X12_count μ a K := by
  unfold ct_v at h
  unfold mp_X12_count mp_X12_count_12 mp_X12_count_68 mp_X12_count_82 mp_X12_count_95 mp_X12_count_109 mp_X12_count_125 mp_X12_count_126 mp_X12_count_149 mp_X12_count_172
  refine ⟨fun q => ?_, fun q => ?_⟩
  all_goals
    refine ⟨fun e => ?_, fun e => ?_, fun e => ?_, fun e => ?_, fun e => ?_, fun e => ?_, fun e => ?_, fun e0 e1 e2 e3 e4 e5 e6 => ?_⟩ <;> simp_all
  all_goals exact ⟨fun q2 => by rw [if_pos q2] at h; exact h, fun q2 => by rw [if_neg q2] at h; exact h⟩
/-- the numbers that count tells: while there is a run, while there is an image -/
def iv_nums (σ μ : sm_S) : Prop := (¬ σ.1 22 = 0 → σ.2.1 1 = μ.2.1 0 ∧ σ.1 23 = μ.1 14 ∧ (σ.1 11 = 0 ↔ μ.1 15 = 0) ∧ ¬ σ.1 12 = 0) ∧ (σ.1 36 = 0 ↔ μ.1 4 = 0) ∧ (¬ σ.1 36 = 0 → σ.1 0 = μ.1 5 ∧ σ.1 16 = μ.1 6)
theorem j_count {σ μ : sm_S} (hS : iv_state σ μ) (hP : iv_ports σ μ) (hN : iv_nums σ μ) (a : Int32) {K : Int64 → sm_S → Int64 → sm_S → Prop} (h : ∀ r : Int64, K r σ r μ) : mp_X10_count σ a (fun r σ' => mp_X12_count μ a (fun r' μ' => K r σ' r' μ')) := by
  obtain ⟨z, hz, h1, h2⟩ := hS
  obtain ⟨i, g, hi, hg, hs, hm, l1, l2, l3, l4, heq, htk, hga, hgb, hgc, hout⟩ := hP
  obtain ⟨n1, n2, n3⟩ := hN
  have z1 : σ.1 22 = 0 ↔ z = 0 := by rw [h1, ← nI_0, nI_eq (by omega) (by omega)]
  have z2 : μ.1 17 ≤ 0 ↔ z = 0 := by rw [h2, ← nI_0, nI_leI (by omega) (by omega)]; omega
  have z3 : μ.1 17 ≤ 0 ↔ σ.1 22 = 0 := z2.trans z1.symm
  refine w_count (w_mcount ?_)
  have e : ct_v (decide (¬ μ.1 17 ≤ 0)) (μ.2.1 0) (μ.1 18).toInt64 (μ.2.1 1) (μ.1 14).toInt64 (decide (¬ μ.1 15 = 0)) (decide (¬ μ.1 4 = 0)) (μ.1 5).toInt64 (μ.1 6).toInt64 a = ct_v (decide (¬ σ.1 22 = 0)) (σ.2.1 1) (σ.1 19).toInt64 (σ.2.1 0) (σ.1 23).toInt64 (decide (¬ σ.1 11 = 0)) (decide (¬ σ.1 36 = 0)) (σ.1 0).toInt64 (σ.1 16).toInt64 a := by
    rw [htk, hga, hgb]
    unfold ct_v
    by_cases q : σ.1 22 = 0
    · by_cases q2 : σ.1 36 = 0
      · simp [z3, q, q2, n2.mp q2]
      · have n3 := n3 q2
        have q3 : ¬ μ.1 4 = 0 := fun y => q2 (n2.mpr y)
        simp [z3, q, q2, q3, n3.1, n3.2]
    · have n1 := n1 q
      by_cases q2 : σ.1 36 = 0
      · simp [z3, q, q2, n2.mp q2, n1.1, n1.2.1, n1.2.2.1]
      · have n3 := n3 q2
        have q3 : ¬ μ.1 4 = 0 := fun y => q2 (n2.mpr y)
        simp [z3, q, q2, q3, n3.1, n3.2, n1.1, n1.2.1, n1.2.2.1]
  rw [e]
  exact h _
theorem j_steady {σ μ : sm_S} (hN : iv_nums σ μ) {K : Int32 → sm_S → Int32 → sm_S → Prop} (h : K 1 σ 1 μ) : mp_X10_steady σ (fun r σ' => mp_X12_steady μ (fun r' μ' => K r σ' r' μ')) := by
  unfold mp_X10_steady mp_X10_steady_20 mp_X10_steady_25 mp_X12_steady
  exact ⟨fun _ => ⟨sm_z1, h⟩, fun q => ⟨fun q2 => absurd q2 (hN.1 q).2.2.2, fun _ => ⟨sm_z1, h⟩⟩⟩
