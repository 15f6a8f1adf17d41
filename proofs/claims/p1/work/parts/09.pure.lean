/-! p1: one call on fresh objects -/
def sm_I1 : Nat → sm_S → sm_S → Nat → Nat → Prop := fun k σ μ C S => k = 0 → σ = sm_0X ∧ μ = sm_0M ∧ 4 ≤ C ∧ 100 ≤ S
theorem sm_T1 {k : Nat} {σ μ : sm_S} {C S : Nat} : sm_I1 (k + 1) σ μ C S := fun h => absurd h (Nat.succ_ne_zero k)
theorem z0X (k : Nat) : sm_0X.1 k = 0 := rfl
theorem z0M (k : Nat) : sm_0M.1 k = 0 := rfl
theorem f1_state {C S : Nat} : mp_X10_state sm_0X (fun r σ' => mp_X12_state sm_0M (fun r' μ' => r = r' ∧ sm_I1 (0 + 1) σ' μ' C S)) := by
  unfold mp_X10_state mp_X12_state
  exact ⟨rfl, sm_T1⟩
theorem f1_clear {C S : Nat} : mp_X10_clear sm_0X (fun σ' => mp_X12_clear sm_0M (fun μ' => sm_I1 (0 + 1) σ' μ' C S)) := by
  unfold mp_X10_clear mp_X12_clear
  intro σ1 _ μ1 _
  exact sm_T1
theorem f1_steady {C S : Nat} : mp_X10_steady sm_0X (fun r σ' => mp_X12_steady sm_0M (fun r' μ' => r = r' ∧ sm_I1 (0 + 1) σ' μ' C S)) := by
  simp [mp_X10_steady, mp_X10_steady_20, mp_X10_steady_25, mp_X12_steady, z0X, z0M, sm_T1, sm_z0, sm_z1]
theorem f1_run {C S : Nat} (a0 : Int32) : mp_X10_run sm_0X a0 (fun r σ' => mp_X12_run sm_0M a0 (fun r' μ' => r = r' ∧ sm_I1 (0 + 1) σ' μ' C S)) := by
  simp [mp_X10_run, mp_X10_run_22, mp_X10_run_28, mp_X10_run_57, mp_X10_run_63, mp_X12_run, mp_X12_run_19, mp_X12_run_23, mp_X12_run_59, z0X, z0M, sm_T1, sm_z0, sm_z1]
theorem f1_out {C S : Nat} (a0 : Int32) : mp_X10_out sm_0X a0 (fun r σ' => mp_X12_out sm_0M a0 (fun r' μ' => r = r' ∧ sm_I1 (0 + 1) σ' μ' C S)) := by
  simp [mp_X10_out, mp_X10_out_38, mp_X10_out_39, mp_X10_out_57, mp_X12_out, mp_X12_out_28, mp_X12_out_29, z0X, z0M, sm_T1, sm_z0, sm_z1]
theorem f1_frame {C S : Nat} (a0 a1 : Int32) : mp_X10_frame sm_0X a0 a1 (fun r σ' => mp_X12_frame sm_0M a0 a1 (fun r' μ' => r = r' ∧ sm_I1 (0 + 1) σ' μ' C S)) := by
  simp [mp_X10_frame, mp_X10_frame_22, mp_X10_frame_40, mp_X12_frame, mp_X12_frame_19, mp_X12_frame_94, z0X, z0M, sm_T1, sm_z0, sm_z1]
theorem f1_same {C S : Nat} (a0 a1 : Int32) : mp_X10_same sm_0X a0 a1 (fun r σ' => mp_X12_same sm_0M a0 a1 (fun r' μ' => r = r' ∧ sm_I1 (0 + 1) σ' μ' C S)) := by
  simp [mp_X10_same, mp_X12_same, mp_X12_same_65, mp_X12_same_66, mp_X12_placeOfValue, mp_X12_placeOfValue_23, mp_X12_placeOfValue_69, z0X, z0M, sm_T1, sm_z0, sm_z1]
theorem f1_told {C S : Nat} (a0 : Int32) : mp_X10_told sm_0X a0 (fun r σ' => mp_X12_told sm_0M a0 (fun r' μ' => r = r' ∧ sm_I1 (0 + 1) σ' μ' C S)) := by
  simp [mp_X10_told, mp_X10_told_71, mp_X10_told_93, mp_X12_told, mp_X12_told_61, mp_X12_told_77, z0X, z0M, sm_T1, sm_z0, sm_z1]
theorem f1_stands {C S : Nat} (a0 a1 a2 a3 : Int32) : mp_X10_stands sm_0X a0 a1 a2 a3 (fun r σ' => mp_X12_stands sm_0M a0 a1 a2 a3 (fun r' μ' => r = r' ∧ sm_I1 (0 + 1) σ' μ' C S)) := by
  simp [mp_X10_stands, mp_X10_stands_23, mp_X12_stands, mp_X12_stands_41, mp_X12_stands_124, mp_X12_stands_165, mp_X12_stands_166, z0X, z0M, sm_T1, sm_z0, sm_z1]
theorem f1_value {C S : Nat} (a0 a1 : Int32) (a2 : Int64) (a3 : Int32) : mp_X10_value sm_0X a0 a1 a2 a3 (fun r σ' => mp_X12_value_ sm_0M a0 a1 a2 a3 (fun r' μ' => r = r' ∧ sm_I1 (0 + 1) σ' μ' C S)) := by
  simp [mp_X10_value, mp_X10_value_21, mp_X10_value_57, mp_X12_value_, mp_X12_value__27, mp_X12_value__28, mp_X12_value__45, mp_X12_value__58, mp_X12_value__69, mp_X12_value__92, mp_X12_value__109, mp_X12_value__114, mp_X12_value__119, mp_X12_value__152, mp_X12_value__219, mp_X12_value__272, mp_X12_value__310, mp_X12_value__312, mp_X12_value__340, mp_X12_value__357, mp_X12_value__373, mp_X12_value__455, mp_X12_placeOfValue, mp_X12_placeOfValue_23, mp_X12_placeOfValue_69, z0X, z0M, sm_T1, sm_z0, sm_z1]
theorem f1_count {C S : Nat} (a0 : Int32) : mp_X10_count sm_0X a0 (fun r σ' => mp_X12_count sm_0M a0 (fun r' μ' => r = r' ∧ sm_I1 (0 + 1) σ' μ' C S)) := by
  by_cases h0 : a0 = 0
  · subst h0
    simp [mp_X10_count, mp_X10_count_15, mp_X10_count_75, mp_X10_count_92, mp_X10_count_108, mp_X10_count_125, mp_X10_count_144, mp_X10_count_145, mp_X10_count_168, mp_X10_count_191, mp_X12_count, mp_X12_count_12, mp_X12_count_68, mp_X12_count_82, mp_X12_count_95, mp_X12_count_109, mp_X12_count_125, mp_X12_count_126, mp_X12_count_149, mp_X12_count_172, z0X, z0M, sm_T1, sm_z0, sm_z1]
  by_cases h1 : a0 = 1
  · subst h1
    simp [mp_X10_count, mp_X10_count_15, mp_X10_count_75, mp_X10_count_92, mp_X10_count_108, mp_X10_count_125, mp_X10_count_144, mp_X10_count_145, mp_X10_count_168, mp_X10_count_191, mp_X12_count, mp_X12_count_12, mp_X12_count_68, mp_X12_count_82, mp_X12_count_95, mp_X12_count_109, mp_X12_count_125, mp_X12_count_126, mp_X12_count_149, mp_X12_count_172, z0X, z0M, sm_T1, sm_z0, sm_z1]
  by_cases h2 : a0 = 2
  · subst h2
    simp [mp_X10_count, mp_X10_count_15, mp_X10_count_75, mp_X10_count_92, mp_X10_count_108, mp_X10_count_125, mp_X10_count_144, mp_X10_count_145, mp_X10_count_168, mp_X10_count_191, mp_X12_count, mp_X12_count_12, mp_X12_count_68, mp_X12_count_82, mp_X12_count_95, mp_X12_count_109, mp_X12_count_125, mp_X12_count_126, mp_X12_count_149, mp_X12_count_172, z0X, z0M, sm_T1, sm_z0, sm_z1]
  by_cases h3 : a0 = 3
  · subst h3
    simp [mp_X10_count, mp_X10_count_15, mp_X10_count_75, mp_X10_count_92, mp_X10_count_108, mp_X10_count_125, mp_X10_count_144, mp_X10_count_145, mp_X10_count_168, mp_X10_count_191, mp_X12_count, mp_X12_count_12, mp_X12_count_68, mp_X12_count_82, mp_X12_count_95, mp_X12_count_109, mp_X12_count_125, mp_X12_count_126, mp_X12_count_149, mp_X12_count_172, z0X, z0M, sm_T1, sm_z0, sm_z1]
  by_cases h4 : a0 = 4
  · subst h4
    simp [mp_X10_count, mp_X10_count_15, mp_X10_count_75, mp_X10_count_92, mp_X10_count_108, mp_X10_count_125, mp_X10_count_144, mp_X10_count_145, mp_X10_count_168, mp_X10_count_191, mp_X12_count, mp_X12_count_12, mp_X12_count_68, mp_X12_count_82, mp_X12_count_95, mp_X12_count_109, mp_X12_count_125, mp_X12_count_126, mp_X12_count_149, mp_X12_count_172, z0X, z0M, sm_T1, sm_z0, sm_z1]
  by_cases h5 : a0 = 5
  · subst h5
    simp [mp_X10_count, mp_X10_count_15, mp_X10_count_75, mp_X10_count_92, mp_X10_count_108, mp_X10_count_125, mp_X10_count_144, mp_X10_count_145, mp_X10_count_168, mp_X10_count_191, mp_X12_count, mp_X12_count_12, mp_X12_count_68, mp_X12_count_82, mp_X12_count_95, mp_X12_count_109, mp_X12_count_125, mp_X12_count_126, mp_X12_count_149, mp_X12_count_172, z0X, z0M, sm_T1, sm_z0, sm_z1]
  by_cases h6 : a0 = 6
  · subst h6
    simp [mp_X10_count, mp_X10_count_15, mp_X10_count_75, mp_X10_count_92, mp_X10_count_108, mp_X10_count_125, mp_X10_count_144, mp_X10_count_145, mp_X10_count_168, mp_X10_count_191, mp_X12_count, mp_X12_count_12, mp_X12_count_68, mp_X12_count_82, mp_X12_count_95, mp_X12_count_109, mp_X12_count_125, mp_X12_count_126, mp_X12_count_149, mp_X12_count_172, z0X, z0M, sm_T1, sm_z0, sm_z1]
  simp [mp_X10_count, mp_X10_count_15, mp_X10_count_75, mp_X10_count_92, mp_X10_count_108, mp_X10_count_125, mp_X10_count_144, mp_X10_count_145, mp_X10_count_168, mp_X10_count_191, mp_X12_count, mp_X12_count_12, mp_X12_count_68, mp_X12_count_82, mp_X12_count_95, mp_X12_count_109, mp_X12_count_125, mp_X12_count_126, mp_X12_count_149, mp_X12_count_172, z0X, z0M, sm_T1, sm_z0, sm_z1, h0, h1, h2, h3, h4, h5, h6]
theorem f1_start {C S : Nat} (a0 a1 : Int32) : ∃ mc ms : Nat, mc ≤ C ∧ ms ≤ S ∧ mp_X10_start mc ms sm_0X a0 a1 (fun r σ' => mp_X12_start sm_0M a0 a1 (fun r' μ' => r = r' ∧ sm_I1 (0 + 1) σ' μ' (C - (mc)) (S - (ms)))) := by
  refine ⟨0, 0, Nat.zero_le _, Nat.zero_le _, ?_⟩
  simp [mp_X10_start, mp_X12_start, mp_X12_start_37, mp_X12_start_60, mp_X12_start_113, z0X, z0M, sm_T1, sm_z0, sm_z1]
theorem f1_input {C S : Nat} (a0 : Int32) : mp_X10_input sm_0X a0 (fun r σ' => mp_X12_input sm_0M a0 (fun r' μ' => r = r' ∧ sm_I1 (0 + 1) σ' μ' C S)) := by
  unfold mp_X10_input mp_X5_add
  refine ⟨fun _ => ⟨?_, fun σ3 e3 σ4 e4 => ?_⟩, fun h => absurd (by decide) h⟩
  · exact (show vp_in (nI 0) 1000 from vp_in_nI (by decide) (by decide))
  unfold mp_X12_input
  refine ⟨fun _ => ⟨?_, fun μ3 g3 μ4 g4 => ⟨?_, sm_T1⟩⟩, fun h => absurd h (by decide)⟩
  · exact (show vp_in (nI 0) 1000 from vp_in_nI (by decide) (by decide))
  rw [e4, e3, g4, g3]
  rfl
theorem tn_1 {K : sm_S → Prop} {n t : Nat} {σ : sm_S} {v x2 : Int32} (hx : ¬ x2 < 0) (h : σ.1 35 = nI t) (hlt : t < σ.2.2.1 37) (hb : σ.2.2.1 37 < 2 ^ 31) (next : ∀ σ' : sm_S, σ'.1 35 = nI (t + 1) → σ'.2.2.1 37 = σ.2.2.1 37 → mp_X10_tapeNumber_3 K n σ' v (x2 + (-8))) : mp_X10_tapeNumber_3 K (n + 1) σ v x2 := by
  unfold mp_X10_tapeNumber_3
  refine ⟨fun h9 => absurd h9 hx, fun _ => ⟨by rw [h]; exact vp_in_nI hlt hb, fun σ3 e3 σ4 e4 v5 e5 => ?_⟩⟩
  rw [e5]
  refine next σ4 ?_ (by rw [e4, e3])
  have h1 : σ4.1 35 = σ3.1 35 + 1 := by rw [e4]; rfl
  have h2 : σ3.1 35 = σ.1 35 := by rw [e3]
  rw [h1, h2, h, nI_1]
theorem tn_4 {K : sm_S → Prop} {t : Nat} {σ : sm_S} (v : Int32) (h : σ.1 35 = nI t) (hlt : t + 4 ≤ σ.2.2.1 37) (hb : σ.2.2.1 37 < 2 ^ 31) (next : ∀ σ' : sm_S, σ'.1 35 = nI (t + 4) → σ'.2.2.1 37 = σ.2.2.1 37 → K σ') : mp_X10_tapeNumber σ v K := by
  refine ⟨5, ?_⟩
  refine tn_1 (by decide) h (by omega) hb (fun σ1 h1 l1 => ?_)
  refine tn_1 (by decide) h1 (by omega) (by omega) (fun σ2 h2 l2 => ?_)
  refine tn_1 (by decide) h2 (by omega) (by omega) (fun σ3 h3 l3 => ?_)
  refine tn_1 (by decide) h3 (by omega) (by omega) (fun σ4 h4 l4 => ?_)
  unfold mp_X10_tapeNumber_3
  exact ⟨fun _ => next σ4 h4 (by omega), fun h9 => absurd (by decide) h9⟩
theorem fd_loop {K : Int32 → sm_S → Prop} {a b c d e : Int32} (hK : ∀ σ' : sm_S, σ'.1 0 = nI 20 → K (σ'.1 0) σ') : ∀ (m t : Nat) (σ : sm_S), t + m = 20 → σ.1 0 = nI t → σ.2.2.1 2 = 8000 → mp_X11_feed_19 K (m + 1) σ a b c d e (nI t) := by
  intro m
  induction m with
  | zero =>
    intro t σ ht h0 hl
    have ht : t = 20 := by omega
    subst ht
    unfold mp_X11_feed_19
    exact ⟨fun _ => hK σ h0, fun h => absurd (by decide) h⟩
  | succ m ih =>
    intro t σ ht h0 hl
    have hn : ¬ (20 : Int32) ≤ nI t := fun q => by
      have q2 : nI 20 ≤ nI t := q
      rw [nI_leI (by omega) (by omega)] at q2
      omega
    have key : ∀ y0 : Int32, mp_X11_feed_72 (mp_X11_feed_19 K (m + 1)) K σ a b c d e (nI t) y0 := by
      intro y0
      unfold mp_X11_feed_72
      refine ⟨by rw [h0, hl]; exact vp_in_nI (by omega) (by decide), fun σ2 e2 σ3 e3 v4 e4 => ?_⟩
      rw [e4, nI_1]
      refine ih (t + 1) σ3 (by omega) ?_ (by rw [e3, e2]; exact hl)
      have h1 : σ3.1 0 = σ2.1 0 + 1 := by rw [e3]; rfl
      have h2 : σ2.1 0 = σ.1 0 := by rw [e2]
      rw [h1, h2, h0, nI_1]
    unfold mp_X11_feed_19
    exact ⟨fun h => absurd h hn, fun _ => ⟨fun _ => ⟨fun _ => ⟨fun _ => ⟨fun _ => key _, fun _ => key _⟩, fun _ => key _⟩, fun _ => key _⟩, fun _ => key _⟩⟩
theorem f1_feed {C S : Nat} (hC : 4 ≤ C) (hS : 100 ≤ S) (a0 a1 a2 a3 a4 : Int32) : ∃ mc ms : Nat, mc ≤ C ∧ ms ≤ S ∧ mp_X10_feed mc ms sm_0X a0 a1 a2 a3 a4 (fun r σ' => mp_X12_feed sm_0M a0 a1 a2 a3 a4 (fun r' μ' => r = r' ∧ sm_I1 (0 + 1) σ' μ' (C - (mc)) (S - (ms)))) := by
  refine ⟨1, 20, by omega, by omega, ?_⟩
  unfold mp_X10_feed
  refine ⟨fun _ => ⟨fun h => absurd h (by decide), fun _ => ?_⟩, fun h => absurd (by decide) h⟩
  unfold mp_X10_roomFor
  have e : (if sm_0X.1 35 + 20 < 2 * nI (sm_0X.2.2.1 37) then 2 * nI (sm_0X.2.2.1 37) else sm_0X.1 35 + 20) = (20 : Int32) := by decide
  rw [e]
  have e0 : (nI (sm_0X.2.2.1 37)).toNatClampNeg = 0 := by decide
  refine ⟨⟨by decide, by decide, by decide, by decide, by decide, by decide, by decide, fun i hi => absurd (e0 ▸ hi) (Nat.not_lt_zero i)⟩, by decide, by decide, fun σ13 e13 => ?_⟩
  have l0 : σ13.2.2.1 37 = 20 := by rw [e13]; decide
  have t0 : σ13.1 35 = nI 0 := by rw [e13]; rfl
  unfold mp_X10_feed_57
  refine tn_4 a0 t0 (by omega) (by omega) (fun σ1 t1 l1 => ?_)
  refine tn_4 a1 t1 (by omega) (by omega) (fun σ2 t2 l2 => ?_)
  refine tn_4 a2 t2 (by omega) (by omega) (fun σ3 t3 l3 => ?_)
  refine tn_4 a3 t3 (by omega) (by omega) (fun σ4 t4 l4 => ?_)
  refine tn_4 a4 t4 (by omega) (by omega) (fun σ5 t5 l5 => ?_)
  unfold mp_X12_feed mp_X11_feed
  refine ⟨fun _ => ⟨21, ?_⟩, fun h => absurd (by decide) h⟩
  exact fd_loop (fun μ' h => ⟨by rw [t5, h], sm_T1⟩) 20 0 sm_0M (by omega) rfl (by decide)
theorem nb_end {K : Int32 → sm_S → Prop} {σ : sm_S} {x y z : Int32} (h1 : σ.1 21 = -1) (h2 : σ.1 20 = 0) (h3 : σ.1 14 = 0) (next : ∀ σ' : sm_S, σ' = sm_i σ 21 (σ.1 20) → K 0 σ') : mp_X6_number σ x y z K := by
  unfold mp_X6_number mp_X2_at mp_X2_at_25 mp_X2_at_26 mp_X6_number_47
  rw [h1, h2, h3]
  refine ⟨fun _ => ⟨fun h => absurd h (by decide), fun _ => ⟨fun _ => ⟨fun _ => ?_, fun h => absurd rfl h⟩, fun h => absurd (by decide) h⟩⟩, fun h => absurd rfl h⟩
  intro σ2 e2
  exact next σ2 (by rw [e2, h2])
theorem nb_wrong {K : Int32 → sm_S → Prop} {σ : sm_S} {x y z : Int32} (h1 : ¬ σ.1 21 = -1) (next : K 0 σ) : mp_X6_number σ x y z K := by
  unfold mp_X6_number
  exact ⟨fun h => absurd h h1, fun _ => next⟩
theorem fw_loop {K : Int32 → sm_S → Prop} (hK : ∀ σ' : sm_S, K 0 σ') : ∀ (m t : Nat) (σ : sm_S), t + m = 5 → σ.1 21 = 0 → σ.2.2.1 16 = 5 → mp_X6_firstWrong_59 K (m + 1) σ (nI t) := by
  intro m
  induction m with
  | zero =>
    intro t σ ht h21 hl
    have ht : t = 5 := by omega
    subst ht
    unfold mp_X6_firstWrong_59
    refine ⟨fun _ => nb_wrong (by rw [h21]; decide) ?_, fun h => absurd (by decide) h⟩
    intro σ1 e1
    have g21 : σ1.1 21 = 0 := by rw [e1]; exact h21
    have g16 : σ1.1 16 = 0 := by rw [e1]; rfl
    refine ⟨1, ?_⟩
    unfold mp_X6_firstWrong_111
    refine ⟨fun _ => ?_, fun h => absurd (by rw [g16]; decide) h⟩
    unfold mp_X6_firstWrong_141 mp_X6_readFirst
    intro v3 _
    refine nb_wrong (by rw [g21]; decide) ⟨fun _ => ?_, fun h => absurd h (by rw [g21]; decide)⟩
    unfold mp_X6_readFirst_61
    intro σ2 e2
    have k21 : σ2.1 21 = 0 := by rw [e2]; exact g21
    unfold mp_X6_firstWrong_175
    refine ⟨fun _ => by rw [k21]; exact hK σ2, fun h => absurd h (by rw [k21]; decide)⟩
  | succ m ih =>
    intro t σ ht h21 hl
    have hn : ¬ (5 : Int32) ≤ nI t := fun q => by
      have q2 : nI 5 ≤ nI t := q
      rw [nI_leI (by omega) (by omega)] at q2
      omega
    unfold mp_X6_firstWrong_59
    refine ⟨fun h => absurd h hn, fun _ => nb_wrong (by rw [h21]; decide) ⟨by rw [hl]; exact vp_in_nI (by omega) (by decide), fun σ1 e1 v e2 => ?_⟩⟩
    rw [e2, nI_1]
    exact ih (t + 1) σ1 (by omega) (by rw [e1]; exact h21) (by rw [e1]; exact hl)
theorem fw_0 {K : Int32 → sm_S → Prop} {σ : sm_S} (h14 : σ.1 14 = 0) (hl : σ.2.2.1 16 = 5) (hK : ∀ σ' : sm_S, K 0 σ') : mp_X6_firstWrong σ K := by
  unfold mp_X6_firstWrong
  intro σ1 e1 σ2 e2
  refine nb_end (by rw [e2]; rfl) (by rw [e2, e1]; rfl) (by rw [e2, e1]; exact h14) (fun σ3 e3 => ?_)
  intro σ4 e4
  have g21 : σ4.1 21 = 0 := by rw [e4, e3, e2, e1]; rfl
  have g0 : σ4.1 0 = 0 := by rw [e4]; rfl
  have gl : σ4.2.2.1 16 = 5 := by rw [e4, e3, e2, e1]; exact hl
  refine ⟨1, ?_⟩
  unfold mp_X6_firstWrong_27
  refine ⟨fun _ => ?_, fun h => absurd (by rw [g0]; decide) h⟩
  unfold mp_X6_firstWrong_57
  exact ⟨6, fw_loop hK 5 0 σ4 (by omega) g21 gl⟩
theorem me_0 {K : Int32 → sm_S → Prop} {μ : sm_S} (h0 : μ.1 0 = 0) (hK : ∀ μ' : sm_S, K (-3) μ') : mp_X12_end μ 0 K := by
  unfold mp_X12_end
  refine ⟨fun h => absurd h (by decide), fun _ => ⟨fun _ => ?_, fun h => absurd (by rw [h0]; decide) h⟩⟩
  intro μ1 e1
  have g0 : μ1.1 0 = 0 := by rw [e1]; exact h0
  unfold mp_X11_end
  refine ⟨fun h => absurd h (by decide), fun _ => ⟨fun _ => ?_, fun h => absurd (by rw [g0]; decide) h⟩⟩
  intro μ2 e2
  refine ⟨1, ?_⟩
  unfold mp_X11_end_26
  refine ⟨fun _ => ?_, fun h => absurd (by decide) h⟩
  intro μ3 e3 μ4 e4 μ5 e5 μ6 e6 μ7 e7
  have k1 : μ7.1 1 = 0 := by rw [e7, e6, e5, e4, e3, e2]; rfl
  have k2 : μ7.1 2 = 0 := by rw [e7, e6, e5, e4]; rfl
  have k3 : μ7.1 3 = -1 := by rw [e7, e6, e5]; rfl
  have hh : ∀ {K2 : Int32 → sm_S → Prop}, K2 256 μ7 → mp_X11_here μ7 K2 := by
    intro K2 h
    unfold mp_X11_here mp_X11_here_26
    rw [k1, k2]
    exact ⟨fun _ => h, fun h9 => absurd (by decide) h9⟩
  unfold mp_X11_readAll mp_X11_over
  refine hh ⟨fun h => absurd h (by decide), fun _ => hh ⟨fun _ => ?_, fun h => absurd (by decide) h⟩⟩
  unfold mp_X11_over_26 mp_X11_bad mp_X11_bad_16
  rw [k2, k3]
  refine ⟨fun h => absurd h (by decide), fun _ => ?_⟩
  intro μ8 e8
  have j3 : μ8.1 3 = 0 := by rw [e8]; rfl
  refine ⟨sm_z0, fun h => absurd rfl h, fun _ => ⟨fun _ => ?_, fun h => absurd rfl h⟩⟩
  unfold mp_X11_end_113
  refine ⟨fun _ => ?_, fun h => absurd (by rw [j3]; decide) h⟩
  unfold mp_X11_end_126 mp_X11_end_150
  refine ⟨sm_z0, fun μ9 e9 => ⟨fun _ => ?_, fun h => absurd (by rw [e9]; rfl) h⟩⟩
  have i3 : μ9.1 3 = 0 := by rw [e9]; exact j3
  rw [i3]
  exact ⟨fun h => absurd h (by decide), fun _ => hK μ9⟩
theorem me_n {K : Int32 → sm_S → Prop} {μ : sm_S} {a : Int32} (h0 : μ.1 0 = 0) (ha : a < 0 ∨ ¬ a ≤ 0) (hK : ∀ μ' : sm_S, K (-1) μ') : mp_X12_end μ a K := by
  unfold mp_X12_end mp_X12_end_15
  rw [h0]
  refine ⟨fun _ μ1 _ => hK μ1, fun hn => ⟨fun hle => ?_, fun _ μ1 _ => hK μ1⟩⟩
  rcases ha with ha | ha
  · exact absurd ha hn
  · exact absurd hle ha
theorem f1_end {C S : Nat} (a0 : Int32) : ∃ mc1 ms1 mc2 ms2 : Nat, mc1 + mc2 ≤ C ∧ ms1 + ms2 ≤ S ∧ mp_X10_end mc1 ms1 mc2 ms2 sm_0X a0 (fun r σ' => mp_X12_end sm_0M a0 (fun r' μ' => r = r' ∧ sm_I1 (0 + 1) σ' μ' (C - (mc1 + mc2)) (S - (ms1 + ms2)))) := by
  refine ⟨0, 0, 0, 0, by omega, by omega, ?_⟩
  unfold mp_X10_end
  intro v2 e2 σ3 e3
  have hv : v2 = 0 := e2
  refine ⟨fun hn => ?_, fun hn => ⟨fun hle => ?_, fun hle => ?_⟩⟩
  · unfold mp_X10_end_19
    exact me_n rfl (Or.inl hn) (fun μ' => ⟨rfl, sm_T1⟩)
  · rw [hv] at hle
    have ha : a0 = 0 := Int32.le_antisymm hle (Int32.not_lt.mp hn)
    subst ha
    intro σ6 e6 σ7 e7
    have l18 : σ7.2.2.1 18 = 0 := by rw [e7, e6, e3]; decide
    have l37 : σ7.2.2.1 37 = 0 := by rw [e7, e6, e3]; decide
    have l16 : σ7.2.2.1 16 = 5 := by rw [e7, e6, e3]; decide
    unfold mp_X2_take
    rw [l18]
    refine ⟨fun _ => ?_, fun h => absurd (by decide) h⟩
    unfold mp_X2_take_33
    rw [l18, l37]
    refine ⟨by decide, by decide, by decide, by decide, by decide, fun i hi => absurd hi (by rw [show (0 : Int32).toNatClampNeg = 0 from by decide]; exact Nat.not_lt_zero i), fun σ8 e8 => ⟨1, ?_⟩⟩
    unfold mp_X2_take_46
    refine ⟨fun _ => ?_, fun h => absurd (by decide) h⟩
    intro σ9 e9 σ10 e10
    refine fw_0 (by rw [e10, e9]; rfl) (by rw [e10, e9, e8]; exact l16) (fun σ' => ⟨fun _ => ?_, fun h => absurd h (by decide)⟩)
    unfold mp_X10_end_67
    refine ⟨fun h => absurd h (by decide), fun _ => ?_⟩
    exact me_0 rfl (fun μ' => ⟨by decide, sm_T1⟩)
  · rw [hv] at hle
    unfold mp_X10_end_19
    exact me_n rfl (Or.inr hle) (fun μ' => ⟨rfl, sm_T1⟩)
theorem sim1 {L : Nat} (hL : L ≤ 6) : lw_Sim L sm_I1 := by
  intro k σ μ C S hk hI
  have hk0 : k = 0 := by omega
  subst hk0
  obtain ⟨rfl, rfl, hC, hS⟩ := hI rfl
  exact ⟨f1_feed hC hS, f1_end, f1_input, f1_clear, f1_start, f1_run, f1_state, f1_count, f1_out, f1_frame, f1_value, f1_same, f1_told, f1_steady, f1_stands, sm_T1⟩
