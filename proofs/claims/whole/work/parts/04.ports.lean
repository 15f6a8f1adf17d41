/-! ===== pieces of the invariant, and the calls that they carry: tape, ports ===== -/
/-- the tape: t bytes on both sides; the class's are signed, in a row that may be longer -/
def iv_tape (σ μ : sm_S) : Prop := ∃ t : Nat, t ≤ 8000 ∧ σ.1 35 = nI t ∧ μ.1 0 = nI t ∧ t ≤ σ.2.2.1 36 ∧ σ.2.2.1 36 ≤ 16000 ∧ μ.2.2.1 2 = 8000 ∧ (∀ j : Nat, j < t → σ.2.2.2.1 36 j &&& 255 = μ.2.2.2.1 2 j) ∧ ∀ j : Nat, j < σ.2.2.1 36 → fits .byte (.int (σ.2.2.2.1 36 j)) = true
theorem tp_in {f b : Nat → Int32} {t n j : Nat} (h1 : t ≤ j) (h2 : j < t + n) : tp_row f t n b j = b (j - t) := if_pos ⟨h1, h2⟩
theorem tp_out {f b : Nat → Int32} {t n j : Nat} (h : j < t ∨ t + n ≤ j) : tp_row f t n b j = f j := if_neg (by omega)
theorem cp_in {f : Nat → Int32} {n j : Nat} (hn : n < 2 ^ 31) (h : j < n) : sm_cp n f j = f j := by
  have z0 : (0 : Int32).toNatClampNeg = 0 := by decide
  unfold sm_cp
  rw [z0, nI_clamp hn, pk_cpy_in (by omega) (by omega)]
  exact congrArg f (by omega)
theorem cp_out {f : Nat → Int32} {n j : Nat} (hn : n < 2 ^ 31) (h : n ≤ j) : sm_cp n f j = 0 := by
  have z0 : (0 : Int32).toNatClampNeg = 0 := by decide
  unfold sm_cp
  rw [z0, nI_clamp hn, pk_cpy_out (by omega)]
/-- feed on both sides: the same answer, the tapes stand together again, nothing else has changed -/
theorem j_feed {σ μ : sm_S} {mc ms : Nat} (hT : iv_tape σ μ) (hmc : 1 ≤ mc) (hms : ∀ t : Nat, σ.1 35 = nI t → σ.2.2.1 36 < t + 20 → t + 20 ≤ 8000 → max (t + 20) (2 * σ.2.2.1 36) ≤ ms) (a b c d e : Int32) {K : Int32 → sm_S → Int32 → sm_S → Prop} (h0 : K (-2) σ (-2) μ)
    (h1 : ∀ (t n : Nat) (f g : Nat → Int32), σ.1 35 = nI t → t + 20 ≤ 8000 → (n = σ.2.2.1 36 ∧ t + 20 ≤ σ.2.2.1 36 ∨ σ.2.2.1 36 < t + 20 ∧ n = max (t + 20) (2 * σ.2.2.1 36)) → n ≤ 16000 → iv_tape (sm_i (sm_x σ 36 n f) 35 (nI (t + 20))) (sm_i (sm_r μ 2 g) 0 (nI (t + 20))) → K (nI (t + 20)) (sm_i (sm_x σ 36 n f) 35 (nI (t + 20))) (nI (t + 20)) (sm_i (sm_r μ 2 g) 0 (nI (t + 20)))) :
    mp_X10_feed mc ms σ a b c d e (fun r σ' => mp_X12_feed μ a b c d e (fun r' μ' => K r σ' r' μ')) := by
  obtain ⟨t, ht, hs, hm, hl, hl2, hml, heq, hfit⟩ := hT
  refine w_feed a b c d e hs ht hl hl2 hfit hmc (hms t hs) (fun hf => ?_) (fun n f h20 hn hc => ?_)
  · exact w_mfeed a b c d e hm ht hml (fun _ => h0) (fun h => absurd h (by omega))
  · refine w_mfeed a b c d e hm ht hml (fun h => absurd h20 (by omega)) (fun _ => ?_)
    have hn2 : n ≤ 16000 := by
      rcases hc with ⟨q, -⟩ | ⟨q1, q2, -⟩
      · omega
      · omega
    have hold : ∀ j : Nat, j < σ.2.2.1 36 → f j = σ.2.2.2.1 36 j := by
      intro j hj
      rcases hc with ⟨-, q⟩ | ⟨-, -, q⟩
      · rw [q]
      · rw [q, cp_in (by omega) hj]
    have hff : ∀ j : Nat, j < n → fits .byte (.int (f j)) = true := by
      intro j hj
      rcases Nat.lt_or_ge j (σ.2.2.1 36) with z | z
      · rw [hold j z]; exact hfit j z
      · rcases hc with ⟨q, -⟩ | ⟨-, -, q⟩
        · omega
        · rw [q, cp_out (by omega) z]; rfl
    refine h1 t n _ _ hs h20 ?_ hn2 ?_
    · rcases hc with ⟨q, -⟩ | ⟨q1, q2, -⟩
      · exact Or.inl ⟨q, by omega⟩
      · exact Or.inr ⟨q1, q2⟩
    · refine ⟨t + 20, h20, rfl, rfl, ?_, ?_, hml, fun j hj => ?_, fun j hj => ?_⟩
      · show t + 20 ≤ va_up σ.2.2.1 36 n 36
        rw [va_up_self]; exact hn
      · show va_up σ.2.2.1 36 n 36 ≤ 16000
        rw [va_up_self]; exact hn2
      · show va_up σ.2.2.2.1 36 (tp_row f t 20 (tp_B a b c d e)) 36 j &&& 255 = va_up μ.2.2.2.1 2 (tp_row (μ.2.2.2.1 2) t 20 (tp_U a b c d e)) 2 j
        rw [va_up_self, va_up_self]
        rcases Nat.lt_or_ge j t with z | z
        · rw [tp_out (Or.inl z), tp_out (Or.inl z), hold j (by omega)]
          exact heq j z
        · rw [tp_in z hj, tp_in z hj]
          exact tp_BU a b c d e (j - t)
      · have hj : j < va_up σ.2.2.1 36 n 36 := hj
        rw [va_up_self] at hj
        show fits .byte (.int (va_up σ.2.2.2.1 36 (tp_row f t 20 (tp_B a b c d e)) 36 j)) = true
        rw [va_up_self]
        by_cases z : t ≤ j ∧ j < t + 20
        · rw [tp_in z.1 z.2]; exact tp_fit _ _
        · rw [tp_out (by omega)]; exact hff j hj
/-- what comes in and goes out -/
def iv_ports (σ μ : sm_S) : Prop := ∃ i g : Nat, i ≤ 1000 ∧ g < 2 ^ 62 ∧ σ.1 18 = nI i ∧ μ.1 19 = nI i ∧ σ.2.2.1 30 = 1000 ∧ σ.2.2.1 31 = 1000 ∧ μ.2.2.1 38 = 1000 ∧ μ.2.2.1 39 = 1000 ∧ (∀ j : Nat, j < i → σ.2.2.2.1 30 j = μ.2.2.2.1 38 j) ∧ σ.1 19 = μ.1 18 ∧ σ.2.1 0 = lN g ∧ μ.2.1 1 = lN g ∧ μ.1 20 = nI (min g 1000) ∧ ∀ j : Nat, j < min g 1000 → σ.2.2.2.1 31 j = μ.2.2.2.1 39 j
theorem j_input {σ μ : sm_S} (hP : iv_ports σ μ) (v : Int32) {K : Int32 → sm_S → Int32 → sm_S → Prop} (h0 : K (-2) σ (-2) μ)
    (h1 : ∀ (i : Nat) (f g : Nat → Int32), iv_ports (sm_i (sm_r σ 30 f) 18 (nI i)) (sm_i (sm_r μ 38 g) 19 (nI i)) → K (nI i) (sm_i (sm_r σ 30 f) 18 (nI i)) (nI i) (sm_i (sm_r μ 38 g) 19 (nI i))) :
    mp_X10_input σ v (fun r σ' => mp_X12_input μ v (fun r' μ' => K r σ' r' μ')) := by
  obtain ⟨i, g, hi, hg, hs, hm, l1, l2, l3, l4, heq, htk, hga, hgb, hgc, hout⟩ := hP
  have hc : σ.1 18 < 1000 ↔ i < 1000 := by rw [hs, show (1000 : Int32) = nI 1000 from rfl, nI_ltI (by omega) (by omega)]
  have hd : μ.1 19 = 1000 ↔ i = 1000 := by rw [hm, show (1000 : Int32) = nI 1000 from rfl, nI_eq (by omega) (by omega)]
  unfold mp_X10_input mp_X5_add
  refine ⟨fun q => ⟨by rw [hs, l1]; exact vp_in_nI (hc.mp q) (by decide), fun σ3 e3 σ4 e4 => ?_⟩, fun q => ?_⟩
  · have hq := hc.mp q
    have k1 : σ3.1 18 = nI i := by rw [e3]; exact hs
    rw [hs, nI_clamp (by omega)] at e3
    rw [k1, nI_1, e3] at e4
    unfold mp_X12_input
    refine ⟨fun _ => ⟨by rw [hm, l3]; exact vp_in_nI hq (by decide), fun μ3 g3 μ4 g4 => ?_⟩, fun z => absurd (hd.mp z) (by omega)⟩
    have k2 : μ3.1 19 = nI i := by rw [g3]; exact hm
    rw [hm, nI_clamp (by omega)] at g3
    rw [k2, nI_1, g3] at g4
    have r1 : σ4.1 18 = nI (i + 1) := by rw [e4]; rfl
    have r2 : μ4.1 19 = nI (i + 1) := by rw [g4]; rfl
    rw [r1, r2, e4, g4]
    refine h1 (i + 1) _ _ ⟨i + 1, g, by omega, hg, rfl, rfl, l1, l2, l3, l4, fun j hj => ?_, htk, hga, hgb, hgc, hout⟩
    show va_up σ.2.2.2.1 30 (upd (σ.2.2.2.1 30) i v) 30 j = va_up μ.2.2.2.1 38 (upd (μ.2.2.2.1 38) i v) 38 j
    rw [va_up_self, va_up_self]
    by_cases z : j = i
    · rw [z, pk_us, pk_us]
    · rw [pk_un z, pk_un z]
      exact heq j (by omega)
  · unfold mp_X12_input
    have hq : i = 1000 := by
      have w9 : ¬ _ := fun z => q (hc.mpr z)
      omega
    exact ⟨fun z => absurd (hd.mpr hq) z, fun _ => h0⟩
theorem j_clear {σ μ : sm_S} (hP : iv_ports σ μ) {K : sm_S → sm_S → Prop} (h1 : iv_ports (sm_i σ 18 0) (sm_i μ 19 0) → K (sm_i σ 18 0) (sm_i μ 19 0)) : mp_X10_clear σ (fun σ' => mp_X12_clear μ (fun μ' => K σ' μ')) := by
  obtain ⟨i, g, hi, hg, hs, hm, l1, l2, l3, l4, heq, htk, hga, hgb, hgc, hout⟩ := hP
  unfold mp_X10_clear mp_X12_clear
  intro σ1 e1 μ1 g1
  rw [e1, g1]
  exact h1 ⟨0, g, by omega, hg, rfl, rfl, l1, l2, l3, l4, fun j hj => absurd hj (by omega), htk, hga, hgb, hgc, hout⟩
/-- the state of the run is one of five numbers, the same on both sides -/
def iv_state (σ μ : sm_S) : Prop := ∃ z : Nat, z ≤ 4 ∧ σ.1 22 = nI z ∧ μ.1 17 = nI z
theorem j_state {σ μ : sm_S} (hS : iv_state σ μ) {K : Int32 → sm_S → Int32 → sm_S → Prop} (h : K (σ.1 22) σ (σ.1 22) μ) : mp_X10_state σ (fun r σ' => mp_X12_state μ (fun r' μ' => K r σ' r' μ')) := by
  obtain ⟨z, hz, h1, h2⟩ := hS
  unfold mp_X10_state mp_X12_state
  rw [h2, ← h1]
  exact h
theorem lc_ge {a b : Nat} (ha : a < 2 ^ 63) (hb : b < 2 ^ 63) : (0 : Int32) ≤ lg_cmp (lN a) (lN b) ↔ b ≤ a := by
  unfold lg_cmp
  rcases Nat.lt_trichotomy a b with h | h | h
  · rw [if_neg (fun q => absurd ((pk_lLT hb ha).mp q) (by omega)), if_neg (fun q => absurd ((pk_lEQ ha hb).mp q) (by omega))]
    exact ⟨fun q => absurd q (by decide), fun q => absurd q (by omega)⟩
  · subst h
    simp
  · rw [if_pos ((pk_lLT hb ha).mpr h)]
    exact ⟨fun _ => by omega, fun _ => by decide⟩
theorem j_out {σ μ : sm_S} (hS : iv_state σ μ) (hP : iv_ports σ μ) (v : Int32) {K : Int32 → sm_S → Int32 → sm_S → Prop} (h : ∀ r : Int32, K r σ r μ) : mp_X10_out σ v (fun r σ' => mp_X12_out μ v (fun r' μ' => K r σ' r' μ')) := by
  obtain ⟨z, hz, h1, h2⟩ := hS
  obtain ⟨i, g, hi, hg, hs, hm, l1, l2, l3, l4, heq, htk, hga, hgb, hgc, hout⟩ := hP
  have z1 : σ.1 22 = 0 ↔ z = 0 := by rw [h1, ← nI_0, nI_eq (by omega) (by omega)]
  have z2 : μ.1 17 ≤ 0 ↔ z = 0 := by rw [h2, ← nI_0, nI_leI (by omega) (by omega)]; omega
  have z3 : ∀ {x : Nat}, x < 2 ^ 31 → (μ.1 20 ≤ nI x ↔ min g 1000 ≤ x) := fun hx => by rw [hgc, nI_leI (by omega) hx]
  -- the reference answers 0 wherever the class does
  have none : (z = 0 ∨ v < 0 ∨ ∀ x : Nat, x < 2 ^ 31 → v = nI x → min g 1000 ≤ x) → mp_X12_out μ v (fun r' μ' => K 0 σ r' μ') := by
    intro hn
    unfold mp_X12_out mp_X12_out_28 mp_X12_out_29
    refine ⟨fun _ => h 0, fun q => ⟨fun _ => h 0, fun q2 => ⟨fun _ => h 0, fun q3 => ?_⟩⟩⟩
    obtain ⟨x, hx, rfl⟩ := nI_of q2
    rcases hn with hn | hn | hn
    · exact absurd (z2.mpr hn) q
    · exact absurd hn q2
    · exact absurd ((z3 hx).mpr (hn x hx rfl)) q3
  unfold mp_X10_out mp_X10_out_38 mp_X10_out_39 mp_X10_out_57
  refine ⟨fun q => ⟨fun _ => none (Or.inl (z1.mp q)), fun y => absurd rfl y⟩, fun q => ⟨fun q2 => ⟨fun _ => none (Or.inr (Or.inl q2)), fun y => absurd rfl y⟩, fun q2 => ?_⟩⟩
  obtain ⟨x, hx, rfl⟩ := nI_of q2
  have c1 : (1000 : Int32) ≤ nI x ↔ 1000 ≤ x := by rw [show (1000 : Int32) = nI 1000 from rfl, nI_leI (by omega) hx]
  refine ⟨fun q3 => ⟨fun _ => none (Or.inr (Or.inr (fun y hy e => by have e2 := (nI_eq hx hy).mp e; have := c1.mp q3; omega))), fun y => absurd rfl y⟩, fun q3 => ?_⟩
  have c2 : (0 : Int32) ≤ lg_cmp (nI x).toInt64 (σ.2.1 0) ↔ g ≤ x := by rw [nI_l hx, hga, lc_ge (by omega) (by omega)]
  refine ⟨fun q4 => ⟨fun _ => none (Or.inr (Or.inr (fun y hy e => by have e2 := (nI_eq hx hy).mp e; have := c2.mp q4; omega))), fun y => absurd rfl y⟩, fun q4 => ⟨fun y => absurd y (by decide), fun _ => ?_⟩⟩
  have hx1 : ¬ 1000 ≤ x := fun y => q3 (c1.mpr y)
  have hx2 : ¬ g ≤ x := fun y => q4 (c2.mpr y)
  refine ⟨by rw [l2]; exact vp_in_nI (by omega) (by decide), ?_⟩
  unfold mp_X12_out mp_X12_out_28 mp_X12_out_29
  refine ⟨fun y => absurd (z1.mpr (z2.mp y)) q, fun _ => ⟨fun y => absurd y q2, fun _ => ⟨fun y => absurd ((z3 hx).mp y) (by omega), fun _ => ⟨by rw [l4]; exact vp_in_nI (by omega) (by decide), ?_⟩⟩⟩⟩
  rw [nI_clamp hx, hout x (by omega)]
  exact h _
