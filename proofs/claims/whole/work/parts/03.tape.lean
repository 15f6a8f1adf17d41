def bt (x : Int32) (i : Nat) : Bool := x.toBitVec.getLsbD i
theorem b_ext {x y : Int32} (h : ∀ i, i < 32 → bt x i = bt y i) : x = y := Int32.toBitVec_inj.mp (BitVec.eq_of_getLsbD_eq (fun i hi => h i hi))
theorem b_or (x y : Int32) (i : Nat) : bt (x ||| y) i = (bt x i || bt y i) := by unfold bt; rw [Int32.toBitVec_or, BitVec.getLsbD_or]
theorem b_and (x y : Int32) (i : Nat) : bt (x &&& y) i = (bt x i && bt y i) := by unfold bt; rw [Int32.toBitVec_and, BitVec.getLsbD_and]
theorem b_xor (x y : Int32) (i : Nat) : bt (x ^^^ y) i = (bt x i ^^ bt y i) := by unfold bt; rw [Int32.toBitVec_xor, BitVec.getLsbD_xor]
theorem b_big {x : Int32} {i : Nat} (h : 32 ≤ i) : bt x i = false := BitVec.getLsbD_of_ge _ _ h
theorem b_255 (i : Nat) : bt 255 i = decide (i < 8) := by
  rcases Nat.lt_or_ge i 32 with h | h
  · exact (by decide +kernel : ∀ i, i < 32 → bt 255 i = decide (i < 8)) i h
  · rw [b_big h, decide_eq_false (by omega)]
theorem b_65535 (i : Nat) : bt 65535 i = decide (i < 16) := by
  rcases Nat.lt_or_ge i 32 with h | h
  · exact (by decide +kernel : ∀ i, i < 32 → bt 65535 i = decide (i < 16)) i h
  · rw [b_big h, decide_eq_false (by omega)]
theorem b_m1 : ∀ i, i < 32 → bt (-1) i = true := by decide +kernel
theorem b_0 (i : Nat) : bt 0 i = false := BitVec.getLsbD_zero
theorem s_l : ∀ n, n < 32 → ((nI n &&& 31).toBitVec.smod 32).toNat = n := by decide +kernel
theorem s_u : ∀ n, n < 32 → (((nI n).toUInt32 &&& Int32.toUInt32 31).toBitVec % 32).toNat = n := by decide +kernel
theorem b_shl (n : Nat) (hn : n < 32) (x : Int32) {i : Nat} (hi : i < 32) : bt (x <<< (nI n &&& 31)) i = (decide (n ≤ i) && bt x (i - n)) := by
  unfold bt
  rw [Int32.toBitVec_shiftLeft]
  show (x.toBitVec <<< ((nI n &&& 31).toBitVec.smod 32).toNat).getLsbD i = _
  rw [s_l n hn, BitVec.getLsbD_shiftLeft]
  rcases Nat.lt_or_ge i n with h | h
  · simp [h, Nat.not_le.mpr h]
  · simp [hi, h, Nat.not_lt.mpr h]
theorem b_ushr (n : Nat) (hn : n < 32) (x : Int32) (i : Nat) : bt ((x.toUInt32 >>> ((nI n).toUInt32 &&& Int32.toUInt32 31)).toInt32) i = bt x (n + i) := by
  show (x.toUInt32 >>> ((nI n).toUInt32 &&& Int32.toUInt32 31)).toBitVec.getLsbD i = x.toUInt32.toBitVec.getLsbD (n + i)
  rw [UInt32.toBitVec_shiftRight]
  show (x.toUInt32.toBitVec >>> (((nI n).toUInt32 &&& Int32.toUInt32 31).toBitVec % 32).toNat).getLsbD i = _
  rw [s_u n hn, BitVec.getLsbD_ushiftRight]
theorem b_sshr (n : Nat) (hn : n < 32) (x : Int32) {i : Nat} (hi : i < 32) : bt (x >>> (nI n &&& 31)) i = if n + i < 32 then bt x (n + i) else bt x 31 := by
  unfold bt
  rw [Int32.toBitVec_shiftRight]
  show (x.toBitVec.sshiftRight ((nI n &&& 31).toBitVec.smod 32).toNat).getLsbD i = _
  rw [s_l n hn, BitVec.getLsbD_sshiftRight, BitVec.msb_eq_getLsbD_last]
  simp [hi]
theorem bp_b (x : Int32) : x.toInt8.toInt32 &&& 255 = x &&& 255 := by
  apply Int32.toBitVec_inj.mp
  rw [Int32.toBitVec_and, Int32.toBitVec_and, Int8.toBitVec_toInt32, Int32.toBitVec_toInt8]
  apply BitVec.eq_of_getLsbD_eq
  intro i hi
  rw [BitVec.getLsbD_and, BitVec.getLsbD_and]
  have hm : ∀ i < 32, 8 ≤ i → (255 : Int32).toBitVec.getLsbD i = false := by decide
  rcases Nat.lt_or_ge i 8 with z | z
  · rw [BitVec.getLsbD_signExtend, BitVec.getLsbD_signExtend, if_pos z, if_pos hi]
    simp only [z, hi, decide_true, Bool.true_and]
  · rw [hm i hi z]; simp
/-! ===== the tape, both sides, with the exact states behind it ===== -/
theorem sx_up {α : Type} (f : Nat → α) (k : Nat) : va_up f k (f k) = f := by
  funext j
  unfold va_up
  by_cases h : j = k
  · rw [if_pos h, h]
  · rw [if_neg h]
theorem sx_ii (σ : sm_S) (k : Nat) (a b : Int32) : sm_i (sm_i σ k a) k b = sm_i σ k b := by
  show (va_up (va_up σ.1 k a) k b, σ.2) = (va_up σ.1 k b, σ.2)
  rw [bx_uu]
theorem sx_rr (σ : sm_S) (c : Nat) (f g : Nat → Int32) : sm_r (sm_r σ c f) c g = sm_r σ c g := by
  show (σ.1, σ.2.1, σ.2.2.1, va_up (va_up σ.2.2.2.1 c f) c g, σ.2.2.2.2) = _
  rw [bx_uu]
theorem sx_ri (σ : sm_S) (k c : Nat) (a : Int32) (f : Nat → Int32) : sm_r (sm_i σ k a) c f = sm_i (sm_r σ c f) k a := rfl
theorem sx_t (σ : sm_S) (k c : Nat) (f g : Nat → Int32) (a b : Int32) : sm_i (sm_r (sm_i (sm_r σ c f) k a) c g) k b = sm_i (sm_r σ c g) k b := by
  rw [sx_ri, sx_ii, sx_rr]
/-- the shift of byte i, the highest first -/
def tp_s (i : Nat) : Int32 := if i = 0 then 24 else if i = 1 then 16 else if i = 2 then 8 else 0
def tp_b (v : Int32) (i : Nat) : Int32 := (v >>> (tp_s i &&& 31)).toInt8.toInt32
def tp_u (v : Int32) (i : Nat) : Int32 := (v.toUInt32 >>> ((tp_s i).toUInt32 &&& Int32.toUInt32 31)).toInt32 &&& 255
theorem tp_eq0 (v : Int32) (n : Nat) (hn : n ≤ 24) : (v >>> (nI n &&& 31)).toInt8.toInt32 &&& 255 = (v.toUInt32 >>> ((nI n).toUInt32 &&& Int32.toUInt32 31)).toInt32 &&& 255 := by
  rw [bp_b]
  apply b_ext
  intro j hj
  rw [b_and, b_and, b_255, b_sshr n (by omega) v hj, b_ushr n (by omega)]
  rcases Nat.lt_or_ge j 8 with z | z
  · rw [if_pos (by omega)]
  · simp [Nat.not_lt.mpr z]
theorem tp_eq (v : Int32) (i : Nat) (hi : i < 4) : tp_b v i &&& 255 = tp_u v i := by
  rcases (show i = 0 ∨ i = 1 ∨ i = 2 ∨ i = 3 by omega) with rfl | rfl | rfl | rfl
  · exact tp_eq0 v 24 (by omega)
  · exact tp_eq0 v 16 (by omega)
  · exact tp_eq0 v 8 (by omega)
  · exact tp_eq0 v 0 (by omega)
theorem tp_fit (v : Int32) (i : Nat) : fits .byte (.int (tp_b v i)) = true := pk_fb _
/-- a row with n places from t on written anew -/
def tp_row (f : Nat → Int32) (t n : Nat) (b : Nat → Int32) : Nat → Int32 := fun j => if t ≤ j ∧ j < t + n then b (j - t) else f j
theorem tp_row0 (f : Nat → Int32) (t : Nat) (b : Nat → Int32) : tp_row f t 0 b = f := by
  funext j
  show (if t ≤ j ∧ j < t + 0 then b (j - t) else f j) = f j
  rw [if_neg (by omega)]
theorem tp_row1 (f : Nat → Int32) (t n : Nat) (b : Nat → Int32) {x : Int32} (hx : x = b n) : upd (tp_row f t n b) (t + n) x = tp_row f t (n + 1) b := by
  funext j
  show (if j = t + n then x else (if t ≤ j ∧ j < t + n then b (j - t) else f j)) = (if t ≤ j ∧ j < t + (n + 1) then b (j - t) else f j)
  rcases Nat.lt_trichotomy j (t + n) with h | h | h
  · rw [if_neg (by omega)]
    by_cases h2 : t ≤ j
    · rw [if_pos ⟨h2, h⟩, if_pos ⟨h2, by omega⟩]
    · rw [if_neg (by omega), if_neg (by omega)]
  · rw [if_pos h, if_pos ⟨by omega, by omega⟩, hx, h, show t + n - t = n by omega]
  · rw [if_neg (by omega), if_neg (by omega), if_neg (by omega)]
theorem tw_1 {K : sm_S → Prop} {n t m : Nat} {σ : sm_S} {f b : Nat → Int32} {v x2 : Int32} (hx : ¬ x2 < 0) (hf : σ.2.2.2.1 36 = tp_row f t m b) (h : σ.1 35 = nI (t + m)) (hlt : t + m < σ.2.2.1 36) (hb : σ.2.2.1 36 < 2 ^ 31) (hv : (v >>> (x2 &&& 31)).toInt8.toInt32 = b m)
    (next : mp_X10_tapeNumber_3 K n (sm_i (sm_r σ 36 (tp_row f t (m + 1) b)) 35 (nI (t + (m + 1)))) v (x2 + (-8))) : mp_X10_tapeNumber_3 K (n + 1) σ v x2 := by
  unfold mp_X10_tapeNumber_3
  refine ⟨fun h9 => absurd h9 hx, fun _ => ⟨by rw [h]; exact vp_in_nI hlt hb, fun σ3 e3 σ4 e4 v5 e5 => ?_⟩⟩
  have h2 : σ3.1 35 = nI (t + m) := by rw [e3]; exact h
  rw [pk_vb, hf, h, nI_clamp (by omega), tp_row1 f t m b hv] at e3
  rw [e5, e4, h2, nI_1, e3]
  exact next
/-- tapeNumber: four bytes more -/
theorem w_tapeNumber {K : sm_S → Prop} {t m : Nat} {σ : sm_S} {f b : Nat → Int32} (v : Int32) (hf : σ.2.2.2.1 36 = tp_row f t m b) (h : σ.1 35 = nI (t + m)) (hlt : t + m + 4 ≤ σ.2.2.1 36) (hb : σ.2.2.1 36 < 2 ^ 31) (hv : ∀ i : Nat, i < 4 → b (m + i) = tp_b v i)
    (next : K (sm_i (sm_r σ 36 (tp_row f t (m + 4) b)) 35 (nI (t + (m + 4))))) : mp_X10_tapeNumber σ v K := by
  refine ⟨5, ?_⟩
  refine tw_1 (f := f) (t := t) (m := m) (b := b) (by decide) hf h (by omega) hb (hv 0 (by omega)).symm ?_
  rw [show (24 : Int32) + (-8) = 16 by decide]
  refine tw_1 (f := f) (t := t) (m := m + 1) (b := b) (by decide) rfl rfl (show t + (m + 1) < σ.2.2.1 36 by omega) hb (hv 1 (by omega)).symm ?_
  rw [sx_t, show (16 : Int32) + (-8) = 8 by decide]
  refine tw_1 (f := f) (t := t) (m := m + 2) (b := b) (by decide) rfl rfl (show t + (m + 2) < σ.2.2.1 36 by omega) hb (hv 2 (by omega)).symm ?_
  rw [sx_t, show (8 : Int32) + (-8) = 0 by decide]
  refine tw_1 (f := f) (t := t) (m := m + 3) (b := b) (by decide) rfl rfl (show t + (m + 3) < σ.2.2.1 36 by omega) hb (hv 3 (by omega)).symm ?_
  rw [sx_t, show (0 : Int32) + (-8) = -8 by decide]
  unfold mp_X10_tapeNumber_3
  exact ⟨fun _ => next, fun h9 => absurd (by decide) h9⟩
/-- byte k of five numbers -/
def tp_arg (a b c d e : Int32) (k : Nat) : Int32 := if k < 4 then a else if k < 8 then b else if k < 12 then c else if k < 16 then d else e
def tp_B (a b c d e : Int32) : Nat → Int32 := fun k => tp_b (tp_arg a b c d e k) (k % 4)
def tp_U (a b c d e : Int32) : Nat → Int32 := fun k => tp_u (tp_arg a b c d e k) (k % 4)
theorem tp_BU (a b c d e : Int32) (k : Nat) : tp_B a b c d e k &&& 255 = tp_U a b c d e k := tp_eq _ _ (Nat.mod_lt _ (by decide))
theorem w_feed57 {K : Int32 → sm_S → Prop} {mc ms t : Nat} {σ : sm_S} (a b c d e : Int32) (h : σ.1 35 = nI t) (hlt : t + 20 ≤ σ.2.2.1 36) (hb : σ.2.2.1 36 < 2 ^ 31)
    (next : K (nI (t + 20)) (sm_i (sm_r σ 36 (tp_row (σ.2.2.2.1 36) t 20 (tp_B a b c d e))) 35 (nI (t + 20)))) : mp_X10_feed_57 mc ms K σ a b c d e := by
  have q : ∀ (x m : Nat), x < 5 → m = 4 * x → ∀ i : Nat, i < 4 → (m + i) % 4 = i := by intro x m _ hm i hi; omega
  unfold mp_X10_feed_57
  refine w_tapeNumber (f := σ.2.2.2.1 36) (t := t) (m := 0) (b := tp_B a b c d e) a (tp_row0 _ _ _).symm h (by omega) hb (fun i hi => by unfold tp_B tp_arg; rw [if_pos (by omega), show (0 + i) % 4 = i by omega]) ?_
  refine w_tapeNumber (f := σ.2.2.2.1 36) (t := t) (m := 4) (b := tp_B a b c d e) b rfl rfl (show t + 4 + 4 ≤ σ.2.2.1 36 by omega) hb (fun i hi => by unfold tp_B tp_arg; rw [if_neg (by omega), if_pos (by omega), show (4 + i) % 4 = i by omega]) ?_
  rw [sx_t]
  refine w_tapeNumber (f := σ.2.2.2.1 36) (t := t) (m := 8) (b := tp_B a b c d e) c rfl rfl (show t + 8 + 4 ≤ σ.2.2.1 36 by omega) hb (fun i hi => by unfold tp_B tp_arg; rw [if_neg (by omega), if_neg (by omega), if_pos (by omega), show (8 + i) % 4 = i by omega]) ?_
  rw [sx_t]
  refine w_tapeNumber (f := σ.2.2.2.1 36) (t := t) (m := 12) (b := tp_B a b c d e) d rfl rfl (show t + 12 + 4 ≤ σ.2.2.1 36 by omega) hb (fun i hi => by unfold tp_B tp_arg; rw [if_neg (by omega), if_neg (by omega), if_neg (by omega), if_pos (by omega), show (12 + i) % 4 = i by omega]) ?_
  rw [sx_t]
  refine w_tapeNumber (f := σ.2.2.2.1 36) (t := t) (m := 16) (b := tp_B a b c d e) e rfl rfl (show t + 16 + 4 ≤ σ.2.2.1 36 by omega) hb (fun i hi => by unfold tp_B tp_arg; rw [if_neg (by omega), if_neg (by omega), if_neg (by omega), if_neg (by omega), show (16 + i) % 4 = i by omega]) ?_
  rw [sx_t]
  exact next
theorem tp_sh : ∀ k, k < 20 → (24 : Int32) - 8 * (nI k &&& 3) = tp_s (k % 4) := by decide +kernel
theorem w_mfeed_loop {K : Int32 → sm_S → Prop} {a b c d e : Int32} {t : Nat} {g : Nat → Int32} (ht : t + 20 ≤ 8000) : ∀ (m k : Nat) (μ : sm_S), k + m = 20 → μ.1 0 = nI (t + k) → μ.2.2.1 2 = 8000 → μ.2.2.2.1 2 = tp_row g t k (tp_U a b c d e) → K (nI (t + 20)) (sm_i (sm_r μ 2 (tp_row g t 20 (tp_U a b c d e))) 0 (nI (t + 20))) → mp_X11_feed_19 K (m + 1) μ a b c d e (nI k) := by
  intro m
  induction m with
  | zero =>
    intro k μ hk h0 hl hg hK
    have hk : k = 20 := by omega
    subst hk
    unfold mp_X11_feed_19
    refine ⟨fun _ => ?_, fun h => absurd (by decide) h⟩
    have e : sm_i (sm_r μ 2 (tp_row g t 20 (tp_U a b c d e))) 0 (nI (t + 20)) = μ := by
      rw [← hg, ← h0]
      show (va_up μ.1 0 (μ.1 0), μ.2.1, μ.2.2.1, va_up μ.2.2.2.1 2 (μ.2.2.2.1 2), μ.2.2.2.2) = μ
      rw [sx_up, sx_up]
    rw [e] at hK
    rw [h0]
    exact hK
  | succ m ih =>
    intro k μ hk h0 hl hg hK
    have hn : ∀ z : Nat, z < 2 ^ 31 → (nI z ≤ nI k ↔ z ≤ k) := fun z hz => nI_leI hz (by omega)
    have key : ∀ y0 : Int32, y0 = tp_arg a b c d e k → mp_X11_feed_72 (mp_X11_feed_19 K (m + 1)) K μ a b c d e (nI k) y0 := by
      intro y0 hy
      unfold mp_X11_feed_72
      refine ⟨by rw [h0, hl]; exact vp_in_nI (by omega) (by decide), fun μ2 e2 μ3 e3 v4 e4 => ?_⟩
      have h2 : μ2.1 0 = nI (t + k) := by rw [e2]; exact h0
      rw [hg, h0, nI_clamp (by omega), tp_sh k (by omega), tp_row1 g t k (tp_U a b c d e) (by rw [hy]; rfl)] at e2
      rw [h2, nI_1] at e3
      rw [e4, nI_1]
      refine ih (k + 1) μ3 (by omega) (by rw [e3]; rfl) (by rw [e3, e2]; exact hl) (by rw [e3, e2]; rfl) ?_
      rw [e3, e2, sx_t]
      exact hK
    unfold mp_X11_feed_19
    refine ⟨fun h => absurd ((hn 20 (by decide)).mp h) (by omega), fun _ => ⟨fun h4 => ⟨fun h8 => ⟨fun h12 => ⟨fun h16 => key _ ?_, fun h16 => key _ ?_⟩, fun h12 => key _ ?_⟩, fun h8 => key _ ?_⟩, fun h4 => key _ ?_⟩⟩
    · have q := (hn 16 (by decide)).mp h16
      unfold tp_arg
      rw [if_neg (by omega), if_neg (by omega), if_neg (by omega), if_neg (by omega)]
    · have q := (hn 12 (by decide)).mp h12
      have q2 : ¬ 16 ≤ k := fun z => h16 ((hn 16 (by decide)).mpr z)
      unfold tp_arg
      rw [if_neg (by omega), if_neg (by omega), if_neg (by omega), if_pos (by omega)]
    · have q := (hn 8 (by decide)).mp h8
      have q2 : ¬ 12 ≤ k := fun z => h12 ((hn 12 (by decide)).mpr z)
      unfold tp_arg
      rw [if_neg (by omega), if_neg (by omega), if_pos (by omega)]
    · have q := (hn 4 (by decide)).mp h4
      have q2 : ¬ 8 ≤ k := fun z => h8 ((hn 8 (by decide)).mpr z)
      unfold tp_arg
      rw [if_neg (by omega), if_pos (by omega)]
    · have q2 : ¬ 4 ≤ k := fun z => h4 ((hn 4 (by decide)).mpr z)
      unfold tp_arg
      rw [if_pos (by omega)]
/-- the reference's feed -/
theorem w_mfeed {K : Int32 → sm_S → Prop} {t : Nat} {μ : sm_S} (a b c d e : Int32) (h : μ.1 0 = nI t) (ht : t ≤ 8000) (hl : μ.2.2.1 2 = 8000) (hfull : 8000 < t + 20 → K (-2) μ)
    (next : t + 20 ≤ 8000 → K (nI (t + 20)) (sm_i (sm_r μ 2 (tp_row (μ.2.2.2.1 2) t 20 (tp_U a b c d e))) 0 (nI (t + 20)))) : mp_X12_feed μ a b c d e K := by
  unfold mp_X12_feed mp_X11_feed
  have hc : μ.1 0 + 20 ≤ 8000 ↔ t + 20 ≤ 8000 := by
    rw [h, show (20 : Int32) = nI 20 from rfl, show (8000 : Int32) = nI 8000 from rfl, nI_add, nI_leI (by omega) (by omega)]
  refine ⟨fun q => ⟨21, ?_⟩, fun q => hfull (Nat.lt_of_not_le (fun z => q (hc.mpr z)))⟩
  exact w_mfeed_loop (hc.mp q) 20 0 μ (by omega) h hl (tp_row0 _ _ _).symm (next (hc.mp q))
/-- the class's feed: with room for the bytes, or with a longer row that holds the old ones -/
theorem w_feed {K : Int32 → sm_S → Prop} {mc ms t : Nat} {σ : sm_S} (a b c d e : Int32) (h : σ.1 35 = nI t) (ht : t ≤ 8000) (hl : t ≤ σ.2.2.1 36) (hm : σ.2.2.1 36 ≤ 16000) (hfit : ∀ j : Nat, j < σ.2.2.1 36 → fits .byte (.int (σ.2.2.2.1 36 j)) = true) (hmc : 1 ≤ mc) (hms : σ.2.2.1 36 < t + 20 → t + 20 ≤ 8000 → max (t + 20) (2 * σ.2.2.1 36) ≤ ms) (hfull : 8000 < t + 20 → K (-2) σ)
    (next : ∀ (n : Nat) (f : Nat → Int32), t + 20 ≤ 8000 → t + 20 ≤ n → (n = σ.2.2.1 36 ∧ f = σ.2.2.2.1 36 ∨ σ.2.2.1 36 < t + 20 ∧ n = max (t + 20) (2 * σ.2.2.1 36) ∧ f = sm_cp (σ.2.2.1 36) (σ.2.2.2.1 36)) → K (nI (t + 20)) (sm_i (sm_x σ 36 n (tp_row f t 20 (tp_B a b c d e))) 35 (nI (t + 20)))) : mp_X10_feed mc ms σ a b c d e K := by
  unfold mp_X10_feed
  have h20 : σ.1 35 + 20 = nI (t + 20) := by rw [h, show (20 : Int32) = nI 20 from rfl, nI_add]
  rw [h20]
  have hc : nI (t + 20) ≤ 8000 ↔ t + 20 ≤ 8000 := by rw [show (8000 : Int32) = nI 8000 from rfl, nI_leI (by omega) (by omega)]
  refine ⟨fun q => ⟨fun q2 => ?_, fun q2 => ?_⟩, fun q => hfull (Nat.lt_of_not_le (fun z => q (hc.mpr z)))⟩
  · have q3 : t + 20 ≤ σ.2.2.1 36 := (nI_leI (by omega) (by omega)).mp q2
    refine w_feed57 a b c d e h q3 (by omega) ?_
    have := next (σ.2.2.1 36) (σ.2.2.2.1 36) (hc.mp q) q3 (Or.inl ⟨rfl, rfl⟩)
    have e : sm_x σ 36 (σ.2.2.1 36) (tp_row (σ.2.2.2.1 36) t 20 (tp_B a b c d e)) = sm_r σ 36 (tp_row (σ.2.2.2.1 36) t 20 (tp_B a b c d e)) := by
      show (σ.1, σ.2.1, va_up σ.2.2.1 36 (σ.2.2.1 36), va_up σ.2.2.2.1 36 _, σ.2.2.2.2) = _
      rw [sx_up]
    rw [e] at this
    exact this
  · have q3 : σ.2.2.1 36 < t + 20 := Nat.lt_of_not_le (fun z => q2 ((nI_leI (by omega) (by omega)).mpr z))
    have hR := hms q3 (hc.mp q)
    unfold mp_X10_roomFor
    have eR : (if nI (t + 20) < 2 * nI (σ.2.2.1 36) then 2 * nI (σ.2.2.1 36) else nI (t + 20)) = nI (max (t + 20) (2 * σ.2.2.1 36)) := by
      rw [show (2 : Int32) = nI 2 from rfl, pk_mul]
      by_cases z : t + 20 < 2 * σ.2.2.1 36
      · rw [if_pos ((nI_ltI (by omega) (by omega)).mpr z), Nat.max_eq_right (by omega)]
      · rw [if_neg (fun y => z ((nI_ltI (by omega) (by omega)).mp y)), Nat.max_eq_left (by omega)]
    rw [eR]
    clear eR
    generalize hN : max (t + 20) (2 * σ.2.2.1 36) = N at hR
    have hN1 : t + 20 ≤ N := by omega
    have hN2 : N ≤ 32000 := by omega
    have cN : (nI N).toNatClampNeg = N := nI_clamp (by omega)
    have c0 : (nI (σ.2.2.1 36)).toNatClampNeg = σ.2.2.1 36 := nI_clamp (by omega)
    have z0 : (0 : Int32).toNatClampNeg = 0 := by decide
    refine ⟨⟨fun y => ?_, fun y => ?_, ?_, ?_, ?_, ?_, ?_, ?_⟩, ?_, ?_, fun σ13 e13 => ?_⟩
    · have := (nI_eq (by omega) (by omega)).mp y
      omega
    · have := (nI_ltI (by omega) (by omega)).mp y
      omega
    · exact nI_pos (by omega)
    · exact nI_pos (by omega)
    · rw [cN]; omega
    · rw [c0, z0]; omega
    · rw [c0, z0, cN]; omega
    · intro i hi
      rw [c0] at hi
      rw [z0, Nat.zero_add]
      exact hfit i hi
    · omega
    · rw [cN]; omega
    · rw [cN] at e13
      refine w_feed57 a b c d e (by rw [e13]; exact h) (by rw [e13]; exact (show t + 20 ≤ va_up σ.2.2.1 36 N 36 by rw [va_up_self]; exact hN1)) (by rw [e13]; exact (show va_up σ.2.2.1 36 N 36 < 2 ^ 31 by rw [va_up_self]; omega)) ?_
      have := next N (sm_cp (σ.2.2.1 36) (σ.2.2.2.1 36)) (hc.mp q) hN1 (Or.inr ⟨q3, hN.symm, rfl⟩)
      have e2 : sm_r σ13 36 (tp_row (σ13.2.2.2.1 36) t 20 (tp_B a b c d e)) = sm_x σ 36 N (tp_row (sm_cp (σ.2.2.1 36) (σ.2.2.2.1 36)) t 20 (tp_B a b c d e)) := by
        rw [e13]
        show (σ.1, σ.2.1, va_up σ.2.2.1 36 N, va_up (va_up σ.2.2.2.1 36 (sm_cp (σ.2.2.1 36) (σ.2.2.2.1 36))) 36 (tp_row (va_up σ.2.2.2.1 36 (sm_cp (σ.2.2.1 36) (σ.2.2.2.1 36)) 36) t 20 (tp_B a b c d e)), σ.2.2.2.2) = _
        rw [bx_uu, va_up_self]
      rw [e2]
      exact this
