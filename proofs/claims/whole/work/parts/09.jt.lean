/-! ===== both sides side by side: rules for walking the predicates ===== -/
theorem l_0 : (0 : Int32) = nI 0 := rfl
theorem l_2 : (2 : Int32) = nI 2 := rfl
theorem l_3 : (3 : Int32) = nI 3 := rfl
theorem l_4 : (4 : Int32) = nI 4 := rfl
theorem l_5 : (5 : Int32) = nI 5 := rfl
theorem l_6 : (6 : Int32) = nI 6 := rfl
theorem l_7 : (7 : Int32) = nI 7 := rfl
theorem l_8 : (8 : Int32) = nI 8 := rfl
theorem l_9 : (9 : Int32) = nI 9 := rfl
theorem l_10 : (10 : Int32) = nI 10 := rfl
theorem l_11 : (11 : Int32) = nI 11 := rfl
theorem l_12 : (12 : Int32) = nI 12 := rfl
theorem l_13 : (13 : Int32) = nI 13 := rfl
theorem l_14 : (14 : Int32) = nI 14 := rfl
theorem l_15 : (15 : Int32) = nI 15 := rfl
theorem l_16 : (16 : Int32) = nI 16 := rfl
theorem l_17 : (17 : Int32) = nI 17 := rfl
theorem l_18 : (18 : Int32) = nI 18 := rfl
theorem l_19 : (19 : Int32) = nI 19 := rfl
theorem l_20 : (20 : Int32) = nI 20 := rfl
theorem l_21 : (21 : Int32) = nI 21 := rfl
theorem l_22 : (22 : Int32) = nI 22 := rfl
theorem l_23 : (23 : Int32) = nI 23 := rfl
theorem l_24 : (24 : Int32) = nI 24 := rfl
theorem l_25 : (25 : Int32) = nI 25 := rfl
theorem l_26 : (26 : Int32) = nI 26 := rfl
theorem l_27 : (27 : Int32) = nI 27 := rfl
theorem l_28 : (28 : Int32) = nI 28 := rfl
theorem l_29 : (29 : Int32) = nI 29 := rfl
theorem l_30 : (30 : Int32) = nI 30 := rfl
theorem l_31 : (31 : Int32) = nI 31 := rfl
theorem l_32 : (32 : Int32) = nI 32 := rfl
theorem l_33 : (33 : Int32) = nI 33 := rfl
theorem l_34 : (34 : Int32) = nI 34 := rfl
theorem l_35 : (35 : Int32) = nI 35 := rfl
theorem l_36 : (36 : Int32) = nI 36 := rfl
theorem l_37 : (37 : Int32) = nI 37 := rfl
theorem l_38 : (38 : Int32) = nI 38 := rfl
theorem l_39 : (39 : Int32) = nI 39 := rfl
theorem l_40 : (40 : Int32) = nI 40 := rfl
theorem l_41 : (41 : Int32) = nI 41 := rfl
theorem l_42 : (42 : Int32) = nI 42 := rfl
theorem l_43 : (43 : Int32) = nI 43 := rfl
theorem l_44 : (44 : Int32) = nI 44 := rfl
theorem l_45 : (45 : Int32) = nI 45 := rfl
theorem l_46 : (46 : Int32) = nI 46 := rfl
theorem l_47 : (47 : Int32) = nI 47 := rfl
theorem l_48 : (48 : Int32) = nI 48 := rfl
theorem l_49 : (49 : Int32) = nI 49 := rfl
theorem l_50 : (50 : Int32) = nI 50 := rfl
theorem l_51 : (51 : Int32) = nI 51 := rfl
theorem l_52 : (52 : Int32) = nI 52 := rfl
theorem l_53 : (53 : Int32) = nI 53 := rfl
theorem l_54 : (54 : Int32) = nI 54 := rfl
theorem l_55 : (55 : Int32) = nI 55 := rfl
theorem l_56 : (56 : Int32) = nI 56 := rfl
theorem l_57 : (57 : Int32) = nI 57 := rfl
theorem l_58 : (58 : Int32) = nI 58 := rfl
theorem l_59 : (59 : Int32) = nI 59 := rfl
theorem l_60 : (60 : Int32) = nI 60 := rfl
theorem l_61 : (61 : Int32) = nI 61 := rfl
theorem l_62 : (62 : Int32) = nI 62 := rfl
theorem l_63 : (63 : Int32) = nI 63 := rfl
theorem l_64 : (64 : Int32) = nI 64 := rfl
theorem l_97 : (97 : Int32) = nI 97 := rfl
theorem l_98 : (98 : Int32) = nI 98 := rfl
theorem l_99 : (99 : Int32) = nI 99 := rfl
theorem l_200 : (200 : Int32) = nI 200 := rfl
theorem l_225 : (225 : Int32) = nI 225 := rfl
theorem l_232 : (232 : Int32) = nI 232 := rfl
theorem l_255 : (255 : Int32) = nI 255 := rfl
theorem l_256 : (256 : Int32) = nI 256 := rfl
theorem l_700 : (700 : Int32) = nI 700 := rfl
theorem l_1000 : (1000 : Int32) = nI 1000 := rfl
theorem l_1024 : (1024 : Int32) = nI 1024 := rfl
theorem l_3375 : (3375 : Int32) = nI 3375 := rfl
theorem l_4095 : (4095 : Int32) = nI 4095 := rfl
theorem l_8000 : (8000 : Int32) = nI 8000 := rfl
theorem l_20000 : (20000 : Int32) = nI 20000 := rfl
theorem l_60000 : (60000 : Int32) = nI 60000 := rfl
theorem nI_le1 {a : Nat} (h : a < 2 ^ 31) : (1 : Int32) ≤ nI a ↔ 1 ≤ a := by rw [show (1 : Int32) = nI 1 from rfl, nI_leI (by omega) h]
theorem nI_le1' {a : Nat} (h : a < 2 ^ 31) : nI a ≤ (1 : Int32) ↔ a ≤ 1 := by rw [show (1 : Int32) = nI 1 from rfl, nI_leI h (by omega)]
theorem nI_lt1 {a : Nat} (h : a < 2 ^ 31) : (1 : Int32) < nI a ↔ 1 < a := by rw [show (1 : Int32) = nI 1 from rfl, nI_ltI (by omega) h]
theorem nI_lt1' {a : Nat} (h : a < 2 ^ 31) : nI a < (1 : Int32) ↔ a < 1 := by rw [show (1 : Int32) = nI 1 from rfl, nI_ltI h (by omega)]
theorem nI_eq1 {a : Nat} (h : a < 2 ^ 31) : nI a = (1 : Int32) ↔ a = 1 := by rw [show (1 : Int32) = nI 1 from rfl, nI_eq h (by omega)]
theorem nI_eqm {a : Nat} (h : a < 2 ^ 31) : nI a = (-1 : Int32) ↔ False := ⟨fun q => nI_m1 h q, fun q => q.elim⟩
theorem m1_eq0 : (-1 : Int32) = nI 0 ↔ False := ⟨fun q => absurd q (by decide), fun q => q.elim⟩
theorem m1_le {a : Nat} (h : a < 2 ^ 31) : nI a ≤ (-1 : Int32) ↔ False := by
  constructor
  · intro q
    have h1 := Int32.le_iff_toInt_le.mp q
    rw [nI_toInt h] at h1
    have h2 : (-1 : Int32).toInt = -1 := by decide
    omega
  · intro q
    exact q.elim
theorem m1_lt {a : Nat} (h : a < 2 ^ 31) : nI a < (-1 : Int32) ↔ False := by
  constructor
  · intro q
    have h1 := Int32.lt_iff_toInt_lt.mp q
    rw [nI_toInt h] at h1
    have h2 : (-1 : Int32).toInt = -1 := by decide
    omega
  · intro q
    exact q.elim
theorem m1_eqN {a : Nat} (h : a < 2 ^ 31) : (-1 : Int32) = nI a ↔ False := ⟨fun q => nI_m1 h q.symm, fun q => q.elim⟩
theorem m1_leN {a : Nat} (h : a < 2 ^ 31) : (-1 : Int32) ≤ nI a ↔ True := by
  have h2 : (-1 : Int32).toInt = -1 := by decide
  rw [Int32.le_iff_toInt_le, nI_toInt h]
  exact ⟨fun _ => trivial, fun _ => by omega⟩
theorem m1_ltN {a : Nat} (h : a < 2 ^ 31) : (-1 : Int32) < nI a ↔ True := by
  have h2 : (-1 : Int32).toInt = -1 := by decide
  rw [Int32.lt_iff_toInt_lt, nI_toInt h]
  exact ⟨fun _ => trivial, fun _ => by omega⟩
theorem nI_sub {a b : Nat} (h : b ≤ a) : nI a - nI b = nI (a - b) := by
  have e : nI a = nI (a - b) + nI b := by rw [nI_add]; exact congrArg nI (by omega)
  rw [e, Int32.add_sub_cancel]
theorem nI_sub1 {a : Nat} (h : 1 ≤ a) : nI a - 1 = nI (a - 1) := nI_sub h
theorem nI_0m1 : nI 0 - 1 = -1 := by decide
theorem nI_1a (a : Nat) : 1 + nI a = nI (1 + a) := nI_add 1 a
theorem nI_am {a : Nat} (h : 1 ≤ a) : nI a + (-1) = nI (a - 1) := by
  have e : nI a = nI ((a - 1) + 1) := congrArg nI (by omega)
  rw [e, pk_m1]
theorem vp_of {i : Int32} {a n m : Nat} (hi : i = nI a) (hn : n = m) (h : a < m) (hm : m < 2 ^ 31) : vp_in i n := by rw [hi, hn]; exact vp_in_nI h hm
abbrev jk : Type := Int32 → sm_S → Prop
/-- both sides go on alike: each ends in one way, and R holds of the two ends -/
def jt (P Q : jk → Prop) (R : Int32 → sm_S → Int32 → sm_S → Prop) : Prop := ∃ r σ r' μ, (∀ K : jk, K r σ → P K) ∧ (∀ K : jk, K r' μ → Q K) ∧ R r σ r' μ
theorem jt_e {R : Int32 → sm_S → Int32 → sm_S → Prop} {r r' : Int32} {σ μ : sm_S} (h : R r σ r' μ) : jt (fun K => K r σ) (fun K => K r' μ) R := ⟨r, σ, r', μ, fun _ h => h, fun _ h => h, h⟩
theorem jt_w {P Q : jk → Prop} {R R2 : Int32 → sm_S → Int32 → sm_S → Prop} (h : jt P Q R) (h2 : ∀ r σ r' μ, R r σ r' μ → R2 r σ r' μ) : jt P Q R2 := by
  obtain ⟨r, σ, r', μ, a, b, c⟩ := h
  exact ⟨r, σ, r', μ, a, b, h2 _ _ _ _ c⟩
theorem jt_b {P Q : jk → Prop} {P2 Q2 : Int32 → sm_S → jk → Prop} {R R2 : Int32 → sm_S → Int32 → sm_S → Prop} (h : jt P Q R) (h2 : ∀ r σ r' μ, R r σ r' μ → jt (P2 r σ) (Q2 r' μ) R2) : jt (fun K => P (fun r σ => P2 r σ K)) (fun K => Q (fun r μ => Q2 r μ K)) R2 := by
  obtain ⟨r, σ, r', μ, a, b, c⟩ := h
  obtain ⟨s, τ, s', ν, a2, b2, c2⟩ := h2 _ _ _ _ c
  exact ⟨s, τ, s', ν, fun K hK => a _ (a2 K hK), fun K hK => b _ (b2 K hK), c2⟩
theorem jt_bv {P : (sm_S → Prop) → Prop} {Q : jk → Prop} {P2 : sm_S → jk → Prop} {Q2 : Int32 → sm_S → jk → Prop} {R R2 : Int32 → sm_S → Int32 → sm_S → Prop} (h : jt (fun K => P (fun σ => K 0 σ)) Q R) (h2 : ∀ r σ r' μ, R r σ r' μ → jt (P2 σ) (Q2 r' μ) R2) : jt (fun K => P (fun σ => P2 σ K)) (fun K => Q (fun r μ => Q2 r μ K)) R2 := by
  obtain ⟨r, σ, r', μ, a, b, c⟩ := h
  obtain ⟨s, τ, s', ν, a2, b2, c2⟩ := h2 _ _ _ _ c
  exact ⟨s, τ, s', ν, fun K hK => a (fun _ σ => P2 σ K) (a2 K hK), fun K hK => b _ (b2 K hK), c2⟩
theorem jt_x {P P2 Q : jk → Prop} {R : Int32 → sm_S → Int32 → sm_S → Prop} (h2 : ∀ K, P2 K → P K) (h : jt P2 Q R) : jt P Q R := by
  obtain ⟨r, σ, r', μ, a, b, c⟩ := h
  exact ⟨r, σ, r', μ, fun K hK => h2 K (a K hK), b, c⟩
theorem jt_m {P Q Q2 : jk → Prop} {R : Int32 → sm_S → Int32 → sm_S → Prop} (h2 : ∀ K, Q2 K → Q K) (h : jt P Q2 R) : jt P Q R := by
  obtain ⟨r, σ, r', μ, a, b, c⟩ := h
  exact ⟨r, σ, r', μ, a, fun K hK => h2 K (b K hK), c⟩
theorem jt_xl {Q : jk → Prop} {R : Int32 → sm_S → Int32 → sm_S → Prop} {A : sm_S → jk → Prop} {e : sm_S}  (h : jt (A e) Q R) : jt (fun K => ∀ s : sm_S, s = e → A s K) Q R := jt_x (fun K q s hs => by subst hs; exact q) h
theorem jt_xv {Q : jk → Prop} {R : Int32 → sm_S → Int32 → sm_S → Prop} {A : Int32 → jk → Prop} {e : Int32}  (h : jt (A e) Q R) : jt (fun K => ∀ s : Int32, s = e → A s K) Q R := jt_x (fun K q s hs => by subst hs; exact q) h
theorem jt_xi {Q : jk → Prop} {R : Int32 → sm_S → Int32 → sm_S → Prop} {A : jk → Prop} {i : Int32} {n : Nat} (hi : vp_in i n) (h : jt A Q R) : jt (fun K => vp_in i n ∧ A K) Q R := jt_x (fun K q => ⟨hi, q⟩) h
theorem jt_xz {Q : jk → Prop} {R : Int32 → sm_S → Int32 → sm_S → Prop} {A : jk → Prop} {i : Int32} (hi : sm_z i) (h : jt A Q R) : jt (fun K => sm_z i ∧ A K) Q R := jt_x (fun K q => ⟨hi, q⟩) h
theorem jt_xt {Q : jk → Prop} {R : Int32 → sm_S → Int32 → sm_S → Prop} {A B : jk → Prop} {c : Prop} (hc : c) (h : jt A Q R) : jt (fun K => (c → A K) ∧ (¬ c → B K)) Q R := jt_x (fun K q => ⟨fun _ => q, fun z => absurd hc z⟩) h
theorem jt_xf {Q : jk → Prop} {R : Int32 → sm_S → Int32 → sm_S → Prop} {A B : jk → Prop} {c : Prop} (hc : ¬ c) (h : jt B Q R) : jt (fun K => (c → A K) ∧ (¬ c → B K)) Q R := jt_x (fun K q => ⟨fun z => absurd z hc, fun _ => q⟩) h
theorem jt_xtt {Q : jk → Prop} {R : Int32 → sm_S → Int32 → sm_S → Prop} {A B : jk → Prop} {c : Prop} (hc : c) (h : jt B Q R) : jt (fun K => (¬ c → A K) ∧ (c → B K)) Q R := jt_x (fun K q => ⟨fun z => absurd hc z, fun _ => q⟩) h
theorem jt_xff {Q : jk → Prop} {R : Int32 → sm_S → Int32 → sm_S → Prop} {A B : jk → Prop} {c : Prop} (hc : ¬ c) (h : jt A Q R) : jt (fun K => (¬ c → A K) ∧ (c → B K)) Q R := jt_x (fun K q => ⟨fun _ => q, fun z => absurd z hc⟩) h
theorem jt_xn {Q : jk → Prop} {R : Int32 → sm_S → Int32 → sm_S → Prop} {A : Nat → jk → Prop} (n : Nat) (h : jt (A n) Q R) : jt (fun K => ∃ n : Nat, A n K) Q R := jt_x (fun K q => ⟨n, q⟩) h
theorem jt_ml {P : jk → Prop} {R : Int32 → sm_S → Int32 → sm_S → Prop} {A : sm_S → jk → Prop} {e : sm_S}  (h : jt P (A e) R) : jt P (fun K => ∀ s : sm_S, s = e → A s K) R := jt_m (fun K q s hs => by subst hs; exact q) h
theorem jt_mv {P : jk → Prop} {R : Int32 → sm_S → Int32 → sm_S → Prop} {A : Int32 → jk → Prop} {e : Int32}  (h : jt P (A e) R) : jt P (fun K => ∀ s : Int32, s = e → A s K) R := jt_m (fun K q s hs => by subst hs; exact q) h
theorem jt_mi {P : jk → Prop} {R : Int32 → sm_S → Int32 → sm_S → Prop} {A : jk → Prop} {i : Int32} {n : Nat} (hi : vp_in i n) (h : jt P A R) : jt P (fun K => vp_in i n ∧ A K) R := jt_m (fun K q => ⟨hi, q⟩) h
theorem jt_mz {P : jk → Prop} {R : Int32 → sm_S → Int32 → sm_S → Prop} {A : jk → Prop} {i : Int32} (hi : sm_z i) (h : jt P A R) : jt P (fun K => sm_z i ∧ A K) R := jt_m (fun K q => ⟨hi, q⟩) h
theorem jt_mt {P : jk → Prop} {R : Int32 → sm_S → Int32 → sm_S → Prop} {A B : jk → Prop} {c : Prop} (hc : c) (h : jt P A R) : jt P (fun K => (c → A K) ∧ (¬ c → B K)) R := jt_m (fun K q => ⟨fun _ => q, fun z => absurd hc z⟩) h
theorem jt_mf {P : jk → Prop} {R : Int32 → sm_S → Int32 → sm_S → Prop} {A B : jk → Prop} {c : Prop} (hc : ¬ c) (h : jt P B R) : jt P (fun K => (c → A K) ∧ (¬ c → B K)) R := jt_m (fun K q => ⟨fun z => absurd z hc, fun _ => q⟩) h
theorem jt_mtt {P : jk → Prop} {R : Int32 → sm_S → Int32 → sm_S → Prop} {A B : jk → Prop} {c : Prop} (hc : c) (h : jt P B R) : jt P (fun K => (¬ c → A K) ∧ (c → B K)) R := jt_m (fun K q => ⟨fun z => absurd hc z, fun _ => q⟩) h
theorem jt_mff {P : jk → Prop} {R : Int32 → sm_S → Int32 → sm_S → Prop} {A B : jk → Prop} {c : Prop} (hc : ¬ c) (h : jt P A R) : jt P (fun K => (¬ c → A K) ∧ (c → B K)) R := jt_m (fun K q => ⟨fun _ => q, fun z => absurd z hc⟩) h
theorem jt_mn {P : jk → Prop} {R : Int32 → sm_S → Int32 → sm_S → Prop} {A : Nat → jk → Prop} (n : Nat) (h : jt P (A n) R) : jt P (fun K => ∃ n : Nat, A n K) R := jt_m (fun K q => ⟨n, q⟩) h
theorem jt_xb {P : jk → Prop} {P2 : Int32 → sm_S → jk → Prop} {Q : jk → Prop} {R : Int32 → sm_S → Int32 → sm_S → Prop} {r : Int32} {σ : sm_S} (h0 : ∀ K : jk, K r σ → P K) (h : jt (P2 r σ) Q R) : jt (fun K => P (fun r σ => P2 r σ K)) Q R := jt_x (fun K q => h0 _ q) h
theorem jt_xbv {P : (sm_S → Prop) → Prop} {P2 : sm_S → jk → Prop} {Q : jk → Prop} {R : Int32 → sm_S → Int32 → sm_S → Prop} {σ : sm_S} (h0 : ∀ K : sm_S → Prop, K σ → P K) (h : jt (P2 σ) Q R) : jt (fun K => P (fun σ => P2 σ K)) Q R := jt_x (fun K q => h0 _ q) h
theorem jt_mb {Q : jk → Prop} {Q2 : Int32 → sm_S → jk → Prop} {P : jk → Prop} {R : Int32 → sm_S → Int32 → sm_S → Prop} {r : Int32} {μ : sm_S} (h0 : ∀ K : jk, K r μ → Q K) (h : jt P (Q2 r μ) R) : jt P (fun K => Q (fun r μ => Q2 r μ K)) R := jt_m (fun K q => h0 _ q) h
theorem jt_mbv {Q : (sm_S → Prop) → Prop} {Q2 : sm_S → jk → Prop} {P : jk → Prop} {R : Int32 → sm_S → Int32 → sm_S → Prop} {μ : sm_S} (h0 : ∀ K : sm_S → Prop, K μ → Q K) (h : jt P (Q2 μ) R) : jt P (fun K => Q (fun μ => Q2 μ K)) R := jt_m (fun K q => h0 _ q) h
/-- a list of numbers that is none: 0 stands for -1 -/
def oN (x : Nat) : Int32 := nI x - 1
theorem oN_0 : oN 0 = -1 := by decide
theorem oN_s (x : Nat) : oN (x + 1) = nI x := nI_pred x
theorem oN_eqm {x : Nat} (h : x < 2 ^ 31) : oN x = -1 ↔ x = 0 := by
  rcases x with _ | x
  · exact ⟨fun _ => rfl, fun _ => oN_0⟩
  · rw [oN_s]; exact ⟨fun q => absurd q (nI_m1 (by omega)), fun q => absurd q (by omega)⟩
theorem oN_inj {x y : Nat} (hx : x < 2 ^ 31) (hy : y < 2 ^ 31) (h : oN x = oN y) : x = y := by
  have h1 : oN x + 1 = oN y + 1 := by rw [h]
  unfold oN at h1
  rw [Int32.sub_add_cancel, Int32.sub_add_cancel] at h1
  exact (nI_eq hx hy).mp h1
/-- branches, for simp -/
theorem zb_t {c A B : Prop} (h : c) : ((c → A) ∧ (¬ c → B)) = A := propext ⟨fun q => q.1 h, fun q => ⟨fun _ => q, fun z => absurd h z⟩⟩
theorem zb_f {c A B : Prop} (h : ¬ c) : ((c → A) ∧ (¬ c → B)) = B := propext ⟨fun q => q.2 h, fun q => ⟨fun z => absurd z h, fun _ => q⟩⟩
theorem zb_tt {c A B : Prop} (h : c) : ((¬ c → A) ∧ (c → B)) = B := propext ⟨fun q => q.2 h, fun q => ⟨fun z => absurd h z, fun _ => q⟩⟩
theorem zb_ff {c A B : Prop} (h : ¬ c) : ((¬ c → A) ∧ (c → B)) = A := propext ⟨fun q => q.1 h, fun q => ⟨fun _ => q, fun z => absurd z h⟩⟩
theorem zb_i {i : Int32} {n : Nat} {A : Prop} (h : vp_in i n) : (vp_in i n ∧ A) = A := propext ⟨fun q => q.2, fun q => ⟨h, q⟩⟩
theorem zb_z {i : Int32} {A : Prop} (h : sm_z i) : (sm_z i ∧ A) = A := propext ⟨fun q => q.2, fun q => ⟨h, q⟩⟩
theorem zb_l {e : sm_S} {A : sm_S → Prop} : (∀ s : sm_S, s = e → A s) = A e := propext ⟨fun q => q e rfl, fun q s hs => by rw [hs]; exact q⟩
theorem zb_v {e : Int32} {A : Int32 → Prop} : (∀ s : Int32, s = e → A s) = A e := propext ⟨fun q => q e rfl, fun q s hs => by rw [hs]; exact q⟩
theorem zb_w {e : Int64} {A : Int64 → Prop} : (∀ s : Int64, s = e → A s) = A e := propext ⟨fun q => q e rfl, fun q s hs => by rw [hs]; exact q⟩
theorem vp_nIs {a n : Nat} (h : a < n) (hn : n < 2 ^ 31) : vp_in (nI a) n = True := propext ⟨fun _ => trivial, fun _ => vp_in_nI h hn⟩
theorem e10 : (1 : Int32) = nI 0 ↔ False := ⟨fun q => absurd q (by decide), fun q => q.elim⟩
theorem zz0 : sm_z (nI 0) = True := propext ⟨fun _ => trivial, fun _ => sm_z0⟩
theorem zz1 : sm_z 1 = True := propext ⟨fun _ => trivial, fun _ => sm_z1⟩
theorem zb_z0 {A : Prop} : (sm_z 0 ∧ A) = A := propext ⟨fun q => q.2, fun q => ⟨sm_z0, q⟩⟩
theorem zb_z1 {A : Prop} : (sm_z 1 ∧ A) = A := propext ⟨fun q => q.2, fun q => ⟨sm_z1, q⟩⟩
theorem vi32 : vp_in 0 32 = True := propext ⟨fun _ => trivial, fun _ => vp_in_nI (n := 0) (by decide) (by decide)⟩
theorem vi64 : vp_in 0 64 = True := propext ⟨fun _ => trivial, fun _ => vp_in_nI (n := 0) (by decide) (by decide)⟩
