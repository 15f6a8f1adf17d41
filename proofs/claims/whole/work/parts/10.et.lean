theorem sx_r0 {σ : sm_S} {k : Nat} {f : Nat → Int32} (h : σ.2.2.2.1 k = f) : sm_r σ k f = σ := by
  show (σ.1, σ.2.1, σ.2.2.1, va_up σ.2.2.2.1 k f, σ.2.2.2.2) = σ
  rw [← h, sx_up]
theorem sx_rs {σ : sm_S} {k : Nat} {f : Nat → Int32} : (sm_r σ k f).2.2.2.1 k = f := va_up_self _ _ _
theorem sx_rn {σ : sm_S} {k j : Nat} {f : Nat → Int32} (h : j ≠ k) : (sm_r σ k f).2.2.2.1 j = σ.2.2.2.1 j := va_up_ne _ _ h
theorem sx_is {σ : sm_S} {k : Nat} {v : Int32} : (sm_i σ k v).1 k = v := va_up_self _ _ _
theorem sx_in {σ : sm_S} {k j : Nat} {v : Int32} (h : j ≠ k) : (sm_i σ k v).1 j = σ.1 j := va_up_ne _ _ h
theorem sx_uc {α : Type} (f : Nat → α) {k j : Nat} (v w : α) (h : k ≠ j) : va_up (va_up f k v) j w = va_up (va_up f j w) k v := by
  funext x
  unfold va_up
  by_cases e : x = j
  · rw [if_pos e, if_neg (by omega), if_pos e]
  · rw [if_neg e]
    by_cases e2 : x = k
    · rw [if_pos e2, if_pos e2]
    · rw [if_neg e2, if_neg e2, if_neg e]
theorem sx_rc (σ : sm_S) {k j : Nat} (f g : Nat → Int32) (h : k ≠ j) : sm_r (sm_r σ k f) j g = sm_r (sm_r σ j g) k f := by
  show (σ.1, σ.2.1, σ.2.2.1, va_up (va_up σ.2.2.2.1 k f) j g, σ.2.2.2.2) = _
  rw [sx_uc _ _ _ h]
theorem sx_ic (σ : sm_S) {k j : Nat} (f g : Int32) (h : k ≠ j) : sm_i (sm_i σ k f) j g = sm_i (sm_i σ j g) k f := by
  show (va_up (va_up σ.1 k f) j g, σ.2) = _
  rw [sx_uc _ _ _ h]
theorem sx_r4 (σ : sm_S) {k j : Nat} (f g f2 g2 : Nat → Int32) (h : k ≠ j) : sm_r (sm_r (sm_r (sm_r σ k f) j g) k f2) j g2 = sm_r (sm_r σ k f2) j g2 := by
  rw [sx_rc (sm_r σ k f) g f2 (Ne.symm h), sx_rr, sx_rr]
/-- one side alone: it ends in one way, and R holds of the end -/
def et (P : jk → Prop) (R : Int32 → sm_S → Prop) : Prop := ∃ r σ, (∀ K : jk, K r σ → P K) ∧ R r σ
theorem et_e {R : Int32 → sm_S → Prop} {r : Int32} {σ : sm_S} (h : R r σ) : et (fun K => K r σ) R := ⟨r, σ, fun _ h => h, h⟩
theorem et_w {P : jk → Prop} {R R2 : Int32 → sm_S → Prop} (h : et P R) (h2 : ∀ r σ, R r σ → R2 r σ) : et P R2 := by
  obtain ⟨r, σ, a, c⟩ := h
  exact ⟨r, σ, a, h2 _ _ c⟩
theorem et_b {P : jk → Prop} {P2 : Int32 → sm_S → jk → Prop} {R R2 : Int32 → sm_S → Prop} (h : et P R) (h2 : ∀ r σ, R r σ → et (P2 r σ) R2) : et (fun K => P (fun r σ => P2 r σ K)) R2 := by
  obtain ⟨r, σ, a, c⟩ := h
  obtain ⟨s, τ, a2, c2⟩ := h2 _ _ c
  exact ⟨s, τ, fun K hK => a _ (a2 K hK), c2⟩
theorem et_bv {P : (sm_S → Prop) → Prop} {P2 : sm_S → jk → Prop} {R R2 : Int32 → sm_S → Prop} (h : et (fun K => P (fun σ => K 0 σ)) R) (h2 : ∀ r σ, R r σ → et (P2 σ) R2) : et (fun K => P (fun σ => P2 σ K)) R2 := by
  obtain ⟨r, σ, a, c⟩ := h
  obtain ⟨s, τ, a2, c2⟩ := h2 _ _ c
  exact ⟨s, τ, fun K hK => a (fun _ σ => P2 σ K) (a2 K hK), c2⟩
theorem et_k {P : jk → Prop} {P2 : Int32 → sm_S → jk → Prop} {R2 : Int32 → sm_S → Prop} {r : Int32} {σ : sm_S} (h : ∀ K : jk, K r σ → P K) (h2 : et (P2 r σ) R2) : et (fun K => P (fun r σ => P2 r σ K)) R2 := by
  obtain ⟨s, τ, a2, c2⟩ := h2
  exact ⟨s, τ, fun K hK => h _ (a2 K hK), c2⟩
theorem et_kv {P : (sm_S → Prop) → Prop} {P2 : sm_S → jk → Prop} {R2 : Int32 → sm_S → Prop} {σ : sm_S} (h : ∀ K : sm_S → Prop, K σ → P K) (h2 : et (P2 σ) R2) : et (fun K => P (fun σ => P2 σ K)) R2 := by
  obtain ⟨s, τ, a2, c2⟩ := h2
  exact ⟨s, τ, fun K hK => h _ (a2 K hK), c2⟩
theorem et_x {P P2 : jk → Prop} {R : Int32 → sm_S → Prop} (h2 : ∀ K, P2 K → P K) (h : et P2 R) : et P R := by
  obtain ⟨r, σ, a, c⟩ := h
  exact ⟨r, σ, fun K hK => h2 K (a K hK), c⟩
theorem et_n {R : Int32 → sm_S → Prop} {A : Nat → jk → Prop} (n : Nat) (h : et (A n) R) : et (fun K => ∃ n : Nat, A n K) R := et_x (fun K q => ⟨n, q⟩) h
/-- one side goes on -/
theorem jt_xE {P : jk → Prop} {P2 : Int32 → sm_S → jk → Prop} {Q : jk → Prop} {R1 : Int32 → sm_S → Prop} {R : Int32 → sm_S → Int32 → sm_S → Prop} (h : et P R1) (h2 : ∀ r σ, R1 r σ → jt (P2 r σ) Q R) : jt (fun K => P (fun r σ => P2 r σ K)) Q R := by
  obtain ⟨r, σ, a, c⟩ := h
  exact jt_xb a (h2 r σ c)
theorem jt_xEv {P : (sm_S → Prop) → Prop} {P2 : sm_S → jk → Prop} {Q : jk → Prop} {R1 : Int32 → sm_S → Prop} {R : Int32 → sm_S → Int32 → sm_S → Prop} (h : et (fun K => P (fun σ => K 0 σ)) R1) (h2 : ∀ r σ, R1 r σ → jt (P2 σ) Q R) : jt (fun K => P (fun σ => P2 σ K)) Q R := by
  obtain ⟨r, σ, a, c⟩ := h
  exact jt_xbv (fun K hK => a (fun _ σ => K σ) hK) (h2 r σ c)
theorem jt_mE {Q : jk → Prop} {Q2 : Int32 → sm_S → jk → Prop} {P : jk → Prop} {R1 : Int32 → sm_S → Prop} {R : Int32 → sm_S → Int32 → sm_S → Prop} (h : et Q R1) (h2 : ∀ r μ, R1 r μ → jt P (Q2 r μ) R) : jt P (fun K => Q (fun r μ => Q2 r μ K)) R := by
  obtain ⟨r, σ, a, c⟩ := h
  exact jt_mb a (h2 r σ c)
theorem jt_mEv {Q : (sm_S → Prop) → Prop} {Q2 : sm_S → jk → Prop} {P : jk → Prop} {R1 : Int32 → sm_S → Prop} {R : Int32 → sm_S → Int32 → sm_S → Prop} (h : et (fun K => Q (fun σ => K 0 σ)) R1) (h2 : ∀ r μ, R1 r μ → jt P (Q2 μ) R) : jt P (fun K => Q (fun μ => Q2 μ K)) R := by
  obtain ⟨r, σ, a, c⟩ := h
  exact jt_mbv (fun K hK => a (fun _ σ => K σ) hK) (h2 r σ c)
/-- the reference has ended, the class goes on alone -/
theorem jt_ee {P : jk → Prop} {R : Int32 → sm_S → Int32 → sm_S → Prop} {r' : Int32} {μ : sm_S} (h : et P (fun r σ => R r σ r' μ)) : jt P (fun K => K r' μ) R := by
  obtain ⟨r, σ, a, c⟩ := h
  exact ⟨r, σ, r', μ, a, fun _ h => h, c⟩
/-- number and over -/
theorem jt_num {σ μ : sm_S} {n p : Nat} {b : Nat → Nat} {lo hi : Int32} {P2 Q2 : Int32 → sm_S → jk → Prop} {R : Int32 → sm_S → Int32 → sm_S → Prop} (hR : iv_rd σ μ n b p)
    (h1 : p < n → lo ≤ nI (b p) → nI (b p) ≤ hi → jt (P2 (nI (b p)) (sm_i σ 20 (nI (p + 1)))) (Q2 1 (sm_i μ 2 (nI (p + 1)))) R)
    (h2 : jt (P2 0 (sm_i σ 21 (nI p))) (Q2 0 (sm_i μ 3 (nI p))) R) :
    jt (fun K => mp_X6_number σ lo hi (-1) (fun r σ => P2 r σ K)) (fun K => mp_X11_over μ lo hi (fun r μ => Q2 r μ K)) R := by
  rcases jn_num lo hi hR with ⟨a, b1, c, d, e⟩ | ⟨_, d, e⟩
  · exact jt_xb d (jt_mb e (h1 a b1 c))
  · exact jt_xb d (jt_mb e h2)
theorem jt_type {σ μ : sm_S} {n p C : Nat} {b : Nat → Nat} {ot z : Int32} {o : Prop} {P2 Q2 : Int32 → sm_S → jk → Prop} {R : Int32 → sm_S → Int32 → sm_S → Prop} (hR : iv_rd σ μ n b p) (hC : σ.1 0 = nI C) (hD : μ.1 5 = nI C) (hC2 : C ≤ 32) (ho : ∀ x : Nat, x < 256 → (nI x = ot ↔ (o ∧ x = 255))) (hz : z = 0 ↔ ¬ o)
    (h1 : p < n → ty_ok C o (b p) → jt (P2 (nI (b p)) (sm_i σ 20 (nI (p + 1)))) (Q2 1 (sm_i μ 2 (nI (p + 1)))) R)
    (h2 : jt (P2 0 (sm_i σ 21 (nI p))) (Q2 0 (sm_i μ 3 (nI p))) R) :
    jt (fun K => mp_X6_type σ ot (fun r σ => P2 r σ K)) (fun K => mp_X11_overType μ z (fun r μ => Q2 r μ K)) R := by
  rcases jn_type hR hC hD hC2 ho hz with ⟨a, b1, d, e⟩ | ⟨d, e⟩
  · exact jt_xb d (jt_mb e (h1 a b1))
  · exact jt_xb d (jt_mb e h2)
theorem ho_m : ∀ x : Nat, x < 256 → (nI x = (-1 : Int32) ↔ (False ∧ x = 255)) := fun x hx => ⟨fun q => absurd q (nI_m1 (by omega)), fun q => q.1.elim⟩
theorem ho_p : ∀ x : Nat, x < 256 → (nI x = (255 : Int32) ↔ (True ∧ x = 255)) := fun x hx => by rw [l_255, nI_eq (by omega) (by omega)]; exact ⟨fun q => ⟨trivial, q⟩, fun q => q.2⟩
/-- a world that may have changed in the numbers I and in the row's places A alone -/
def fr (I : Nat → Prop) (A : Nat → Nat → Prop) (σ σ' : sm_S) : Prop := σ'.2.1 = σ.2.1 ∧ σ'.2.2.1 = σ.2.2.1 ∧ σ'.2.2.2.2 = σ.2.2.2.2 ∧ (∀ k, ¬ I k → σ'.1 k = σ.1 k) ∧ (∀ r j, ¬ A r j → σ'.2.2.2.1 r j = σ.2.2.2.1 r j)
theorem fr_r {I : Nat → Prop} {A : Nat → Nat → Prop} {σ : sm_S} : fr I A σ σ := ⟨rfl, rfl, rfl, fun _ _ => rfl, fun _ _ _ => rfl⟩
theorem fr.i {I : Nat → Prop} {A : Nat → Nat → Prop} {σ σ' : sm_S} (h : fr I A σ σ') {k : Nat} {v : Int32} (hk : I k) : fr I A σ (sm_i σ' k v) := ⟨h.1, h.2.1, h.2.2.1, fun j q => (va_up_ne σ'.1 v (fun (e : j = k) => q (by rw [e]; exact hk))).trans (h.2.2.2.1 j q), h.2.2.2.2⟩
theorem fr.w {I : Nat → Prop} {A : Nat → Nat → Prop} {σ σ' : sm_S} (h : fr I A σ σ') {k : Nat} {f : Nat → Int32} (hk : ∀ j, ¬ A k j → f j = σ'.2.2.2.1 k j) : fr I A σ (sm_r σ' k f) := by
  refine ⟨h.1, h.2.1, h.2.2.1, h.2.2.2.1, fun r j q => ?_⟩
  by_cases e : r = k
  · subst e
    rw [sx_rs, hk j q]; exact h.2.2.2.2 r j q
  · rw [sx_rn e]; exact h.2.2.2.2 r j q
theorem fr.u {I : Nat → Prop} {A : Nat → Nat → Prop} {σ σ' : sm_S} (h : fr I A σ σ') {k j : Nat} {f : Nat → Int32} {v : Int32} (hf : f = σ'.2.2.2.1 k) (hk : A k j) : fr I A σ (sm_r σ' k (upd f j v)) := h.w (fun i q => by rw [hf]; exact pk_un (fun (e : i = j) => q (by rw [e]; exact hk)))
theorem fr.t {I : Nat → Prop} {A : Nat → Nat → Prop} {a b c : sm_S} (h : fr I A a b) (h2 : fr I A b c) : fr I A a c := ⟨h2.1.trans h.1, h2.2.1.trans h.2.1, h2.2.2.1.trans h.2.2.1, fun j q => (h2.2.2.2.1 j q).trans (h.2.2.2.1 j q), fun r j q => (h2.2.2.2.2 r j q).trans (h.2.2.2.2 r j q)⟩
theorem fr.m {I J : Nat → Prop} {A B : Nat → Nat → Prop} {a b : sm_S} (h : fr I A a b) (h1 : ∀ k, I k → J k) (h2 : ∀ r j, A r j → B r j) : fr J B a b := ⟨h.1, h.2.1, h.2.2.1, fun j q => h.2.2.2.1 j (fun z => q (h1 j z)), fun r j q => h.2.2.2.2 r j (fun z => q (h2 r j z))⟩
theorem fr.row {I : Nat → Prop} {A : Nat → Nat → Prop} {a b : sm_S} (h : fr I A a b) {r : Nat} (q : ∀ j, ¬ A r j) : b.2.2.2.1 r = a.2.2.2.1 r := funext (fun j => h.2.2.2.2 r j (q j))
theorem fr.ln {I : Nat → Prop} {A : Nat → Nat → Prop} {a b : sm_S} (h : fr I A a b) (r : Nat) : b.2.2.1 r = a.2.2.1 r := by rw [h.2.1]
/-- the reader's world: what may change while it reads -/
def IX (k : Nat) : Prop := k = 0 ∨ k = 15 ∨ k = 16 ∨ k = 17 ∨ k = 20 ∨ k = 21
def IM (k : Nat) : Prop := k = 2 ∨ k = 3 ∨ k = 5 ∨ k = 6 ∨ k = 7 ∨ k = 8
def AX (r _ : Nat) : Prop := (11 ≤ r ∧ r ≤ 16) ∨ (19 ≤ r ∧ r ≤ 29)
def AM (r _ : Nat) : Prop := 4 ≤ r ∧ r ≤ 20
theorem fr.bX {I : Nat → Prop} {A : Nat → Nat → Prop} {σ σ' : sm_S} {n : Nat} {b : Nat → Nat} (h : fr I A σ σ') (hI : ¬ I 14) (hA : ∀ j, ¬ A 18 j) (hb : iv_bX σ n b) : iv_bX σ' n b := by
  obtain ⟨a1, a2, a3, a4, a5, a6⟩ := hb
  refine ⟨a1, ?_, ?_, ?_, a5, ?_⟩
  · rw [h.2.2.2.1 14 hI]; exact a2
  · rw [h.2.1]; exact a3
  · rw [h.2.1]; exact a4
  · rw [h.row hA]; exact a6
theorem fr.bM {I : Nat → Prop} {A : Nat → Nat → Prop} {σ σ' : sm_S} {n : Nat} {b : Nat → Nat} (h : fr I A σ σ') (hI : ¬ I 1) (hA : ∀ j, ¬ A 3 j) (hb : iv_bM σ n b) : iv_bM σ' n b := by
  obtain ⟨a1, a2, a3, a5, a6⟩ := hb
  refine ⟨a1, ?_, ?_, a5, ?_⟩
  · rw [h.2.2.2.1 1 hI]; exact a2
  · rw [h.2.1]; exact a3
  · rw [h.row hA]; exact a6
/-- the lengths of the rows that the reader fills -/
def lnX (σ : sm_S) : Prop := σ.2.2.1 11 = 32 ∧ σ.2.2.1 12 = 32 ∧ σ.2.2.1 13 = 480 ∧ σ.2.2.1 14 = 512 ∧ σ.2.2.1 15 = 512 ∧ σ.2.2.1 16 = 5 ∧ σ.2.2.1 20 = 64 ∧ σ.2.2.1 21 = 64 ∧ σ.2.2.1 22 = 512 ∧ σ.2.2.1 23 = 64 ∧ σ.2.2.1 24 = 64 ∧ σ.2.2.1 25 = 64 ∧ σ.2.2.1 26 = 64 ∧ σ.2.2.1 27 = 64 ∧ σ.2.2.1 28 = 64 ∧ σ.2.2.1 29 = 64
def lnM (μ : sm_S) : Prop := μ.2.2.1 4 = 8000 ∧ μ.2.2.1 5 = 32 ∧ μ.2.2.1 6 = 32 ∧ μ.2.2.1 7 = 480 ∧ μ.2.2.1 8 = 512 ∧ μ.2.2.1 9 = 512 ∧ μ.2.2.1 10 = 5 ∧ μ.2.2.1 11 = 64 ∧ μ.2.2.1 12 = 64 ∧ μ.2.2.1 13 = 512 ∧ μ.2.2.1 14 = 64 ∧ μ.2.2.1 15 = 64 ∧ μ.2.2.1 16 = 64 ∧ μ.2.2.1 17 = 64 ∧ μ.2.2.1 18 = 64 ∧ μ.2.2.1 19 = 64 ∧ μ.2.2.1 20 = 64
theorem lx11 {σ : sm_S} (h : lnX σ) : σ.2.2.1 11 = 32 := h.1
theorem lx12 {σ : sm_S} (h : lnX σ) : σ.2.2.1 12 = 32 := h.2.1
theorem lx13 {σ : sm_S} (h : lnX σ) : σ.2.2.1 13 = 480 := h.2.2.1
theorem lx14 {σ : sm_S} (h : lnX σ) : σ.2.2.1 14 = 512 := h.2.2.2.1
theorem lx15 {σ : sm_S} (h : lnX σ) : σ.2.2.1 15 = 512 := h.2.2.2.2.1
theorem lx16 {σ : sm_S} (h : lnX σ) : σ.2.2.1 16 = 5 := h.2.2.2.2.2.1
theorem lx20 {σ : sm_S} (h : lnX σ) : σ.2.2.1 20 = 64 := h.2.2.2.2.2.2.1
theorem lx21 {σ : sm_S} (h : lnX σ) : σ.2.2.1 21 = 64 := h.2.2.2.2.2.2.2.1
theorem lx22 {σ : sm_S} (h : lnX σ) : σ.2.2.1 22 = 512 := h.2.2.2.2.2.2.2.2.1
theorem lx23 {σ : sm_S} (h : lnX σ) : σ.2.2.1 23 = 64 := h.2.2.2.2.2.2.2.2.2.1
theorem lx24 {σ : sm_S} (h : lnX σ) : σ.2.2.1 24 = 64 := h.2.2.2.2.2.2.2.2.2.2.1
theorem lx25 {σ : sm_S} (h : lnX σ) : σ.2.2.1 25 = 64 := h.2.2.2.2.2.2.2.2.2.2.2.1
theorem lx26 {σ : sm_S} (h : lnX σ) : σ.2.2.1 26 = 64 := h.2.2.2.2.2.2.2.2.2.2.2.2.1
theorem lx27 {σ : sm_S} (h : lnX σ) : σ.2.2.1 27 = 64 := h.2.2.2.2.2.2.2.2.2.2.2.2.2.1
theorem lx28 {σ : sm_S} (h : lnX σ) : σ.2.2.1 28 = 64 := h.2.2.2.2.2.2.2.2.2.2.2.2.2.2.1
theorem lx29 {σ : sm_S} (h : lnX σ) : σ.2.2.1 29 = 64 := h.2.2.2.2.2.2.2.2.2.2.2.2.2.2.2
theorem lm4 {μ : sm_S} (h : lnM μ) : μ.2.2.1 4 = 8000 := h.1
theorem lm5 {μ : sm_S} (h : lnM μ) : μ.2.2.1 5 = 32 := h.2.1
theorem lm6 {μ : sm_S} (h : lnM μ) : μ.2.2.1 6 = 32 := h.2.2.1
theorem lm7 {μ : sm_S} (h : lnM μ) : μ.2.2.1 7 = 480 := h.2.2.2.1
theorem lm8 {μ : sm_S} (h : lnM μ) : μ.2.2.1 8 = 512 := h.2.2.2.2.1
theorem lm9 {μ : sm_S} (h : lnM μ) : μ.2.2.1 9 = 512 := h.2.2.2.2.2.1
theorem lm10 {μ : sm_S} (h : lnM μ) : μ.2.2.1 10 = 5 := h.2.2.2.2.2.2.1
theorem lm11 {μ : sm_S} (h : lnM μ) : μ.2.2.1 11 = 64 := h.2.2.2.2.2.2.2.1
theorem lm12 {μ : sm_S} (h : lnM μ) : μ.2.2.1 12 = 64 := h.2.2.2.2.2.2.2.2.1
theorem lm13 {μ : sm_S} (h : lnM μ) : μ.2.2.1 13 = 512 := h.2.2.2.2.2.2.2.2.2.1
theorem lm14 {μ : sm_S} (h : lnM μ) : μ.2.2.1 14 = 64 := h.2.2.2.2.2.2.2.2.2.2.1
theorem lm15 {μ : sm_S} (h : lnM μ) : μ.2.2.1 15 = 64 := h.2.2.2.2.2.2.2.2.2.2.2.1
theorem lm16 {μ : sm_S} (h : lnM μ) : μ.2.2.1 16 = 64 := h.2.2.2.2.2.2.2.2.2.2.2.2.1
theorem lm17 {μ : sm_S} (h : lnM μ) : μ.2.2.1 17 = 64 := h.2.2.2.2.2.2.2.2.2.2.2.2.2.1
theorem lm18 {μ : sm_S} (h : lnM μ) : μ.2.2.1 18 = 64 := h.2.2.2.2.2.2.2.2.2.2.2.2.2.2.1
theorem lm19 {μ : sm_S} (h : lnM μ) : μ.2.2.1 19 = 64 := h.2.2.2.2.2.2.2.2.2.2.2.2.2.2.2.1
theorem lm20 {μ : sm_S} (h : lnM μ) : μ.2.2.1 20 = 64 := h.2.2.2.2.2.2.2.2.2.2.2.2.2.2.2.2
theorem fr.lX {I : Nat → Prop} {A : Nat → Nat → Prop} {σ σ' : sm_S} (h : fr I A σ σ') (q : lnX σ) : lnX σ' := by
  unfold lnX at *
  rw [h.2.1]; exact q
theorem fr.lM {I : Nat → Prop} {A : Nat → Nat → Prop} {σ σ' : sm_S} (h : fr I A σ σ') (q : lnM σ) : lnM σ' := by
  unfold lnM at *
  rw [h.2.1]; exact q
/-- both found the same byte wrong -/
def fail2 (σ μ : sm_S) (n : Nat) : Prop := ∃ w : Nat, w ≤ n ∧ σ.1 21 = nI w ∧ μ.1 3 = nI w
theorem jt_last {μ : sm_S} {n p : Nat} {b : Nat → Nat} {P : jk → Prop} {Q2 : Int32 → sm_S → jk → Prop} {R : Int32 → sm_S → Int32 → sm_S → Prop} (hb : iv_bM μ n b) (hp : p < n) (hat : μ.1 2 = nI (p + 1)) (h : jt P (Q2 (nI (b p)) μ) R) : jt P (fun K => mp_X11_last μ (fun r μ => Q2 r μ K)) R := jt_mb (fun _ q => w_last hb hp hat q) h
theorem numW {σ : sm_S} {lo hi ot : Int32} {K : jk} (hw : ¬ σ.1 21 = -1) : mp_X6_number σ lo hi ot K = K 0 σ := by
  unfold mp_X6_number
  exact zb_f hw
