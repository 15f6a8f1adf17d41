/-! ===== the simple steps once more; division by zero: the class ===== -/
section
variable {σ : sm_S} {T : Nat → Nat → Nat} {b : Nat → Nat} {h k lim md cy rch n : Nat} {N : Nat → AN} {f : AF} {r : List AF} {K : jk}
theorem X_sm {zv : Int32} {jc : Prop} {ht' pc' : Nat} {vs' : Nat → AV} (hw : wf T b) (lk : lkd T b) (X : XH σ T b h k lim md cy rch n N (f :: r) 0 1) (hin : inC T f.1 (T 17 f.1 + f.2.1)) (h4 : T 4 (T 17 f.1 + f.2.1) = 1) (ho : b (T 17 f.1 + f.2.1) ≤ 25) (hg : hgt T f.1 (b (T 17 f.1 + f.2.1)) f.2.2.1) (hs : smp b (T 17 f.1 + f.2.1) (T 15 f.1) f.2.2.1 f.2.2.2 zv jc) (he : efS b (T 17 f.1 + f.2.1) (T 15 f.1) f.2.2.1 f.2.2.2 zv ht' vs') (hpc : (jc ∧ pc' = pr b (jpl b (T 17 f.1 + f.2.1))) ∨ (¬ jc ∧ pc' = f.2.1 + wd (b (T 17 f.1 + f.2.1))))
    (hK : sOK σ K T b h k lim md cy rch n N ((f.1, pc', ht', vs') :: r) 0 1) : mp_X7_step σ K := by
  obtain ⟨L, B, F, S, R, C, C0, s0, ml, nb, z, lv, y, al, tp, t, x, hn, i12, i22, i23, f0, hk1, k64⟩ := X.ob
  refine X_smp hw lk x i12 hin h4 ho hg hs he hpc (fun σ' E x' s' => ?_)
  obtain ⟨g1, g2, g3⟩ := s'
  have ni := g1.2.2.2.2.2
  refine hK σ' ⟨L, B, F, S, R, E, C0, s0, ml, nb, z, lv, y, al, tp :: t, x', hn, g3, ?_, ?_⟩ ?_ g2
  · rw [← i22]; exact ni 22 (by unfold Ist; omega)
  · rw [show ((f.1, pc', ht', vs') :: r).length = (f :: r).length from rfl, ← i23]; exact ni 23 (by unfold Ist; omega)
  · have e17 : σ'.2.2.2.2 17 = E := g1.2.2.2.2.1
    unfold stG
    rw [e17]
    exact g1.m (fun k q => by unfold Ist at q; unfold Ixs; omega)
theorem X_dz {ids : List Nat} (hw : wf T b) (X : XH σ T b h k lim md cy rch n N (f :: r) 0 1) (hm : f.1 < T 0 1) (hin : inC T f.1 (T 17 f.1 + f.2.1)) (h4 : T 4 (T 17 f.1 + f.2.1) = 1) (ho : b (T 17 f.1 + f.2.1) = 10 ∨ b (T 17 f.1 + f.2.1) = 11) (hh : 2 ≤ f.2.2.1 ∧ f.2.2.1 ≤ T 16 f.1) {xv : Int32} (hx : f.2.2.2 (T 15 f.1 + f.2.2.1 - 2) = .inl xv) (hy : f.2.2.2 (T 15 f.1 + f.2.2.1 - 1) = .inl 0) (hr : rls T N (f :: r) ids)
    (h0 : rch ≤ k * md → lim < rch → sNO σ K T b h k lim md cy rch n N (f :: r))
    (h1 : ¬ (rch ≤ k * md ∧ lim < rch) → sOK σ K T b h k lim (mm k lim md rch (1 + T 6 (T 10 2))) (mcy k lim md rch cy (1 + T 6 (T 10 2))) (mr T N (f :: r) ids k lim md rch (1 + T 6 (T 10 2))) (n + 1) (va_up N n (nob T (T 10 2))) (f :: r) (n + 1) 1) : mp_X7_step σ K := by
  obtain ⟨L, B, F, S, R, C, C0, s0, ml, nb, z, lv, y, al, tp, t, x, hn, i12, i22, i23, f0, hk1, k64⟩ := X.ob
  obtain ⟨o1, o2, o3, o4, o5, o6⟩ := opB hw hm hin h4
  obtain ⟨tv0, fc⟩ := x.tv
  refine x_pre hw x hin o6 (fun σ1 w1 => ?_)
  generalize hpe : T 17 f.1 + f.2.1 = p at *
  unfold XD
  have nlt : ∀ a : Nat, a < 2 ^ 31 → ((nI a < nI (b p)) ↔ a < b p) := fun a ha => nI_ltI ha (by omega)
  refine ⟨fun _ => ⟨fun q => absurd ((nlt 18 (by decide)).mp q) (by omega), fun _ => ?_⟩, fun q => absurd ((nlt 6 (by decide)).mpr (by omega)) q⟩
  exact x_rk (hf := 2 * h + 64) (B := B) (s0 := s0) (ml := ml) (nb := nb) (al := al) (x := xv) (y := 0) hw w1 (by omega) (by omega) tv0 (by omega) hy (fun _ => ⟨hh.1, hx⟩) (by decide) (fun q => absurd ⟨ho, rfl⟩ q) (fun _ σ2 w2 => s_raise (q := 2) hw x hn f0 i12 i22 i23 w2 (by omega) (by decide) hr h0 h1)
end
