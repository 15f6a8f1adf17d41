/-! methods that make rows: the places may change, but those of the objects (below nO) stay -/
def sm_Ba (w : sm_S → sm_A → va_W) (ty : sm_A → List (ClassId × FieldType)) (N nO : Nat) (D : va_G) (A : Nat → Prop) (β : sm_A) (u : sm_S × sm_A) (t : State) : Prop :=
  va_P D vwCl (w u.1 u.2) t.heap ∧ va_K D vwCl (ty u.2) t ∧ sm_D A u.2 N ∧ ∀ k : Nat, k < nO → u.2.1 k = β.1 k
theorem sm_D.of {A : Nat → Prop} {ws : va_W} {α : sm_A} {N : Nat} (hm : ws.map Prod.fst = (List.range N).map α.1) (h : va_D A ws) : sm_D A α N := by
  have key : ∀ k : Nat, k < N → ∃ q : Nat × va_E, ws[k]? = some q ∧ q.1 = α.1 k := by
    intro k hk
    have h1 : (ws.map Prod.fst)[k]? = some (α.1 k) := by rw [hm, List.getElem?_map, List.getElem?_range hk]; rfl
    rw [List.getElem?_map] at h1
    cases hq : ws[k]? with
    | none => rw [hq] at h1; simp at h1
    | some q => rw [hq] at h1; exact ⟨q, rfl, Option.some.inj h1⟩
  refine ⟨fun i j hi hj he => ?_, fun k hk => ?_⟩
  · obtain ⟨p, h1, h2⟩ := key i hi
    obtain ⟨q, h3, h4⟩ := key j hj
    exact h.1 i j p q h1 h3 (by rw [h2, h4]; exact he)
  · obtain ⟨q, h1, h2⟩ := key k hk
    rw [← h2]
    exact h.2 k q h1
section SMA
variable {p : Program} {l : Launch} {e : Env} {R : Room} {s : State} {m : MethodId} {args : Array Value} {below : List Frame} {meth : Method} {c : Code} {H : Heap} {locs : List Loc} {cells slots : Nat} {Q : State → Prop}
def sm_Ja (p : Program) (l : Launch) (e : Env) (R : Room) (s : State) (m : MethodId) (args : Array Value) (below : List Frame) (meth : Method) (c : Code) (Q : State → Prop) (w : sm_S → sm_A → va_W) (ty : sm_A → List (ClassId × FieldType)) (N nO : Nat) (D : va_G) (A : Nat → Prop) (β : sm_A) (nL cells slots : Nat) (σ : sm_S) (pc : Nat) (lv : sm_A → List (Nat × Value)) (st : sm_A → List Value) : Prop :=
  ∀ (α : sm_A) (H : Heap) (locs : List Loc) (ls : Array Slot), (∀ k : Nat, k < nO → α.1 k = β.1 k) → va_K D vwCl (ty α) s → sm_D A α N → va_P D vwCl (w σ α) H → va_S A s.heap H locs → lv_has ls nL (lv α) → W p l e R s m args below meth c H locs cells slots Q (F0 m pc ls (st α))
variable {w : sm_S → sm_A → va_W} {ty : sm_A → List (ClassId × FieldType)} {N nO : Nat} {D : va_G} {t0 : Nat} {σ : sm_S} {α : sm_A} {A : Nat → Prop}
variable {pc : Nat} {ls : Array Slot} {st0 rest As : List Value} {y : MethodName} {ws : List Cond} {rm : Room} {Ts : List Cond} {cc bytes : ByteArray} {nL maxL index n b mc ms : Nat} {own C host : String} {ret : Option FieldType}
theorem sm_avv {K : sm_S → Prop} (hP : va_P D vwCl (w σ α) H) (hK : va_K D vwCl (ty α) s) (hD : sm_D A α N) (hE : sm_E t0 A s) (hS : va_S A s.heap H locs) (hA : ∀ q : Nat, s.heap.size ≤ q → A q) (S : CallFix p m c cc nL s args Ts own) (hsz : ls.size = nL)
    (hM : Met l y ws rm (sm_P w ty N D H.size t0 σ α (.ref b :: As)) (va_Qv (fun u : sm_S × sm_A => K u.1) (sm_Ba w ty N nO D (sm_a α N H.size) α) (sm_a α N H.size)) mc ms (sm_a α N H.size)) (cw : CallW R s args own C index y bytes maxL ret ws rm mc ms n) (hr : ∃ cellB : Cell, H[b]? = some cellB ∧ cellB.vm.isStatics = false ∧ s.vm.findClass C = some cellB.cls) (hn : As.length = n) (hst : st0 = As.reverse ++ .ref b :: rest) (hW : (rest.map fun v => v.category).sum ≤ 8) (hdg : decode cc pc = .ok (.invokevirtual index, 3)) (hf : cells + mc ≤ R.cells ∧ slots + ms ≤ R.slots)
    (kk : ∀ (σ' : sm_S) (α' : sm_A) (H1 : Heap) (locs1 : List Loc), K σ' → (∀ k : Nat, k < nO → α'.1 k = α.1 k) → va_K D vwCl (ty α') s → sm_D A α' N → va_P D vwCl (w σ' α') H1 → va_S A s.heap H1 locs1 → W p l e R s m args below meth c H1 locs1 (cells + mc) (slots + ms) Q (F0 m (pc + 3) ls rest)) : W p l e R s m args below meth c H locs cells slots Q (F0 m pc ls st0) := by
  have hs := sm_sub hD hA hS.1
  refine va_callv (va_runV (g := F0 m pc ls st0) S hM cw ⟨sm_P.blind, hr, sm_P.at hP hK hD hE hS hA⟩ rfl hn hsz hst (lv_room hW) hdg hf) hS (fun q _ h => hs q h) hs (fun u t H1 locs1 ht hvm hw hB hz1 hk1 hS1 => ?_)
  obtain ⟨b1, b2, b3, b4⟩ := hB
  exact kk u.1 u.2 H1 locs1 hw b4 (va_K.moved hvm.symm b2) ⟨b3.1, fun k hk => hs _ (b3.2 k hk)⟩ (by rw [← ht]; exact b1) hS1
theorem sm_avi {K : Int32 → sm_S → Prop} (hP : va_P D vwCl (w σ α) H) (hK : va_K D vwCl (ty α) s) (hD : sm_D A α N) (hE : sm_E t0 A s) (hS : va_S A s.heap H locs) (hA : ∀ q : Nat, s.heap.size ≤ q → A q) (S : CallFix p m c cc nL s args Ts own) (hsz : ls.size = nL)
    (hM : Met l y ws rm (sm_P w ty N D H.size t0 σ α (.ref b :: As)) (va_Qi (fun r (u : sm_S × sm_A) => K r u.1) (sm_Ba w ty N nO D (sm_a α N H.size) α) (sm_a α N H.size)) mc ms (sm_a α N H.size)) (cw : CallW R s args own C index y bytes maxL ret ws rm mc ms n) (hr : ∃ cellB : Cell, H[b]? = some cellB ∧ cellB.vm.isStatics = false ∧ s.vm.findClass C = some cellB.cls) (hn : As.length = n) (hst : st0 = As.reverse ++ .ref b :: rest) (hW : (rest.map fun v => v.category).sum ≤ 8) (hdg : decode cc pc = .ok (.invokevirtual index, 3)) (hf : cells + mc ≤ R.cells ∧ slots + ms ≤ R.slots)
    (kk : ∀ (r : Int32) (σ' : sm_S) (α' : sm_A) (H1 : Heap) (locs1 : List Loc), K r σ' → (∀ k : Nat, k < nO → α'.1 k = α.1 k) → va_K D vwCl (ty α') s → sm_D A α' N → va_P D vwCl (w σ' α') H1 → va_S A s.heap H1 locs1 → W p l e R s m args below meth c H1 locs1 (cells + mc) (slots + ms) Q (F0 m (pc + 3) ls (.int r :: rest))) : W p l e R s m args below meth c H locs cells slots Q (F0 m pc ls st0) := by
  have hs := sm_sub hD hA hS.1
  refine va_calli (va_runV (g := F0 m pc ls st0) S hM cw ⟨sm_P.blind, hr, sm_P.at hP hK hD hE hS hA⟩ rfl hn hsz hst (lv_room hW) hdg hf) hS (fun q _ h => hs q h) hs (fun r u t H1 locs1 ht hvm hw hB hz1 hk1 hS1 => ?_)
  obtain ⟨b1, b2, b3, b4⟩ := hB
  exact kk r u.1 u.2 H1 locs1 hw b4 (va_K.moved hvm.symm b2) ⟨b3.1, fun k hk => hs _ (b3.2 k hk)⟩ (by rw [← ht]; exact b1) hS1
end SMA
