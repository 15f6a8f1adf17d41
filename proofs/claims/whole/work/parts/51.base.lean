/-! the pictures: sm_S what a world's numbers are (ints by field, longs by field, lengths, contents of int/byte/boolean rows, contents of long rows), sm_A where its cells lie -/
abbrev sm_A : Type := (Nat → Nat) × (Nat → ClassId)
/-- the addresses: apart, in A -/
def sm_D (A : Nat → Prop) (α : sm_A) (N : Nat) : Prop := (∀ i j : Nat, i < N → j < N → α.1 i = α.1 j → i = j) ∧ ∀ k : Nat, k < N → A (α.1 k)
def sm_a (α : sm_A) (N sz : Nat) : Nat → Prop := fun q => (∃ k : Nat, k < N ∧ q = α.1 k) ∨ sz ≤ q
theorem sm_pos {ws : va_W} {α : sm_A} {N k : Nat} {q : Nat × va_E} (hm : ws.map Prod.fst = (List.range N).map α.1) (hk : ws[k]? = some q) : k < N ∧ q.1 = α.1 k := by
  have h1 : (ws.map Prod.fst)[k]? = some q.1 := by rw [List.getElem?_map, hk]; rfl
  rw [hm, List.getElem?_map] at h1
  have hlt : k < N := by
    rcases Nat.lt_or_ge k N with h | h
    · exact h
    · rw [List.getElem?_eq_none (by rw [List.length_range]; exact h)] at h1
      simp at h1
  rw [List.getElem?_range hlt] at h1
  exact ⟨hlt, (Option.some.inj h1).symm⟩
theorem sm_D.to {A : Nat → Prop} {ws : va_W} {α : sm_A} {N : Nat} (hm : ws.map Prod.fst = (List.range N).map α.1) (h : sm_D A α N) : va_D A ws := by
  refine ⟨fun i j p q hp hq he => ?_, fun k q hk => ?_⟩
  · obtain ⟨h1, h2⟩ := sm_pos hm hp
    obtain ⟨h3, h4⟩ := sm_pos hm hq
    exact h.1 i j h1 h3 (by rw [← h2, ← h4]; exact he)
  · obtain ⟨h1, h2⟩ := sm_pos hm hk
    rw [h2]
    exact h.2 k h1
theorem sm_D.own {A : Nat → Prop} {α : sm_A} {N sz : Nat} (h : sm_D A α N) : sm_D (sm_a α N sz) α N := ⟨h.1, fun k hk => Or.inl ⟨k, hk, rfl⟩⟩
theorem sm_D.any {A : Nat → Prop} {α : sm_A} {N : Nat} (h : sm_D A α N) : sm_D (fun _ => True) α N := ⟨h.1, fun _ _ => trivial⟩
theorem sm_sub {A : Nat → Prop} {α : sm_A} {N : Nat} {H0 H : Heap} (h : sm_D A α N) (hA : ∀ q : Nat, H0.size ≤ q → A q) (hs : H0.size ≤ H.size) : ∀ q : Nat, sm_a α N H.size q → A q := by
  intro q hq
  rcases hq with ⟨k, hk, rfl⟩ | hq
  · exact h.2 k hk
  · exact hA q (Nat.le_trans hs hq)
/-- links between nest mates, and the static row of sizes: they hold at every call -/
def sm_nest : List Cond := [.methodLinkNest "SteadyMachine" 15 ⟨"SteadyMachine$Image", "<init>", "()V"⟩ "SteadyMachine", .methodLinkNest "SteadyMachine$Image" 11 ⟨"SteadyMachine$Classes", "<init>", "()V"⟩ "SteadyMachine", .methodLinkNest "SteadyMachine$Image" 20 ⟨"SteadyMachine$Methods", "<init>", "()V"⟩ "SteadyMachine", .methodLinkNest "SteadyMachine" 45 ⟨"SteadyMachine$Ports", "<init>", "()V"⟩ "SteadyMachine", .methodLinkNest "SteadyMachine$Image" 33 ⟨"SteadyMachine", "roomFor", "(II)I"⟩ "SteadyMachine", .methodLinkNest "SteadyMachine$Verifier" 46 ⟨"SteadyMachine", "roomFor", "(II)I"⟩ "SteadyMachine", .methodLinkNest "SteadyMachine$Heap" 33 ⟨"SteadyMachine", "roomFor", "(II)I"⟩ "SteadyMachine", .methodLinkNest "SteadyMachineModel" 113 ⟨"SteadyMachineModel$Image", "two", "(I)I"⟩ "SteadyMachineModel", .methodLinkNest "SteadyMachineModel" 133 ⟨"SteadyMachineModel$Image", "wide", "(I)I"⟩ "SteadyMachineModel", .methodLinkNest "SteadyMachineModel" 168 ⟨"SteadyMachineModel$Image", "isBegin", "(II)Z"⟩ "SteadyMachineModel", .methodLinkNest "SteadyMachineModel" 177 ⟨"SteadyMachineModel$Image", "<init>", "()V"⟩ "SteadyMachineModel", .fieldLinkNest "SteadyMachine$Reader" 125 "SteadyMachine" "SIZE" "[I" "SteadyMachine", .fieldLinkNest "SteadyMachine$Verifier" 118 "SteadyMachine" "SIZE" "[I" "SteadyMachine", .fieldLinkNest "SteadyMachine$Runner" 78 "SteadyMachine" "SIZE" "[I" "SteadyMachine", .fieldLinkNest "SteadyMachineModel" 149 "SteadyMachineModel$Image" "taped" "I" "SteadyMachineModel", .fieldLinkNest "SteadyMachineModel" 111 "SteadyMachineModel$Image" "image" "[I" "SteadyMachineModel", .fieldLinkNest "SteadyMachineModel" 164 "SteadyMachineModel$Image" "there" "Z" "SteadyMachineModel", .fieldLinkNest "SteadyMachineModel" 409 "SteadyMachineModel$Image" "classes" "I" "SteadyMachineModel", .fieldLinkNest "SteadyMachineModel" 20 "SteadyMachineModel$Image" "uppers" "[I" "SteadyMachineModel", .fieldLinkNest "SteadyMachineModel" 292 "SteadyMachineModel$Image" "fieldCounts" "[I" "SteadyMachineModel", .fieldLinkNest "SteadyMachineModel" 99 "SteadyMachineModel$Image" "fieldTypes" "[I" "SteadyMachineModel", .fieldLinkNest "SteadyMachineModel" 108 "SteadyMachineModel$Image" "slots" "[I" "SteadyMachineModel", .fieldLinkNest "SteadyMachineModel" 323 "SteadyMachineModel$Image" "throwns" "[I" "SteadyMachineModel", .fieldLinkNest "SteadyMachineModel" 158 "SteadyMachineModel$Image" "methods" "I" "SteadyMachineModel", .fieldLinkNest "SteadyMachineModel" 68 "SteadyMachineModel$Image" "parameterCounts" "[I" "SteadyMachineModel", .fieldLinkNest "SteadyMachineModel" 71 "SteadyMachineModel$Image" "parameterTypes" "[I" "SteadyMachineModel", .fieldLinkNest "SteadyMachineModel" 77 "SteadyMachineModel$Image" "gives" "[I" "SteadyMachineModel", .fieldLinkNest "SteadyMachineModel" 27 "SteadyMachineModel$Image" "locals" "[I" "SteadyMachineModel", .fieldLinkNest "SteadyMachineModel" 58 "SteadyMachineModel$Image" "stacks" "[I" "SteadyMachineModel", .fieldLinkNest "SteadyMachineModel" 30 "SteadyMachineModel$Image" "codeAt" "[I" "SteadyMachineModel", .fieldLinkNest "SteadyMachineModel" 24 "SteadyMachineModel$Image" "codeSizes" "[I" "SteadyMachineModel", .fieldLinkNest "SteadyMachineModel" 116 "SteadyMachineModel$Image" "handlerCounts" "[I" "SteadyMachineModel", .fieldLinkNest "SteadyMachineModel" 119 "SteadyMachineModel$Image" "handlerAt" "[I" "SteadyMachineModel", .fieldLinkNest "SteadyMachineModel" 277 "SteadyMachineModel$Image" "first" "I" "SteadyMachineModel"]
theorem sm_nest_ok : ∀ w ∈ sm_nest, w.onTables = true := by decide +kernel
def sm_size : Nat → Value := fun j => .int (sm_sz j)
def sm_E (t0 : Nat) (A : Nat → Prop) (U : State) : Prop := (∀ w ∈ sm_nest, va_Nw w U) ∧ va_Z "SteadyMachine" "SIZE" "[I" (.ref t0) A U U.heap ∧ va_T .int t0 42 sm_size A U U.heap
theorem sm_warm {s U : State} (hW : s.WarmedH U.vm) (h : ∀ w ∈ sm_nest, va_Nw w s) : ∀ w ∈ sm_nest, va_Nw w U := by
  intro w hw
  have h0 := h w hw
  simp only [sm_nest, List.mem_cons, List.not_mem_nil, or_false] at hw
  rcases hw with rfl | rfl | rfl | rfl | rfl | rfl | rfl | rfl | rfl | rfl | rfl | rfl | rfl | rfl | rfl | rfl | rfl | rfl | rfl | rfl | rfl | rfl | rfl | rfl | rfl | rfl | rfl | rfl | rfl | rfl | rfl | rfl | rfl | rfl
  all_goals first | exact va_Nw.warmM hW h0 | exact va_Nw.warmF hW h0
theorem sm_E.call {t0 : Nat} {A B : Nat → Prop} {s U : State} {H : Heap} {locs : List Loc} (h : sm_E t0 A s) (hS : va_S A s.heap H locs) (hU : U.heap = H) (hW : s.WarmedH U.vm) (hB : ∀ q : Nat, B q → A q) : sm_E t0 B U := by
  obtain ⟨h1, h2, h3⟩ := h
  subst hU
  exact ⟨sm_warm hW h1, (va_Z.moved hW.alike (h2.kept (fun a q1 q2 => hS.2.1 a q1 q2))).narrow hB, (va_T.moved hW.alike (h3.kept (fun a q1 q2 => hS.2.1 a q1 q2))).narrow hB⟩
theorem sm_E.blind {t0 : Nat} {A : Nat → Prop} {U : State} {g : JFrame} {mk : MethodId} {a : Array Value} (h : sm_E t0 A U) : sm_E t0 A (U.calling g mk a) :=
  ⟨fun w hw => va_Nw.same (u := U) (U := U.calling g mk a) (sm_nest_ok w hw) rfl (h.1 w hw), va_Z.moved (u := U) (U := U.calling g mk a) (Vm.Alike.refl U.vm) h.2.1, va_T.moved (u := U) (U := U.calling g mk a) (Vm.Alike.refl U.vm) h.2.2⟩
/-- a contract's start: the world w of the numbers σ at the places α -/
def sm_P (w : sm_S → sm_A → va_W) (ty : sm_A → List (ClassId × FieldType)) (N : Nat) (D : va_G) (sz t0 : Nat) (σ : sm_S) (α : sm_A) (as : List Value) : Array Value → State → Prop :=
  va_Pc as (fun U => U.heap.size = sz ∧ va_P D vwCl (w σ α) U.heap ∧ va_K D vwCl (ty α) U ∧ sm_D (fun _ => True) α N ∧ sm_E t0 (sm_a α N sz) U)
theorem sm_P.blind {w : sm_S → sm_A → va_W} {ty : sm_A → List (ClassId × FieldType)} {N : Nat} {D : va_G} {sz t0 : Nat} {σ : sm_S} {α : sm_A} {as : List Value} : FrameBlind (sm_P w ty N D sz t0 σ α as) := by
  intro a U g mk q
  obtain ⟨q0, q1, qP, qK, qD, qE⟩ := q
  exact ⟨q0, q1, qP, va_K.moved (u := U) (U := U.calling g mk a) (Vm.Alike.refl U.vm) qK, qD, qE.blind⟩
theorem sm_P.at {w : sm_S → sm_A → va_W} {ty : sm_A → List (ClassId × FieldType)} {N : Nat} {D : va_G} {t0 : Nat} {σ : sm_S} {α : sm_A} {as : List Value} {A : Nat → Prop} {s : State} {H : Heap} {locs : List Loc}
    (hP : va_P D vwCl (w σ α) H) (hK : va_K D vwCl (ty α) s) (hD : sm_D A α N) (hE : sm_E t0 A s) (hS : va_S A s.heap H locs) (hA : ∀ q : Nat, s.heap.size ≤ q → A q) : ∀ U : State, U.heap = H → s.WarmedH U.vm → sm_P w ty N D H.size t0 σ α as as.toArray U := by
  intro U hU hW
  exact ⟨rfl, by rw [hU], by rw [hU]; exact hP, va_K.moved hW.alike hK, hD.any, hE.call hS hU hW (sm_sub hD hA hS.1)⟩
/-- its end: the new numbers at the same places -/
def sm_B (w : sm_S → sm_A → va_W) (D : va_G) (α : sm_A) (σ' : sm_S) (t : State) : Prop := va_P D vwCl (w σ' α) t.heap
section SMJ
variable {p : Program} {l : Launch} {e : Env} {R : Room} {s : State} {m : MethodId} {args : Array Value} {below : List Frame} {meth : Method} {c : Code} {H : Heap} {locs : List Loc} {cells slots : Nat} {Q : State → Prop}
/-- a place of a method: from every state with this world, these locals and this stack the machine comes to Q -/
def sm_J (p : Program) (l : Launch) (e : Env) (R : Room) (s : State) (m : MethodId) (args : Array Value) (below : List Frame) (meth : Method) (c : Code) (Q : State → Prop) (D : va_G) (A : Nat → Prop) (nL : Nat) (ws : va_W) (pc : Nat) (lv : List (Nat × Value)) (st : List Value) : Prop :=
  ∀ (H : Heap) (locs : List Loc) (ls : Array Slot), va_P D vwCl ws H → va_S A s.heap H locs → lv_has ls nL lv → W p l e R s m args below meth c H locs 0 0 Q (F0 m pc ls st)
variable {w : sm_S → sm_A → va_W} {ty : sm_A → List (ClassId × FieldType)} {N : Nat} {D : va_G} {t0 : Nat} {σ : sm_S} {α : sm_A} {A : Nat → Prop}
variable {pc : Nat} {ls : Array Slot} {st0 rest As : List Value} {y : MethodName} {ws : List Cond} {rm : Room} {Ts : List Cond} {cc bytes : ByteArray} {nL maxL index n b : Nat} {own C : String} {ret : Option FieldType}
theorem sm_vi {K : Int32 → sm_S → Prop} (hP : va_P D vwCl (w σ α) H) (hK : va_K D vwCl (ty α) s) (hD : sm_D A α N) (hE : sm_E t0 A s) (hS : va_S A s.heap H locs) (hA : ∀ q : Nat, s.heap.size ≤ q → A q) (S : CallFix p m c cc nL s args Ts own) (hsz : ls.size = nL)
    (hM : Met l y ws rm (sm_P w ty N D H.size t0 σ α (.ref b :: As)) (va_Qi K (sm_B w D α) (sm_a α N H.size)) 0 0 (sm_a α N H.size)) (cw : CallW R s args own C index y bytes maxL ret ws rm 0 0 n) (hr : ∃ cellB : Cell, H[b]? = some cellB ∧ cellB.vm.isStatics = false ∧ s.vm.findClass C = some cellB.cls) (hn : As.length = n) (hst : st0 = As.reverse ++ .ref b :: rest) (hW : (rest.map fun v => v.category).sum ≤ 8) (hdg : decode cc pc = .ok (.invokevirtual index, 3)) (hf : cells ≤ R.cells ∧ slots ≤ R.slots)
    (kk : ∀ (r : Int32) (σ' : sm_S) (H1 : Heap) (locs1 : List Loc), K r σ' → va_P D vwCl (w σ' α) H1 → va_S A s.heap H1 locs1 → W p l e R s m args below meth c H1 locs1 cells slots Q (F0 m (pc + 3) ls (.int r :: rest))) : W p l e R s m args below meth c H locs cells slots Q (F0 m pc ls st0) := by
  have hs := sm_sub hD hA hS.1
  refine va_calli (va_runV (g := F0 m pc ls st0) S hM cw ⟨sm_P.blind, hr, sm_P.at hP hK hD hE hS hA⟩ rfl hn hsz hst (lv_room hW) hdg hf) hS (fun q _ h => hs q h) hs (fun r u t H1 locs1 ht hvm hw hB hz1 hk1 hS1 => ?_)
  exact kk r u H1 locs1 hw (by rw [← ht]; exact hB) hS1
theorem sm_vl {K : Int64 → sm_S → Prop} (hP : va_P D vwCl (w σ α) H) (hK : va_K D vwCl (ty α) s) (hD : sm_D A α N) (hE : sm_E t0 A s) (hS : va_S A s.heap H locs) (hA : ∀ q : Nat, s.heap.size ≤ q → A q) (S : CallFix p m c cc nL s args Ts own) (hsz : ls.size = nL)
    (hM : Met l y ws rm (sm_P w ty N D H.size t0 σ α (.ref b :: As)) (va_Ql K (sm_B w D α) (sm_a α N H.size)) 0 0 (sm_a α N H.size)) (cw : CallW R s args own C index y bytes maxL ret ws rm 0 0 n) (hr : ∃ cellB : Cell, H[b]? = some cellB ∧ cellB.vm.isStatics = false ∧ s.vm.findClass C = some cellB.cls) (hn : As.length = n) (hst : st0 = As.reverse ++ .ref b :: rest) (hW : (rest.map fun v => v.category).sum ≤ 8) (hdg : decode cc pc = .ok (.invokevirtual index, 3)) (hf : cells ≤ R.cells ∧ slots ≤ R.slots)
    (kk : ∀ (r : Int64) (σ' : sm_S) (H1 : Heap) (locs1 : List Loc), K r σ' → va_P D vwCl (w σ' α) H1 → va_S A s.heap H1 locs1 → W p l e R s m args below meth c H1 locs1 cells slots Q (F0 m (pc + 3) ls (.long r :: rest))) : W p l e R s m args below meth c H locs cells slots Q (F0 m pc ls st0) := by
  have hs := sm_sub hD hA hS.1
  refine va_calll (va_runV (g := F0 m pc ls st0) S hM cw ⟨sm_P.blind, hr, sm_P.at hP hK hD hE hS hA⟩ rfl hn hsz hst (lv_room hW) hdg hf) hS (fun q _ h => hs q h) hs (fun r u t H1 locs1 ht hvm hw hB hz1 hk1 hS1 => ?_)
  exact kk r u H1 locs1 hw (by rw [← ht]; exact hB) hS1
theorem sm_vv {K : sm_S → Prop} (hP : va_P D vwCl (w σ α) H) (hK : va_K D vwCl (ty α) s) (hD : sm_D A α N) (hE : sm_E t0 A s) (hS : va_S A s.heap H locs) (hA : ∀ q : Nat, s.heap.size ≤ q → A q) (S : CallFix p m c cc nL s args Ts own) (hsz : ls.size = nL)
    (hM : Met l y ws rm (sm_P w ty N D H.size t0 σ α (.ref b :: As)) (va_Qv K (sm_B w D α) (sm_a α N H.size)) 0 0 (sm_a α N H.size)) (cw : CallW R s args own C index y bytes maxL ret ws rm 0 0 n) (hr : ∃ cellB : Cell, H[b]? = some cellB ∧ cellB.vm.isStatics = false ∧ s.vm.findClass C = some cellB.cls) (hn : As.length = n) (hst : st0 = As.reverse ++ .ref b :: rest) (hW : (rest.map fun v => v.category).sum ≤ 8) (hdg : decode cc pc = .ok (.invokevirtual index, 3)) (hf : cells ≤ R.cells ∧ slots ≤ R.slots)
    (kk : ∀ (σ' : sm_S) (H1 : Heap) (locs1 : List Loc), K σ' → va_P D vwCl (w σ' α) H1 → va_S A s.heap H1 locs1 → W p l e R s m args below meth c H1 locs1 cells slots Q (F0 m (pc + 3) ls rest)) : W p l e R s m args below meth c H locs cells slots Q (F0 m pc ls st0) := by
  have hs := sm_sub hD hA hS.1
  refine va_callv (va_runV (g := F0 m pc ls st0) S hM cw ⟨sm_P.blind, hr, sm_P.at hP hK hD hE hS hA⟩ rfl hn hsz hst (lv_room hW) hdg hf) hS (fun q _ h => hs q h) hs (fun u t H1 locs1 ht hvm hw hB hz1 hk1 hS1 => ?_)
  exact kk u H1 locs1 hw (by rw [← ht]; exact hB) hS1
theorem sm_si {K : Int32 → sm_S → Prop} (hP : va_P D vwCl (w σ α) H) (hK : va_K D vwCl (ty α) s) (hD : sm_D A α N) (hE : sm_E t0 A s) (hS : va_S A s.heap H locs) (hA : ∀ q : Nat, s.heap.size ≤ q → A q) (S : CallFix p m c cc nL s args Ts own) (hsz : ls.size = nL)
    (hM : Met l y ws rm (sm_P w ty N D H.size t0 σ α As) (va_Qi K (sm_B w D α) (sm_a α N H.size)) 0 0 (sm_a α N H.size)) (cw : CallB R s args own index y bytes maxL ret ws rm 0 0 n ∧ (Cond.static y).before args s = true) (hn : As.length = n) (hst : st0 = As.reverse ++ rest) (hW : (rest.map fun v => v.category).sum ≤ 8) (hdg : decode cc pc = .ok (.invokestatic index, 3)) (hf : cells ≤ R.cells ∧ slots ≤ R.slots)
    (kk : ∀ (r : Int32) (σ' : sm_S) (H1 : Heap) (locs1 : List Loc), K r σ' → va_P D vwCl (w σ' α) H1 → va_S A s.heap H1 locs1 → W p l e R s m args below meth c H1 locs1 cells slots Q (F0 m (pc + 3) ls (.int r :: rest))) : W p l e R s m args below meth c H locs cells slots Q (F0 m pc ls st0) := by
  have hs := sm_sub hD hA hS.1
  refine va_calli (va_runS (g := F0 m pc ls st0) S hM cw ⟨sm_P.blind, sm_P.at hP hK hD hE hS hA⟩ rfl hn hsz hst (lv_room hW) hdg hf) hS (fun q _ h => hs q h) hs (fun r u t H1 locs1 ht hvm hw hB hz1 hk1 hS1 => ?_)
  exact kk r u H1 locs1 hw (by rw [← ht]; exact hB) hS1
theorem sm_sl {K : Int64 → sm_S → Prop} (hP : va_P D vwCl (w σ α) H) (hK : va_K D vwCl (ty α) s) (hD : sm_D A α N) (hE : sm_E t0 A s) (hS : va_S A s.heap H locs) (hA : ∀ q : Nat, s.heap.size ≤ q → A q) (S : CallFix p m c cc nL s args Ts own) (hsz : ls.size = nL)
    (hM : Met l y ws rm (sm_P w ty N D H.size t0 σ α As) (va_Ql K (sm_B w D α) (sm_a α N H.size)) 0 0 (sm_a α N H.size)) (cw : CallB R s args own index y bytes maxL ret ws rm 0 0 n ∧ (Cond.static y).before args s = true) (hn : As.length = n) (hst : st0 = As.reverse ++ rest) (hW : (rest.map fun v => v.category).sum ≤ 8) (hdg : decode cc pc = .ok (.invokestatic index, 3)) (hf : cells ≤ R.cells ∧ slots ≤ R.slots)
    (kk : ∀ (r : Int64) (σ' : sm_S) (H1 : Heap) (locs1 : List Loc), K r σ' → va_P D vwCl (w σ' α) H1 → va_S A s.heap H1 locs1 → W p l e R s m args below meth c H1 locs1 cells slots Q (F0 m (pc + 3) ls (.long r :: rest))) : W p l e R s m args below meth c H locs cells slots Q (F0 m pc ls st0) := by
  have hs := sm_sub hD hA hS.1
  refine va_calll (va_runS (g := F0 m pc ls st0) S hM cw ⟨sm_P.blind, sm_P.at hP hK hD hE hS hA⟩ rfl hn hsz hst (lv_room hW) hdg hf) hS (fun q _ h => hs q h) hs (fun r u t H1 locs1 ht hvm hw hB hz1 hk1 hS1 => ?_)
  exact kk r u H1 locs1 hw (by rw [← ht]; exact hB) hS1
end SMJ
/-- the cells of the world X: 0 SteadyMachine$Classes, 1 SteadyMachine$Heap, 2 SteadyMachine$Image, 3 SteadyMachine$Linker, 4 SteadyMachine$Methods, 5 SteadyMachine$Ports, 6 SteadyMachine$Reader, 7 SteadyMachine$Runner, 8 SteadyMachine$Verifier, 9 SteadyMachine$View, 10 SteadyMachine; rows 11 Classes.upper, 12 Classes.fields, 13 Classes.fieldType, 14 Classes.slot, 15 Classes.slotPlace, 16 Classes.thrown, 17 Heap.cells, 18 Image.bytes, 19 Image.begins, 20 Methods.owner, 21 Methods.params, 22 Methods.paramType, 23 Methods.gives, 24 Methods.locals, 25 Methods.stack, 26 Methods.code, 27 Methods.length, 28 Methods.handlers, 29 Methods.handlerPlace, 30 Ports.ins, 31 Ports.outs, 32 Verifier.heights, 33 Verifier.types, 34 Verifier.marked, 35 Verifier.now, 36 SteadyMachine.tape; ints 0 Classes.many, 1 Heap.half, 2 Heap.base, 3 Heap.free, 4 Heap.scanned, 5 Heap.fresh, 6 Heap.k, 7 Heap.limit, 8 Heap.made, 9 Heap.cycles, 10 Heap.top, 11 Heap.flies, 12 Heap.steady, 13 Heap.looks, 14 Image.size, 15 Image.instructions, 16 Methods.many, 17 Methods.first, 18 Ports.inputs, 19 Ports.taken, 20 Reader.at, 21 Reader.wrong, 22 Runner.state, 23 Runner.frames, 24 Runner.method, 25 Runner.place, 26 Runner.next, 27 Runner.height, 28 Runner.lacking, 29 Verifier.height, 30 Verifier.method, 31 Verifier.locals, 32 Verifier.lowestMark, 33 Verifier.fits, 34 Verifier.bad, 35 SteadyMachine.taped, 36 SteadyMachine.whole; longs 0 Ports.given, 1 Runner.steps -/
def sm_fX0 (σ : sm_S) (α : sm_A) : List Value := [.int (σ.1 0), .ref (α.1 11), .ref (α.1 12), .ref (α.1 13), .ref (α.1 14), .ref (α.1 15), .ref (α.1 16)]
def sm_fX1 (σ : sm_S) (α : sm_A) : List Value := [.ref (α.1 0), .ref (α.1 4), .ref (α.1 17), .int (σ.1 1), .int (σ.1 2), .int (σ.1 3), .int (σ.1 4), .int (σ.1 5), .int (σ.1 6), .int (σ.1 7), .int (σ.1 8), .int (σ.1 9), .int (σ.1 10), .int (σ.1 11), .int (σ.1 12), .int (σ.1 13)]
def sm_fX2 (σ : sm_S) (α : sm_A) : List Value := [.ref (α.1 0), .ref (α.1 4), .ref (α.1 18), .ref (α.1 19), .int (σ.1 14), .int (σ.1 15)]
def sm_fX3 (σ : sm_S) (α : sm_A) : List Value := [.ref (α.1 2), .ref (α.1 0), .ref (α.1 4)]
def sm_fX4 (σ : sm_S) (α : sm_A) : List Value := [.int (σ.1 16), .int (σ.1 17), .ref (α.1 20), .ref (α.1 21), .ref (α.1 22), .ref (α.1 23), .ref (α.1 24), .ref (α.1 25), .ref (α.1 26), .ref (α.1 27), .ref (α.1 28), .ref (α.1 29)]
def sm_fX5 (σ : sm_S) (α : sm_A) : List Value := [.ref (α.1 30), .int (σ.1 18), .int (σ.1 19), .ref (α.1 31), .long (σ.2.1 0)]
def sm_fX6 (σ : sm_S) (α : sm_A) : List Value := [.ref (α.1 2), .ref (α.1 0), .ref (α.1 4), .int (σ.1 20), .int (σ.1 21)]
def sm_fX7 (σ : sm_S) (α : sm_A) : List Value := [.ref (α.1 2), .ref (α.1 0), .ref (α.1 4), .ref (α.1 1), .ref (α.1 5), .int (σ.1 22), .int (σ.1 23), .long (σ.2.1 1), .int (σ.1 24), .int (σ.1 25), .int (σ.1 26), .int (σ.1 27), .int (σ.1 28)]
def sm_fX8 (σ : sm_S) (α : sm_A) : List Value := [.ref (α.1 2), .ref (α.1 0), .ref (α.1 4), .ref (α.1 32), .ref (α.1 33), .ref (α.1 34), .ref (α.1 35), .int (σ.1 29), .int (σ.1 30), .int (σ.1 31), .int (σ.1 32), .int (σ.1 33), .int (σ.1 34)]
def sm_fX9 (σ : sm_S) (α : sm_A) : List Value := [.ref (α.1 0), .ref (α.1 4), .ref (α.1 1)]
def sm_fX10 (σ : sm_S) (α : sm_A) : List Value := [.ref (α.1 36), .int (σ.1 35), .int (σ.1 36), .ref (α.1 2), .ref (α.1 6), .ref (α.1 3), .ref (α.1 8), .ref (α.1 5), .ref (α.1 1), .ref (α.1 7), .ref (α.1 9)]
def sm_wX (σ : sm_S) (α : sm_A) : va_W := [(α.1 0, .inr (0, sm_fX0 σ α)), (α.1 1, .inr (1, sm_fX1 σ α)), (α.1 2, .inr (2, sm_fX2 σ α)), (α.1 3, .inr (3, sm_fX3 σ α)), (α.1 4, .inr (4, sm_fX4 σ α)), (α.1 5, .inr (5, sm_fX5 σ α)), (α.1 6, .inr (6, sm_fX6 σ α)), (α.1 7, .inr (7, sm_fX7 σ α)), (α.1 8, .inr (8, sm_fX8 σ α)), (α.1 9, .inr (9, sm_fX9 σ α)), (α.1 10, .inr (10, sm_fX10 σ α)), (α.1 11, .inl (α.2 11, σ.2.2.1 11, .inl (σ.2.2.2.1 11))), (α.1 12, .inl (α.2 12, σ.2.2.1 12, .inl (σ.2.2.2.1 12))), (α.1 13, .inl (α.2 13, σ.2.2.1 13, .inl (σ.2.2.2.1 13))), (α.1 14, .inl (α.2 14, σ.2.2.1 14, .inl (σ.2.2.2.1 14))), (α.1 15, .inl (α.2 15, σ.2.2.1 15, .inl (σ.2.2.2.1 15))), (α.1 16, .inl (α.2 16, σ.2.2.1 16, .inl (σ.2.2.2.1 16))), (α.1 17, .inl (α.2 17, σ.2.2.1 17, .inr (.inl (σ.2.2.2.2 17)))), (α.1 18, .inl (α.2 18, σ.2.2.1 18, .inl (σ.2.2.2.1 18))), (α.1 19, .inl (α.2 19, σ.2.2.1 19, .inl (σ.2.2.2.1 19))), (α.1 20, .inl (α.2 20, σ.2.2.1 20, .inl (σ.2.2.2.1 20))), (α.1 21, .inl (α.2 21, σ.2.2.1 21, .inl (σ.2.2.2.1 21))), (α.1 22, .inl (α.2 22, σ.2.2.1 22, .inl (σ.2.2.2.1 22))), (α.1 23, .inl (α.2 23, σ.2.2.1 23, .inl (σ.2.2.2.1 23))), (α.1 24, .inl (α.2 24, σ.2.2.1 24, .inl (σ.2.2.2.1 24))), (α.1 25, .inl (α.2 25, σ.2.2.1 25, .inl (σ.2.2.2.1 25))), (α.1 26, .inl (α.2 26, σ.2.2.1 26, .inl (σ.2.2.2.1 26))), (α.1 27, .inl (α.2 27, σ.2.2.1 27, .inl (σ.2.2.2.1 27))), (α.1 28, .inl (α.2 28, σ.2.2.1 28, .inl (σ.2.2.2.1 28))), (α.1 29, .inl (α.2 29, σ.2.2.1 29, .inl (σ.2.2.2.1 29))), (α.1 30, .inl (α.2 30, σ.2.2.1 30, .inl (σ.2.2.2.1 30))), (α.1 31, .inl (α.2 31, σ.2.2.1 31, .inl (σ.2.2.2.1 31))), (α.1 32, .inl (α.2 32, σ.2.2.1 32, .inl (σ.2.2.2.1 32))), (α.1 33, .inl (α.2 33, σ.2.2.1 33, .inl (σ.2.2.2.1 33))), (α.1 34, .inl (α.2 34, σ.2.2.1 34, .inl (σ.2.2.2.1 34))), (α.1 35, .inl (α.2 35, σ.2.2.1 35, .inl (σ.2.2.2.1 35))), (α.1 36, .inl (α.2 36, σ.2.2.1 36, .inl (σ.2.2.2.1 36)))]
def sm_tX (α : sm_A) : List (ClassId × FieldType) := [(α.2 11, .int), (α.2 12, .int), (α.2 13, .int), (α.2 14, .int), (α.2 15, .int), (α.2 16, .int), (α.2 17, .long), (α.2 18, .byte), (α.2 19, .boolean), (α.2 20, .int), (α.2 21, .int), (α.2 22, .int), (α.2 23, .int), (α.2 24, .int), (α.2 25, .int), (α.2 26, .int), (α.2 27, .int), (α.2 28, .int), (α.2 29, .int), (α.2 30, .int), (α.2 31, .int), (α.2 32, .byte), (α.2 33, .byte), (α.2 34, .boolean), (α.2 35, .int), (α.2 36, .byte)]
theorem sm_wX_m (σ : sm_S) (α : sm_A) : (sm_wX σ α).map Prod.fst = (List.range 37).map α.1 := rfl
theorem sm_gX0 (σ : sm_S) (α : sm_A) : (sm_wX σ α)[0]? = some (α.1 0, .inr (0, sm_fX0 σ α)) := rfl
theorem sm_iX0 (σ : sm_S) (α : sm_A) (v : Int32) : (sm_wX σ α).set 0 (α.1 0, .inr (0, (sm_fX0 σ α).set 0 (.int v))) = sm_wX (sm_i σ 0 v) α := rfl
theorem sm_gX1 (σ : sm_S) (α : sm_A) : (sm_wX σ α)[1]? = some (α.1 1, .inr (1, sm_fX1 σ α)) := rfl
theorem sm_iX1 (σ : sm_S) (α : sm_A) (v : Int32) : (sm_wX σ α).set 1 (α.1 1, .inr (1, (sm_fX1 σ α).set 3 (.int v))) = sm_wX (sm_i σ 1 v) α := rfl
theorem sm_iX2 (σ : sm_S) (α : sm_A) (v : Int32) : (sm_wX σ α).set 1 (α.1 1, .inr (1, (sm_fX1 σ α).set 4 (.int v))) = sm_wX (sm_i σ 2 v) α := rfl
theorem sm_iX3 (σ : sm_S) (α : sm_A) (v : Int32) : (sm_wX σ α).set 1 (α.1 1, .inr (1, (sm_fX1 σ α).set 5 (.int v))) = sm_wX (sm_i σ 3 v) α := rfl
theorem sm_iX4 (σ : sm_S) (α : sm_A) (v : Int32) : (sm_wX σ α).set 1 (α.1 1, .inr (1, (sm_fX1 σ α).set 6 (.int v))) = sm_wX (sm_i σ 4 v) α := rfl
theorem sm_iX5 (σ : sm_S) (α : sm_A) (v : Int32) : (sm_wX σ α).set 1 (α.1 1, .inr (1, (sm_fX1 σ α).set 7 (.int v))) = sm_wX (sm_i σ 5 v) α := rfl
theorem sm_iX6 (σ : sm_S) (α : sm_A) (v : Int32) : (sm_wX σ α).set 1 (α.1 1, .inr (1, (sm_fX1 σ α).set 8 (.int v))) = sm_wX (sm_i σ 6 v) α := rfl
theorem sm_iX7 (σ : sm_S) (α : sm_A) (v : Int32) : (sm_wX σ α).set 1 (α.1 1, .inr (1, (sm_fX1 σ α).set 9 (.int v))) = sm_wX (sm_i σ 7 v) α := rfl
theorem sm_iX8 (σ : sm_S) (α : sm_A) (v : Int32) : (sm_wX σ α).set 1 (α.1 1, .inr (1, (sm_fX1 σ α).set 10 (.int v))) = sm_wX (sm_i σ 8 v) α := rfl
theorem sm_iX9 (σ : sm_S) (α : sm_A) (v : Int32) : (sm_wX σ α).set 1 (α.1 1, .inr (1, (sm_fX1 σ α).set 11 (.int v))) = sm_wX (sm_i σ 9 v) α := rfl
theorem sm_iX10 (σ : sm_S) (α : sm_A) (v : Int32) : (sm_wX σ α).set 1 (α.1 1, .inr (1, (sm_fX1 σ α).set 12 (.int v))) = sm_wX (sm_i σ 10 v) α := rfl
theorem sm_iX11 (σ : sm_S) (α : sm_A) (v : Int32) : (sm_wX σ α).set 1 (α.1 1, .inr (1, (sm_fX1 σ α).set 13 (.int v))) = sm_wX (sm_i σ 11 v) α := rfl
theorem sm_iX12 (σ : sm_S) (α : sm_A) (v : Int32) : (sm_wX σ α).set 1 (α.1 1, .inr (1, (sm_fX1 σ α).set 14 (.int v))) = sm_wX (sm_i σ 12 v) α := rfl
theorem sm_iX13 (σ : sm_S) (α : sm_A) (v : Int32) : (sm_wX σ α).set 1 (α.1 1, .inr (1, (sm_fX1 σ α).set 15 (.int v))) = sm_wX (sm_i σ 13 v) α := rfl
theorem sm_gX2 (σ : sm_S) (α : sm_A) : (sm_wX σ α)[2]? = some (α.1 2, .inr (2, sm_fX2 σ α)) := rfl
theorem sm_iX14 (σ : sm_S) (α : sm_A) (v : Int32) : (sm_wX σ α).set 2 (α.1 2, .inr (2, (sm_fX2 σ α).set 4 (.int v))) = sm_wX (sm_i σ 14 v) α := rfl
theorem sm_iX15 (σ : sm_S) (α : sm_A) (v : Int32) : (sm_wX σ α).set 2 (α.1 2, .inr (2, (sm_fX2 σ α).set 5 (.int v))) = sm_wX (sm_i σ 15 v) α := rfl
theorem sm_gX3 (σ : sm_S) (α : sm_A) : (sm_wX σ α)[3]? = some (α.1 3, .inr (3, sm_fX3 σ α)) := rfl
theorem sm_gX4 (σ : sm_S) (α : sm_A) : (sm_wX σ α)[4]? = some (α.1 4, .inr (4, sm_fX4 σ α)) := rfl
theorem sm_iX16 (σ : sm_S) (α : sm_A) (v : Int32) : (sm_wX σ α).set 4 (α.1 4, .inr (4, (sm_fX4 σ α).set 0 (.int v))) = sm_wX (sm_i σ 16 v) α := rfl
theorem sm_iX17 (σ : sm_S) (α : sm_A) (v : Int32) : (sm_wX σ α).set 4 (α.1 4, .inr (4, (sm_fX4 σ α).set 1 (.int v))) = sm_wX (sm_i σ 17 v) α := rfl
theorem sm_gX5 (σ : sm_S) (α : sm_A) : (sm_wX σ α)[5]? = some (α.1 5, .inr (5, sm_fX5 σ α)) := rfl
theorem sm_iX18 (σ : sm_S) (α : sm_A) (v : Int32) : (sm_wX σ α).set 5 (α.1 5, .inr (5, (sm_fX5 σ α).set 1 (.int v))) = sm_wX (sm_i σ 18 v) α := rfl
theorem sm_iX19 (σ : sm_S) (α : sm_A) (v : Int32) : (sm_wX σ α).set 5 (α.1 5, .inr (5, (sm_fX5 σ α).set 2 (.int v))) = sm_wX (sm_i σ 19 v) α := rfl
theorem sm_jX0 (σ : sm_S) (α : sm_A) (v : Int64) : (sm_wX σ α).set 5 (α.1 5, .inr (5, (sm_fX5 σ α).set 4 (.long v))) = sm_wX (sm_j σ 0 v) α := rfl
theorem sm_gX6 (σ : sm_S) (α : sm_A) : (sm_wX σ α)[6]? = some (α.1 6, .inr (6, sm_fX6 σ α)) := rfl
theorem sm_iX20 (σ : sm_S) (α : sm_A) (v : Int32) : (sm_wX σ α).set 6 (α.1 6, .inr (6, (sm_fX6 σ α).set 3 (.int v))) = sm_wX (sm_i σ 20 v) α := rfl
theorem sm_iX21 (σ : sm_S) (α : sm_A) (v : Int32) : (sm_wX σ α).set 6 (α.1 6, .inr (6, (sm_fX6 σ α).set 4 (.int v))) = sm_wX (sm_i σ 21 v) α := rfl
theorem sm_gX7 (σ : sm_S) (α : sm_A) : (sm_wX σ α)[7]? = some (α.1 7, .inr (7, sm_fX7 σ α)) := rfl
theorem sm_iX22 (σ : sm_S) (α : sm_A) (v : Int32) : (sm_wX σ α).set 7 (α.1 7, .inr (7, (sm_fX7 σ α).set 5 (.int v))) = sm_wX (sm_i σ 22 v) α := rfl
theorem sm_iX23 (σ : sm_S) (α : sm_A) (v : Int32) : (sm_wX σ α).set 7 (α.1 7, .inr (7, (sm_fX7 σ α).set 6 (.int v))) = sm_wX (sm_i σ 23 v) α := rfl
theorem sm_jX1 (σ : sm_S) (α : sm_A) (v : Int64) : (sm_wX σ α).set 7 (α.1 7, .inr (7, (sm_fX7 σ α).set 7 (.long v))) = sm_wX (sm_j σ 1 v) α := rfl
theorem sm_iX24 (σ : sm_S) (α : sm_A) (v : Int32) : (sm_wX σ α).set 7 (α.1 7, .inr (7, (sm_fX7 σ α).set 8 (.int v))) = sm_wX (sm_i σ 24 v) α := rfl
theorem sm_iX25 (σ : sm_S) (α : sm_A) (v : Int32) : (sm_wX σ α).set 7 (α.1 7, .inr (7, (sm_fX7 σ α).set 9 (.int v))) = sm_wX (sm_i σ 25 v) α := rfl
theorem sm_iX26 (σ : sm_S) (α : sm_A) (v : Int32) : (sm_wX σ α).set 7 (α.1 7, .inr (7, (sm_fX7 σ α).set 10 (.int v))) = sm_wX (sm_i σ 26 v) α := rfl
theorem sm_iX27 (σ : sm_S) (α : sm_A) (v : Int32) : (sm_wX σ α).set 7 (α.1 7, .inr (7, (sm_fX7 σ α).set 11 (.int v))) = sm_wX (sm_i σ 27 v) α := rfl
theorem sm_iX28 (σ : sm_S) (α : sm_A) (v : Int32) : (sm_wX σ α).set 7 (α.1 7, .inr (7, (sm_fX7 σ α).set 12 (.int v))) = sm_wX (sm_i σ 28 v) α := rfl
theorem sm_gX8 (σ : sm_S) (α : sm_A) : (sm_wX σ α)[8]? = some (α.1 8, .inr (8, sm_fX8 σ α)) := rfl
theorem sm_iX29 (σ : sm_S) (α : sm_A) (v : Int32) : (sm_wX σ α).set 8 (α.1 8, .inr (8, (sm_fX8 σ α).set 7 (.int v))) = sm_wX (sm_i σ 29 v) α := rfl
theorem sm_iX30 (σ : sm_S) (α : sm_A) (v : Int32) : (sm_wX σ α).set 8 (α.1 8, .inr (8, (sm_fX8 σ α).set 8 (.int v))) = sm_wX (sm_i σ 30 v) α := rfl
theorem sm_iX31 (σ : sm_S) (α : sm_A) (v : Int32) : (sm_wX σ α).set 8 (α.1 8, .inr (8, (sm_fX8 σ α).set 9 (.int v))) = sm_wX (sm_i σ 31 v) α := rfl
theorem sm_iX32 (σ : sm_S) (α : sm_A) (v : Int32) : (sm_wX σ α).set 8 (α.1 8, .inr (8, (sm_fX8 σ α).set 10 (.int v))) = sm_wX (sm_i σ 32 v) α := rfl
theorem sm_iX33 (σ : sm_S) (α : sm_A) (v : Int32) : (sm_wX σ α).set 8 (α.1 8, .inr (8, (sm_fX8 σ α).set 11 (.int v))) = sm_wX (sm_i σ 33 v) α := rfl
theorem sm_iX34 (σ : sm_S) (α : sm_A) (v : Int32) : (sm_wX σ α).set 8 (α.1 8, .inr (8, (sm_fX8 σ α).set 12 (.int v))) = sm_wX (sm_i σ 34 v) α := rfl
theorem sm_gX9 (σ : sm_S) (α : sm_A) : (sm_wX σ α)[9]? = some (α.1 9, .inr (9, sm_fX9 σ α)) := rfl
theorem sm_gX10 (σ : sm_S) (α : sm_A) : (sm_wX σ α)[10]? = some (α.1 10, .inr (10, sm_fX10 σ α)) := rfl
theorem sm_iX35 (σ : sm_S) (α : sm_A) (v : Int32) : (sm_wX σ α).set 10 (α.1 10, .inr (10, (sm_fX10 σ α).set 1 (.int v))) = sm_wX (sm_i σ 35 v) α := rfl
theorem sm_iX36 (σ : sm_S) (α : sm_A) (v : Int32) : (sm_wX σ α).set 10 (α.1 10, .inr (10, (sm_fX10 σ α).set 2 (.int v))) = sm_wX (sm_i σ 36 v) α := rfl
theorem sm_aX11 (σ : sm_S) (α : sm_A) : (sm_wX σ α)[11]? = some (α.1 11, .inl (α.2 11, σ.2.2.1 11, .inl (σ.2.2.2.1 11))) := rfl
theorem sm_rX11 (σ : sm_S) (α : sm_A) (f : Nat → Int32) : (sm_wX σ α).set 11 (α.1 11, .inl (α.2 11, σ.2.2.1 11, .inl f)) = sm_wX (sm_r σ 11 f) α := rfl
theorem sm_yX11 (α : sm_A) : (sm_tX α)[0]? = some (α.2 11, .int) := rfl
theorem sm_aX12 (σ : sm_S) (α : sm_A) : (sm_wX σ α)[12]? = some (α.1 12, .inl (α.2 12, σ.2.2.1 12, .inl (σ.2.2.2.1 12))) := rfl
theorem sm_rX12 (σ : sm_S) (α : sm_A) (f : Nat → Int32) : (sm_wX σ α).set 12 (α.1 12, .inl (α.2 12, σ.2.2.1 12, .inl f)) = sm_wX (sm_r σ 12 f) α := rfl
theorem sm_yX12 (α : sm_A) : (sm_tX α)[1]? = some (α.2 12, .int) := rfl
theorem sm_aX13 (σ : sm_S) (α : sm_A) : (sm_wX σ α)[13]? = some (α.1 13, .inl (α.2 13, σ.2.2.1 13, .inl (σ.2.2.2.1 13))) := rfl
theorem sm_rX13 (σ : sm_S) (α : sm_A) (f : Nat → Int32) : (sm_wX σ α).set 13 (α.1 13, .inl (α.2 13, σ.2.2.1 13, .inl f)) = sm_wX (sm_r σ 13 f) α := rfl
theorem sm_yX13 (α : sm_A) : (sm_tX α)[2]? = some (α.2 13, .int) := rfl
theorem sm_aX14 (σ : sm_S) (α : sm_A) : (sm_wX σ α)[14]? = some (α.1 14, .inl (α.2 14, σ.2.2.1 14, .inl (σ.2.2.2.1 14))) := rfl
theorem sm_rX14 (σ : sm_S) (α : sm_A) (f : Nat → Int32) : (sm_wX σ α).set 14 (α.1 14, .inl (α.2 14, σ.2.2.1 14, .inl f)) = sm_wX (sm_r σ 14 f) α := rfl
theorem sm_yX14 (α : sm_A) : (sm_tX α)[3]? = some (α.2 14, .int) := rfl
theorem sm_aX15 (σ : sm_S) (α : sm_A) : (sm_wX σ α)[15]? = some (α.1 15, .inl (α.2 15, σ.2.2.1 15, .inl (σ.2.2.2.1 15))) := rfl
theorem sm_rX15 (σ : sm_S) (α : sm_A) (f : Nat → Int32) : (sm_wX σ α).set 15 (α.1 15, .inl (α.2 15, σ.2.2.1 15, .inl f)) = sm_wX (sm_r σ 15 f) α := rfl
theorem sm_yX15 (α : sm_A) : (sm_tX α)[4]? = some (α.2 15, .int) := rfl
theorem sm_aX16 (σ : sm_S) (α : sm_A) : (sm_wX σ α)[16]? = some (α.1 16, .inl (α.2 16, σ.2.2.1 16, .inl (σ.2.2.2.1 16))) := rfl
theorem sm_rX16 (σ : sm_S) (α : sm_A) (f : Nat → Int32) : (sm_wX σ α).set 16 (α.1 16, .inl (α.2 16, σ.2.2.1 16, .inl f)) = sm_wX (sm_r σ 16 f) α := rfl
theorem sm_yX16 (α : sm_A) : (sm_tX α)[5]? = some (α.2 16, .int) := rfl
theorem sm_aX17 (σ : sm_S) (α : sm_A) : (sm_wX σ α)[17]? = some (α.1 17, .inl (α.2 17, σ.2.2.1 17, .inr (.inl (σ.2.2.2.2 17)))) := rfl
theorem sm_rX17 (σ : sm_S) (α : sm_A) (f : Nat → Int64) : (sm_wX σ α).set 17 (α.1 17, .inl (α.2 17, σ.2.2.1 17, .inr (.inl f))) = sm_wX (sm_q σ 17 f) α := rfl
theorem sm_yX17 (α : sm_A) : (sm_tX α)[6]? = some (α.2 17, .long) := rfl
theorem sm_aX18 (σ : sm_S) (α : sm_A) : (sm_wX σ α)[18]? = some (α.1 18, .inl (α.2 18, σ.2.2.1 18, .inl (σ.2.2.2.1 18))) := rfl
theorem sm_rX18 (σ : sm_S) (α : sm_A) (f : Nat → Int32) : (sm_wX σ α).set 18 (α.1 18, .inl (α.2 18, σ.2.2.1 18, .inl f)) = sm_wX (sm_r σ 18 f) α := rfl
theorem sm_yX18 (α : sm_A) : (sm_tX α)[7]? = some (α.2 18, .byte) := rfl
theorem sm_aX19 (σ : sm_S) (α : sm_A) : (sm_wX σ α)[19]? = some (α.1 19, .inl (α.2 19, σ.2.2.1 19, .inl (σ.2.2.2.1 19))) := rfl
theorem sm_rX19 (σ : sm_S) (α : sm_A) (f : Nat → Int32) : (sm_wX σ α).set 19 (α.1 19, .inl (α.2 19, σ.2.2.1 19, .inl f)) = sm_wX (sm_r σ 19 f) α := rfl
theorem sm_yX19 (α : sm_A) : (sm_tX α)[8]? = some (α.2 19, .boolean) := rfl
theorem sm_aX20 (σ : sm_S) (α : sm_A) : (sm_wX σ α)[20]? = some (α.1 20, .inl (α.2 20, σ.2.2.1 20, .inl (σ.2.2.2.1 20))) := rfl
theorem sm_rX20 (σ : sm_S) (α : sm_A) (f : Nat → Int32) : (sm_wX σ α).set 20 (α.1 20, .inl (α.2 20, σ.2.2.1 20, .inl f)) = sm_wX (sm_r σ 20 f) α := rfl
theorem sm_yX20 (α : sm_A) : (sm_tX α)[9]? = some (α.2 20, .int) := rfl
theorem sm_aX21 (σ : sm_S) (α : sm_A) : (sm_wX σ α)[21]? = some (α.1 21, .inl (α.2 21, σ.2.2.1 21, .inl (σ.2.2.2.1 21))) := rfl
theorem sm_rX21 (σ : sm_S) (α : sm_A) (f : Nat → Int32) : (sm_wX σ α).set 21 (α.1 21, .inl (α.2 21, σ.2.2.1 21, .inl f)) = sm_wX (sm_r σ 21 f) α := rfl
theorem sm_yX21 (α : sm_A) : (sm_tX α)[10]? = some (α.2 21, .int) := rfl
theorem sm_aX22 (σ : sm_S) (α : sm_A) : (sm_wX σ α)[22]? = some (α.1 22, .inl (α.2 22, σ.2.2.1 22, .inl (σ.2.2.2.1 22))) := rfl
theorem sm_rX22 (σ : sm_S) (α : sm_A) (f : Nat → Int32) : (sm_wX σ α).set 22 (α.1 22, .inl (α.2 22, σ.2.2.1 22, .inl f)) = sm_wX (sm_r σ 22 f) α := rfl
theorem sm_yX22 (α : sm_A) : (sm_tX α)[11]? = some (α.2 22, .int) := rfl
theorem sm_aX23 (σ : sm_S) (α : sm_A) : (sm_wX σ α)[23]? = some (α.1 23, .inl (α.2 23, σ.2.2.1 23, .inl (σ.2.2.2.1 23))) := rfl
theorem sm_rX23 (σ : sm_S) (α : sm_A) (f : Nat → Int32) : (sm_wX σ α).set 23 (α.1 23, .inl (α.2 23, σ.2.2.1 23, .inl f)) = sm_wX (sm_r σ 23 f) α := rfl
theorem sm_yX23 (α : sm_A) : (sm_tX α)[12]? = some (α.2 23, .int) := rfl
theorem sm_aX24 (σ : sm_S) (α : sm_A) : (sm_wX σ α)[24]? = some (α.1 24, .inl (α.2 24, σ.2.2.1 24, .inl (σ.2.2.2.1 24))) := rfl
theorem sm_rX24 (σ : sm_S) (α : sm_A) (f : Nat → Int32) : (sm_wX σ α).set 24 (α.1 24, .inl (α.2 24, σ.2.2.1 24, .inl f)) = sm_wX (sm_r σ 24 f) α := rfl
theorem sm_yX24 (α : sm_A) : (sm_tX α)[13]? = some (α.2 24, .int) := rfl
theorem sm_aX25 (σ : sm_S) (α : sm_A) : (sm_wX σ α)[25]? = some (α.1 25, .inl (α.2 25, σ.2.2.1 25, .inl (σ.2.2.2.1 25))) := rfl
theorem sm_rX25 (σ : sm_S) (α : sm_A) (f : Nat → Int32) : (sm_wX σ α).set 25 (α.1 25, .inl (α.2 25, σ.2.2.1 25, .inl f)) = sm_wX (sm_r σ 25 f) α := rfl
theorem sm_yX25 (α : sm_A) : (sm_tX α)[14]? = some (α.2 25, .int) := rfl
theorem sm_aX26 (σ : sm_S) (α : sm_A) : (sm_wX σ α)[26]? = some (α.1 26, .inl (α.2 26, σ.2.2.1 26, .inl (σ.2.2.2.1 26))) := rfl
theorem sm_rX26 (σ : sm_S) (α : sm_A) (f : Nat → Int32) : (sm_wX σ α).set 26 (α.1 26, .inl (α.2 26, σ.2.2.1 26, .inl f)) = sm_wX (sm_r σ 26 f) α := rfl
theorem sm_yX26 (α : sm_A) : (sm_tX α)[15]? = some (α.2 26, .int) := rfl
theorem sm_aX27 (σ : sm_S) (α : sm_A) : (sm_wX σ α)[27]? = some (α.1 27, .inl (α.2 27, σ.2.2.1 27, .inl (σ.2.2.2.1 27))) := rfl
theorem sm_rX27 (σ : sm_S) (α : sm_A) (f : Nat → Int32) : (sm_wX σ α).set 27 (α.1 27, .inl (α.2 27, σ.2.2.1 27, .inl f)) = sm_wX (sm_r σ 27 f) α := rfl
theorem sm_yX27 (α : sm_A) : (sm_tX α)[16]? = some (α.2 27, .int) := rfl
theorem sm_aX28 (σ : sm_S) (α : sm_A) : (sm_wX σ α)[28]? = some (α.1 28, .inl (α.2 28, σ.2.2.1 28, .inl (σ.2.2.2.1 28))) := rfl
theorem sm_rX28 (σ : sm_S) (α : sm_A) (f : Nat → Int32) : (sm_wX σ α).set 28 (α.1 28, .inl (α.2 28, σ.2.2.1 28, .inl f)) = sm_wX (sm_r σ 28 f) α := rfl
theorem sm_yX28 (α : sm_A) : (sm_tX α)[17]? = some (α.2 28, .int) := rfl
theorem sm_aX29 (σ : sm_S) (α : sm_A) : (sm_wX σ α)[29]? = some (α.1 29, .inl (α.2 29, σ.2.2.1 29, .inl (σ.2.2.2.1 29))) := rfl
theorem sm_rX29 (σ : sm_S) (α : sm_A) (f : Nat → Int32) : (sm_wX σ α).set 29 (α.1 29, .inl (α.2 29, σ.2.2.1 29, .inl f)) = sm_wX (sm_r σ 29 f) α := rfl
theorem sm_yX29 (α : sm_A) : (sm_tX α)[18]? = some (α.2 29, .int) := rfl
theorem sm_aX30 (σ : sm_S) (α : sm_A) : (sm_wX σ α)[30]? = some (α.1 30, .inl (α.2 30, σ.2.2.1 30, .inl (σ.2.2.2.1 30))) := rfl
theorem sm_rX30 (σ : sm_S) (α : sm_A) (f : Nat → Int32) : (sm_wX σ α).set 30 (α.1 30, .inl (α.2 30, σ.2.2.1 30, .inl f)) = sm_wX (sm_r σ 30 f) α := rfl
theorem sm_yX30 (α : sm_A) : (sm_tX α)[19]? = some (α.2 30, .int) := rfl
theorem sm_aX31 (σ : sm_S) (α : sm_A) : (sm_wX σ α)[31]? = some (α.1 31, .inl (α.2 31, σ.2.2.1 31, .inl (σ.2.2.2.1 31))) := rfl
theorem sm_rX31 (σ : sm_S) (α : sm_A) (f : Nat → Int32) : (sm_wX σ α).set 31 (α.1 31, .inl (α.2 31, σ.2.2.1 31, .inl f)) = sm_wX (sm_r σ 31 f) α := rfl
theorem sm_yX31 (α : sm_A) : (sm_tX α)[20]? = some (α.2 31, .int) := rfl
theorem sm_aX32 (σ : sm_S) (α : sm_A) : (sm_wX σ α)[32]? = some (α.1 32, .inl (α.2 32, σ.2.2.1 32, .inl (σ.2.2.2.1 32))) := rfl
theorem sm_rX32 (σ : sm_S) (α : sm_A) (f : Nat → Int32) : (sm_wX σ α).set 32 (α.1 32, .inl (α.2 32, σ.2.2.1 32, .inl f)) = sm_wX (sm_r σ 32 f) α := rfl
theorem sm_yX32 (α : sm_A) : (sm_tX α)[21]? = some (α.2 32, .byte) := rfl
theorem sm_aX33 (σ : sm_S) (α : sm_A) : (sm_wX σ α)[33]? = some (α.1 33, .inl (α.2 33, σ.2.2.1 33, .inl (σ.2.2.2.1 33))) := rfl
theorem sm_rX33 (σ : sm_S) (α : sm_A) (f : Nat → Int32) : (sm_wX σ α).set 33 (α.1 33, .inl (α.2 33, σ.2.2.1 33, .inl f)) = sm_wX (sm_r σ 33 f) α := rfl
theorem sm_yX33 (α : sm_A) : (sm_tX α)[22]? = some (α.2 33, .byte) := rfl
theorem sm_aX34 (σ : sm_S) (α : sm_A) : (sm_wX σ α)[34]? = some (α.1 34, .inl (α.2 34, σ.2.2.1 34, .inl (σ.2.2.2.1 34))) := rfl
theorem sm_rX34 (σ : sm_S) (α : sm_A) (f : Nat → Int32) : (sm_wX σ α).set 34 (α.1 34, .inl (α.2 34, σ.2.2.1 34, .inl f)) = sm_wX (sm_r σ 34 f) α := rfl
theorem sm_yX34 (α : sm_A) : (sm_tX α)[23]? = some (α.2 34, .boolean) := rfl
theorem sm_aX35 (σ : sm_S) (α : sm_A) : (sm_wX σ α)[35]? = some (α.1 35, .inl (α.2 35, σ.2.2.1 35, .inl (σ.2.2.2.1 35))) := rfl
theorem sm_rX35 (σ : sm_S) (α : sm_A) (f : Nat → Int32) : (sm_wX σ α).set 35 (α.1 35, .inl (α.2 35, σ.2.2.1 35, .inl f)) = sm_wX (sm_r σ 35 f) α := rfl
theorem sm_yX35 (α : sm_A) : (sm_tX α)[24]? = some (α.2 35, .int) := rfl
theorem sm_aX36 (σ : sm_S) (α : sm_A) : (sm_wX σ α)[36]? = some (α.1 36, .inl (α.2 36, σ.2.2.1 36, .inl (σ.2.2.2.1 36))) := rfl
theorem sm_rX36 (σ : sm_S) (α : sm_A) (f : Nat → Int32) : (sm_wX σ α).set 36 (α.1 36, .inl (α.2 36, σ.2.2.1 36, .inl f)) = sm_wX (sm_r σ 36 f) α := rfl
theorem sm_yX36 (α : sm_A) : (sm_tX α)[25]? = some (α.2 36, .byte) := rfl
/-- the cells of the world M: 0 SteadyMachineModel$Image, 1 SteadyMachineModel; rows 2 Image.tape, 3 Image.image, 4 Image.begins, 5 Image.uppers, 6 Image.fieldCounts, 7 Image.fieldTypes, 8 Image.slots, 9 Image.slotPlaces, 10 Image.throwns, 11 Image.owners, 12 Image.parameterCounts, 13 Image.parameterTypes, 14 Image.gives, 15 Image.locals, 16 Image.stacks, 17 Image.codeAt, 18 Image.codeSizes, 19 Image.handlerCounts, 20 Image.handlerAt, 21 SteadyMachineModel.high, 22 SteadyMachineModel.types, 23 SteadyMachineModel.marks, 24 SteadyMachineModel.now, 25 SteadyMachineModel.sorts, 26 SteadyMachineModel.infos, 27 SteadyMachineModel.refs, 28 SteadyMachineModel.itemTypes, 29 SteadyMachineModel.begins, 30 SteadyMachineModel.marked, 31 SteadyMachineModel.cells, 32 SteadyMachineModel.work, 33 SteadyMachineModel.methodOf, 34 SteadyMachineModel.placeOf, 35 SteadyMachineModel.highOf, 36 SteadyMachineModel.valueAt, 37 SteadyMachineModel.isThing, 38 SteadyMachineModel.input, 39 SteadyMachineModel.output; ints 0 Image.taped, 1 Image.size, 2 Image.place, 3 Image.wrong, 4 Image.there, 5 Image.classes, 6 Image.methods, 7 Image.instructions, 8 Image.first, 9 SteadyMachineModel.top, 10 SteadyMachineModel.bad, 11 SteadyMachineModel.things, 12 SteadyMachineModel.stamp, 13 SteadyMachineModel.used, 14 SteadyMachineModel.frames, 15 SteadyMachineModel.flies, 16 SteadyMachineModel.flying, 17 SteadyMachineModel.state, 18 SteadyMachineModel.taken, 19 SteadyMachineModel.inputs, 20 SteadyMachineModel.outputs, 21 SteadyMachineModel.k, 22 SteadyMachineModel.limit, 23 SteadyMachineModel.reached, 24 SteadyMachineModel.flips, 25 SteadyMachineModel.pile, 26 SteadyMachineModel.missing, 27 SteadyMachineModel.missingLast; longs 0 SteadyMachineModel.steps, 1 SteadyMachineModel.allOutputs, 2 SteadyMachineModel.made -/
def sm_fX11 (σ : sm_S) (α : sm_A) : List Value := [.ref (α.1 2), .int (σ.1 0), .ref (α.1 3), .ref (α.1 4), .int (σ.1 1), .int (σ.1 2), .int (σ.1 3), .int (σ.1 4), .int (σ.1 5), .ref (α.1 5), .ref (α.1 6), .ref (α.1 7), .ref (α.1 8), .ref (α.1 9), .ref (α.1 10), .int (σ.1 6), .ref (α.1 11), .ref (α.1 12), .ref (α.1 13), .ref (α.1 14), .ref (α.1 15), .ref (α.1 16), .ref (α.1 17), .ref (α.1 18), .ref (α.1 19), .ref (α.1 20), .int (σ.1 7), .int (σ.1 8)]
def sm_fX12 (σ : sm_S) (α : sm_A) : List Value := [.ref (α.1 0), .ref (α.1 21), .ref (α.1 22), .ref (α.1 23), .ref (α.1 24), .int (σ.1 9), .int (σ.1 10), .int (σ.1 11), .ref (α.1 25), .ref (α.1 26), .ref (α.1 27), .ref (α.1 28), .ref (α.1 29), .ref (α.1 30), .int (σ.1 12), .int (σ.1 13), .ref (α.1 31), .ref (α.1 32), .int (σ.1 14), .ref (α.1 33), .ref (α.1 34), .ref (α.1 35), .ref (α.1 36), .ref (α.1 37), .int (σ.1 15), .int (σ.1 16), .int (σ.1 17), .long (σ.2.1 0), .int (σ.1 18), .int (σ.1 19), .ref (α.1 38), .int (σ.1 20), .long (σ.2.1 1), .ref (α.1 39), .int (σ.1 21), .int (σ.1 22), .int (σ.1 23), .long (σ.2.1 2), .int (σ.1 24), .int (σ.1 25), .int (σ.1 26), .int (σ.1 27)]
def sm_wM (σ : sm_S) (α : sm_A) : va_W := [(α.1 0, .inr (11, sm_fX11 σ α)), (α.1 1, .inr (12, sm_fX12 σ α)), (α.1 2, .inl (α.2 2, σ.2.2.1 2, .inl (σ.2.2.2.1 2))), (α.1 3, .inl (α.2 3, σ.2.2.1 3, .inl (σ.2.2.2.1 3))), (α.1 4, .inl (α.2 4, σ.2.2.1 4, .inl (σ.2.2.2.1 4))), (α.1 5, .inl (α.2 5, σ.2.2.1 5, .inl (σ.2.2.2.1 5))), (α.1 6, .inl (α.2 6, σ.2.2.1 6, .inl (σ.2.2.2.1 6))), (α.1 7, .inl (α.2 7, σ.2.2.1 7, .inl (σ.2.2.2.1 7))), (α.1 8, .inl (α.2 8, σ.2.2.1 8, .inl (σ.2.2.2.1 8))), (α.1 9, .inl (α.2 9, σ.2.2.1 9, .inl (σ.2.2.2.1 9))), (α.1 10, .inl (α.2 10, σ.2.2.1 10, .inl (σ.2.2.2.1 10))), (α.1 11, .inl (α.2 11, σ.2.2.1 11, .inl (σ.2.2.2.1 11))), (α.1 12, .inl (α.2 12, σ.2.2.1 12, .inl (σ.2.2.2.1 12))), (α.1 13, .inl (α.2 13, σ.2.2.1 13, .inl (σ.2.2.2.1 13))), (α.1 14, .inl (α.2 14, σ.2.2.1 14, .inl (σ.2.2.2.1 14))), (α.1 15, .inl (α.2 15, σ.2.2.1 15, .inl (σ.2.2.2.1 15))), (α.1 16, .inl (α.2 16, σ.2.2.1 16, .inl (σ.2.2.2.1 16))), (α.1 17, .inl (α.2 17, σ.2.2.1 17, .inl (σ.2.2.2.1 17))), (α.1 18, .inl (α.2 18, σ.2.2.1 18, .inl (σ.2.2.2.1 18))), (α.1 19, .inl (α.2 19, σ.2.2.1 19, .inl (σ.2.2.2.1 19))), (α.1 20, .inl (α.2 20, σ.2.2.1 20, .inl (σ.2.2.2.1 20))), (α.1 21, .inl (α.2 21, σ.2.2.1 21, .inl (σ.2.2.2.1 21))), (α.1 22, .inl (α.2 22, σ.2.2.1 22, .inl (σ.2.2.2.1 22))), (α.1 23, .inl (α.2 23, σ.2.2.1 23, .inl (σ.2.2.2.1 23))), (α.1 24, .inl (α.2 24, σ.2.2.1 24, .inl (σ.2.2.2.1 24))), (α.1 25, .inl (α.2 25, σ.2.2.1 25, .inl (σ.2.2.2.1 25))), (α.1 26, .inl (α.2 26, σ.2.2.1 26, .inl (σ.2.2.2.1 26))), (α.1 27, .inl (α.2 27, σ.2.2.1 27, .inl (σ.2.2.2.1 27))), (α.1 28, .inl (α.2 28, σ.2.2.1 28, .inl (σ.2.2.2.1 28))), (α.1 29, .inl (α.2 29, σ.2.2.1 29, .inl (σ.2.2.2.1 29))), (α.1 30, .inl (α.2 30, σ.2.2.1 30, .inl (σ.2.2.2.1 30))), (α.1 31, .inl (α.2 31, σ.2.2.1 31, .inl (σ.2.2.2.1 31))), (α.1 32, .inl (α.2 32, σ.2.2.1 32, .inl (σ.2.2.2.1 32))), (α.1 33, .inl (α.2 33, σ.2.2.1 33, .inl (σ.2.2.2.1 33))), (α.1 34, .inl (α.2 34, σ.2.2.1 34, .inl (σ.2.2.2.1 34))), (α.1 35, .inl (α.2 35, σ.2.2.1 35, .inl (σ.2.2.2.1 35))), (α.1 36, .inl (α.2 36, σ.2.2.1 36, .inl (σ.2.2.2.1 36))), (α.1 37, .inl (α.2 37, σ.2.2.1 37, .inl (σ.2.2.2.1 37))), (α.1 38, .inl (α.2 38, σ.2.2.1 38, .inl (σ.2.2.2.1 38))), (α.1 39, .inl (α.2 39, σ.2.2.1 39, .inl (σ.2.2.2.1 39)))]
def sm_tM (α : sm_A) : List (ClassId × FieldType) := [(α.2 2, .int), (α.2 3, .int), (α.2 4, .boolean), (α.2 5, .int), (α.2 6, .int), (α.2 7, .int), (α.2 8, .int), (α.2 9, .int), (α.2 10, .int), (α.2 11, .int), (α.2 12, .int), (α.2 13, .int), (α.2 14, .int), (α.2 15, .int), (α.2 16, .int), (α.2 17, .int), (α.2 18, .int), (α.2 19, .int), (α.2 20, .int), (α.2 21, .int), (α.2 22, .byte), (α.2 23, .boolean), (α.2 24, .int), (α.2 25, .byte), (α.2 26, .int), (α.2 27, .boolean), (α.2 28, .byte), (α.2 29, .int), (α.2 30, .int), (α.2 31, .int), (α.2 32, .int), (α.2 33, .int), (α.2 34, .int), (α.2 35, .int), (α.2 36, .int), (α.2 37, .boolean), (α.2 38, .int), (α.2 39, .int)]
theorem sm_wM_m (σ : sm_S) (α : sm_A) : (sm_wM σ α).map Prod.fst = (List.range 40).map α.1 := rfl
theorem sm_gX11 (σ : sm_S) (α : sm_A) : (sm_wM σ α)[0]? = some (α.1 0, .inr (11, sm_fX11 σ α)) := rfl
theorem sm_iM0 (σ : sm_S) (α : sm_A) (v : Int32) : (sm_wM σ α).set 0 (α.1 0, .inr (11, (sm_fX11 σ α).set 1 (.int v))) = sm_wM (sm_i σ 0 v) α := rfl
theorem sm_iM1 (σ : sm_S) (α : sm_A) (v : Int32) : (sm_wM σ α).set 0 (α.1 0, .inr (11, (sm_fX11 σ α).set 4 (.int v))) = sm_wM (sm_i σ 1 v) α := rfl
theorem sm_iM2 (σ : sm_S) (α : sm_A) (v : Int32) : (sm_wM σ α).set 0 (α.1 0, .inr (11, (sm_fX11 σ α).set 5 (.int v))) = sm_wM (sm_i σ 2 v) α := rfl
theorem sm_iM3 (σ : sm_S) (α : sm_A) (v : Int32) : (sm_wM σ α).set 0 (α.1 0, .inr (11, (sm_fX11 σ α).set 6 (.int v))) = sm_wM (sm_i σ 3 v) α := rfl
theorem sm_iM4 (σ : sm_S) (α : sm_A) (v : Int32) : (sm_wM σ α).set 0 (α.1 0, .inr (11, (sm_fX11 σ α).set 7 (.int v))) = sm_wM (sm_i σ 4 v) α := rfl
theorem sm_iM5 (σ : sm_S) (α : sm_A) (v : Int32) : (sm_wM σ α).set 0 (α.1 0, .inr (11, (sm_fX11 σ α).set 8 (.int v))) = sm_wM (sm_i σ 5 v) α := rfl
theorem sm_iM6 (σ : sm_S) (α : sm_A) (v : Int32) : (sm_wM σ α).set 0 (α.1 0, .inr (11, (sm_fX11 σ α).set 15 (.int v))) = sm_wM (sm_i σ 6 v) α := rfl
theorem sm_iM7 (σ : sm_S) (α : sm_A) (v : Int32) : (sm_wM σ α).set 0 (α.1 0, .inr (11, (sm_fX11 σ α).set 26 (.int v))) = sm_wM (sm_i σ 7 v) α := rfl
theorem sm_iM8 (σ : sm_S) (α : sm_A) (v : Int32) : (sm_wM σ α).set 0 (α.1 0, .inr (11, (sm_fX11 σ α).set 27 (.int v))) = sm_wM (sm_i σ 8 v) α := rfl
theorem sm_gX12 (σ : sm_S) (α : sm_A) : (sm_wM σ α)[1]? = some (α.1 1, .inr (12, sm_fX12 σ α)) := rfl
theorem sm_iM9 (σ : sm_S) (α : sm_A) (v : Int32) : (sm_wM σ α).set 1 (α.1 1, .inr (12, (sm_fX12 σ α).set 5 (.int v))) = sm_wM (sm_i σ 9 v) α := rfl
theorem sm_iM10 (σ : sm_S) (α : sm_A) (v : Int32) : (sm_wM σ α).set 1 (α.1 1, .inr (12, (sm_fX12 σ α).set 6 (.int v))) = sm_wM (sm_i σ 10 v) α := rfl
theorem sm_iM11 (σ : sm_S) (α : sm_A) (v : Int32) : (sm_wM σ α).set 1 (α.1 1, .inr (12, (sm_fX12 σ α).set 7 (.int v))) = sm_wM (sm_i σ 11 v) α := rfl
theorem sm_iM12 (σ : sm_S) (α : sm_A) (v : Int32) : (sm_wM σ α).set 1 (α.1 1, .inr (12, (sm_fX12 σ α).set 14 (.int v))) = sm_wM (sm_i σ 12 v) α := rfl
theorem sm_iM13 (σ : sm_S) (α : sm_A) (v : Int32) : (sm_wM σ α).set 1 (α.1 1, .inr (12, (sm_fX12 σ α).set 15 (.int v))) = sm_wM (sm_i σ 13 v) α := rfl
theorem sm_iM14 (σ : sm_S) (α : sm_A) (v : Int32) : (sm_wM σ α).set 1 (α.1 1, .inr (12, (sm_fX12 σ α).set 18 (.int v))) = sm_wM (sm_i σ 14 v) α := rfl
theorem sm_iM15 (σ : sm_S) (α : sm_A) (v : Int32) : (sm_wM σ α).set 1 (α.1 1, .inr (12, (sm_fX12 σ α).set 24 (.int v))) = sm_wM (sm_i σ 15 v) α := rfl
theorem sm_iM16 (σ : sm_S) (α : sm_A) (v : Int32) : (sm_wM σ α).set 1 (α.1 1, .inr (12, (sm_fX12 σ α).set 25 (.int v))) = sm_wM (sm_i σ 16 v) α := rfl
theorem sm_iM17 (σ : sm_S) (α : sm_A) (v : Int32) : (sm_wM σ α).set 1 (α.1 1, .inr (12, (sm_fX12 σ α).set 26 (.int v))) = sm_wM (sm_i σ 17 v) α := rfl
theorem sm_jM0 (σ : sm_S) (α : sm_A) (v : Int64) : (sm_wM σ α).set 1 (α.1 1, .inr (12, (sm_fX12 σ α).set 27 (.long v))) = sm_wM (sm_j σ 0 v) α := rfl
theorem sm_iM18 (σ : sm_S) (α : sm_A) (v : Int32) : (sm_wM σ α).set 1 (α.1 1, .inr (12, (sm_fX12 σ α).set 28 (.int v))) = sm_wM (sm_i σ 18 v) α := rfl
theorem sm_iM19 (σ : sm_S) (α : sm_A) (v : Int32) : (sm_wM σ α).set 1 (α.1 1, .inr (12, (sm_fX12 σ α).set 29 (.int v))) = sm_wM (sm_i σ 19 v) α := rfl
theorem sm_iM20 (σ : sm_S) (α : sm_A) (v : Int32) : (sm_wM σ α).set 1 (α.1 1, .inr (12, (sm_fX12 σ α).set 31 (.int v))) = sm_wM (sm_i σ 20 v) α := rfl
theorem sm_jM1 (σ : sm_S) (α : sm_A) (v : Int64) : (sm_wM σ α).set 1 (α.1 1, .inr (12, (sm_fX12 σ α).set 32 (.long v))) = sm_wM (sm_j σ 1 v) α := rfl
theorem sm_iM21 (σ : sm_S) (α : sm_A) (v : Int32) : (sm_wM σ α).set 1 (α.1 1, .inr (12, (sm_fX12 σ α).set 34 (.int v))) = sm_wM (sm_i σ 21 v) α := rfl
theorem sm_iM22 (σ : sm_S) (α : sm_A) (v : Int32) : (sm_wM σ α).set 1 (α.1 1, .inr (12, (sm_fX12 σ α).set 35 (.int v))) = sm_wM (sm_i σ 22 v) α := rfl
theorem sm_iM23 (σ : sm_S) (α : sm_A) (v : Int32) : (sm_wM σ α).set 1 (α.1 1, .inr (12, (sm_fX12 σ α).set 36 (.int v))) = sm_wM (sm_i σ 23 v) α := rfl
theorem sm_jM2 (σ : sm_S) (α : sm_A) (v : Int64) : (sm_wM σ α).set 1 (α.1 1, .inr (12, (sm_fX12 σ α).set 37 (.long v))) = sm_wM (sm_j σ 2 v) α := rfl
theorem sm_iM24 (σ : sm_S) (α : sm_A) (v : Int32) : (sm_wM σ α).set 1 (α.1 1, .inr (12, (sm_fX12 σ α).set 38 (.int v))) = sm_wM (sm_i σ 24 v) α := rfl
theorem sm_iM25 (σ : sm_S) (α : sm_A) (v : Int32) : (sm_wM σ α).set 1 (α.1 1, .inr (12, (sm_fX12 σ α).set 39 (.int v))) = sm_wM (sm_i σ 25 v) α := rfl
theorem sm_iM26 (σ : sm_S) (α : sm_A) (v : Int32) : (sm_wM σ α).set 1 (α.1 1, .inr (12, (sm_fX12 σ α).set 40 (.int v))) = sm_wM (sm_i σ 26 v) α := rfl
theorem sm_iM27 (σ : sm_S) (α : sm_A) (v : Int32) : (sm_wM σ α).set 1 (α.1 1, .inr (12, (sm_fX12 σ α).set 41 (.int v))) = sm_wM (sm_i σ 27 v) α := rfl
theorem sm_aM2 (σ : sm_S) (α : sm_A) : (sm_wM σ α)[2]? = some (α.1 2, .inl (α.2 2, σ.2.2.1 2, .inl (σ.2.2.2.1 2))) := rfl
theorem sm_rM2 (σ : sm_S) (α : sm_A) (f : Nat → Int32) : (sm_wM σ α).set 2 (α.1 2, .inl (α.2 2, σ.2.2.1 2, .inl f)) = sm_wM (sm_r σ 2 f) α := rfl
theorem sm_yM2 (α : sm_A) : (sm_tM α)[0]? = some (α.2 2, .int) := rfl
theorem sm_aM3 (σ : sm_S) (α : sm_A) : (sm_wM σ α)[3]? = some (α.1 3, .inl (α.2 3, σ.2.2.1 3, .inl (σ.2.2.2.1 3))) := rfl
theorem sm_rM3 (σ : sm_S) (α : sm_A) (f : Nat → Int32) : (sm_wM σ α).set 3 (α.1 3, .inl (α.2 3, σ.2.2.1 3, .inl f)) = sm_wM (sm_r σ 3 f) α := rfl
theorem sm_yM3 (α : sm_A) : (sm_tM α)[1]? = some (α.2 3, .int) := rfl
theorem sm_aM4 (σ : sm_S) (α : sm_A) : (sm_wM σ α)[4]? = some (α.1 4, .inl (α.2 4, σ.2.2.1 4, .inl (σ.2.2.2.1 4))) := rfl
theorem sm_rM4 (σ : sm_S) (α : sm_A) (f : Nat → Int32) : (sm_wM σ α).set 4 (α.1 4, .inl (α.2 4, σ.2.2.1 4, .inl f)) = sm_wM (sm_r σ 4 f) α := rfl
theorem sm_yM4 (α : sm_A) : (sm_tM α)[2]? = some (α.2 4, .boolean) := rfl
theorem sm_aM5 (σ : sm_S) (α : sm_A) : (sm_wM σ α)[5]? = some (α.1 5, .inl (α.2 5, σ.2.2.1 5, .inl (σ.2.2.2.1 5))) := rfl
theorem sm_rM5 (σ : sm_S) (α : sm_A) (f : Nat → Int32) : (sm_wM σ α).set 5 (α.1 5, .inl (α.2 5, σ.2.2.1 5, .inl f)) = sm_wM (sm_r σ 5 f) α := rfl
theorem sm_yM5 (α : sm_A) : (sm_tM α)[3]? = some (α.2 5, .int) := rfl
theorem sm_aM6 (σ : sm_S) (α : sm_A) : (sm_wM σ α)[6]? = some (α.1 6, .inl (α.2 6, σ.2.2.1 6, .inl (σ.2.2.2.1 6))) := rfl
theorem sm_rM6 (σ : sm_S) (α : sm_A) (f : Nat → Int32) : (sm_wM σ α).set 6 (α.1 6, .inl (α.2 6, σ.2.2.1 6, .inl f)) = sm_wM (sm_r σ 6 f) α := rfl
theorem sm_yM6 (α : sm_A) : (sm_tM α)[4]? = some (α.2 6, .int) := rfl
theorem sm_aM7 (σ : sm_S) (α : sm_A) : (sm_wM σ α)[7]? = some (α.1 7, .inl (α.2 7, σ.2.2.1 7, .inl (σ.2.2.2.1 7))) := rfl
theorem sm_rM7 (σ : sm_S) (α : sm_A) (f : Nat → Int32) : (sm_wM σ α).set 7 (α.1 7, .inl (α.2 7, σ.2.2.1 7, .inl f)) = sm_wM (sm_r σ 7 f) α := rfl
theorem sm_yM7 (α : sm_A) : (sm_tM α)[5]? = some (α.2 7, .int) := rfl
theorem sm_aM8 (σ : sm_S) (α : sm_A) : (sm_wM σ α)[8]? = some (α.1 8, .inl (α.2 8, σ.2.2.1 8, .inl (σ.2.2.2.1 8))) := rfl
theorem sm_rM8 (σ : sm_S) (α : sm_A) (f : Nat → Int32) : (sm_wM σ α).set 8 (α.1 8, .inl (α.2 8, σ.2.2.1 8, .inl f)) = sm_wM (sm_r σ 8 f) α := rfl
theorem sm_yM8 (α : sm_A) : (sm_tM α)[6]? = some (α.2 8, .int) := rfl
theorem sm_aM9 (σ : sm_S) (α : sm_A) : (sm_wM σ α)[9]? = some (α.1 9, .inl (α.2 9, σ.2.2.1 9, .inl (σ.2.2.2.1 9))) := rfl
theorem sm_rM9 (σ : sm_S) (α : sm_A) (f : Nat → Int32) : (sm_wM σ α).set 9 (α.1 9, .inl (α.2 9, σ.2.2.1 9, .inl f)) = sm_wM (sm_r σ 9 f) α := rfl
theorem sm_yM9 (α : sm_A) : (sm_tM α)[7]? = some (α.2 9, .int) := rfl
theorem sm_aM10 (σ : sm_S) (α : sm_A) : (sm_wM σ α)[10]? = some (α.1 10, .inl (α.2 10, σ.2.2.1 10, .inl (σ.2.2.2.1 10))) := rfl
theorem sm_rM10 (σ : sm_S) (α : sm_A) (f : Nat → Int32) : (sm_wM σ α).set 10 (α.1 10, .inl (α.2 10, σ.2.2.1 10, .inl f)) = sm_wM (sm_r σ 10 f) α := rfl
theorem sm_yM10 (α : sm_A) : (sm_tM α)[8]? = some (α.2 10, .int) := rfl
theorem sm_aM11 (σ : sm_S) (α : sm_A) : (sm_wM σ α)[11]? = some (α.1 11, .inl (α.2 11, σ.2.2.1 11, .inl (σ.2.2.2.1 11))) := rfl
theorem sm_rM11 (σ : sm_S) (α : sm_A) (f : Nat → Int32) : (sm_wM σ α).set 11 (α.1 11, .inl (α.2 11, σ.2.2.1 11, .inl f)) = sm_wM (sm_r σ 11 f) α := rfl
theorem sm_yM11 (α : sm_A) : (sm_tM α)[9]? = some (α.2 11, .int) := rfl
theorem sm_aM12 (σ : sm_S) (α : sm_A) : (sm_wM σ α)[12]? = some (α.1 12, .inl (α.2 12, σ.2.2.1 12, .inl (σ.2.2.2.1 12))) := rfl
theorem sm_rM12 (σ : sm_S) (α : sm_A) (f : Nat → Int32) : (sm_wM σ α).set 12 (α.1 12, .inl (α.2 12, σ.2.2.1 12, .inl f)) = sm_wM (sm_r σ 12 f) α := rfl
theorem sm_yM12 (α : sm_A) : (sm_tM α)[10]? = some (α.2 12, .int) := rfl
theorem sm_aM13 (σ : sm_S) (α : sm_A) : (sm_wM σ α)[13]? = some (α.1 13, .inl (α.2 13, σ.2.2.1 13, .inl (σ.2.2.2.1 13))) := rfl
theorem sm_rM13 (σ : sm_S) (α : sm_A) (f : Nat → Int32) : (sm_wM σ α).set 13 (α.1 13, .inl (α.2 13, σ.2.2.1 13, .inl f)) = sm_wM (sm_r σ 13 f) α := rfl
theorem sm_yM13 (α : sm_A) : (sm_tM α)[11]? = some (α.2 13, .int) := rfl
theorem sm_aM14 (σ : sm_S) (α : sm_A) : (sm_wM σ α)[14]? = some (α.1 14, .inl (α.2 14, σ.2.2.1 14, .inl (σ.2.2.2.1 14))) := rfl
theorem sm_rM14 (σ : sm_S) (α : sm_A) (f : Nat → Int32) : (sm_wM σ α).set 14 (α.1 14, .inl (α.2 14, σ.2.2.1 14, .inl f)) = sm_wM (sm_r σ 14 f) α := rfl
theorem sm_yM14 (α : sm_A) : (sm_tM α)[12]? = some (α.2 14, .int) := rfl
theorem sm_aM15 (σ : sm_S) (α : sm_A) : (sm_wM σ α)[15]? = some (α.1 15, .inl (α.2 15, σ.2.2.1 15, .inl (σ.2.2.2.1 15))) := rfl
theorem sm_rM15 (σ : sm_S) (α : sm_A) (f : Nat → Int32) : (sm_wM σ α).set 15 (α.1 15, .inl (α.2 15, σ.2.2.1 15, .inl f)) = sm_wM (sm_r σ 15 f) α := rfl
theorem sm_yM15 (α : sm_A) : (sm_tM α)[13]? = some (α.2 15, .int) := rfl
theorem sm_aM16 (σ : sm_S) (α : sm_A) : (sm_wM σ α)[16]? = some (α.1 16, .inl (α.2 16, σ.2.2.1 16, .inl (σ.2.2.2.1 16))) := rfl
theorem sm_rM16 (σ : sm_S) (α : sm_A) (f : Nat → Int32) : (sm_wM σ α).set 16 (α.1 16, .inl (α.2 16, σ.2.2.1 16, .inl f)) = sm_wM (sm_r σ 16 f) α := rfl
theorem sm_yM16 (α : sm_A) : (sm_tM α)[14]? = some (α.2 16, .int) := rfl
theorem sm_aM17 (σ : sm_S) (α : sm_A) : (sm_wM σ α)[17]? = some (α.1 17, .inl (α.2 17, σ.2.2.1 17, .inl (σ.2.2.2.1 17))) := rfl
theorem sm_rM17 (σ : sm_S) (α : sm_A) (f : Nat → Int32) : (sm_wM σ α).set 17 (α.1 17, .inl (α.2 17, σ.2.2.1 17, .inl f)) = sm_wM (sm_r σ 17 f) α := rfl
theorem sm_yM17 (α : sm_A) : (sm_tM α)[15]? = some (α.2 17, .int) := rfl
theorem sm_aM18 (σ : sm_S) (α : sm_A) : (sm_wM σ α)[18]? = some (α.1 18, .inl (α.2 18, σ.2.2.1 18, .inl (σ.2.2.2.1 18))) := rfl
theorem sm_rM18 (σ : sm_S) (α : sm_A) (f : Nat → Int32) : (sm_wM σ α).set 18 (α.1 18, .inl (α.2 18, σ.2.2.1 18, .inl f)) = sm_wM (sm_r σ 18 f) α := rfl
theorem sm_yM18 (α : sm_A) : (sm_tM α)[16]? = some (α.2 18, .int) := rfl
theorem sm_aM19 (σ : sm_S) (α : sm_A) : (sm_wM σ α)[19]? = some (α.1 19, .inl (α.2 19, σ.2.2.1 19, .inl (σ.2.2.2.1 19))) := rfl
theorem sm_rM19 (σ : sm_S) (α : sm_A) (f : Nat → Int32) : (sm_wM σ α).set 19 (α.1 19, .inl (α.2 19, σ.2.2.1 19, .inl f)) = sm_wM (sm_r σ 19 f) α := rfl
theorem sm_yM19 (α : sm_A) : (sm_tM α)[17]? = some (α.2 19, .int) := rfl
theorem sm_aM20 (σ : sm_S) (α : sm_A) : (sm_wM σ α)[20]? = some (α.1 20, .inl (α.2 20, σ.2.2.1 20, .inl (σ.2.2.2.1 20))) := rfl
theorem sm_rM20 (σ : sm_S) (α : sm_A) (f : Nat → Int32) : (sm_wM σ α).set 20 (α.1 20, .inl (α.2 20, σ.2.2.1 20, .inl f)) = sm_wM (sm_r σ 20 f) α := rfl
theorem sm_yM20 (α : sm_A) : (sm_tM α)[18]? = some (α.2 20, .int) := rfl
theorem sm_aM21 (σ : sm_S) (α : sm_A) : (sm_wM σ α)[21]? = some (α.1 21, .inl (α.2 21, σ.2.2.1 21, .inl (σ.2.2.2.1 21))) := rfl
theorem sm_rM21 (σ : sm_S) (α : sm_A) (f : Nat → Int32) : (sm_wM σ α).set 21 (α.1 21, .inl (α.2 21, σ.2.2.1 21, .inl f)) = sm_wM (sm_r σ 21 f) α := rfl
theorem sm_yM21 (α : sm_A) : (sm_tM α)[19]? = some (α.2 21, .int) := rfl
theorem sm_aM22 (σ : sm_S) (α : sm_A) : (sm_wM σ α)[22]? = some (α.1 22, .inl (α.2 22, σ.2.2.1 22, .inl (σ.2.2.2.1 22))) := rfl
theorem sm_rM22 (σ : sm_S) (α : sm_A) (f : Nat → Int32) : (sm_wM σ α).set 22 (α.1 22, .inl (α.2 22, σ.2.2.1 22, .inl f)) = sm_wM (sm_r σ 22 f) α := rfl
theorem sm_yM22 (α : sm_A) : (sm_tM α)[20]? = some (α.2 22, .byte) := rfl
theorem sm_aM23 (σ : sm_S) (α : sm_A) : (sm_wM σ α)[23]? = some (α.1 23, .inl (α.2 23, σ.2.2.1 23, .inl (σ.2.2.2.1 23))) := rfl
theorem sm_rM23 (σ : sm_S) (α : sm_A) (f : Nat → Int32) : (sm_wM σ α).set 23 (α.1 23, .inl (α.2 23, σ.2.2.1 23, .inl f)) = sm_wM (sm_r σ 23 f) α := rfl
theorem sm_yM23 (α : sm_A) : (sm_tM α)[21]? = some (α.2 23, .boolean) := rfl
theorem sm_aM24 (σ : sm_S) (α : sm_A) : (sm_wM σ α)[24]? = some (α.1 24, .inl (α.2 24, σ.2.2.1 24, .inl (σ.2.2.2.1 24))) := rfl
theorem sm_rM24 (σ : sm_S) (α : sm_A) (f : Nat → Int32) : (sm_wM σ α).set 24 (α.1 24, .inl (α.2 24, σ.2.2.1 24, .inl f)) = sm_wM (sm_r σ 24 f) α := rfl
theorem sm_yM24 (α : sm_A) : (sm_tM α)[22]? = some (α.2 24, .int) := rfl
theorem sm_aM25 (σ : sm_S) (α : sm_A) : (sm_wM σ α)[25]? = some (α.1 25, .inl (α.2 25, σ.2.2.1 25, .inl (σ.2.2.2.1 25))) := rfl
theorem sm_rM25 (σ : sm_S) (α : sm_A) (f : Nat → Int32) : (sm_wM σ α).set 25 (α.1 25, .inl (α.2 25, σ.2.2.1 25, .inl f)) = sm_wM (sm_r σ 25 f) α := rfl
theorem sm_yM25 (α : sm_A) : (sm_tM α)[23]? = some (α.2 25, .byte) := rfl
theorem sm_aM26 (σ : sm_S) (α : sm_A) : (sm_wM σ α)[26]? = some (α.1 26, .inl (α.2 26, σ.2.2.1 26, .inl (σ.2.2.2.1 26))) := rfl
theorem sm_rM26 (σ : sm_S) (α : sm_A) (f : Nat → Int32) : (sm_wM σ α).set 26 (α.1 26, .inl (α.2 26, σ.2.2.1 26, .inl f)) = sm_wM (sm_r σ 26 f) α := rfl
theorem sm_yM26 (α : sm_A) : (sm_tM α)[24]? = some (α.2 26, .int) := rfl
theorem sm_aM27 (σ : sm_S) (α : sm_A) : (sm_wM σ α)[27]? = some (α.1 27, .inl (α.2 27, σ.2.2.1 27, .inl (σ.2.2.2.1 27))) := rfl
theorem sm_rM27 (σ : sm_S) (α : sm_A) (f : Nat → Int32) : (sm_wM σ α).set 27 (α.1 27, .inl (α.2 27, σ.2.2.1 27, .inl f)) = sm_wM (sm_r σ 27 f) α := rfl
theorem sm_yM27 (α : sm_A) : (sm_tM α)[25]? = some (α.2 27, .boolean) := rfl
theorem sm_aM28 (σ : sm_S) (α : sm_A) : (sm_wM σ α)[28]? = some (α.1 28, .inl (α.2 28, σ.2.2.1 28, .inl (σ.2.2.2.1 28))) := rfl
theorem sm_rM28 (σ : sm_S) (α : sm_A) (f : Nat → Int32) : (sm_wM σ α).set 28 (α.1 28, .inl (α.2 28, σ.2.2.1 28, .inl f)) = sm_wM (sm_r σ 28 f) α := rfl
theorem sm_yM28 (α : sm_A) : (sm_tM α)[26]? = some (α.2 28, .byte) := rfl
theorem sm_aM29 (σ : sm_S) (α : sm_A) : (sm_wM σ α)[29]? = some (α.1 29, .inl (α.2 29, σ.2.2.1 29, .inl (σ.2.2.2.1 29))) := rfl
theorem sm_rM29 (σ : sm_S) (α : sm_A) (f : Nat → Int32) : (sm_wM σ α).set 29 (α.1 29, .inl (α.2 29, σ.2.2.1 29, .inl f)) = sm_wM (sm_r σ 29 f) α := rfl
theorem sm_yM29 (α : sm_A) : (sm_tM α)[27]? = some (α.2 29, .int) := rfl
theorem sm_aM30 (σ : sm_S) (α : sm_A) : (sm_wM σ α)[30]? = some (α.1 30, .inl (α.2 30, σ.2.2.1 30, .inl (σ.2.2.2.1 30))) := rfl
theorem sm_rM30 (σ : sm_S) (α : sm_A) (f : Nat → Int32) : (sm_wM σ α).set 30 (α.1 30, .inl (α.2 30, σ.2.2.1 30, .inl f)) = sm_wM (sm_r σ 30 f) α := rfl
theorem sm_yM30 (α : sm_A) : (sm_tM α)[28]? = some (α.2 30, .int) := rfl
theorem sm_aM31 (σ : sm_S) (α : sm_A) : (sm_wM σ α)[31]? = some (α.1 31, .inl (α.2 31, σ.2.2.1 31, .inl (σ.2.2.2.1 31))) := rfl
theorem sm_rM31 (σ : sm_S) (α : sm_A) (f : Nat → Int32) : (sm_wM σ α).set 31 (α.1 31, .inl (α.2 31, σ.2.2.1 31, .inl f)) = sm_wM (sm_r σ 31 f) α := rfl
theorem sm_yM31 (α : sm_A) : (sm_tM α)[29]? = some (α.2 31, .int) := rfl
theorem sm_aM32 (σ : sm_S) (α : sm_A) : (sm_wM σ α)[32]? = some (α.1 32, .inl (α.2 32, σ.2.2.1 32, .inl (σ.2.2.2.1 32))) := rfl
theorem sm_rM32 (σ : sm_S) (α : sm_A) (f : Nat → Int32) : (sm_wM σ α).set 32 (α.1 32, .inl (α.2 32, σ.2.2.1 32, .inl f)) = sm_wM (sm_r σ 32 f) α := rfl
theorem sm_yM32 (α : sm_A) : (sm_tM α)[30]? = some (α.2 32, .int) := rfl
theorem sm_aM33 (σ : sm_S) (α : sm_A) : (sm_wM σ α)[33]? = some (α.1 33, .inl (α.2 33, σ.2.2.1 33, .inl (σ.2.2.2.1 33))) := rfl
theorem sm_rM33 (σ : sm_S) (α : sm_A) (f : Nat → Int32) : (sm_wM σ α).set 33 (α.1 33, .inl (α.2 33, σ.2.2.1 33, .inl f)) = sm_wM (sm_r σ 33 f) α := rfl
theorem sm_yM33 (α : sm_A) : (sm_tM α)[31]? = some (α.2 33, .int) := rfl
theorem sm_aM34 (σ : sm_S) (α : sm_A) : (sm_wM σ α)[34]? = some (α.1 34, .inl (α.2 34, σ.2.2.1 34, .inl (σ.2.2.2.1 34))) := rfl
theorem sm_rM34 (σ : sm_S) (α : sm_A) (f : Nat → Int32) : (sm_wM σ α).set 34 (α.1 34, .inl (α.2 34, σ.2.2.1 34, .inl f)) = sm_wM (sm_r σ 34 f) α := rfl
theorem sm_yM34 (α : sm_A) : (sm_tM α)[32]? = some (α.2 34, .int) := rfl
theorem sm_aM35 (σ : sm_S) (α : sm_A) : (sm_wM σ α)[35]? = some (α.1 35, .inl (α.2 35, σ.2.2.1 35, .inl (σ.2.2.2.1 35))) := rfl
theorem sm_rM35 (σ : sm_S) (α : sm_A) (f : Nat → Int32) : (sm_wM σ α).set 35 (α.1 35, .inl (α.2 35, σ.2.2.1 35, .inl f)) = sm_wM (sm_r σ 35 f) α := rfl
theorem sm_yM35 (α : sm_A) : (sm_tM α)[33]? = some (α.2 35, .int) := rfl
theorem sm_aM36 (σ : sm_S) (α : sm_A) : (sm_wM σ α)[36]? = some (α.1 36, .inl (α.2 36, σ.2.2.1 36, .inl (σ.2.2.2.1 36))) := rfl
theorem sm_rM36 (σ : sm_S) (α : sm_A) (f : Nat → Int32) : (sm_wM σ α).set 36 (α.1 36, .inl (α.2 36, σ.2.2.1 36, .inl f)) = sm_wM (sm_r σ 36 f) α := rfl
theorem sm_yM36 (α : sm_A) : (sm_tM α)[34]? = some (α.2 36, .int) := rfl
theorem sm_aM37 (σ : sm_S) (α : sm_A) : (sm_wM σ α)[37]? = some (α.1 37, .inl (α.2 37, σ.2.2.1 37, .inl (σ.2.2.2.1 37))) := rfl
theorem sm_rM37 (σ : sm_S) (α : sm_A) (f : Nat → Int32) : (sm_wM σ α).set 37 (α.1 37, .inl (α.2 37, σ.2.2.1 37, .inl f)) = sm_wM (sm_r σ 37 f) α := rfl
theorem sm_yM37 (α : sm_A) : (sm_tM α)[35]? = some (α.2 37, .boolean) := rfl
theorem sm_aM38 (σ : sm_S) (α : sm_A) : (sm_wM σ α)[38]? = some (α.1 38, .inl (α.2 38, σ.2.2.1 38, .inl (σ.2.2.2.1 38))) := rfl
theorem sm_rM38 (σ : sm_S) (α : sm_A) (f : Nat → Int32) : (sm_wM σ α).set 38 (α.1 38, .inl (α.2 38, σ.2.2.1 38, .inl f)) = sm_wM (sm_r σ 38 f) α := rfl
theorem sm_yM38 (α : sm_A) : (sm_tM α)[36]? = some (α.2 38, .int) := rfl
theorem sm_aM39 (σ : sm_S) (α : sm_A) : (sm_wM σ α)[39]? = some (α.1 39, .inl (α.2 39, σ.2.2.1 39, .inl (σ.2.2.2.1 39))) := rfl
theorem sm_rM39 (σ : sm_S) (α : sm_A) (f : Nat → Int32) : (sm_wM σ α).set 39 (α.1 39, .inl (α.2 39, σ.2.2.1 39, .inl f)) = sm_wM (sm_r σ 39 f) α := rfl
theorem sm_yM39 (α : sm_A) : (sm_tM α)[37]? = some (α.2 39, .int) := rfl
