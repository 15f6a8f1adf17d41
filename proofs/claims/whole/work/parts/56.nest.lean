section SMN
variable {p : Program} {l : Launch} {e : Env} {R : Room} {s : State} {m : MethodId} {args : Array Value} {below : List Frame} {meth : Method} {c : Code} {H : Heap} {locs : List Loc} {cells slots : Nat} {Q : State → Prop}
variable {w : sm_S → sm_A → va_W} {ty : sm_A → List (ClassId × FieldType)} {N : Nat} {D : va_G} {t0 : Nat} {σ : sm_S} {α : sm_A} {A : Nat → Prop}
variable {pc : Nat} {ls : Array Slot} {st0 rest As : List Value} {y : MethodName} {ws : List Cond} {rm : Room} {Ts : List Cond} {cc bytes : ByteArray} {nL maxL index n b : Nat} {own C host : String} {ret : Option FieldType}
theorem sm_nvi {K : Int32 → sm_S → Prop} (hP : va_P D vwCl (w σ α) H) (hK : va_K D vwCl (ty α) s) (hD : sm_D A α N) (hE : sm_E t0 A s) (hS : va_S A s.heap H locs) (hA : ∀ q : Nat, s.heap.size ≤ q → A q) (S : CallFix p m c cc nL s args Ts own) (hsz : ls.size = nL)
    (hM : Met l y ws rm (sm_P w ty N D H.size t0 σ α (.ref b :: As)) (va_Qi K (sm_B w D α) (sm_a α N H.size)) 0 0 (sm_a α N H.size)) (cw : va_CN R s args own index y host bytes maxL ret ws rm 0 0 n ∧ (Cond.instanceMethod y).before args s = true ∧ (Cond.selects C y y).before args s = true) (hr : ∃ cellB : Cell, H[b]? = some cellB ∧ cellB.vm.isStatics = false ∧ s.vm.findClass C = some cellB.cls) (hn : As.length = n) (hst : st0 = As.reverse ++ .ref b :: rest) (hW : (rest.map fun v => v.category).sum ≤ 8) (hdg : decode cc pc = .ok (.invokevirtual index, 3)) (hf : cells ≤ R.cells ∧ slots ≤ R.slots)
    (kk : ∀ (r : Int32) (σ' : sm_S) (H1 : Heap) (locs1 : List Loc), K r σ' → va_P D vwCl (w σ' α) H1 → va_S A s.heap H1 locs1 → W p l e R s m args below meth c H1 locs1 cells slots Q (F0 m (pc + 3) ls (.int r :: rest))) : W p l e R s m args below meth c H locs cells slots Q (F0 m pc ls st0) := by
  have hs := sm_sub hD hA hS.1
  refine va_calli (va_runVN (g := F0 m pc ls st0) S hM cw ⟨sm_P.blind, hr, sm_P.at hP hK hD hE hS hA⟩ rfl hn hsz hst (lv_room hW) hdg hf) hS (fun q _ h => hs q h) hs (fun r u t H1 locs1 ht hvm hw hB hz1 hk1 hS1 => ?_)
  exact kk r u H1 locs1 hw (by rw [← ht]; exact hB) hS1
theorem sm_nsi {K : Int32 → sm_S → Prop} (hP : va_P D vwCl (w σ α) H) (hK : va_K D vwCl (ty α) s) (hD : sm_D A α N) (hE : sm_E t0 A s) (hS : va_S A s.heap H locs) (hA : ∀ q : Nat, s.heap.size ≤ q → A q) (S : CallFix p m c cc nL s args Ts own) (hsz : ls.size = nL)
    (hM : Met l y ws rm (sm_P w ty N D H.size t0 σ α As) (va_Qi K (sm_B w D α) (sm_a α N H.size)) 0 0 (sm_a α N H.size)) (cw : va_CN R s args own index y host bytes maxL ret ws rm 0 0 n ∧ (Cond.static y).before args s = true ∧ True) (hn : As.length = n) (hst : st0 = As.reverse ++ rest) (hW : (rest.map fun v => v.category).sum ≤ 8) (hdg : decode cc pc = .ok (.invokestatic index, 3)) (hf : cells ≤ R.cells ∧ slots ≤ R.slots)
    (kk : ∀ (r : Int32) (σ' : sm_S) (H1 : Heap) (locs1 : List Loc), K r σ' → va_P D vwCl (w σ' α) H1 → va_S A s.heap H1 locs1 → W p l e R s m args below meth c H1 locs1 cells slots Q (F0 m (pc + 3) ls (.int r :: rest))) : W p l e R s m args below meth c H locs cells slots Q (F0 m pc ls st0) := by
  have hs := sm_sub hD hA hS.1
  refine va_calli (va_runSN (g := F0 m pc ls st0) S hM cw ⟨sm_P.blind, sm_P.at hP hK hD hE hS hA⟩ rfl hn hsz hst (lv_room hW) hdg hf) hS (fun q _ h => hs q h) hs (fun r u t H1 locs1 ht hvm hw hB hz1 hk1 hS1 => ?_)
  exact kk r u H1 locs1 hw (by rw [← ht]; exact hB) hS1
end SMN
