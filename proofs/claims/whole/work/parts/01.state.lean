abbrev sm_S : Type := (Nat → Int32) × (Nat → Int64) × (Nat → Nat) × (Nat → Nat → Int32) × (Nat → Nat → Int64)
abbrev sm_i (σ : sm_S) (k : Nat) (v : Int32) : sm_S := (va_up σ.1 k v, σ.2)
abbrev sm_j (σ : sm_S) (k : Nat) (v : Int64) : sm_S := (σ.1, va_up σ.2.1 k v, σ.2.2)
abbrev sm_n (σ : sm_S) (k : Nat) (v : Nat) : sm_S := (σ.1, σ.2.1, va_up σ.2.2.1 k v, σ.2.2.2)
abbrev sm_r (σ : sm_S) (k : Nat) (f : Nat → Int32) : sm_S := (σ.1, σ.2.1, σ.2.2.1, va_up σ.2.2.2.1 k f, σ.2.2.2.2)
abbrev sm_q (σ : sm_S) (k : Nat) (f : Nat → Int64) : sm_S := (σ.1, σ.2.1, σ.2.2.1, σ.2.2.2.1, va_up σ.2.2.2.2 k f)
def sm_z (x : Int32) : Prop := narrow .boolean (.int x) = .int x ∧ fits .boolean (.int x) = true
theorem sm_z0 : sm_z 0 := ⟨rfl, rfl⟩
theorem sm_z1 : sm_z 1 := ⟨rfl, rfl⟩
def sm_sz (j : Nat) : Int32 := ([5, 1, 2, 2, 1, 1, 1, 1, 1, 1, 1, 1, 1, 1, 1, 1, 1, 1, 1, 4, 4, 3, 3, 3, 3, 3, 2, 3, 3, 2, 2, 2, 1, 1, 1, 2, 3, 1, 1, 1, 1, 1] : List Int32).getD j 0
abbrev sm_x (σ : sm_S) (k : Nat) (n : Nat) (f : Nat → Int32) : sm_S := (σ.1, σ.2.1, va_up σ.2.2.1 k n, va_up σ.2.2.2.1 k f, σ.2.2.2.2)
abbrev sm_xq (σ : sm_S) (k : Nat) (n : Nat) (f : Nat → Int64) : sm_S := (σ.1, σ.2.1, va_up σ.2.2.1 k n, σ.2.2.2.1, va_up σ.2.2.2.2 k f)
def mp_copyOf (n0 : Nat) (f : Nat → Int32) (v : Int32) : Prop := ¬ v = nI n0 ∧ ¬ v < nI n0 ∧ ¬ v < 0 ∧ ¬ nI n0 < 0 ∧ v.toNatClampNeg * 1 ≤ 536870912 ∧ (0 : Int32).toNatClampNeg + (nI n0).toNatClampNeg ≤ n0 ∧ (0 : Int32).toNatClampNeg + (nI n0).toNatClampNeg ≤ v.toNatClampNeg ∧ ∀ i : Nat, i < (nI n0).toNatClampNeg → fits .byte (.int (f ((0 : Int32).toNatClampNeg + i))) = true
abbrev sm_cp (n0 : Nat) (f : Nat → Int32) : Nat → Int32 := va_cpy f (fun _ => 0) (0 : Int32).toNatClampNeg (0 : Int32).toNatClampNeg (nI n0).toNatClampNeg
