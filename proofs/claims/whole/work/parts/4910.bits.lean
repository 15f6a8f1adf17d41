/-! ===== the class's cells: a kind and a number in one ===== -/
abbrev s32 : Int64 := (32 : Int32).toInt64 &&& 63
def mkc (k : Nat) (v : Int32) : Int64 := ((nI k).toInt64 <<< s32) ||| (v.toInt64 &&& 4294967295)
theorem s32_v : (s32.toBitVec.smod 64).toNat = 32 := by decide
theorem sx_nat (v : Int32) : (v.toInt64 &&& 4294967295).toBitVec.toNat = v.toBitVec.toNat := by
  show (v.toBitVec.signExtend 64 &&& 4294967295#64).toNat = v.toBitVec.toNat
  have h : v.toBitVec.signExtend 64 &&& 4294967295#64 = v.toBitVec.setWidth 64 := by
    apply BitVec.eq_of_getLsbD_eq
    intro i hi
    have hm : ∀ i, i < 64 → (4294967295#64).getLsbD i = decide (i < 32) := by decide
    rw [BitVec.getLsbD_and, hm i hi, BitVec.getLsbD_signExtend, BitVec.getLsbD_setWidth]
    by_cases c : i < 32
    · simp [c, hi]
    · simp [c, hi]
      exact BitVec.getLsbD_of_ge _ _ (by omega)
  rw [h, BitVec.toNat_setWidth]
  have := v.toBitVec.isLt
  omega
theorem kx_nat {k : Nat} (hk : k < 8) : ((nI k).toInt64 <<< s32).toBitVec.toNat = k * 2 ^ 32 := by
  have key : ∀ k, k < 8 → ((nI k).toInt64 <<< s32).toBitVec.toNat = k * 2 ^ 32 := by decide
  exact key k hk
theorem mk_nat {k : Nat} (hk : k < 8) (v : Int32) : (mkc k v).toBitVec.toNat = k * 2 ^ 32 + v.toBitVec.toNat := by
  show (((nI k).toInt64 <<< s32).toBitVec ||| (v.toInt64 &&& 4294967295).toBitVec).toNat = _
  rw [BitVec.toNat_or, kx_nat hk, sx_nat]
  have h := v.toBitVec.isLt
  rw [Nat.mul_comm k, ← Nat.two_pow_add_eq_or_of_lt h k]
theorem mk_lo {k : Nat} (hk : k < 8) (v : Int32) : (mkc k v).toInt32 = v := by
  apply Int32.toBitVec_inj.mp
  apply BitVec.eq_of_toNat_eq
  show ((mkc k v).toBitVec.signExtend 32).toNat = v.toBitVec.toNat
  rw [BitVec.signExtend_eq_setWidth_of_le _ (by decide), BitVec.toNat_setWidth, mk_nat hk]
  have h := v.toBitVec.isLt
  omega
theorem mk_hi {k : Nat} (hk : k < 8) (v : Int32) : mkc k v >>> s32 = (nI k).toInt64 := by
  apply Int64.toBitVec_inj.mp
  apply BitVec.eq_of_toNat_eq
  have h := v.toBitVec.isLt
  have hn := mk_nat hk v
  have hm : (mkc k v).toBitVec.msb = false := by
    rw [BitVec.msb_eq_false_iff_two_mul_lt, hn]
    omega
  show (BitVec.sshiftRight' (mkc k v).toBitVec (s32.toBitVec.smod 64)).toNat = _
  rw [BitVec.toNat_sshiftRight'_of_msb_false hm, s32_v, hn, Nat.shiftRight_eq_div_pow]
  have key : ∀ k, k < 8 → (nI k).toInt64.toBitVec.toNat = k := by decide
  rw [key k hk]
  omega
theorem mk_kd {k : Nat} (hk : k < 8) (v : Int32) : (mkc k v >>> s32).toInt32 = nI k := by
  rw [mk_hi hk]
  exact Int32.toInt32_toInt64 _
theorem mk_inj {k k' : Nat} {v v' : Int32} (hk : k < 8) (hk' : k' < 8) (h : mkc k v = mkc k' v') : k = k' ∧ v = v' := by
  have h1 : (mkc k v).toInt32 = (mkc k' v').toInt32 := by rw [h]
  have h2 : (mkc k v >>> s32).toInt32 = (mkc k' v' >>> s32).toInt32 := by rw [h]
  rw [mk_lo hk, mk_lo hk'] at h1
  rw [mk_kd hk, mk_kd hk'] at h2
  exact ⟨(nI_eq (by omega) (by omega)).mp h2, h1⟩
theorem mk_c1 {k : Nat} (hk : k < 8) (v : Int32) : lg_cmp (mkc k v >>> s32) 1 = 0 ↔ k = 1 := by
  rw [mk_hi hk]
  have key : ∀ k, k < 8 → (lg_cmp (nI k).toInt64 1 = 0 ↔ k = 1) := by decide
  exact key k hk
theorem mk_0 : (0 : Int64) = mkc 0 0 := by decide
theorem mk_1 : (1 : Int64) = mkc 0 1 := by decide
theorem mk_nil : (4294967296 : Int64) = mkc 1 0 := by decide
theorem mk_N {n : Nat} (h : n < 2 ^ 31) : (nI n).toInt64 = mkc 0 (nI n) := by
  apply Int64.toBitVec_inj.mp
  apply BitVec.eq_of_toNat_eq
  rw [mk_nat (by decide)]
  show ((nI n).toBitVec.signExtend 64).toNat = _
  have hb : (nI n).toBitVec.toNat = n := by
    show (BitVec.ofNat 32 n).toNat = n
    rw [BitVec.toNat_ofNat]; omega
  have hm : (nI n).toBitVec.msb = false := by
    rw [BitVec.msb_eq_false_iff_two_mul_lt, hb]; omega
  rw [BitVec.signExtend_eq_setWidth_of_msb_false hm, BitVec.toNat_setWidth, hb]
  omega
theorem mk_mv {n : Nat} (h : n < 2 ^ 31) : 25769803776 ||| (nI n).toInt64 = mkc 6 (nI n) := by
  have e : mkc 6 (nI n) = ((nI 6).toInt64 <<< s32) ||| ((nI n).toInt64 &&& 4294967295) := rfl
  have e6 : (nI 6).toInt64 <<< s32 = 25769803776 := by decide
  have en : (nI n).toInt64 &&& 4294967295 = (nI n).toInt64 := by
    apply Int64.toBitVec_inj.mp
    apply BitVec.eq_of_toNat_eq
    rw [sx_nat, mk_N h, mk_nat (by decide)]
    omega
  rw [e, e6, en]
theorem mk_m1 {k : Nat} (hk : k < 8) (v : Int32) : mkc k v ≠ -1 := by
  intro h
  have h2 : (mkc k v >>> s32).toInt32 = ((-1 : Int64) >>> s32).toInt32 := by rw [h]
  rw [mk_kd hk] at h2
  exact nI_m1 (by omega) (h2.trans (by decide))
