/-! PURE, 10: what a crash of all files draws -/
def pd_kp (x : Int64) (sz lo : Nat) : Nat := if x.toBitVec.toNat / 2 ^ 61 = 0 then 0 else 1 + (x.toBitVec.toNat / 2 ^ 33 % 2 ^ 20) % (2 * (sz - lo) + 1)
theorem pd_ushr (x : Int64) {k : Nat} (hk : k < 64) : (x.toUInt64 >>> ((nI k).toInt64.toUInt64 &&& Int64.toUInt64 63)).toInt64 = lN (x.toBitVec.toNat / 2 ^ k) := by
  apply wb_inj
  apply BitVec.eq_of_getLsbD_eq
  intro i hi
  rw [pd_ushr_bit x hk, wb_tb, BitVec.getLsbD_ofNat, Nat.testBit_div_two_pow, BitVec.testBit_toNat, Nat.add_comm i]
  simp [hi]
theorem pd_lg0 (n : Nat) (h : n < 2 ^ 63) : lg_cmp (lN n) 0 = 0 ↔ n = 0 := by
  have e : (0 : Int64) = lN 0 := rfl
  rw [e]
  unfold lg_cmp
  by_cases h0 : n = 0
  · subst h0
    simp
  · have h1 : lN 0 < lN n := (pk_lLT (by omega) h).mpr (by omega)
    rw [if_pos h1]
    simp [h0]
theorem pd_lo20 {n : Nat} (h : n < 2 ^ 64) : (lN n &&& 1048575).toInt32 = nI (n % 2 ^ 20) := by
  have e : lN n &&& 1048575 = lN (n % 2 ^ 20) := by
    apply wb_inj
    rw [Int64.toBitVec_and, wb_tb, wb_tb]
    apply BitVec.eq_of_toNat_eq
    show (BitVec.ofNat 64 n &&& BitVec.ofNat 64 1048575).toNat = _
    rw [BitVec.toNat_and, BitVec.toNat_ofNat, BitVec.toNat_ofNat, BitVec.toNat_ofNat, Nat.mod_eq_of_lt h, Nat.mod_eq_of_lt (show 1048575 < 2 ^ 64 by decide), Nat.mod_eq_of_lt (Nat.lt_trans (Nat.mod_lt _ (by decide)) (by decide : 2 ^ 20 < 2 ^ 64))]
    exact Nat.and_two_pow_sub_one_eq_mod n 20
  rw [e, lN_i]
theorem pd_d61 (x : Int64) : x.toBitVec.toNat / 2 ^ 61 < 2 ^ 63 := by
  have := x.toBitVec.isLt
  omega
theorem pd_d33 (x : Int64) : x.toBitVec.toNat / 2 ^ 33 < 2 ^ 64 := by
  have := x.toBitVec.isLt
  omega
theorem pd_max1 {y : Nat} (h : 0 < y) (hy : y < 2 ^ 31) : (if nI 1 < nI y then nI y else nI 1) = nI y := by
  by_cases h1 : 1 < y
  · rw [if_pos ((nI_ltI (by decide) hy).mpr h1)]
  · rw [show y = 1 by omega]
    rw [if_neg (fun q => by have := (nI_ltI (by decide) (by decide)).mp q; omega)]
