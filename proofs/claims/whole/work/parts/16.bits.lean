/-! PURE, 6: bytes of longs (wb_tb, wb_inj, wb_c, wb_cu, wb_sm, wb_shl, wb_and, wb_or and their like begin as rows of kit/laws/BITS.to-paste) -/
theorem wb_tb (n : Nat) : (lN n).toBitVec = BitVec.ofNat 64 n := rfl
theorem wb_inj {a b : Int64} (h : a.toBitVec = b.toBitVec) : a = b := Int64.toBitVec_inj.mp h
theorem wb_c : ∀ k, k < 64 → ((nI k).toInt64 &&& 63) = lN k := by decide +kernel
theorem wb_cu : ∀ k, k < 64 → ((nI k).toInt64.toUInt64 &&& Int64.toUInt64 63) = UInt64.ofNat k := by decide +kernel
theorem wb_sm : ∀ k, k < 64 → (BitVec.ofNat 64 k).smod 64 = BitVec.ofNat 64 k := by decide +kernel
/-- byte k of a long -/
def pd_bv (x : Int64) (k : Nat) : Nat := x.toBitVec.toNat / 2 ^ (8 * k) % 2 ^ 8
theorem pd_bv_lt (x : Int64) (k : Nat) : pd_bv x k < 256 := Nat.mod_lt _ (by decide)
theorem pd_bv_bit (x : Int64) (k i : Nat) : (pd_bv x k).testBit i = (decide (i < 8) && x.toBitVec.getLsbD (8 * k + i)) := by
  unfold pd_bv
  rw [Nat.testBit_mod_two_pow, Nat.testBit_div_two_pow, BitVec.testBit_toNat, Nat.add_comm i]
theorem pd_ushr_bit (x : Int64) {k : Nat} (hk : k < 64) (i : Nat) : ((x.toUInt64 >>> ((nI k).toInt64.toUInt64 &&& Int64.toUInt64 63)).toInt64).toBitVec.getLsbD i = x.toBitVec.getLsbD (k + i) := by
  rw [wb_cu k hk]
  have e : (x.toUInt64 >>> UInt64.ofNat k).toInt64.toBitVec = x.toBitVec >>> k := by
    apply BitVec.eq_of_toNat_eq
    show (x.toUInt64 >>> UInt64.ofNat k).toNat = _
    have h1 : (UInt64.ofNat k).toNat = k := by
      show (BitVec.ofNat 64 k).toNat = k
      rw [BitVec.toNat_ofNat, Nat.mod_eq_of_lt (by omega)]
    rw [UInt64.toNat_shiftRight, h1, Nat.mod_eq_of_lt hk, BitVec.toNat_ushiftRight]
    rfl
  rw [e, BitVec.getLsbD_ushiftRight]
theorem pd_sshr_bit (x : Int64) {k i : Nat} (hk : k < 64) (hi : k + i < 64) : (x >>> ((nI k).toInt64 &&& 63)).toBitVec.getLsbD i = x.toBitVec.getLsbD (k + i) := by
  rw [wb_c k hk, Int64.toBitVec_shiftRight, wb_tb, wb_sm k hk, BitVec.sshiftRight_eq', BitVec.toNat_ofNat, Nat.mod_eq_of_lt (show k < 2 ^ 64 by omega), BitVec.getLsbD_sshiftRight]
  simp only [show ¬ 64 ≤ i by omega, decide_false, Bool.not_false, Bool.true_and, hi, if_true]
theorem pd_nI_bit (v i : Nat) : (nI v).toBitVec.getLsbD i = (decide (i < 32) && v.testBit i) := by
  show (BitVec.ofNat 32 v).getLsbD i = _
  rw [BitVec.getLsbD_ofNat]
theorem pd_255 : ∀ i, i < 64 → (255 : Int64).toBitVec.getLsbD i = decide (i < 8) := by decide +kernel
/-- (int) (x >> 8k & 255L) -/
theorem pd_rd (x : Int64) {k : Nat} (hk : k < 8) : ((x >>> ((nI (8 * k)).toInt64 &&& 63)) &&& 255).toInt32 = nI (pd_bv x k) := by
  apply Int32.toBitVec_inj.mp
  rw [Int64.toBitVec_toInt32]
  apply BitVec.eq_of_getLsbD_eq
  intro i hi
  rw [pd_nI_bit, pd_bv_bit, BitVec.getLsbD_signExtend, if_pos (show i < 64 by omega), Int64.toBitVec_and, BitVec.getLsbD_and, pd_255 i (by omega)]
  by_cases h8 : i < 8
  · rw [pd_sshr_bit x (by omega) (by omega)]
    simp [h8, hi]
  · simp [h8, hi]
/-- (byte) (x >>> 8k) -/
theorem pd_rb (x : Int64) {k : Nat} (hk : k < 8) : ((x.toUInt64 >>> ((nI (8 * k)).toInt64.toUInt64 &&& Int64.toUInt64 63)).toInt64.toInt32).toInt8.toInt32 = sb_b (pd_bv x k) := by
  unfold sb_b
  congr 1
  apply Int8.toBitVec_inj.mp
  rw [Int32.toBitVec_toInt8, Int32.toBitVec_toInt8, Int64.toBitVec_toInt32]
  apply BitVec.eq_of_getLsbD_eq
  intro i hi
  rw [BitVec.getLsbD_signExtend, BitVec.getLsbD_signExtend, BitVec.getLsbD_signExtend, if_pos (show i < 32 by omega), if_pos (show i < 64 by omega), if_pos (show i < 32 by omega), pd_ushr_bit x (by omega), pd_nI_bit, pd_bv_bit]
  simp [hi, show i < 32 by omega]
/-- eight bytes as one long -/
def pd_pk (f : Nat → Nat) : Nat → Nat
  | 0 => 0
  | m + 1 => 2 ^ (8 * m) * f m + pd_pk f m
def pd_lw (b : Nat → Nat) (w : Nat) : Int64 := lN (pd_pk (fun t => b (8 * w + t)) 8)
theorem pd_pk_lt {f : Nat → Nat} (h : ∀ t, f t < 256) : ∀ m, pd_pk f m < 2 ^ (8 * m)
  | 0 => Nat.one_pos
  | m + 1 => by
    have h1 := pd_pk_lt h m
    have h2 := h m
    simp only [pd_pk]
    have e : 2 ^ (8 * (m + 1)) = 2 ^ (8 * m) * 256 := by rw [show 8 * (m + 1) = 8 * m + 8 by omega, Nat.pow_add]
    rw [e]
    have h3 : 2 ^ (8 * m) * f m ≤ 2 ^ (8 * m) * 255 := Nat.mul_le_mul_left _ (by omega)
    omega
theorem pd_pk_bit {f : Nat → Nat} (h : ∀ t, f t < 256) : ∀ m i, i < 8 * m → (pd_pk f m).testBit i = (f (i / 8)).testBit (i % 8)
  | 0, i, hi => absurd hi (by omega)
  | m + 1, i, hi => by
    simp only [pd_pk]
    rw [Nat.testBit_two_pow_mul_add _ (pd_pk_lt h m)]
    by_cases hl : i < 8 * m
    · rw [if_pos hl, pd_pk_bit h m i hl]
    · rw [if_neg hl, show i / 8 = m by omega, show i - 8 * m = i % 8 by omega]
theorem pd_lw_bit {b : Nat → Nat} (h : ∀ t, b t < 256) (w : Nat) {i : Nat} (hi : i < 64) : (pd_lw b w).toBitVec.getLsbD i = (b (8 * w + i / 8)).testBit (i % 8) := by
  unfold pd_lw
  rw [wb_tb, BitVec.getLsbD_ofNat, pd_pk_bit (f := fun t => b (8 * w + t)) (fun t => h _) 8 i (by omega)]
  simp [hi]
theorem pd_lw_bv {b : Nat → Nat} (h : ∀ t, b t < 256) (w : Nat) {k : Nat} (hk : k < 8) : pd_bv (pd_lw b w) k = b (8 * w + k) := by
  apply Nat.eq_of_testBit_eq
  intro i
  rw [pd_bv_bit]
  by_cases hi : i < 8
  · rw [pd_lw_bit h w (show 8 * k + i < 64 by omega), show (8 * k + i) / 8 = k by omega, show (8 * k + i) % 8 = i by omega]
    simp [hi]
  · have h1 := h (8 * w + k)
    have h2 : (b (8 * w + k)).testBit i = false := Nat.testBit_lt_two_pow (Nat.lt_of_lt_of_le h1 (show 2 ^ 8 ≤ 2 ^ i from Nat.pow_le_pow_right (by decide) (by omega)))
    rw [h2]
    simp [hi]
theorem pd_lw_in {b : Nat → Nat} (h : ∀ t, b t < 256) (w : Nat) {k v : Nat} (hk : k < 8) (hv : v < 256) : (pd_lw b w &&& (((255 : Int64) <<< ((nI (8 * k)).toInt64 &&& 63)) ^^^ (-1))) ||| ((nI v).toInt64 <<< ((nI (8 * k)).toInt64 &&& 63)) = pd_lw (va_up b (8 * w + k) v) w := by
  have h' : ∀ t, va_up b (8 * w + k) v t < 256 := fun t => by
    unfold va_up
    by_cases q : t = 8 * w + k
    · rw [if_pos q]
      exact hv
    · rw [if_neg q]
      exact h t
  apply wb_inj
  apply BitVec.eq_of_getLsbD_eq
  intro i hi
  rw [pd_lw_bit h' w hi, Int64.toBitVec_or, Int64.toBitVec_and, Int64.toBitVec_xor, BitVec.getLsbD_or, BitVec.getLsbD_and, BitVec.getLsbD_xor, pd_lw_bit h w hi, wb_c (8 * k) (by omega), Int64.toBitVec_shiftLeft, Int64.toBitVec_shiftLeft, wb_tb, wb_sm (8 * k) (by omega), BitVec.shiftLeft_eq', BitVec.shiftLeft_eq', BitVec.toNat_ofNat, Nat.mod_eq_of_lt (show 8 * k < 2 ^ 64 by omega), BitVec.getLsbD_shiftLeft, BitVec.getLsbD_shiftLeft, nI_l (show v < 2 ^ 31 by omega), wb_tb, BitVec.getLsbD_ofNat]
  have hm1 : ∀ i, i < 64 → (-1 : Int64).toBitVec.getLsbD i = true := by decide +kernel
  rw [hm1 i hi]
  by_cases hlo : i < 8 * k
  · rw [va_up_ne _ _ (show 8 * w + i / 8 ≠ 8 * w + k by omega)]
    simp [hlo, hi]
  · rw [pd_255 (i - 8 * k) (by omega)]
    by_cases hhi : i - 8 * k < 8
    · rw [show i / 8 = k by omega, va_up_self, show i % 8 = i - 8 * k by omega]
      simp [hlo, hi, hhi, show i - 8 * k < 64 by omega]
    · rw [va_up_ne _ _ (show 8 * w + i / 8 ≠ 8 * w + k by omega)]
      have h2 : v.testBit (i - 8 * k) = false := Nat.testBit_lt_two_pow (Nat.lt_of_lt_of_le hv (show 2 ^ 8 ≤ 2 ^ (i - 8 * k) from Nat.pow_le_pow_right (by decide) (by omega)))
      simp [hlo, hi, hhi, h2]
theorem pd_lw_out {b : Nat → Nat} {w w' k v : Nat} (hk : k < 8) (hw : w' ≠ w) : pd_lw (va_up b (8 * w + k) v) w' = pd_lw b w' := by
  unfold pd_lw
  simp only [pd_pk]
  simp only [va_up_ne b v (show 8 * w' + 0 ≠ 8 * w + k by omega), va_up_ne b v (show 8 * w' + 1 ≠ 8 * w + k by omega), va_up_ne b v (show 8 * w' + 2 ≠ 8 * w + k by omega), va_up_ne b v (show 8 * w' + 3 ≠ 8 * w + k by omega), va_up_ne b v (show 8 * w' + 4 ≠ 8 * w + k by omega), va_up_ne b v (show 8 * w' + 5 ≠ 8 * w + k by omega), va_up_ne b v (show 8 * w' + 6 ≠ 8 * w + k by omega), va_up_ne b v (show 8 * w' + 7 ≠ 8 * w + k by omega)]
