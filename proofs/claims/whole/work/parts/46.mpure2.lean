/-! PURE, 15: for the model's crashAll and byteAt -/
theorem pd_d33b (x : Int64) : x.toBitVec.toNat / 2 ^ 33 < 2 ^ 63 := by
  have := x.toBitVec.isLt
  omega
theorem pd_wi {z : Int32} {k : Nat} (hk : k ≤ 25600) (h1 : ¬ z < nI 0) (h2 : ¬ nI k - nI 1 < z) : ∃ j : Nat, j < k ∧ z = nI j := by
  obtain ⟨j, hj, rfl⟩ := nI_of (show ¬ z < 0 from h1)
  refine ⟨j, ?_, rfl⟩
  by_cases h0 : k = 0
  · subst h0
    refine absurd ?_ h2
    rw [Int32.lt_iff_toInt_lt, nI_toInt hj, show (nI 0 - nI 1).toInt = -1 by decide]
    omega
  · rw [pk_sub (by omega)] at h2
    exact Nat.not_le.mp fun q => h2 ((nI_ltI (by omega) hj).mpr (by omega))
theorem pd_wn {z : Int32} {k : Nat} (hk : k ≤ 25600) (h : z < nI 0 ∨ nI k - nI 1 < z) (j : Nat) (hj : j < k) : z ≠ nI j := fun q => by
  subst q
  rcases h with h | h
  · exact nI_pos (by omega) h
  · rw [pk_sub (by omega)] at h
    have := (nI_ltI (by omega) (by omega)).mp h
    omega
theorem pd_fi_sa {S U : pdS} {i w : Nat} (hi : i < 16) (h : pd_sa S U) : pd_fi U i w = pd_fi S i w := by
  unfold pd_fi
  rw [show U 4 = S 4 from h.2.2.1, show U 5 = S 5 from h.2.2.2.1, show U 6 = S 6 from h.2.2.2.2.1, pd_shd_sa (by omega) h]
theorem pd_sa_1 {S U : pdS} (h : ∀ b, b ≠ 1 → U b = S b) : pd_sa S U := ⟨h 0 (by decide), h 3 (by decide), h 4 (by decide), h 5 (by decide), h 6 (by decide), by rw [h 7 (by decide)], by rw [h 7 (by decide)], fun d _ => h (8 + d) (by omega)⟩
theorem pd_lrem20 {a : Nat} (ha : a < 2 ^ 63) : lN a - lN a / 1048576 * 1048576 = lN (a % 2 ^ 20) := by
  have e : (1048576 : Int64) = lN 1048576 := by decide
  rw [e, pd_lrem ha (by decide) (by decide), show (2 : Nat) ^ 20 = 1048576 by decide]
