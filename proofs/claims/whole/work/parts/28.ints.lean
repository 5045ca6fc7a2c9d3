/-! PURE, 12: ints in a range; the tape fed -/
theorem pd_rng {k : Int32} {a b : Nat} (ha : a < 2 ^ 31) (hb : b < 2 ^ 31) (h1 : ¬ k < nI a) (h2 : ¬ nI b < k) : ∃ j : Nat, a ≤ j ∧ j ≤ b ∧ k = nI j := by
  have h0 : ¬ k < 0 := fun q => h1 (Int32.lt_of_lt_of_le q (nI_pos' ha))
  obtain ⟨j, hj, rfl⟩ := nI_of h0
  exact ⟨j, Nat.not_lt.mp fun q => h1 ((nI_ltI hj ha).mpr q), Nat.not_lt.mp fun q => h2 ((nI_ltI hb hj).mpr q), rfl⟩
theorem pd_below {k : Int32} {a : Nat} (h : k < nI a) (j : Nat) (h1 : a ≤ j) (h2 : j < 2 ^ 31) : k ≠ nI j := fun q => by
  subst q
  have := (nI_ltI h2 (by omega)).mp h
  omega
theorem pd_above {k : Int32} {b : Nat} (hb : b < 2 ^ 31) (h : nI b < k) (j : Nat) (h1 : j ≤ b) : k ≠ nI j := fun q => by
  subst q
  have := (nI_ltI hb (by omega)).mp h
  omega
def pd_tp (S : pdS) (x : Int64) (a : Nat) : Nat → pdS
  | 0 => S
  | m + 1 => pd_st (pd_tp S x a m) 3 (a + m) (pd_bv x m)
theorem pd_tp_bk {S : pdS} {x : Int64} {a b : Nat} (hb : b ≠ 3) : ∀ m, pd_tp S x a m b = S b
  | 0 => rfl
  | m + 1 => by
    simp only [pd_tp]
    rw [pd_bk _ hb, pd_tp_bk hb m]
/-- the tape behind feed -/
def pd_fd (S : pdS) (x : Int64) (j : Nat) : pdS := pd_st (pd_tp S x (S 7 2) j) 7 2 (S 7 2 + j)
theorem pd_tp_at {S : pdS} {x : Int64} {a i : Nat} : ∀ m, pd_tp S x a m 3 i = if a ≤ i ∧ i < a + m then pd_bv x (i - a) else S 3 i
  | 0 => by
    rw [if_neg (by omega)]
    rfl
  | m + 1 => by
    simp only [pd_tp]
    rw [pd_at]
    by_cases hi : i = a + m
    · subst hi
      rw [if_pos ⟨rfl, rfl⟩, if_pos (by omega), show a + m - a = m by omega]
    · rw [if_neg (fun q => hi q.2), pd_tp_at m]
      by_cases h : a ≤ i ∧ i < a + m
      · rw [if_pos h, if_pos (by omega)]
      · rw [if_neg h, if_neg (by omega)]
theorem pd_fd_v {S : pdS} {N : Nat} {x : Int64} {j : Nat} (hv : pd_v N S) (hj : S 7 2 + j ≤ 4096) : pd_v N (pd_fd S x j) := by
  have hb : ∀ b, b ≠ 3 → b ≠ 7 → pd_fd S x j b = S b := fun b h3 h7 => by
    unfold pd_fd
    rw [pd_bk _ h7, pd_tp_bk h3]
  obtain ⟨v1, v2, v3, v4, v5, v6⟩ := hv
  refine ⟨fun c hc => by rw [hb 4 (by decide) (by decide), hb 5 (by decide) (by decide)]; exact v1 c hc, fun c k hc hk => ?_, fun c d k i hc hd hk hi => ?_, ?_, fun i => ?_, by rw [hb 0 (by decide) (by decide)]; exact v6⟩
  · rw [hb 4 (by decide) (by decide)] at hk
    rw [hb (8 + c) (by omega) (by omega)]
    exact v2 c k hc hk
  · rw [hb 4 (by decide) (by decide)] at hk hi
    rw [hb (8 + c) (by omega) (by omega), hb (8 + d) (by omega) (by omega)]
    exact v3 c d k i hc hd hk hi
  · unfold pd_fd
    rw [pd_self]
    exact hj
  · unfold pd_fd
    rw [pd_bk _ (by decide), pd_tp_at]
    by_cases h : S 7 2 ≤ i ∧ i < S 7 2 + j
    · rw [if_pos h]
      exact pd_bv_lt _ _
    · rw [if_neg h]
      exact v5 i
theorem pd_fd_ct {S : pdS} {x : Int64} {j : Nat} (p : Nat) : pd_ct (pd_fd S x j) p = pd_ct S p := pd_ct_congr (by unfold pd_fd; rw [pd_bk _ (by decide), pd_tp_bk (by decide)]) (fun d _ k _ => by unfold pd_fd; rw [pd_bk _ (by omega), pd_tp_bk (by omega)]) p
theorem pd_fd_ok {S : pdS} {n : Nat} {x : Int64} {j : Nat} (h : pd_ok n S (pd_ct S)) : pd_ok n (pd_fd S x j) (pd_ct (pd_fd S x j)) := by
  refine pd_ok_congr (pd_ok_eqv h ?_ ?_ ?_) (fun p _ => (pd_fd_ct p).symm)
  · unfold pd_fd
    rw [pd_bk _ (by decide), pd_tp_bk (by decide)]
  · unfold pd_fd
    rw [pd_bk _ (by decide), pd_tp_bk (by decide)]
  · unfold pd_fd
    rw [pd_ne _ (by decide), pd_tp_bk (by decide)]
theorem pd_fd_eq {S Q : pdS} {x : Int64} {j : Nat} (e : pd_eq S Q) : pd_eq (pd_fd S x j) (pd_fd Q x j) := by
  have hb : ∀ (T : pdS) b, b ≠ 3 → b ≠ 7 → pd_fd T x j b = T b := fun T b h3 h7 => by
    unfold pd_fd
    rw [pd_bk _ h7, pd_tp_bk h3]
  have h71 : ∀ T : pdS, pd_fd T x j 7 1 = T 7 1 := fun T => by
    unfold pd_fd
    rw [pd_ne _ (by decide), pd_tp_bk (by decide)]
  have h72 : ∀ T : pdS, pd_fd T x j 7 2 = T 7 2 + j := fun T => by
    unfold pd_fd
    rw [pd_self]
  have h3e : ∀ (T : pdS) i, pd_fd T x j 3 i = if T 7 2 ≤ i ∧ i < T 7 2 + j then pd_bv x (i - T 7 2) else T 3 i := fun T i => by
    unfold pd_fd
    rw [pd_bk _ (by decide), pd_tp_at]
  obtain ⟨h1, h2, h3, h4, h5, h6, h7⟩ := e
  refine ⟨by rw [hb S 4 (by decide) (by decide), hb S 5 (by decide) (by decide), hb Q 4 (by decide) (by decide), hb Q 5 (by decide) (by decide)]; exact h1, by rw [hb S 6 (by decide) (by decide), hb Q 6 (by decide) (by decide)]; exact h2, by rw [h71, h71]; exact h3, by rw [h72, h72, h4], fun i hi => ?_, fun c d k hc hd hk hk2 => ?_, fun c i hc hi => ?_⟩
  · rw [h72] at hi
    rw [h3e, h3e, ← h4]
    by_cases h : S 7 2 ≤ i ∧ i < S 7 2 + j
    · rw [if_pos h, if_pos h]
    · rw [if_neg h, if_neg h]
      exact h5 i (by omega)
  · rw [hb S 4 (by decide) (by decide)] at hk hk2
    rw [hb S (8 + c) (by omega) (by omega), hb S (8 + d) (by omega) (by omega), hb Q (8 + c) (by omega) (by omega), hb Q (8 + d) (by omega) (by omega)]
    exact h6 c d k hc hd hk hk2
  · rw [hb S 4 (by decide) (by decide)] at hi
    rw [pd_by_congr (hb S 0 (by decide) (by decide)) (by rw [hb S (8 + c) (by omega) (by omega)]), pd_by_congr (hb Q 0 (by decide) (by decide)) (by rw [hb Q (8 + c) (by omega) (by omega)])]
    exact h7 c i hc hi
