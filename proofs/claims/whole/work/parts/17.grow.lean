/-! PURE, 7: the class's grow and writeTape -/
def pd_gl (n : Nat) (T X : pdS) (c b k : Nat) : Prop :=
  (∀ d, d ≠ 1 → d ≠ 2 → d ≠ 7 → d ≠ 8 + c → X d = T d) ∧ (∀ j, j ≠ 0 → X 7 j = T 7 j) ∧ (∀ j, j < b → X (8 + c) j = T (8 + c) j) ∧ X 7 0 + (k - b) = T 7 0 ∧ pd_ok n X (fun p => pd_ct T p + pd_rc (fun j => X (8 + c) (b + j)) p (k - b)) ∧
  (∀ j, b ≤ j → j < k → X (8 + c) j < n ∧ pd_ct T (X (8 + c) j) = 0) ∧ ∀ i j, b ≤ i → i < k → b ≤ j → j < k → X (8 + c) i = X (8 + c) j → i = j
theorem pd_gl_0 {n : Nat} {T : pdS} (c b : Nat) (h : pd_ok n T (pd_ct T)) : pd_gl n T T c b b := by
  refine ⟨fun _ _ _ _ _ => rfl, fun _ _ => rfl, fun _ _ => rfl, by omega, pd_ok_congr h (fun p _ => ?_), fun j h1 h2 => by omega, fun i j h1 h2 _ _ _ => by omega⟩
  rw [Nat.sub_self]
  rfl
theorem pd_gl_s {n : Nat} {T X : pdS} {c b k : Nat} (h : pd_gl n T X c b k) (hbk : b ≤ k) (hu : 0 < X 7 0) : X 2 (X 7 0 - 1) < n ∧ pd_gl n T (pd_st (pd_take X) (8 + c) k (X 2 (X 7 0 - 1))) c b (k + 1) := by
  obtain ⟨h1, h2, h3, h4, h5, h6, h7⟩ := h
  obtain ⟨hp, hf, ho⟩ := pd_take_ok h5 hu
  have hfr := pd_fr_take X
  have ht0 : pd_take X 7 0 = X 7 0 - 1 := by
    unfold pd_take
    rw [pd_bk _ (show (7 : Nat) ≠ 1 by decide), pd_self]
  generalize hpe : X 2 (X 7 0 - 1) = p at hp hf ho ⊢
  have hf' : pd_ct T p + pd_rc (fun j => X (8 + c) (b + j)) p (k - b) = 0 := hf
  have hne : ∀ j, b ≤ j → j < k → X (8 + c) j ≠ p := fun j hj1 hj2 q => by
    have : 0 < pd_rc (fun j => X (8 + c) (b + j)) p (k - b) := pd_rc_pos (k := j - b) (by show X (8 + c) (b + (j - b)) = p; rw [show b + (j - b) = j by omega]; exact q) (by omega)
    omega
  have er : ∀ j, j ≠ k → pd_st (pd_take X) (8 + c) k p (8 + c) j = X (8 + c) j := fun j hj => by
    rw [pd_ne _ hj, hfr.1 (8 + c) (by omega) (by omega) (by omega)]
  refine ⟨hp, ⟨fun d d1 d2 d7 dc => ?_, fun j hj => ?_, fun j hj => ?_, ?_, ?_, fun j hj1 hj2 => ?_, fun i j hi1 hi2 hj1 hj2 hq => ?_⟩⟩
  · rw [pd_bk _ dc, hfr.1 d d1 d2 d7, h1 d d1 d2 d7 dc]
  · rw [pd_bk _ (show (7 : Nat) ≠ 8 + c by omega), hfr.2 j hj, h2 j hj]
  · rw [er j (by omega), h3 j hj]
  · rw [pd_bk _ (show (7 : Nat) ≠ 8 + c by omega), ht0]
    omega
  · refine pd_ok_congr (pd_ok_st ho (by omega) (by omega) (Or.inl (by omega))) (fun q _ => ?_)
    have e1 : pd_rc (fun j => pd_st (pd_take X) (8 + c) k p (8 + c) (b + j)) q (k + 1 - b) = pd_rc (fun j => X (8 + c) (b + j)) q (k - b) + if p = q then 1 else 0 := by
      rw [show k + 1 - b = (k - b) + 1 by omega]
      have hv : pd_st (pd_take X) (8 + c) k p (8 + c) (b + (k - b)) = p := by
        rw [show b + (k - b) = k by omega, pd_self]
      simp only [pd_rc, hv]
      congr 1
      exact pd_rc_congr (fun j hj => er (b + j) (by omega))
    rw [e1]
    by_cases hqp : q = p
    · subst hqp
      rw [va_up_self, if_pos rfl]
      omega
    · rw [va_up_ne _ _ hqp, if_neg (fun z => hqp z.symm)]
      rfl
  · by_cases hjk : j = k
    · subst hjk
      rw [pd_self]
      exact ⟨hp, by omega⟩
    · rw [er j hjk]
      exact h6 j hj1 (by omega)
  · by_cases hik : i = k <;> by_cases hjk : j = k
    · omega
    · subst hik
      rw [pd_self, er j hjk] at hq
      exact absurd hq.symm (hne j hj1 (by omega))
    · subst hjk
      rw [pd_self, er i hik] at hq
      exact absurd hq (hne i hi1 (by omega))
    · rw [er i hik, er j hjk] at hq
      exact h7 i j hi1 (by omega) hj1 (by omega) hq
/-- one place of a row exchanged -/
theorem pd_ct_put {S : pdS} {c k v : Nat} (hc : c < 32) (hk : k < pd_pf (S 4 c)) (p : Nat) : pd_ct (pd_st S (8 + c) k v) p + (if S (8 + c) k = p then 1 else 0) = pd_ct S p + if v = p then 1 else 0 := by
  have hrc : ∀ m, k < m → pd_rc (va_up (S (8 + c)) k v) p m + (if S (8 + c) k = p then 1 else 0) = pd_rc (S (8 + c)) p m + if v = p then 1 else 0 := by
    intro m
    induction m with
    | zero => intro h; omega
    | succ m ih =>
      intro h
      simp only [pd_rc]
      by_cases hkm : k = m
      · subst hkm
        rw [va_up_self, pd_rc_congr (r := va_up (S (8 + c)) k v) (r' := S (8 + c)) (fun j hj => va_up_ne _ _ (by omega))]
        omega
      · rw [va_up_ne _ _ (fun q => hkm q.symm)]
        have := ih (by omega)
        omega
  have e : pd_ct (pd_st S (8 + c) k v) p = pd_sm (va_up (fun d => pd_rc (S (8 + d)) p (pd_pf (S 4 d))) c (pd_rc (va_up (S (8 + c)) k v) p (pd_pf (S 4 c)))) 32 := by
    refine pd_sm_congr (fun d hd => ?_)
    show pd_rc (pd_st S (8 + c) k v (8 + d)) p (pd_pf (pd_st S (8 + c) k v 4 d)) = _
    rw [pd_bk _ (show (4 : Nat) ≠ 8 + c by omega)]
    by_cases hdc : d = c
    · subst hdc
      rw [va_up_self, pd_own]
    · rw [va_up_ne _ _ hdc, pd_bk _ (show 8 + d ≠ 8 + c by omega)]
  have h1 := pd_sm_up (f := fun d => pd_rc (S (8 + d)) p (pd_pf (S 4 d))) (v := pd_rc (va_up (S (8 + c)) k v) p (pd_pf (S 4 c))) hc
  have h2 := hrc (pd_pf (S 4 c)) hk
  rw [e]
  unfold pd_ct
  try dsimp only at h1
  omega
theorem pd_ct_congr {S T : pdS} (h4 : T 4 = S 4) (hr : ∀ d, d < 32 → ∀ k, k < pd_pf (S 4 d) → T (8 + d) k = S (8 + d) k) (p : Nat) : pd_ct T p = pd_ct S p := by
  refine pd_sm_congr (fun d hd => ?_)
  rw [h4]
  exact pd_rc_congr (fun k hk => hr d hd k hk)
/-- bytes written one behind the other -/
def pd_wt (B r : Nat → Nat) (a : Nat) (tp : Nat → Nat) : Nat → Nat → Nat
  | 0 => B
  | m + 1 => va_up (pd_wt B r a tp m) (64 * r ((a + m) / 64) + (a + m) % 64) (tp m)
theorem pd_wt_out {B r : Nat → Nat} {a : Nat} {tp : Nat → Nat} {x : Nat} : ∀ {m : Nat}, (∀ i, i < m → 64 * r ((a + i) / 64) + (a + i) % 64 ≠ x) → pd_wt B r a tp m x = B x
  | 0, _ => rfl
  | m + 1, h => by
    simp only [pd_wt]
    rw [va_up_ne _ _ (fun q => h m (Nat.lt_succ_self m) q.symm)]
    exact pd_wt_out (fun i hi => h i (Nat.lt_succ_of_lt hi))
theorem pd_wt_in {B r : Nat → Nat} {a i : Nat} {tp : Nat → Nat} : ∀ {m : Nat}, i < m → (∀ j, i < j → j < m → 64 * r ((a + j) / 64) + (a + j) % 64 ≠ 64 * r ((a + i) / 64) + (a + i) % 64) → pd_wt B r a tp m (64 * r ((a + i) / 64) + (a + i) % 64) = tp i
  | 0, h, _ => absurd h (Nat.not_lt_zero i)
  | m + 1, h, hd => by
    simp only [pd_wt]
    by_cases him : i = m
    · subst him
      rw [va_up_self]
    · rw [va_up_ne _ _ (fun q => hd m (by omega) (Nat.lt_succ_self m) q.symm)]
      exact pd_wt_in (by omega) (fun j h1 h2 => hd j h1 (by omega))
theorem pd_wt_lt {B r : Nat → Nat} {a : Nat} {tp : Nat → Nat} (hB : ∀ x, B x < 256) (ht : ∀ i, tp i < 256) : ∀ m x, pd_wt B r a tp m x < 256
  | 0, x => hB x
  | m + 1, x => by
    simp only [pd_wt]
    unfold va_up
    by_cases h : x = 64 * r ((a + m) / 64) + (a + m) % 64
    · rw [if_pos h]
      exact ht m
    · rw [if_neg h]
      exact pd_wt_lt hB ht m x
