/-! PURE, 13: for the model -/
theorem pd_lgle {a b : Nat} (ha : a < 2 ^ 63) (hb : b < 2 ^ 63) : lg_cmp (lN a) (lN b) ≤ 0 ↔ a ≤ b := by
  unfold lg_cmp
  by_cases h1 : lN b < lN a
  · rw [if_pos h1]
    have := (pk_lLT hb ha).mp h1
    exact ⟨fun q => absurd q (by decide), fun q => by omega⟩
  · rw [if_neg h1]
    have hab : a ≤ b := Nat.not_lt.mp fun q => h1 ((pk_lLT hb ha).mpr q)
    by_cases h2 : lN a = lN b
    · rw [if_pos h2]
      exact ⟨fun _ => hab, fun _ => by decide⟩
    · rw [if_neg h2]
      exact ⟨fun _ => hab, fun _ => by decide⟩
theorem pd_be_m {S T S' : pdS} {to fr : Nat} (hto : to < 32) (hb : ∀ b, b ≠ 8 + to → T b = S b) (hr : ∀ j, j < 400 → T (8 + to) j = S (8 + fr) j) (h4 : S 4 fr ≤ 25600) (e : S' = pd_st (pd_st T 4 to (S 4 fr)) 5 to (S 5 fr)) : pd_be S S' to fr := by
  have eb : ∀ b, b ≠ 4 → b ≠ 5 → S' b = T b := fun b h1 h2 => by rw [e, pd_bk _ h2, pd_bk _ h1]
  refine ⟨?_, ?_, ?_, ?_, ?_, ?_, ?_, fun k hk => ?_, fun d k hd hdt _ => ?_⟩
  · rw [eb 0 (by decide) (by decide), hb 0 (by omega)]
  · rw [eb 3 (by decide) (by decide), hb 3 (by omega)]
  · rw [e, pd_bk _ (by decide), pd_own, hb 4 (by omega)]
  · rw [e, pd_own, pd_bk _ (by decide), hb 5 (by omega)]
  · rw [eb 6 (by decide) (by decide), hb 6 (by omega)]
  · rw [eb 7 (by decide) (by decide), hb 7 (by omega)]
  · rw [eb 7 (by decide) (by decide), hb 7 (by omega)]
  · rw [eb (8 + to) (by omega) (by omega), hr k (by unfold pd_pf at hk; omega)]
  · rw [eb (8 + d) (by omega) (by omega), hb (8 + d) (by omega)]
theorem pd_sh_m {S : pdS} {c x : Nat} : pd_sh S (pd_st S 4 c x) c x := by
  refine ⟨pd_bk _ (by decide), pd_bk _ (by decide), pd_own .., pd_bk _ (by decide), pd_bk _ (by decide), ?_, ?_, fun d _ => pd_bk _ (by omega)⟩
  · rw [pd_bk _ (by decide)]
  · rw [pd_bk _ (by decide)]
theorem pd_un_m {S : pdS} {f k : Nat} (hp : pd_po S) (hf : f < 16) (hk : k < pd_pf (S 4 (2 * f))) : (∃ j, j < pd_pf (S 4 (2 * f + 1)) ∧ S (8 + (2 * f + 1)) j = S (8 + 2 * f) k) ↔ (k < pd_pf (S 4 (2 * f + 1)) ∧ S (8 + (2 * f + 1)) k = S (8 + 2 * f) k) := by
  constructor
  · rintro ⟨j, hj, hq⟩
    have hjk := hp (2 * f + 1) (2 * f) j k (by omega) (by omega) hj hk hq
    subst hjk
    exact ⟨hj, hq⟩
  · rintro ⟨h1, h2⟩
    exact ⟨k, h1, h2⟩
