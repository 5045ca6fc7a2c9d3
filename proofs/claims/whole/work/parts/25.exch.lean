/-! PURE, 11: the last page exchanged; the tape written -/
theorem pd_xch_ok {n : Nat} {S : pdS} {f : Nat → Nat} {pg : Nat} {h : Nat → Nat} (ho : pd_ok n S f) (hu : 0 < S 7 0) (hpg : pg < n) (h2 : 1 < f pg) : S 2 (S 7 0 - 1) < n ∧ f (S 2 (S 7 0 - 1)) = 0 ∧ S 2 (S 7 0 - 1) ≠ pg ∧ pd_take S 1 pg = f pg ∧ pd_take S 7 0 < n ∧ pd_ok n (pd_leave (va_up (pd_take S) 0 h) pg) (va_up (va_up f (S 2 (S 7 0 - 1)) 1) pg (f pg - 1)) := by
  obtain ⟨h1, hf, hk⟩ := pd_take_ok ho hu
  have hne : S 2 (S 7 0 - 1) ≠ pg := fun q => by rw [q] at hf; omega
  have hk2 : pd_ok n (va_up (pd_take S) 0 h) (va_up f (S 2 (S 7 0 - 1)) 1) := pd_ok_eqv hk (va_up_ne _ _ (by decide)) (va_up_ne _ _ (by decide)) (by rw [va_up_ne _ _ (by decide)])
  obtain ⟨a1, a2, a3⟩ := pd_leave_ok hk2 hpg (by rw [va_up_ne _ _ (fun q => hne q.symm)]; omega)
  rw [va_up_ne _ _ (fun q => hne q.symm)] at a2 a3
  rw [va_up_ne _ _ (show (1 : Nat) ≠ 0 by decide)] at a2
  rw [va_up_ne _ _ (show (7 : Nat) ≠ 0 by decide)] at a1
  exact ⟨h1, hf, hne, a2, a1, a3⟩
theorem pd_xc_yes {n : Nat} {S T : pdS} {cc add : Nat} (hc : cc < 32) (hv : pd_v n S) (ho : pd_ok n S (pd_ct S)) (hu : 0 < S 7 0) (hcp : pd_cp S cc add) (e : T = pd_st (pd_st (pd_leave (va_up (pd_take S) 0 (va_cpy (S 0) (S 0) (64 * S (8 + cc) (S 4 cc / 64)) (64 * S 2 (S 7 0 - 1)) 64)) (S (8 + cc) (S 4 cc / 64))) 7 1 (S 7 1 + 1)) (8 + cc) (S 4 cc / 64) (S 2 (S 7 0 - 1))) : pd_xc n S T cc add ∧ T 7 0 + 1 = S 7 0 := by
  have hl : S 4 cc / 64 < pd_pf (S 4 cc) := by
    have := hcp.2.1
    unfold pd_pf
    omega
  have hpg := hv.2.1 cc _ hc hl
  obtain ⟨h1, hf, hne, ht1, ht7, hok⟩ := pd_xch_ok (h := va_cpy (S 0) (S 0) (64 * S (8 + cc) (S 4 cc / 64)) (64 * S 2 (S 7 0 - 1)) 64) ho hu hpg hcp.2.2
  generalize hh : va_cpy (S 0) (S 0) (64 * S (8 + cc) (S 4 cc / 64)) (64 * S 2 (S 7 0 - 1)) 64 = h at e hok
  have hcpct := hcp.2.2
  generalize hpe : S (8 + cc) (S 4 cc / 64) = pg at e hpg hok hcpct ht1 hne hh
  generalize hnw : S 2 (S 7 0 - 1) = nw at e h1 hf hne hok hh
  have hfl := pd_fr_leave (va_up (pd_take S) 0 h) pg
  have hft := pd_fr_take S
  have eb : ∀ b, b ≠ 0 → b ≠ 1 → b ≠ 2 → b ≠ 7 → pd_leave (va_up (pd_take S) 0 h) pg b = S b := fun b h0 h1 h2 h7 => by
    rw [hfl.1 b h1 h2 h7, va_up_ne _ _ h0, hft.1 b h1 h2 h7]
  have e7 : ∀ j, j ≠ 0 → pd_leave (va_up (pd_take S) 0 h) pg 7 j = S 7 j := fun j hj => by
    rw [hfl.2 j hj, va_up_ne _ _ (by decide), hft.2 j hj]
  have e0 : pd_leave (va_up (pd_take S) 0 h) pg 0 = h := by
    rw [hfl.1 0 (by decide) (by decide) (by decide), va_up_self]
  have e70 : pd_leave (va_up (pd_take S) 0 h) pg 7 0 = S 7 0 - 1 := by
    have hq : va_up (pd_take S) 0 h 1 pg = pd_take S 1 pg := by rw [va_up_ne _ _ (by decide)]
    unfold pd_leave
    rw [if_neg (by rw [hq, ht1]; omega), pd_bk _ (by decide), va_up_ne _ _ (by decide)]
    unfold pd_take
    rw [pd_bk _ (by decide), pd_self]
  have et : ∀ b, b ≠ 8 + cc → b ≠ 7 → T b = pd_leave (va_up (pd_take S) 0 h) pg b := fun b h1 h2 => by rw [e, pd_bk _ h1, pd_bk _ h2]
  have et7 : ∀ j, j ≠ 1 → T 7 j = pd_leave (va_up (pd_take S) 0 h) pg 7 j := fun j hj => by rw [e, pd_bk _ (by omega), pd_ne _ hj]
  have etr : T (8 + cc) = va_up (S (8 + cc)) (S 4 cc / 64) nw := by
    rw [e, pd_own, pd_bk _ (by omega), eb (8 + cc) (by omega) (by omega) (by omega) (by omega)]
  have e4 : T 4 = S 4 := by rw [et 4 (by omega) (by decide), eb 4 (by decide) (by decide) (by decide) (by decide)]
  have eo : ∀ d, d ≠ cc → d < 32 → T (8 + d) = S (8 + d) := fun d hd _ => by rw [et (8 + d) (by omega) (by omega), eb (8 + d) (by omega) (by omega) (by omega) (by omega)]
  have eT0 : T 0 = h := by rw [et 0 (by omega) (by decide), e0]
  refine ⟨⟨?_, e4, ?_, ?_, ?_, eo, ?_, ?_, Or.inr ⟨hcp, ?_, nw, h1, hf, etr, ?_⟩⟩, ?_⟩
  · rw [et 3 (by omega) (by decide), eb 3 (by decide) (by decide) (by decide) (by decide)]
  · rw [et 5 (by omega) (by decide), eb 5 (by decide) (by decide) (by decide) (by decide)]
  · rw [et 6 (by omega) (by decide), eb 6 (by decide) (by decide) (by decide) (by decide)]
  · rw [et7 2 (by decide), e7 2 (by decide)]
  · intro j
    rw [eT0, ← hh]
    unfold va_cpy
    by_cases q : 64 * nw ≤ j ∧ j < 64 * nw + 64
    · rw [if_pos q]
      exact hv.2.2.2.2.2 _
    · rw [if_neg q]
      exact hv.2.2.2.2.2 _
  · have h3 : pd_ok n T (va_up (va_up (pd_ct S) nw 1) pg (pd_ct S pg - 1)) := by
      rw [e]
      exact pd_ok_st (pd_ok_st hok (by decide) (by decide) (Or.inr (by decide))) (by omega) (by omega) (Or.inl (by omega))
    refine pd_ok_congr h3 (fun q _ => ?_)
    have hct : pd_ct T q = pd_ct (pd_st S (8 + cc) (S 4 cc / 64) nw) q := by
      refine pd_ct_congr (by rw [e4, pd_bk _ (by omega)]) (fun d hd k hk => ?_) q
      by_cases hdc : d = cc
      · subst hdc
        rw [etr, pd_own]
      · rw [eo d hdc hd, pd_bk _ (by omega)]
    have hput := pd_ct_put (v := nw) hc hl q
    rw [hpe, ← hct] at hput
    by_cases hqp : q = pg
    · subst hqp
      rw [if_pos rfl, if_neg hne] at hput
      rw [va_up_self]
      omega
    · rw [if_neg (fun z => hqp z.symm)] at hput
      rw [va_up_ne _ _ hqp]
      by_cases hqn : q = nw
      · subst hqn
        rw [if_pos rfl] at hput
        rw [va_up_self]
        omega
      · rw [if_neg (fun z => hqn z.symm)] at hput
        rw [va_up_ne _ _ hqn]
        omega
  · rw [e, pd_bk _ (by omega), pd_self]
  · rw [eT0, ← hh, hpe]
  · rw [et7 0 (by decide), e70]
    omega
theorem pd_st_up (S : pdS) (g : Nat → Nat) (a v : Nat) : pd_st (va_up S 0 g) 0 a v = va_up S 0 (va_up g a v) := by
  unfold pd_st
  rw [va_up_self, bx_uu]
theorem pd_wt_s (B r : Nat → Nat) (a : Nat) (tp : Nat → Nat) (m : Nat) : pd_wt B r a tp (m + 1) = va_up (pd_wt B r a tp m) (64 * r ((a + m) / 64) + (a + m) % 64) (tp m) := rfl
