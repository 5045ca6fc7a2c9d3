/-! PURE, 8: the class's append, put together -/
/-- behind grow -/
def pd_gw (n : Nat) (S S' : pdS) (c add : Nat) : Prop :=
  S' 4 = va_up (S 4) c (S 4 c + add) ∧ S' 5 = va_up (S 5) c 1 ∧ S' 6 = S 6 ∧ S' 3 = S 3 ∧ ((pd_cp S c add ∧ S' 7 1 = S 7 1 + 1) ∨ (¬ pd_cp S c add ∧ S' 7 1 = S 7 1)) ∧ S' 7 2 = S 7 2 ∧
  (∀ d k, d < 32 → d ≠ c → k < pd_pf (S 4 d) → S' (8 + d) k = S (8 + d) k) ∧ (∀ k, k < pd_pf (S 4 c) → ¬ (pd_cp S c add ∧ k = S 4 c / 64) → S' (8 + c) k = S (8 + c) k) ∧
  (∀ k, pd_nw S c add k → S' (8 + c) k < n ∧ pd_ct S (S' (8 + c) k) = 0) ∧ (∀ k j, pd_nw S c add k → pd_nw S c add j → S' (8 + c) k = S' (8 + c) j → k = j) ∧
  (∀ d i, d < 32 → i < S 4 d → pd_by S' d i = pd_by S d i) ∧ (∀ j, S' 0 j < 256) ∧ pd_ok n S' (pd_ct S')
/-- what holds behind the copying of the last page, or without it -/
def pd_xc (n : Nat) (S T : pdS) (c add : Nat) : Prop :=
  T 3 = S 3 ∧ T 4 = S 4 ∧ T 5 = S 5 ∧ T 6 = S 6 ∧ T 7 2 = S 7 2 ∧ (∀ d, d ≠ c → d < 32 → T (8 + d) = S (8 + d)) ∧ (∀ j, T 0 j < 256) ∧ pd_ok n T (pd_ct T) ∧
  ((¬ pd_cp S c add ∧ T 0 = S 0 ∧ T 7 1 = S 7 1 ∧ T (8 + c) = S (8 + c)) ∨
   (pd_cp S c add ∧ T 7 1 = S 7 1 + 1 ∧ ∃ nw, nw < n ∧ pd_ct S nw = 0 ∧ T (8 + c) = va_up (S (8 + c)) (S 4 c / 64) nw ∧ T 0 = va_cpy (S 0) (S 0) (64 * S (8 + c) (S 4 c / 64)) (64 * nw) 64))
theorem pd_xc_no {n : Nat} {S : pdS} {c add : Nat} (h : ¬ pd_cp S c add) (hv : pd_v n S) (ho : pd_ok n S (pd_ct S)) : pd_xc n S S c add := ⟨rfl, rfl, rfl, rfl, rfl, fun _ _ _ => rfl, hv.2.2.2.2.2, ho, Or.inl ⟨h, rfl, rfl, rfl⟩⟩
theorem pd_xc_ct {n : Nat} {S T : pdS} {c add : Nat} (hc : c < 32) (h : pd_xc n S T c add) {q : Nat} (hq : pd_ct T q = 0) : pd_ct S q = 0 ∧ ∀ k, pd_cp S c add → k = S 4 c / 64 → T (8 + c) k ≠ q := by
  obtain ⟨e3, e4, e5, e6, e72, eo, e0, ho, h1 | h1⟩ := h
  · obtain ⟨hn, z0, z7, zr⟩ := h1
    refine ⟨?_, fun k hcp _ => absurd hcp hn⟩
    rw [← hq]
    refine (pd_ct_congr e4 (fun d hd k hk => ?_) q).symm
    by_cases hdc : d = c
    · subst hdc
      rw [zr]
    · rw [eo d hdc hd]
  · obtain ⟨hcp, z7, nw, hnw, hct, zr, z0⟩ := h1
    have hl : S 4 c / 64 < pd_pf (S 4 c) := by
      have := hcp.2.1
      unfold pd_pf
      omega
    have e : pd_ct T q = pd_ct (pd_st S (8 + c) (S 4 c / 64) nw) q := by
      refine pd_ct_congr (by rw [e4, pd_bk _ (show (4 : Nat) ≠ 8 + c by omega)]) (fun d hd k hk => ?_) q
      by_cases hdc : d = c
      · subst hdc
        rw [zr, pd_own]
      · rw [eo d hdc hd, pd_bk _ (show 8 + d ≠ 8 + c by omega)]
    have hput := pd_ct_put (v := nw) hc hl q
    rw [← e, hq] at hput
    by_cases hold : S (8 + c) (S 4 c / 64) = q
    · have := hcp.2.2
      rw [hold] at this
      rw [if_pos hold] at hput
      omega
    · rw [if_neg hold] at hput
      by_cases hnq : nw = q
      · rw [if_pos hnq] at hput
        omega
      · refine ⟨by omega, fun k _ hk q2 => hnq ?_⟩
        subst hk
        rw [zr, va_up_self] at q2
        exact q2
theorem pd_gw_of {n : Nat} {S T X S' : pdS} {c add : Nat} (hc : c < 32) (hv : pd_v n S) (h : pd_xc n S T c add) (hX : pd_gl n T X c (pd_pf (S 4 c)) (pd_pf (S 4 c + add))) (e : S' = pd_st (pd_st X 4 c (S 4 c + add)) 5 c 1) : pd_gw n S S' c add := by
  have hxc := fun (q : Nat) (hq : pd_ct T q = 0) => pd_xc_ct hc h hq
  obtain ⟨e3, e4, e5, e6, e72, eo, e0, ho, hcase⟩ := h
  obtain ⟨x1, x2, x3, x4, x5, x6, x7⟩ := hX
  have er : ∀ d, S' (8 + d) = X (8 + d) := fun d => by rw [e, pd_bk _ (show 8 + d ≠ 5 by omega), pd_bk _ (show 8 + d ≠ 4 by omega)]
  have es4 : S' 4 = va_up (S 4) c (S 4 c + add) := by rw [e, pd_bk _ (by decide), pd_own, x1 4 (by decide) (by decide) (by decide) (by omega), e4]
  have es0 : S' 0 = T 0 := by rw [e, pd_bk _ (by decide), pd_bk _ (by decide), x1 0 (by decide) (by decide) (by decide) (by omega)]
  have hmono := pd_pf_mono (show S 4 c ≤ S 4 c + add by omega)
  have hoth : ∀ d, d < 32 → d ≠ c → S' (8 + d) = S (8 + d) := fun d hd hdc => by rw [er d, x1 (8 + d) (by omega) (by omega) (by omega) (by omega), eo d hdc hd]
  have hlast : pd_cp S c add → S 4 c / 64 < pd_pf (S 4 c) := fun q => by
    have := q.2.1
    unfold pd_pf
    omega
  have hnwlt : ∀ k, pd_nw S c add k → k < pd_pf (S 4 c) → pd_cp S c add ∧ k = S 4 c / 64 := fun k hk hl => by
    rcases hk.2 with q | q
    · omega
    · exact q
  have hold : ∀ k, k < pd_pf (S 4 c) → ¬ (pd_cp S c add ∧ k = S 4 c / 64) → S' (8 + c) k = S (8 + c) k := fun k hk hn => by
    rw [er c, x3 k hk]
    rcases hcase with ⟨q1, q2, q3, q4⟩ | ⟨q1, q2, nw, q3, q4, q5, q6⟩
    · rw [q4]
    · rw [q5, va_up_ne _ _ (fun z => hn ⟨q1, z⟩)]
  have hnew : ∀ k, pd_nw S c add k → S' (8 + c) k < n ∧ pd_ct S (S' (8 + c) k) = 0 := fun k hk => by
    rw [er c]
    by_cases hl : k < pd_pf (S 4 c)
    · obtain ⟨w1, w2⟩ := hnwlt k hk hl
      rw [x3 k hl]
      rcases hcase with ⟨q1, -⟩ | ⟨q1, q2, nw, q3, q4, q5, q6⟩
      · exact absurd w1 q1
      · rw [q5, w2, va_up_self]
        exact ⟨q3, q4⟩
    · obtain ⟨w1, w2⟩ := x6 k (by omega) hk.1
      exact ⟨w1, (hxc _ w2).1⟩
  refine ⟨es4, ?_, ?_, ?_, ?_, ?_, fun d k hd hdc _ => by rw [hoth d hd hdc], hold, hnew, fun k j hk hj hq => ?_, fun d i hd hi => ?_, by rw [es0]; exact e0, ?_⟩
  · rw [e, pd_own, pd_bk _ (by decide), x1 5 (by decide) (by decide) (by decide) (by omega), e5]
  · rw [e, pd_bk _ (by decide), pd_bk _ (by decide), x1 6 (by decide) (by decide) (by decide) (by omega), e6]
  · rw [e, pd_bk _ (by decide), pd_bk _ (by decide), x1 3 (by decide) (by decide) (by decide) (by omega), e3]
  · have e71 : S' 7 1 = T 7 1 := by rw [e, pd_bk _ (by decide), pd_bk _ (by decide), x2 1 (by decide)]
    rw [e71]
    rcases hcase with ⟨q1, q2, q3, q4⟩ | ⟨q1, q2, -⟩
    · exact Or.inr ⟨q1, q3⟩
    · exact Or.inl ⟨q1, q2⟩
  · rw [e, pd_bk _ (by decide), pd_bk _ (by decide), x2 2 (by decide), e72]
  · by_cases hkl : k < pd_pf (S 4 c) <;> by_cases hjl : j < pd_pf (S 4 c)
    · obtain ⟨-, w2⟩ := hnwlt k hk hkl
      obtain ⟨-, z2⟩ := hnwlt j hj hjl
      omega
    · obtain ⟨w1, w2⟩ := hnwlt k hk hkl
      rw [er c, x3 k hkl] at hq
      exact absurd hq ((hxc _ (x6 j (by omega) hj.1).2).2 k w1 w2)
    · obtain ⟨w1, w2⟩ := hnwlt j hj hjl
      rw [er c, x3 j hjl] at hq
      exact absurd hq.symm ((hxc _ (x6 k (by omega) hk.1).2).2 j w1 w2)
    · rw [er c] at hq
      exact x7 k j (by omega) hk.1 (by omega) hj.1 hq
  · have hkd : i / 64 < pd_pf (S 4 d) := by
      unfold pd_pf
      omega
    have hp := hv.2.1 d (i / 64) hd hkd
    rcases hcase with ⟨q1, q2, q3, q4⟩ | ⟨q1, q2, nw, q3, q4, q5, q6⟩
    · refine pd_by_congr (es0.trans q2) ?_
      by_cases hdc : d = c
      · subst hdc
        exact hold _ hkd (fun z => q1 z.1)
      · rw [hoth d hd hdc]
    · unfold pd_by
      rw [es0, q6]
      by_cases hdl : d = c ∧ i / 64 = S 4 c / 64
      · obtain ⟨rfl, h2⟩ := hdl
        have hr : S' (8 + d) (i / 64) = nw := by rw [h2, er d, x3 _ (hlast q1), q5, va_up_self]
        rw [hr, pk_cpy_in (by omega) (by omega), show 64 * nw + i % 64 - 64 * nw = i % 64 by omega, h2]
      · have hr : S' (8 + d) (i / 64) = S (8 + d) (i / 64) := by
          by_cases hdc : d = c
          · subst hdc
            exact hold _ hkd (fun z => hdl ⟨rfl, z.2⟩)
          · rw [hoth d hd hdc]
        have hne : S (8 + d) (i / 64) ≠ nw := pd_ct_live q4 hd hkd
        rw [hr, pk_cpy_out (by omega)]
  · have hct : ∀ p, p < n → pd_ct T p + pd_rc (fun j => X (8 + c) (pd_pf (S 4 c) + j)) p (pd_pf (S 4 c + add) - pd_pf (S 4 c)) = pd_ct S' p := fun p _ => by
      have e1 : pd_ct S' p = pd_sm (va_up (fun d => pd_rc (T (8 + d)) p (pd_pf (T 4 d))) c (pd_rc (X (8 + c)) p (pd_pf (S 4 c + add)))) 32 := by
        refine pd_sm_congr (fun d hd => ?_)
        show pd_rc (S' (8 + d)) p (pd_pf (S' 4 d)) = _
        rw [es4, er d]
        by_cases hdc : d = c
        · subst hdc
          rw [va_up_self, va_up_self]
        · rw [va_up_ne _ _ hdc, va_up_ne _ _ hdc, x1 (8 + d) (by omega) (by omega) (by omega) (by omega), e4]
      have h1 := pd_sm_up (f := fun d => pd_rc (T (8 + d)) p (pd_pf (T 4 d))) (v := pd_rc (X (8 + c)) p (pd_pf (S 4 c + add))) hc
      have h2 := pd_rc_add (X (8 + c)) p (pd_pf (S 4 c)) (pd_pf (S 4 c + add) - pd_pf (S 4 c))
      rw [show pd_pf (S 4 c) + (pd_pf (S 4 c + add) - pd_pf (S 4 c)) = pd_pf (S 4 c + add) by omega] at h2
      have h3 : pd_rc (X (8 + c)) p (pd_pf (S 4 c)) = pd_rc (T (8 + c)) p (pd_pf (T 4 c)) := by
        rw [e4]
        exact pd_rc_congr (fun k hk => x3 k hk)
      rw [e1]
      unfold pd_ct
      try dsimp only at h1
      omega
    rw [e]
    refine pd_ok_st (pd_ok_st ?_ (by decide) (by decide) (Or.inl (by decide))) (by decide) (by decide) (Or.inl (by decide))
    rw [← e]
    exact pd_ok_congr x5 hct
/-- and behind the writing of the tape -/
theorem pd_ap_of {n : Nat} {S X S' : pdS} {c add : Nat} {tp : Nat → Nat} (hc : c < 32) (hv : pd_v n S) (h : pd_gw n S X c add) (e : S' = va_up X 0 (pd_wt (X 0) (X (8 + c)) (S 4 c) tp add)) (htp : ∀ i, tp i < 256) (h72 : X 7 2 = 0) : pd_ap n S S' c add tp ∧ pd_ok n S' (pd_ct S') := by
  obtain ⟨g4, g5, g6, g3, g71, g72, go, gold, gnew, gdis, gby, g0, gok⟩ := h
  have eb : ∀ b, b ≠ 0 → S' b = X b := fun b hb => by rw [e, va_up_ne _ _ hb]
  have e0 : S' 0 = pd_wt (X 0) (X (8 + c)) (S 4 c) tp add := by rw [e, va_up_self]
  have er : ∀ d, S' (8 + d) = X (8 + d) := fun d => eb _ (by omega)
  -- places of row c behind the old end
  have hnwk : ∀ i, i < add → (S 4 c % 64 = 0 ∨ (S 4 c + i) / 64 ≠ S 4 c / 64) → pd_nw S c add ((S 4 c + i) / 64) := fun i hi hz => by
    refine ⟨by unfold pd_pf; omega, Or.inl (by unfold pd_pf; omega)⟩
  -- a page that is written is in no other row, and at one place of this row
  have hown : ∀ i, i < add → ∀ d k, d < 32 → k < pd_pf (S 4 d) → X (8 + d) k = X (8 + c) ((S 4 c + i) / 64) → d = c ∧ k = (S 4 c + i) / 64 := by
    intro i hi d k hd hk hq
    by_cases hnw : pd_nw S c add ((S 4 c + i) / 64)
    · have hz := (gnew _ hnw).2
      by_cases hdc : d = c
      · subst hdc
        by_cases hnk : pd_nw S d add k
        · exact ⟨rfl, gdis k _ hnk hnw hq⟩
        · rw [gold k hk (fun z => hnk ⟨Nat.lt_of_lt_of_le hk (pd_pf_mono (by omega)), Or.inr z⟩)] at hq
          exact absurd hq (pd_ct_live hz hd hk)
      · rw [go d k hd hdc hk] at hq
        exact absurd hq (pd_ct_live hz hd hk)
    · have hm : S 4 c % 64 ≠ 0 := fun z => hnw (hnwk i hi (Or.inl z))
      have hl : (S 4 c + i) / 64 = S 4 c / 64 := by
        by_cases z : (S 4 c + i) / 64 = S 4 c / 64
        · exact z
        · exact absurd (hnwk i hi (Or.inr z)) hnw
      have hll : S 4 c / 64 < pd_pf (S 4 c) := by
        unfold pd_pf
        omega
      have hncp : ¬ pd_cp S c add := fun z => hnw ⟨by unfold pd_pf; omega, Or.inr ⟨z, hl⟩⟩
      rw [hl, gold _ hll (fun z => hncp z.1)] at hq
      have hone : ¬ 1 < pd_ct S (S (8 + c) (S 4 c / 64)) := fun z => hncp ⟨by omega, hm, z⟩
      by_cases hdc : d = c
      · subst hdc
        by_cases hnk : pd_nw S d add k
        · exact absurd hq.symm (pd_ct_live (gnew k hnk).2 hd hll)
        · rw [gold k hk (fun z => hncp z.1)] at hq
          exact ⟨rfl, by rw [hl]; exact hv.2.2.1 d d k _ hd hd hk hll hq⟩
      · rw [go d k hd hdc hk] at hq
        -- two live references
        have h1 : 0 < pd_rc (S (8 + d)) (S (8 + c) (S 4 c / 64)) (pd_pf (S 4 d)) := pd_rc_pos hq hk
        have h2 : 0 < pd_rc (S (8 + c)) (S (8 + c) (S 4 c / 64)) (pd_pf (S 4 c)) := pd_rc_pos rfl hll
        have h3 : pd_rc (S (8 + d)) (S (8 + c) (S 4 c / 64)) (pd_pf (S 4 d)) + pd_rc (S (8 + c)) (S (8 + c) (S 4 c / 64)) (pd_pf (S 4 c)) ≤ pd_ct S (S (8 + c) (S 4 c / 64)) := by
          have u1 := pd_sm_up (f := fun d => pd_rc (S (8 + d)) (S (8 + c) (S 4 c / 64)) (pd_pf (S 4 d))) (v := 0) hd
          have u2 := pd_sm_le (f := va_up (fun d => pd_rc (S (8 + d)) (S (8 + c) (S 4 c / 64)) (pd_pf (S 4 d))) d 0) hc
          rw [va_up_ne _ _ (fun z => hdc z.symm)] at u2
          unfold pd_ct
          try dsimp only at u1 u2
          omega
        omega
  have hout : ∀ d i, d < 32 → i < S 4 d → pd_by S' d i = pd_by X d i := fun d i hd hi => by
    unfold pd_by
    rw [er d, e0]
    refine pd_wt_out (fun t ht q => ?_)
    have hk : i / 64 < pd_pf (S 4 d) := by
      unfold pd_pf
      omega
    have h1 : X (8 + d) (i / 64) = X (8 + c) ((S 4 c + t) / 64) := by omega
    obtain ⟨rfl, h3⟩ := hown t ht d _ hd hk h1
    omega
  have hin : ∀ i, i < add → pd_by S' c (S 4 c + i) = tp i := fun i hi => by
    unfold pd_by
    rw [er c, e0]
    refine pd_wt_in hi (fun j h1 h2 q => ?_)
    have hjq : X (8 + c) ((S 4 c + j) / 64) = X (8 + c) ((S 4 c + i) / 64) := by omega
    have hkk : (S 4 c + j) / 64 = (S 4 c + i) / 64 := by
      by_cases hj : (S 4 c + j) / 64 < pd_pf (S 4 c)
      · exact (hown i hi c _ hc hj hjq).2
      · by_cases hi2 : (S 4 c + i) / 64 < pd_pf (S 4 c)
        · exact ((hown j h2 c _ hc hi2 hjq.symm).2).symm
        · exact gdis _ _ ⟨by unfold pd_pf; omega, Or.inl (by omega)⟩ ⟨by unfold pd_pf; omega, Or.inl (by omega)⟩ hjq
    omega
  refine ⟨⟨by rw [eb 4 (by decide)]; exact g4, by rw [eb 5 (by decide)]; exact g5, by rw [eb 6 (by decide)]; exact g6, by rw [eb 7 (by decide)]; exact g71, by rw [eb 7 (by decide)]; exact h72, fun d k hd hdc hk => by rw [er d]; exact go d k hd hdc hk, fun k hk hn => by rw [er c]; exact gold k hk hn, fun k hk => by rw [er c]; exact gnew k hk, fun k j hk hj => by rw [er c]; exact gdis k j hk hj, fun d i hd hi => (hout d i hd hi).trans (gby d i hd hi), hin, by rw [eb 3 (by decide), g3]; exact hv.2.2.2.2.1, by rw [e0]; exact pd_wt_lt g0 htp add⟩, ?_⟩
  refine pd_ok_congr (pd_ok_eqv gok (eb 1 (by decide)) (eb 2 (by decide)) (by rw [eb 7 (by decide)])) (fun p _ => ?_)
  exact (pd_ct_congr (S := X) (T := S') (eb 4 (by decide)) (fun d _ k _ => by rw [er d]) p).symm
