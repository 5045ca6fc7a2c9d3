/-! THE STEPS OF THE LAW: class and model side by side -/
theorem pj_inj {a b : Nat} (ha : a < 2 ^ 31) (hb : b < 2 ^ 31) (h : nI a = nI b) : a = b := by
  rw [← nI_clamp ha, h, nI_clamp hb]
theorem pj_lo_sa {S S' : pdS} (h : pd_sa S S') (hl : pd_lo S) : pd_lo S' := fun i hi => by
  rw [h.2.2.2.2.1, h.2.2.1]
  exact hl i hi
theorem pj_cut {S S' : pdS} {N f s : Nat} (h : pd_cut S S' f s) (hs : s ≤ S 4 (2 * f)) (hv : pd_v N S) (hl : pd_lo S) : pd_v N S' ∧ pd_lo S' := by
  obtain ⟨T, h1, h2⟩ := h
  refine ⟨pd_sa_v h2 (pd_v_6 (pd_sh_v h1 hs hv)), pj_lo_sa h2 (fun i hi => ?_)⟩
  rw [pd_bk _ (show (4 : Nat) ≠ 6 by decide), pd_own, h1.2.2.1, h1.2.2.2.2.1]
  by_cases hif : i = f
  · subst hif
    rw [va_up_self, va_up_self]
    by_cases q : s < S 6 i
    · rw [if_pos q]
      exact Nat.le_refl _
    · rw [if_neg q]
      omega
  · rw [va_up_ne _ _ hif, va_up_ne _ _ (by omega)]
    exact hl i hi
theorem pj_v5 {T : pdS} {N c : Nat} (hv : pd_v N T) (h4 : T 4 c = 0) : pd_v N (pd_st T 5 c 0) := by
  obtain ⟨v1, v2, v3, v4, v5, v6⟩ := hv
  have hb : ∀ b, b ≠ 5 → pd_st T 5 c 0 b = T b := fun b hb => pd_bk _ hb
  refine ⟨fun d hd => ?_, fun d k hd hk => ?_, fun a d k j ha hd hk hj => ?_, by rw [hb 7 (by decide)]; exact v4, by rw [hb 3 (by decide)]; exact v5, by rw [hb 0 (by decide)]; exact v6⟩
  · rw [hb 4 (by decide)]
    by_cases q : d = c
    · subst q
      rw [pd_self]
      exact ⟨by omega, by omega, fun _ => h4⟩
    · rw [pd_ne _ q]
      exact v1 d hd
  · rw [hb 4 (by decide)] at hk
    rw [hb (8 + d) (by omega)]
    exact v2 d k hd hk
  · rw [hb 4 (by decide)] at hk hj
    rw [hb (8 + a) (by omega), hb (8 + d) (by omega)]
    exact v3 a d k j ha hd hk hj
theorem pj_rem {S S' : pdS} {N f : Nat} (h : pd_rem S S' f) (hv : pd_v N S) (hl : pd_lo S) : pd_v N S' ∧ pd_lo S' := by
  obtain ⟨T, h1, h2⟩ := h
  have h40 : T 4 (2 * f) = 0 := by rw [h1.2.2.1, va_up_self]
  refine ⟨pd_sa_v h2 (pd_v_6 (pj_v5 (pd_sh_v h1 (by omega) hv) h40)), pj_lo_sa h2 (fun i hi => ?_)⟩
  rw [pd_bk _ (show (4 : Nat) ≠ 6 by decide), pd_own, pd_bk _ (show (4 : Nat) ≠ 5 by decide), pd_bk _ (show (6 : Nat) ≠ 5 by decide), h1.2.2.1, h1.2.2.2.2.1]
  by_cases hif : i = f
  · subst hif
    rw [va_up_self]
    exact Nat.zero_le _
  · rw [va_up_ne _ _ hif, va_up_ne _ _ (by omega)]
    exact hl i hi
theorem pj_twi {S S' : pdS} {N a b : Nat} (h : pd_twi S S' a b) (ha : a < 16) (hv : pd_v N S) (hl : pd_lo S) : pd_v N S' ∧ pd_lo S' := by
  obtain ⟨T, h1, h2⟩ := h
  refine ⟨pd_sa_v h2 (pd_v_6 (pd_be_v h1 (by omega) hv)), pj_lo_sa h2 (fun i hi => ?_)⟩
  rw [pd_bk _ (show (4 : Nat) ≠ 6 by decide), pd_own, h1.2.2.1, h1.2.2.2.2.1]
  by_cases hif : i = b
  · subst hif
    rw [va_up_self]
    exact Nat.zero_le _
  · rw [va_up_ne _ _ hif, va_up_ne _ _ (by omega)]
    exact hl i hi
theorem pj_set {S S' : pdS} {N f : Nat} (h : pd_set S S' f) (hf : f < 16) (hv : pd_v N S) (hl : pd_lo S) : pd_v N S' ∧ pd_lo S' := by
  refine ⟨(pd_set_v h hf hv).1, ?_⟩
  obtain ⟨T, h1, h2⟩ := h
  refine pj_lo_sa h2 (fun i hi => ?_)
  have e4 : va_up (S 4) (2 * f + 1) (S 4 (2 * f)) (2 * i) = S 4 (2 * i) := va_up_ne _ _ (by omega)
  rw [pd_bk _ (show (4 : Nat) ≠ 6 by decide), pd_own, h1.2.2.1, h1.2.2.2.2.1, e4]
  by_cases hif : i = f
  · subst hif
    rw [va_up_self]
    exact Nat.le_refl _
  · rw [va_up_ne _ _ hif]
    exact hl i hi
theorem pj_ap {S S' : pdS} {N c add : Nat} {tp : Nat → Nat} (h : pd_ap N S S' c add tp) (hz : S 4 c + add ≤ 25600) (hv : pd_v N S) (hl : pd_lo S) : pd_v N S' ∧ pd_lo S' := by
  refine ⟨pd_ap_v h hz hv, fun i hi => ?_⟩
  rw [h.1, h.2.2.1]
  by_cases q : 2 * i = c
  · have := hl i hi
    rw [← q, va_up_self]
    omega
  · rw [va_up_ne _ _ q]
    exact hl i hi
theorem pj_fd_b {S : pdS} {x : Int64} {j b : Nat} (h3 : b ≠ 3) (h7 : b ≠ 7) : pd_fd S x j b = S b := by
  unfold pd_fd
  rw [pd_bk _ h7, pd_tp_bk h3]
theorem pj_fd_lo {S : pdS} {x : Int64} {j : Nat} (hl : pd_lo S) : pd_lo (pd_fd S x j) := fun i hi => by
  rw [pj_fd_b (by decide) (by decide), pj_fd_b (by decide) (by decide)]
  exact hl i hi
theorem pj_fd_ok {S : pdS} {n : Nat} {x : Int64} {j : Nat} (ho : pd_ok n S (pd_ct S)) : pd_ok n (pd_fd S x j) (pd_ct (pd_fd S x j)) := by
  have hc : ∀ p, pd_ct (pd_fd S x j) p = pd_ct S p := pd_ct_congr (pj_fd_b (by decide) (by decide)) (fun d _ k _ => by rw [pj_fd_b (by omega) (by omega)])
  refine pd_ok_congr (pd_ok_eqv ho (pj_fd_b (by decide) (by decide)) (pj_fd_b (by decide) (by decide)) ?_) (fun p _ => (hc p).symm)
  unfold pd_fd
  rw [pd_ne _ (by decide), pd_tp_bk (by decide)]
theorem pj_72 {S : pdS} {N : Nat} (hv : pd_v N S) : pd_v N (pd_st S 7 2 0) := by
  obtain ⟨v1, v2, v3, v4, v5, v6⟩ := hv
  have hb : ∀ b, b ≠ 7 → pd_st S 7 2 0 b = S b := fun b hb => pd_bk _ hb
  refine ⟨fun d hd => by rw [hb 4 (by decide), hb 5 (by decide)]; exact v1 d hd, fun d k hd hk => ?_, fun a d k j ha hd hk hj => ?_, by rw [pd_self]; omega, by rw [hb 3 (by decide)]; exact v5, by rw [hb 0 (by decide)]; exact v6⟩
  · rw [hb 4 (by decide)] at hk
    rw [hb (8 + d) (by omega)]
    exact v2 d k hd hk
  · rw [hb 4 (by decide)] at hk hj
    rw [hb (8 + a) (by omega), hb (8 + d) (by omega)]
    exact v3 a d k j ha hd hk hj
theorem pj_72_eq {S Q : pdS} (e : pd_eq S Q) : pd_eq (pd_st S 7 2 0) (pd_st Q 7 2 0) := by
  obtain ⟨h1, h2, h3, h4, h5, h6, h7⟩ := e
  have hb : ∀ (X : pdS) b, b ≠ 7 → pd_st X 7 2 0 b = X b := fun X b hb => pd_bk _ hb
  refine ⟨fun c hc => by rw [hb S 4 (by decide), hb S 5 (by decide), hb Q 4 (by decide), hb Q 5 (by decide)]; exact h1 c hc, fun i hi => by rw [hb S 6 (by decide), hb Q 6 (by decide)]; exact h2 i hi, by rw [pd_ne _ (by decide), pd_ne _ (by decide)]; exact h3, by rw [pd_self, pd_self], fun j hj => ?_, fun c d k hc hd hk hk2 => ?_, fun c i hc hi => ?_⟩
  · rw [pd_self] at hj
    omega
  · rw [hb S 4 (by decide)] at hk hk2
    rw [hb S (8 + c) (by omega), hb S (8 + d) (by omega), hb Q (8 + c) (by omega), hb Q (8 + d) (by omega)]
    exact h6 c d k hc hd hk hk2
  · rw [hb S 4 (by decide)] at hi
    unfold pd_by
    rw [hb S 0 (by decide), hb Q 0 (by decide), hb S (8 + c) (by omega), hb Q (8 + c) (by omega)]
    exact h7 c i hc hi
theorem pj_72_ok {S : pdS} {n : Nat} (ho : pd_ok n S (pd_ct S)) : pd_ok n (pd_st S 7 2 0) (pd_ct (pd_st S 7 2 0)) := by
  have hc : ∀ p, pd_ct (pd_st S 7 2 0) p = pd_ct S p := pd_ct_congr (pd_bk _ (by decide)) (fun d _ k _ => by rw [pd_bk _ (by omega)])
  exact pd_ok_congr (pd_ok_st ho (by decide) (by decide) (Or.inr (by decide))) (fun p _ => (hc p).symm)
theorem pj_72_lo {S : pdS} (hl : pd_lo S) : pd_lo (pd_st S 7 2 0) := fun i hi => by
  rw [pd_bk _ (show (4 : Nat) ≠ 7 by decide), pd_bk _ (show (6 : Nat) ≠ 7 by decide)]
  exact hl i hi
/-- what holds before and behind every call -/
def pd_J (n : Nat) (S Q : pdS) : Prop := 4 ≤ n ∧ n ≤ 1024 ∧ pd_eq S Q ∧ pd_v n S ∧ pd_lo S ∧ pd_ok n S (pd_ct S) ∧ pd_v 1024 Q ∧ pd_lo Q
theorem pj_sa {n : Nat} {S Q Q' : pdS} (J : pd_J n S Q) (h : pd_sa Q Q') : pd_J n S Q' := by
  obtain ⟨j1, j2, j3, j4, j5, j6, j7, j8⟩ := J
  exact ⟨j1, j2, pd_sa_eq2 h j3, j4, j5, j6, pd_sa_v h j7, pj_lo_sa h j8⟩
/-- the law's comparison of a call's two answers, and what holds behind it -/
def pj_C (n : Nat) (kc : Int32) (o0 : Int64) (r : Int32) (S2 Q2 : pdS) : Prop := kc = nI (Q2 7 3) ∧ Q2 7 3 ≤ 3 ∧ (Q2 7 3 = 0 → o0 = r.toInt64) ∧ pd_J n S2 Q2
theorem pj_x {n k : Nat} {kc r : Int32} {o0 : Int64} {S S2 Q Q2 : pdS} (J : pd_J n S Q) (hk : kc = nI k) (h3 : Q2 7 3 = k) (hk1 : 1 ≤ k) (hk3 : k ≤ 3) (hS : S2 = S) (hs : pd_sa Q Q2) : pj_C n kc o0 r S2 Q2 := by
  subst hS
  exact ⟨by rw [hk, h3], by omega, fun q => by omega, pj_sa J hs⟩
theorem pj_sne {a b : String} {P : Prop} (h : a ≠ b) (q : a = b) : P := absurd q h
theorem st_feed {n : Nat} {S Q S2 Q2 : pdS} {x : Int64} {k kc r : Int32} {o0 : Int64} (J : pd_J n S Q)
    (hC : (kc = nI 0 ∧ ∃ r0 : Int32, o0 = r0.toInt64 ∧ hp_feed n S x k r0 S2) ∨ (kc = nI 1 ∧ hx_feed n S x k "java/lang/IllegalArgumentException" S2) ∨ (kc = nI 2 ∧ hx_feed n S x k "java/lang/IllegalStateException" S2))
    (hM : (Q2 7 3 = 1 ∧ (∀ j, 1 ≤ j → j ≤ 8 → k ≠ nI j) ∧ pd_sa Q Q2) ∨ (Q2 7 3 = 2 ∧ (∃ j, 1 ≤ j ∧ j ≤ 8 ∧ k = nI j ∧ 4096 < Q 7 2 + j) ∧ pd_sa Q Q2) ∨ (Q2 7 3 = 0 ∧ ∃ j, 1 ≤ j ∧ j ≤ 8 ∧ k = nI j ∧ Q 7 2 + j ≤ 4096 ∧ r = nI (Q 7 2 + j) ∧ pd_sa (pd_fd Q x j) Q2)) : pj_C n kc o0 r S2 Q2 := by
  have e72 : S 7 2 = Q 7 2 := J.2.2.1.2.2.2.1
  rcases hC with ⟨c1, r0, c2, j, c3, c4, c5, c6, c7, c8⟩ | ⟨c1, c2⟩ | ⟨c1, c2⟩
  · rcases hM with ⟨m1, m2, -⟩ | ⟨m1, ⟨j', m2, m3, m4, m5⟩, -⟩ | ⟨m1, j', m2, m3, m4, m5, m6, m7⟩
    · exact absurd c5 (m2 j c3 c4)
    · have := pj_inj (by omega) (by omega) (c5.symm.trans m4)
      omega
    · have hj := pj_inj (by omega) (by omega) (c5.symm.trans m4)
      subst hj
      subst c8
      refine ⟨by rw [c1, m1], by omega, fun _ => by rw [c2, c7, m6, e72], ?_⟩
      obtain ⟨j1, j2, j3, j4, j5, j6, j7, j8⟩ := J
      exact pj_sa ⟨j1, j2, pd_fd_eq j3, pd_fd_v j4 c6, pj_fd_lo j5, pj_fd_ok j6, pd_fd_v j7 m5, pj_fd_lo j8⟩ m7
  · rcases c2 with ⟨-, c3, c4⟩ | ⟨q, -⟩
    · rcases hM with ⟨m1, -, m3⟩ | ⟨-, ⟨j, m2, m3, m4, -⟩, -⟩ | ⟨-, j, m2, m3, m4, -⟩
      · exact pj_x J c1 m1 (by omega) (by omega) c4 m3
      · exact absurd m4 (c3 j m2 m3)
      · exact absurd m4 (c3 j m2 m3)
    · exact pj_sne (by decide) q
  · rcases c2 with ⟨q, -⟩ | ⟨-, j, c3, c4, c5, c6, c7⟩
    · exact pj_sne (by decide) q
    · rcases hM with ⟨-, m2, -⟩ | ⟨m1, -, m3⟩ | ⟨-, j', m2, m3, m4, m5, -⟩
      · exact absurd c5 (m2 j c3 c4)
      · exact pj_x J c1 m1 (by omega) (by omega) c7 m3
      · have := pj_inj (by omega) (by omega) (c5.symm.trans m4)
        omega
theorem pj_room {n : Nat} {S Q : pdS} (J : pd_J n S Q) {c add : Nat} (hc : c < 32) : pd_rm S c add ↔ pd_rr (n - pd_nz (pd_ct Q) 1024) Q c add := by
  obtain ⟨j1, j2, j3, j4, j5, j6, j7, j8⟩ := J
  have h1 : S 7 0 + pd_nz (pd_ct S) n = n := j6.2.2.2
  have h2 := pd_eq_nz j3 j4 j7
  have h3 : n - pd_nz (pd_ct Q) 1024 = S 7 0 := by omega
  have h4 := pd_eq_cp j3 j4.2.2.1 j7.2.2.1 (add := add) hc
  have h5 := (j3.1 c hc).1
  unfold pd_rm pd_rr
  rw [h3, h4, h5]
theorem pj_nz {n : Nat} {S Q : pdS} (J : pd_J n S Q) : pd_nz (pd_ct Q) 1024 ≤ n ∧ n - S 7 0 = pd_nz (pd_ct Q) 1024 ∧ S 7 0 ≤ n := by
  obtain ⟨j1, j2, j3, j4, j5, j6, j7, j8⟩ := J
  have h1 : S 7 0 + pd_nz (pd_ct S) n = n := j6.2.2.2
  have h2 := pd_eq_nz j3 j4 j7
  omega
theorem st_append {n : Nat} {S Q S2 Q2 : pdS} {f t kc r : Int32} {o0 : Int64} (J : pd_J n S Q)
    (hC : (kc = nI 0 ∧ ∃ r0 : Int32, o0 = r0.toInt64 ∧ hp_append n S f t r0 S2) ∨ (kc = nI 1 ∧ hx_append n S f t "java/lang/IndexOutOfBoundsException" S2) ∨ (kc = nI 2 ∧ hx_append n S f t "java/lang/UnsupportedOperationException" S2))
    (hM : (Q2 7 3 = 1 ∧ (pd_nof f ∨ ∀ j, 1 ≤ j → j ≤ 16 → t ≠ nI j) ∧ pd_sa Q Q2) ∨ (Q2 7 3 = 2 ∧ (∃ i j, i < 16 ∧ f = nI i ∧ 1 ≤ j ∧ j ≤ 16 ∧ t = nI j ∧ ¬ pd_rr (n - pd_nz (pd_ct Q) 1024) Q (2 * i) (Q 7 2 * j)) ∧ pd_sa (pd_st Q 7 2 0) Q2) ∨ (Q2 7 3 = 0 ∧ ∃ i j, i < 16 ∧ f = nI i ∧ 1 ≤ j ∧ j ≤ 16 ∧ t = nI j ∧ pd_rr (n - pd_nz (pd_ct Q) 1024) Q (2 * i) (Q 7 2 * j) ∧ r = nI (Q 4 (2 * i) + Q 7 2 * j) ∧ pd_ap 1024 Q Q2 (2 * i) (Q 7 2 * j) (fun q => Q 3 (q % Q 7 2)))) : pj_C n kc o0 r S2 Q2 := by
  have e72 : S 7 2 = Q 7 2 := J.2.2.1.2.2.2.1
  rcases hC with ⟨c1, r0, c2, i, j, c3, c4, c5, c6, c7, c8, c9, c10, c11⟩ | ⟨c1, c2⟩ | ⟨c1, c2⟩
  · rcases hM with ⟨-, m2, -⟩ | ⟨-, ⟨i', j', m2, m3, m4, m5, m6, m7⟩, -⟩ | ⟨m1, i', j', m2, m3, m4, m5, m6, m7, m8, m9⟩
    · rcases m2 with m2 | m2
      · exact absurd c4 (m2 i c3)
      · exact absurd c7 (m2 j c5 c6)
    · have hi := pj_inj (by omega) (by omega) (c4.symm.trans m3)
      have hj := pj_inj (by omega) (by omega) (c7.symm.trans m6)
      subst hi hj
      rw [← e72] at m7
      exact absurd ((pj_room J (by omega)).mp c8) m7
    · have hi := pj_inj (by omega) (by omega) (c4.symm.trans m3)
      have hj := pj_inj (by omega) (by omega) (c7.symm.trans m6)
      subst hi hj
      have e4 : S 4 (2 * i) = Q 4 (2 * i) := (J.2.2.1.1 (2 * i) (by omega)).1
      refine ⟨by rw [c1, m1], by omega, fun _ => by rw [c2, c9, m8, e72, e4], ?_⟩
      have hz : S 4 (2 * i) + S 7 2 * j ≤ 25600 := by
        have h9 := c8.1
        unfold pd_pf at h9
        omega
      obtain ⟨j1, j2, j3, j4, j5, j6, j7, j8⟩ := J
      have hz2 : Q 4 (2 * i) + Q 7 2 * j ≤ 25600 := by rw [← e4, ← e72]; exact hz
      obtain ⟨v1, l1⟩ := pj_ap c10 hz j4 j5
      obtain ⟨v2, l2⟩ := pj_ap m9 hz2 j7 j8
      refine ⟨j1, j2, pd_ap_eq c10 (by rw [e72]; exact m9) (by omega) j4.2.2.1 j7.2.2.1 j3 (fun q hq => ?_), v1, l1, c11, v2, l2⟩
      have hpos : 0 < S 7 2 := by
        rcases Nat.eq_zero_or_pos (S 7 2) with z | z
        · rw [z, Nat.zero_mul] at hq
          omega
        · exact z
      show S 3 (q % S 7 2) = Q 3 (q % Q 7 2)
      rw [← e72]
      exact j3.2.2.2.2.1 _ (Nat.mod_lt _ hpos)
  · rcases c2 with ⟨-, c3, c4⟩ | ⟨q, -⟩
    · rcases hM with ⟨m1, -, m3⟩ | ⟨-, ⟨i, j, m2, m3, m4, m5, m6, -⟩, -⟩ | ⟨-, i, j, m2, m3, m4, m5, m6, -⟩
      · exact pj_x J c1 m1 (by omega) (by omega) c4 m3
      · rcases c3 with c3 | c3
        · exact absurd m3 (c3 i m2)
        · exact absurd m6 (c3 j m4 m5)
      · rcases c3 with c3 | c3
        · exact absurd m3 (c3 i m2)
        · exact absurd m6 (c3 j m4 m5)
    · exact pj_sne (by decide) q
  · rcases c2 with ⟨q, -⟩ | ⟨-, i, j, c3, c4, c5, c6, c7, c8, c9⟩
    · exact pj_sne (by decide) q
    · rcases hM with ⟨-, m2, -⟩ | ⟨m1, -, m3⟩ | ⟨-, i', j', m2, m3, m4, m5, m6, m7, -⟩
      · rcases m2 with m2 | m2
        · exact absurd c4 (m2 i c3)
        · exact absurd c7 (m2 j c5 c6)
      · subst c9
        obtain ⟨j1, j2, j3, j4, j5, j6, j7, j8⟩ := J
        exact ⟨by rw [c1, m1], by omega, fun q => by omega, pj_sa ⟨j1, j2, pj_72_eq j3, pj_72 j4, pj_72_lo j5, pj_72_ok j6, pj_72 j7, pj_72_lo j8⟩ m3⟩
      · have hi := pj_inj (by omega) (by omega) (c4.symm.trans m3)
        have hj := pj_inj (by omega) (by omega) (c7.symm.trans m6)
        subst hi hj
        rw [← e72] at m7
        exact absurd ((pj_room J (by omega)).mpr m7) c8
theorem st_cut {n : Nat} {S Q S2 Q2 : pdS} {f z kc r : Int32} {o0 : Int64} (J : pd_J n S Q)
    (hC : (kc = nI 0 ∧ ∃ r0 : Int32, o0 = r0.toInt64 ∧ hp_cut n S f z r0 S2) ∨ (kc = nI 1 ∧ hx_cut n S f z "java/lang/IndexOutOfBoundsException" S2) ∨ (kc = nI 2 ∧ hx_cut n S f z "java/util/NoSuchElementException" S2) ∨ (kc = nI 3 ∧ hx_cut n S f z "java/lang/IllegalArgumentException" S2))
    (hM : (Q2 7 3 = 1 ∧ pd_nof f ∧ pd_sa Q Q2) ∨ (Q2 7 3 = 2 ∧ (∃ i, i < 16 ∧ f = nI i ∧ Q 5 (2 * i) = 0) ∧ pd_sa Q Q2) ∨ (Q2 7 3 = 3 ∧ (∃ i, i < 16 ∧ f = nI i ∧ Q 5 (2 * i) ≠ 0 ∧ ∀ x, x ≤ Q 4 (2 * i) → z ≠ nI x) ∧ pd_sa Q Q2) ∨ (Q2 7 3 = 0 ∧ ∃ i x, i < 16 ∧ f = nI i ∧ Q 5 (2 * i) ≠ 0 ∧ x ≤ Q 4 (2 * i) ∧ z = nI x ∧ r = nI (Q 4 (2 * i)) ∧ pd_cut Q Q2 i x)) : pj_C n kc o0 r S2 Q2 := by
  have he := J.2.2.1.1
  have hb4 : ∀ i, i < 16 → Q 4 (2 * i) ≤ 25600 := fun i hi => (J.2.2.2.2.2.2.1.1 (2 * i) (by omega)).1
  rcases hC with ⟨c1, r0, c2, i, x, c3, c4, c5, c6, c7, c8, c9, c10⟩ | ⟨c1, c2, c3⟩ | ⟨c1, c2, c3⟩ | ⟨c1, c2, c3⟩
  · have e5 := (he (2 * i) (by omega)).2
    have e4 := (he (2 * i) (by omega)).1
    have hb := hb4 i c3
    rcases hM with ⟨-, m2, -⟩ | ⟨-, ⟨i', m2, m3, m4⟩, -⟩ | ⟨-, ⟨i', m2, m3, -, m4⟩, -⟩ | ⟨m1, i', x', m2, m3, m4, m5, m6, m7, m8⟩
    · exact absurd c4 (m2 i c3)
    · have hi := pj_inj (by omega) (by omega) (c4.symm.trans m3)
      subst hi
      omega
    · have hi := pj_inj (by omega) (by omega) (c4.symm.trans m3)
      subst hi
      exact absurd c7 (m4 x (by omega))
    · have hi := pj_inj (by omega) (by omega) (c4.symm.trans m3)
      subst hi
      have hx := pj_inj (by omega) (by omega) (c7.symm.trans m6)
      subst hx
      refine ⟨by rw [c1, m1], by omega, fun _ => by rw [c2, c8, m7, e4], ?_⟩
      obtain ⟨j1, j2, j3, j4, j5, j6, j7, j8⟩ := J
      obtain ⟨v1, l1⟩ := pj_cut c9 c6 j4 j5
      obtain ⟨v2, l2⟩ := pj_cut m8 m5 j7 j8
      exact ⟨j1, j2, pd_cut_eq c9 m8 c3 c6 j3, v1, l1, c10, v2, l2⟩
  · rcases c3 with ⟨-, c4⟩ | ⟨q, -⟩ | ⟨q, -⟩
    · rcases hM with ⟨m1, -, m3⟩ | ⟨-, ⟨i, m2, m3, -⟩, -⟩ | ⟨-, ⟨i, m2, m3, -⟩, -⟩ | ⟨-, i, x, m2, m3, -⟩
      · exact pj_x J c1 m1 (by omega) (by omega) c2 m3
      · exact absurd m3 (c4 i m2)
      · exact absurd m3 (c4 i m2)
      · exact absurd m3 (c4 i m2)
    · exact pj_sne (by decide) q
    · exact pj_sne (by decide) q
  · rcases c3 with ⟨q, -⟩ | ⟨-, i, c4, c5, c6⟩ | ⟨q, -⟩
    · exact pj_sne (by decide) q
    · have e5 := (he (2 * i) (by omega)).2
      rcases hM with ⟨-, m2, -⟩ | ⟨m1, -, m3⟩ | ⟨-, ⟨i', m2, m3, m4, -⟩, -⟩ | ⟨-, i', x, m2, m3, m4, -⟩
      · exact absurd c5 (m2 i c4)
      · exact pj_x J c1 m1 (by omega) (by omega) c2 m3
      · have hi := pj_inj (by omega) (by omega) (c5.symm.trans m3)
        subst hi
        omega
      · have hi := pj_inj (by omega) (by omega) (c5.symm.trans m3)
        subst hi
        omega
    · exact pj_sne (by decide) q
  · rcases c3 with ⟨q, -⟩ | ⟨q, -⟩ | ⟨-, i, c4, c5, c6, c7⟩
    · exact pj_sne (by decide) q
    · exact pj_sne (by decide) q
    · have e5 := (he (2 * i) (by omega)).2
      have e4 := (he (2 * i) (by omega)).1
      rcases hM with ⟨-, m2, -⟩ | ⟨-, ⟨i', m2, m3, m4⟩, -⟩ | ⟨m1, -, m3⟩ | ⟨-, i', x, m2, m3, m4, m5, m6, -⟩
      · exact absurd c5 (m2 i c4)
      · have hi := pj_inj (by omega) (by omega) (c5.symm.trans m3)
        subst hi
        omega
      · exact pj_x J c1 m1 (by omega) (by omega) c2 m3
      · have hi := pj_inj (by omega) (by omega) (c5.symm.trans m3)
        subst hi
        exact absurd m6 (c7 x (by omega))
theorem st_remove {n : Nat} {S Q S2 Q2 : pdS} {f kc r : Int32} {o0 : Int64} (J : pd_J n S Q)
    (hC : (kc = nI 0 ∧ ∃ r0 : Int32, o0 = r0.toInt64 ∧ hp_remove n S f r0 S2) ∨ (kc = nI 1 ∧ hx_remove n S f "java/lang/IndexOutOfBoundsException" S2))
    (hM : (Q2 7 3 = 1 ∧ pd_nof f ∧ pd_sa Q Q2) ∨ (Q2 7 3 = 0 ∧ ∃ i, i < 16 ∧ f = nI i ∧ r = nI (Q 5 (2 * i)) ∧ pd_rem Q Q2 i)) : pj_C n kc o0 r S2 Q2 := by
  have he := J.2.2.1.1
  rcases hC with ⟨c1, r0, c2, i, c3, c4, c5, c6, c7⟩ | ⟨c1, c2, -, c3⟩
  · rcases hM with ⟨-, m2, -⟩ | ⟨m1, i', m2, m3, m4, m5⟩
    · exact absurd c4 (m2 i c3)
    · have hi := pj_inj (by omega) (by omega) (c4.symm.trans m3)
      subst hi
      refine ⟨by rw [c1, m1], by omega, fun _ => by rw [c2, c5, m4, (he (2 * i) (by omega)).2], ?_⟩
      obtain ⟨j1, j2, j3, j4, j5, j6, j7, j8⟩ := J
      obtain ⟨v1, l1⟩ := pj_rem c6 j4 j5
      obtain ⟨v2, l2⟩ := pj_rem m5 j7 j8
      exact ⟨j1, j2, pd_rem_eq c6 m5 c3 j3, v1, l1, c7, v2, l2⟩
  · rcases hM with ⟨m1, -, m3⟩ | ⟨-, i, m2, m3, -⟩
    · exact pj_x J c1 m1 (by omega) (by omega) c2 m3
    · exact absurd m3 (c3 i m2)
theorem st_twin {n : Nat} {S Q S2 Q2 : pdS} {f z kc r : Int32} {o0 : Int64} (J : pd_J n S Q)
    (hC : (kc = nI 0 ∧ ∃ r0 : Int32, o0 = r0.toInt64 ∧ hp_twin n S f z r0 S2) ∨ (kc = nI 1 ∧ hx_twin n S f z "java/lang/IndexOutOfBoundsException" S2) ∨ (kc = nI 2 ∧ hx_twin n S f z "java/util/NoSuchElementException" S2))
    (hM : (Q2 7 3 = 1 ∧ (pd_nof f ∨ pd_nof z) ∧ pd_sa Q Q2) ∨ (Q2 7 3 = 2 ∧ (∃ i j, i < 16 ∧ f = nI i ∧ j < 16 ∧ z = nI j ∧ Q 5 (2 * i) = 0) ∧ pd_sa Q Q2) ∨ (Q2 7 3 = 0 ∧ ∃ i j, i < 16 ∧ f = nI i ∧ j < 16 ∧ z = nI j ∧ Q 5 (2 * i) ≠ 0 ∧ r = nI (Q 4 (2 * i)) ∧ pd_twi Q Q2 i j)) : pj_C n kc o0 r S2 Q2 := by
  have he := J.2.2.1.1
  rcases hC with ⟨c1, r0, c2, i, j, c3, c4, c5, c6, c7, c8, c9, c10⟩ | ⟨c1, c2, c3⟩ | ⟨c1, c2, c3⟩
  · have e5 := (he (2 * i) (by omega)).2
    have e4 := (he (2 * i) (by omega)).1
    rcases hM with ⟨-, m2, -⟩ | ⟨-, ⟨i', j', m2, m3, -, -, m4⟩, -⟩ | ⟨m1, i', j', m2, m3, m4, m5, m6, m7, m8⟩
    · rcases m2 with m2 | m2
      · exact absurd c4 (m2 i c3)
      · exact absurd c6 (m2 j c5)
    · have hi := pj_inj (by omega) (by omega) (c4.symm.trans m3)
      subst hi
      omega
    · have hi := pj_inj (by omega) (by omega) (c4.symm.trans m3)
      have hj := pj_inj (by omega) (by omega) (c6.symm.trans m5)
      subst hi hj
      refine ⟨by rw [c1, m1], by omega, fun _ => by rw [c2, c8, m7, e4], ?_⟩
      obtain ⟨j1, j2, j3, j4, j5, j6, j7, j8⟩ := J
      obtain ⟨v1, l1⟩ := pj_twi c9 c3 j4 j5
      obtain ⟨v2, l2⟩ := pj_twi m8 c3 j7 j8
      exact ⟨j1, j2, pd_twi_eq c9 m8 c3 j3, v1, l1, c10, v2, l2⟩
  · rcases c3 with ⟨-, c4⟩ | ⟨q, -⟩
    · rcases hM with ⟨m1, -, m3⟩ | ⟨-, ⟨i, j, m2, m3, m4, m5, -⟩, -⟩ | ⟨-, i, j, m2, m3, m4, m5, -⟩
      · exact pj_x J c1 m1 (by omega) (by omega) c2 m3
      · rcases c4 with c4 | c4
        · exact absurd m3 (c4 i m2)
        · exact absurd m5 (c4 j m4)
      · rcases c4 with c4 | c4
        · exact absurd m3 (c4 i m2)
        · exact absurd m5 (c4 j m4)
    · exact pj_sne (by decide) q
  · rcases c3 with ⟨q, -⟩ | ⟨-, i, j, c4, c5, c6, c7, c8⟩
    · exact pj_sne (by decide) q
    · have e5 := (he (2 * i) (by omega)).2
      rcases hM with ⟨-, m2, -⟩ | ⟨m1, -, m3⟩ | ⟨-, i', j', m2, m3, m4, m5, m6, -⟩
      · rcases m2 with m2 | m2
        · exact absurd c5 (m2 i c4)
        · exact absurd c7 (m2 j c6)
      · exact pj_x J c1 m1 (by omega) (by omega) c2 m3
      · have hi := pj_inj (by omega) (by omega) (c5.symm.trans m3)
        subst hi
        omega
theorem st_sync {n : Nat} {S Q S2 Q2 : pdS} {f kc r : Int32} {o0 : Int64} (J : pd_J n S Q)
    (hC : (kc = nI 0 ∧ ∃ r0 : Int32, o0 = r0.toInt64 ∧ hp_sync n S f r0 S2) ∨ (kc = nI 1 ∧ hx_sync n S f "java/lang/IndexOutOfBoundsException" S2))
    (hM : (Q2 7 3 = 1 ∧ pd_nof f ∧ pd_sa Q Q2) ∨ (Q2 7 3 = 0 ∧ ∃ i, i < 16 ∧ f = nI i ∧ r = nI (pd_un Q i) ∧ pd_set Q Q2 i)) : pj_C n kc o0 r S2 Q2 := by
  rcases hC with ⟨c1, r0, c2, i, c3, c4, c5, c6, c7⟩ | ⟨c1, c2, -, c3⟩
  · rcases hM with ⟨-, m2, -⟩ | ⟨m1, i', m2, m3, m4, m5⟩
    · exact absurd c4 (m2 i c3)
    · have hi := pj_inj (by omega) (by omega) (c4.symm.trans m3)
      subst hi
      refine ⟨by rw [c1, m1], by omega, fun _ => by rw [c2, c5, m4, pd_un_eq J.2.2.1 c3], ?_⟩
      obtain ⟨j1, j2, j3, j4, j5, j6, j7, j8⟩ := J
      obtain ⟨v1, l1⟩ := pj_set c6 c3 j4 j5
      obtain ⟨v2, l2⟩ := pj_set m5 c3 j7 j8
      exact ⟨j1, j2, pd_set_eq c6 m5 c3 j3, v1, l1, c7, v2, l2⟩
  · rcases hM with ⟨m1, -, m3⟩ | ⟨-, i, m2, m3, -⟩
    · exact pj_x J c1 m1 (by omega) (by omega) c2 m3
    · exact absurd m3 (c3 i m2)
theorem st_crash {n : Nat} {S Q S2 Q2 : pdS} {f z kc r : Int32} {o0 : Int64} (J : pd_J n S Q)
    (hC : (kc = nI 0 ∧ ∃ r0 : Int32, o0 = r0.toInt64 ∧ hp_crash n S f z r0 S2) ∨ (kc = nI 1 ∧ hx_crash n S f z "java/lang/IndexOutOfBoundsException" S2) ∨ (kc = nI 2 ∧ hx_crash n S f z "java/lang/IllegalArgumentException" S2))
    (hM : (Q2 7 3 = 1 ∧ pd_nof f ∧ pd_sa Q Q2) ∨ (Q2 7 3 = 2 ∧ (∃ i, i < 16 ∧ f = nI i ∧ z < 0) ∧ pd_sa Q Q2) ∨ (Q2 7 3 = 0 ∧ ∃ i k, i < 16 ∧ f = nI i ∧ k < 2 ^ 31 ∧ z = nI k ∧ r = nI (Q2 4 (2 * i)) ∧ pd_fal Q Q2 i k)) : pj_C n kc o0 r S2 Q2 := by
  have hneg : ∀ k : Nat, k < 2 ^ 31 → ¬ nI k < 0 := fun k hk q => absurd ((nI_ltI hk (by decide)).mp (show nI k < nI 0 from q)) (Nat.not_lt_zero _)
  rcases hC with ⟨c1, r0, c2, i, k, c3, c4, c5, c6, c7, c8, c9⟩ | ⟨c1, c2, c3⟩ | ⟨c1, c2, c3⟩
  · rcases hM with ⟨-, m2, -⟩ | ⟨-, ⟨i', m2, m3, m4⟩, -⟩ | ⟨m1, i', k', m2, m3, m4, m5, m6, m7⟩
    · exact absurd c4 (m2 i c3)
    · rw [c6] at m4
      exact absurd m4 (hneg k c5)
    · have hi := pj_inj (by omega) (by omega) (c4.symm.trans m3)
      have hk := pj_inj c5 m4 (c6.symm.trans m5)
      subst hi hk
      obtain ⟨j1, j2, j3, j4, j5, j6, j7, j8⟩ := J
      have e2 := pd_fal_eq c8 m7 c3 j3
      refine ⟨by rw [c1, m1], by omega, fun _ => by rw [c2, c7, m6, (e2.1 (2 * i) (by omega)).1], ?_⟩
      exact ⟨j1, j2, e2, pd_fal_v c8 c3 j4, pd_fal_lo c8 c3 j5, c9, pd_fal_v m7 c3 j7, pd_fal_lo m7 c3 j8⟩
  · rcases c3 with ⟨-, c4⟩ | ⟨q, -⟩
    · rcases hM with ⟨m1, -, m3⟩ | ⟨-, ⟨i, m2, m3, -⟩, -⟩ | ⟨-, i, k, m2, m3, -⟩
      · exact pj_x J c1 m1 (by omega) (by omega) c2 m3
      · exact absurd m3 (c4 i m2)
      · exact absurd m3 (c4 i m2)
    · exact pj_sne (by decide) q
  · rcases c3 with ⟨q, -⟩ | ⟨-, i, c4, c5, c6⟩
    · exact pj_sne (by decide) q
    · rcases hM with ⟨-, m2, -⟩ | ⟨m1, -, m3⟩ | ⟨-, i', k, m2, m3, m4, m5, -⟩
      · exact absurd c5 (m2 i c4)
      · exact pj_x J c1 m1 (by omega) (by omega) c2 m3
      · rw [m5] at c6
        exact absurd c6 (hneg k m4)
theorem pj_fi {n : Nat} {S Q : pdS} (J : pd_J n S Q) {i : Nat} (hi : i < 16) (w : Nat) : pd_fi S i w = pd_fi Q i w := by
  obtain ⟨j1, j2, j3, j4, j5, j6, j7, j8⟩ := J
  unfold pd_fi
  rw [(j3.1 (2 * i) (by omega)).1, (j3.1 (2 * i + 1) (by omega)).1, (j3.1 (2 * i) (by omega)).2, (j3.1 (2 * i + 1) (by omega)).2, j3.2.1 i hi, pd_shd_eq j3 j4.2.2.1 j7.2.2.1 (by omega)]
theorem st_file {n : Nat} {S Q S2 Q2 : pdS} {f z kc r : Int32} {o0 : Int64} (J : pd_J n S Q)
    (hC : (kc = nI 0 ∧ ∃ r0 : Int32, o0 = r0.toInt64 ∧ hp_file n S f z r0 S2) ∨ (kc = nI 1 ∧ hx_file n S f z "java/lang/IndexOutOfBoundsException" S2))
    (hM : pd_sa Q Q2 ∧ ((Q2 7 3 = 1 ∧ (pd_nof f ∨ ∀ w, w ≤ 7 → z ≠ nI w)) ∨ (Q2 7 3 = 0 ∧ ∃ i w, i < 16 ∧ f = nI i ∧ w ≤ 7 ∧ z = nI w ∧ r = nI (pd_fi Q i w)))) : pj_C n kc o0 r S2 Q2 := by
  obtain ⟨ms, hM⟩ := hM
  rcases hC with ⟨c1, r0, c2, c0, i, w, c3, c4, c5, c6, c7⟩ | ⟨c1, c2, -, c3⟩
  · rcases hM with ⟨-, m2⟩ | ⟨m1, i', w', m2, m3, m4, m5, m6⟩
    · rcases m2 with m2 | m2
      · exact absurd c4 (m2 i c3)
      · exact absurd c6 (m2 w c5)
    · have hi := pj_inj (by omega) (by omega) (c4.symm.trans m3)
      have hw := pj_inj (by omega) (by omega) (c6.symm.trans m5)
      subst hi hw
      subst c0
      exact ⟨by rw [c1, m1], by omega, fun _ => by rw [c2, c7, m6, pj_fi J c3], pj_sa J ms⟩
  · rcases hM with ⟨m1, -⟩ | ⟨-, i, w, m2, m3, m4, m5, -⟩
    · exact pj_x J c1 m1 (by omega) (by omega) c2 ms
    · rcases c3 with c3 | c3
      · exact absurd m3 (c3 i m2)
      · exact absurd m5 (c3 w m4)
theorem st_byteAt {n b : Nat} {S Q S2 Q2 : pdS} {f z kc r : Int32} {o0 : Int64} (hb : b ≤ 1) (J : pd_J n S Q)
    (hC : (kc = nI 0 ∧ ∃ r0 : Int32, o0 = r0.toInt64 ∧ hp_byteAt n S f b z r0 S2) ∨ (kc = nI 1 ∧ hx_byteAt n S f b z "java/lang/IndexOutOfBoundsException" S2))
    (hM : pd_sa Q Q2 ∧ ((Q2 7 3 = 1 ∧ (pd_nof f ∨ ∃ i, i < 16 ∧ f = nI i ∧ ∀ j, j < Q 4 (2 * i + b) → z ≠ nI j)) ∨ (Q2 7 3 = 0 ∧ ∃ i j, i < 16 ∧ f = nI i ∧ j < Q 4 (2 * i + b) ∧ z = nI j ∧ r = nI (pd_by Q (2 * i + b) j)))) : pj_C n kc o0 r S2 Q2 := by
  obtain ⟨ms, hM⟩ := hM
  have he := J.2.2.1.1
  have hb4 : ∀ i, i < 16 → Q 4 (2 * i + b) ≤ 25600 := fun i hi => (J.2.2.2.2.2.2.1.1 (2 * i + b) (by omega)).1
  rcases hC with ⟨c1, r0, c2, c0, i, j, c3, c4, c5, c6, c7⟩ | ⟨c1, c2, -, c3⟩
  · have e4 := (he (2 * i + b) (by omega)).1
    have h4 := hb4 i c3
    rcases hM with ⟨-, m2⟩ | ⟨m1, i', j', m2, m3, m4, m5, m6⟩
    · rcases m2 with m2 | ⟨i', m2, m3, m4⟩
      · exact absurd c4 (m2 i c3)
      · have hi := pj_inj (by omega) (by omega) (c4.symm.trans m3)
        subst hi
        exact absurd c6 (m4 j (by omega))
    · have hi := pj_inj (by omega) (by omega) (c4.symm.trans m3)
      subst hi
      have hj := pj_inj (by omega) (by omega) (c6.symm.trans m5)
      subst hj
      subst c0
      exact ⟨by rw [c1, m1], by omega, fun _ => by rw [c2, c7, m6, J.2.2.1.2.2.2.2.2.2 (2 * i + b) j (by omega) c5], pj_sa J ms⟩
  · rcases hM with ⟨m1, -⟩ | ⟨-, i, j, m2, m3, m4, m5, -⟩
    · exact pj_x J c1 m1 (by omega) (by omega) c2 ms
    · rcases c3 with c3 | ⟨i', c4, c5, c6⟩
      · exact absurd m3 (c3 i m2)
      · have hi := pj_inj (by omega) (by omega) (c5.symm.trans m3)
        subst hi
        have e4 := (he (2 * i' + b) (by omega)).1
        exact absurd m5 (c6 j (by omega))
theorem st_count {n : Nat} {S Q Q2 : pdS} {z r1 r2 : Int32} (J : pd_J n S Q) (hC : (∃ w, w ≤ 4 ∧ z = nI w ∧ r1 = nI (pd_co n (n - S 7 0) S w)) ∨ ((∀ w, w ≤ 4 → z ≠ nI w) ∧ r1 = -1)) (hM : pd_sa Q Q2 ∧ ((∃ w, w ≤ 4 ∧ z = nI w ∧ r2 = nI (pd_co n (pd_nz (pd_ct Q) 1024) Q w)) ∨ ((∀ w, w ≤ 4 → z ≠ nI w) ∧ r2 = -1))) : r1 = r2 ∧ pd_J n S Q2 := by
  obtain ⟨ms, hM⟩ := hM
  refine ⟨?_, pj_sa J ms⟩
  rcases hC with ⟨w, c1, c2, c3⟩ | ⟨c1, c2⟩
  · rcases hM with ⟨w', m1, m2, m3⟩ | ⟨m1, -⟩
    · have hw := pj_inj (by omega) (by omega) (c2.symm.trans m2)
      subst hw
      rw [c3, m3, (pj_nz J).2.1]
      unfold pd_co
      rw [J.2.2.1.2.2.1, J.2.2.1.2.2.2.1, pd_th_eq J.2.2.1]
    · exact absurd c2 (m1 w c1)
  · rcases hM with ⟨w', m1, m2, -⟩ | ⟨-, m2⟩
    · exact absurd m2 (c1 w' m1)
    · rw [c2, m2]
theorem pj_al {x : Int64} : ∀ {m : Nat} {S S' Q Q' : pdS} {y y' : Int64}, m ≤ 16 → pd_eq S Q → pd_al S x m S' y → pd_al Q x m Q' y' → pd_eq S' Q' ∧ y = y'
  | 0, S, S', Q, Q', y, y', _, e, h, g => ⟨pd_sa_eq2 g.1 (pd_sa_eq h.1 e), by rw [h.2, g.2]⟩
  | m + 1, S, S', Q, Q', y, y', hm, e, h, g => by
    obtain ⟨T, z, h1, h2, h3⟩ := h
    obtain ⟨U, z', g1, g2, g3⟩ := g
    obtain ⟨e1, e2⟩ := pj_al (by omega) e h1 g1
    subst e2
    have e3 : y = y' := by rw [h2, g2]
    subst e3
    refine ⟨pd_fal_eq h3 ?_ (by omega) e1, rfl⟩
    rw [(e1.1 (2 * m) (by omega)).1, e1.2.1 m (by omega)]
    exact g3
theorem st_crashAll {n : Nat} {S Q S2 Q2 : pdS} {x : Int64} {r1 r2 : Int32} (J : pd_J n S Q) (hC : ∃ y, pd_al S x 16 S2 y ∧ r1 = nI (pd_th S2) ∧ pd_v n S2 ∧ pd_ok n S2 (pd_ct S2) ∧ pd_lo S2) (hM : ∃ y, pd_al Q x 16 Q2 y ∧ r2 = nI (pd_th Q2) ∧ pd_v 1024 Q2 ∧ pd_lo Q2) : r1 = r2 ∧ pd_J n S2 Q2 := by
  obtain ⟨y, c1, c2, c3, c4, c5⟩ := hC
  obtain ⟨y', m1, m2, m3, m4⟩ := hM
  obtain ⟨j1, j2, j3, j4, j5, j6, j7, j8⟩ := J
  obtain ⟨e, -⟩ := pj_al (by omega) j3 c1 m1
  exact ⟨by rw [c2, m2, pd_th_eq e], j1, j2, e, c3, c5, c4, m3, m4⟩
theorem st_start {n : Nat} (h1 : 4 ≤ n) (h2 : n ≤ 1024) : pd_J n (pn_s0 n) pn_z := by
  have z : ∀ {b j : Nat}, b ≠ 2 → (b ≠ 7 ∨ j ≠ 0) → pn_s0 n b j = 0 := fun a b => pn_s0_z a b
  have hpf : pd_pf 0 = 0 := rfl
  have hct : ∀ p, pd_ct (pn_s0 n) p = 0 := fun p => by
    unfold pd_ct
    rw [pd_sm_congr (g := fun _ => 0) (fun d hd => by rw [z (by decide) (Or.inl (by decide)), hpf]; rfl)]
    decide +kernel
  refine ⟨h1, h2, ⟨fun c hc => ⟨z (by decide) (Or.inl (by decide)), z (by decide) (Or.inl (by decide))⟩, fun i hi => z (by decide) (Or.inl (by decide)), z (by decide) (Or.inr (by decide)), z (by decide) (Or.inr (by decide)), fun j hj => ?_, fun c d k hc hd hk hk2 => ?_, fun c i hc hi => ?_⟩, ⟨fun c hc => ?_, fun c k hc hk => ?_, fun a d k j ha hd hk hj => ?_, ?_, fun j => ?_, fun j => ?_⟩, fun i hi => ?_, ⟨fun p hp => ?_, fun j hj => ?_, fun i j hi hj q => ?_, ?_⟩, ⟨fun c hc => ⟨Nat.zero_le _, Nat.zero_le _, fun _ => rfl⟩, fun c k hc hk => ?_, fun a d k j ha hd hk hj => ?_, Nat.zero_le _, fun j => ?_, fun j => ?_⟩, fun i hi => Nat.zero_le _⟩
  · rw [z (by decide) (Or.inr (by decide))] at hj
    omega
  · rw [z (by decide) (Or.inl (by decide)), hpf] at hk
    omega
  · rw [z (by decide) (Or.inl (by decide))] at hi
    omega
  · rw [z (by decide) (Or.inl (by decide)), z (by decide) (Or.inl (by decide))]
    omega
  · rw [z (by decide) (Or.inl (by decide)), hpf] at hk
    omega
  · rw [z (by decide) (Or.inl (by decide)), hpf] at hk
    omega
  · rw [z (by decide) (Or.inr (by decide))]
    omega
  · rw [z (by decide) (Or.inl (by decide))]
    omega
  · rw [z (by decide) (Or.inl (by decide))]
    omega
  · rw [z (by decide) (Or.inl (by decide))]
    omega
  · rw [hct, z (by decide) (Or.inl (by decide))]
  · rw [hct]
    rw [pn_s0_7] at hj
    exact ⟨by show (if j < n then j else 0) < n; rw [if_pos hj]; exact hj, rfl⟩
  · rw [pn_s0_7] at hi hj
    have q1 : (if i < n then i else 0) = (if j < n then j else 0) := q
    rw [if_pos hi, if_pos hj] at q1
    exact q1
  · rw [pn_s0_7, pd_nz_congr (g := fun _ => 0) (fun k _ => hct k)]
    have hz : ∀ m, pd_nz (fun _ => 0) m = 0 := fun m => by
      induction m with
      | zero => rfl
      | succ m ih =>
        show pd_nz (fun _ => 0) m + _ = 0
        rw [ih]
        rfl
    rw [hz]
    omega
  · have hk0 : k < pd_pf 0 := hk
    rw [hpf] at hk0
    omega
  · have hk0 : k < pd_pf 0 := hk
    rw [hpf] at hk0
    omega
  · show 0 < 256
    decide
  · show 0 < 256
    decide
