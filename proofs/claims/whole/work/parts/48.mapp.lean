/-! PURE, 16: the model's append -/
def pd_gv (n : Nat) (S S' : pdS) (c add : Nat) : Prop :=
  S' 4 = va_up (S 4) c (S 4 c + add) ∧ S' 5 = va_up (S 5) c 1 ∧ S' 6 = S 6 ∧ S' 3 = S 3 ∧ ((pd_cp S c add ∧ S' 7 1 = S 7 1 + 1) ∨ (¬ pd_cp S c add ∧ S' 7 1 = S 7 1)) ∧ S' 7 2 = S 7 2 ∧
  (∀ d k, d < 32 → d ≠ c → k < pd_pf (S 4 d) → S' (8 + d) k = S (8 + d) k) ∧ (∀ k, k < pd_pf (S 4 c) → ¬ (pd_cp S c add ∧ k = S 4 c / 64) → S' (8 + c) k = S (8 + c) k) ∧
  (∀ k, pd_nw S c add k → S' (8 + c) k < n ∧ pd_ct S (S' (8 + c) k) = 0) ∧ (∀ k j, pd_nw S c add k → pd_nw S c add j → S' (8 + c) k = S' (8 + c) j → k = j) ∧
  (∀ d i, d < 32 → i < S 4 d → pd_by S' d i = pd_by S d i) ∧ ∀ j, S' 0 j < 256
theorem pd_ap_gv {n : Nat} {S X S' : pdS} {c add : Nat} {tp : Nat → Nat} (hc : c < 32) (hv : pd_v n S) (h : pd_gv n S X c add) (e : S' = va_up X 0 (pd_wt (X 0) (X (8 + c)) (S 4 c) tp add)) (htp : ∀ i, tp i < 256) (h72 : X 7 2 = 0) : pd_ap n S S' c add tp := by
  obtain ⟨g4, g5, g6, g3, g71, g72, go, gold, gnew, gdis, gby, g0⟩ := h
  have eb : ∀ b, b ≠ 0 → S' b = X b := fun b hb => by rw [e, va_up_ne _ _ hb]
  have e0 : S' 0 = pd_wt (X 0) (X (8 + c)) (S 4 c) tp add := by rw [e, va_up_self]
  have er : ∀ d, S' (8 + d) = X (8 + d) := fun d => eb _ (by omega)
  -- places of row c behind the old end
  have hnwk : ∀ i, i < add → (S 4 c % 64 = 0 ∨ (S 4 c + i) / 64 ≠ S 4 c / 64) → pd_nw S c add ((S 4 c + i) / 64) := fun i hi hz => by
    refine ⟨by unfold pd_pf; omega, Or.inl (by unfold pd_pf; omega)⟩
  -- a page that is written is in no other row, and at one place of this row
  have hown : ∀ i, i < add → ∀ d k, d < 32 → k < pd_pf (S 4 d) → X (8 + d) k = X (8 + c) ((S 4 c + i) / 64) → d = c ∧ k = (S 4 c + i) / 64 := by
    intro i hi d k hd hk hq
    by_cases hnw : pd_nw S c add ((S 4 c + i) / 64)
    · have hz := (gnew _ hnw).2
      by_cases hdc : d = c
      · subst hdc
        by_cases hnk : pd_nw S d add k
        · exact ⟨rfl, gdis k _ hnk hnw hq⟩
        · rw [gold k hk (fun z => hnk ⟨Nat.lt_of_lt_of_le hk (pd_pf_mono (by omega)), Or.inr z⟩)] at hq
          exact absurd hq (pd_ct_live hz hd hk)
      · rw [go d k hd hdc hk] at hq
        exact absurd hq (pd_ct_live hz hd hk)
    · have hm : S 4 c % 64 ≠ 0 := fun z => hnw (hnwk i hi (Or.inl z))
      have hl : (S 4 c + i) / 64 = S 4 c / 64 := by
        by_cases z : (S 4 c + i) / 64 = S 4 c / 64
        · exact z
        · exact absurd (hnwk i hi (Or.inr z)) hnw
      have hll : S 4 c / 64 < pd_pf (S 4 c) := by
        unfold pd_pf
        omega
      have hncp : ¬ pd_cp S c add := fun z => hnw ⟨by unfold pd_pf; omega, Or.inr ⟨z, hl⟩⟩
      rw [hl, gold _ hll (fun z => hncp z.1)] at hq
      have hone : ¬ 1 < pd_ct S (S (8 + c) (S 4 c / 64)) := fun z => hncp ⟨by omega, hm, z⟩
      by_cases hdc : d = c
      · subst hdc
        by_cases hnk : pd_nw S d add k
        · exact absurd hq.symm (pd_ct_live (gnew k hnk).2 hd hll)
        · rw [gold k hk (fun z => hncp z.1)] at hq
          exact ⟨rfl, by rw [hl]; exact hv.2.2.1 d d k _ hd hd hk hll hq⟩
      · rw [go d k hd hdc hk] at hq
        -- two live references
        have h1 : 0 < pd_rc (S (8 + d)) (S (8 + c) (S 4 c / 64)) (pd_pf (S 4 d)) := pd_rc_pos hq hk
        have h2 : 0 < pd_rc (S (8 + c)) (S (8 + c) (S 4 c / 64)) (pd_pf (S 4 c)) := pd_rc_pos rfl hll
        have h3 : pd_rc (S (8 + d)) (S (8 + c) (S 4 c / 64)) (pd_pf (S 4 d)) + pd_rc (S (8 + c)) (S (8 + c) (S 4 c / 64)) (pd_pf (S 4 c)) ≤ pd_ct S (S (8 + c) (S 4 c / 64)) := by
          have u1 := pd_sm_up (f := fun d => pd_rc (S (8 + d)) (S (8 + c) (S 4 c / 64)) (pd_pf (S 4 d))) (v := 0) hd
          have u2 := pd_sm_le (f := va_up (fun d => pd_rc (S (8 + d)) (S (8 + c) (S 4 c / 64)) (pd_pf (S 4 d))) d 0) hc
          rw [va_up_ne _ _ (fun z => hdc z.symm)] at u2
          unfold pd_ct
          try dsimp only at u1 u2
          omega
        omega
  have hout : ∀ d i, d < 32 → i < S 4 d → pd_by S' d i = pd_by X d i := fun d i hd hi => by
    unfold pd_by
    rw [er d, e0]
    refine pd_wt_out (fun t ht q => ?_)
    have hk : i / 64 < pd_pf (S 4 d) := by
      unfold pd_pf
      omega
    have h1 : X (8 + d) (i / 64) = X (8 + c) ((S 4 c + t) / 64) := by omega
    obtain ⟨rfl, h3⟩ := hown t ht d _ hd hk h1
    omega
  have hin : ∀ i, i < add → pd_by S' c (S 4 c + i) = tp i := fun i hi => by
    unfold pd_by
    rw [er c, e0]
    refine pd_wt_in hi (fun j h1 h2 q => ?_)
    have hjq : X (8 + c) ((S 4 c + j) / 64) = X (8 + c) ((S 4 c + i) / 64) := by omega
    have hkk : (S 4 c + j) / 64 = (S 4 c + i) / 64 := by
      by_cases hj : (S 4 c + j) / 64 < pd_pf (S 4 c)
      · exact (hown i hi c _ hc hj hjq).2
      · by_cases hi2 : (S 4 c + i) / 64 < pd_pf (S 4 c)
        · exact ((hown j h2 c _ hc hi2 hjq.symm).2).symm
        · exact gdis _ _ ⟨by unfold pd_pf; omega, Or.inl (by omega)⟩ ⟨by unfold pd_pf; omega, Or.inl (by omega)⟩ hjq
    omega
  exact ⟨by rw [eb 4 (by decide)]; exact g4, by rw [eb 5 (by decide)]; exact g5, by rw [eb 6 (by decide)]; exact g6, by rw [eb 7 (by decide)]; exact g71, by rw [eb 7 (by decide)]; exact h72, fun d k hd hdc hk => by rw [er d]; exact go d k hd hdc hk, fun k hk hn => by rw [er c]; exact gold k hk hn, fun k hk => by rw [er c]; exact gnew k hk, fun k j hk hj => by rw [er c]; exact gdis k j hk hj, fun d i hd hi => (hout d i hd hi).trans (gby d i hd hi), hin, by rw [eb 3 (by decide), g3]; exact hv.2.2.2.2.1, by rw [e0]; exact pd_wt_lt g0 htp add⟩
theorem pd_lw_cg {b b' : Nat → Nat} {w : Nat} (h : ∀ t, t < 8 → b (8 * w + t) = b' (8 * w + t)) : pd_lw b w = pd_lw b' w := by
  unfold pd_lw
  simp only [pd_pk]
  rw [h 0 (by decide), h 1 (by decide), h 2 (by decide), h 3 (by decide), h 4 (by decide), h 5 (by decide), h 6 (by decide), h 7 (by decide)]
theorem pd_lw_ch {b b' : Nat → Nat} {w w' : Nat} (h : ∀ t, t < 8 → b (8 * w + t) = b' (8 * w' + t)) : pd_lw b w = pd_lw b' w' := by
  unfold pd_lw
  simp only [pd_pk]
  rw [h 0 (by decide), h 1 (by decide), h 2 (by decide), h 3 (by decide), h 4 (by decide), h 5 (by decide), h 6 (by decide), h 7 (by decide)]
theorem pd_cp8 {B : Nat → Nat} {o p k : Nat} (hop : o ≠ p) (hk : k < 8) : pd_lw (va_cpy B B (64 * o) (64 * p) (8 * k)) (8 * o + k) = pd_lw (va_cpy B B (64 * o) (64 * p) (8 * (k + 1))) (8 * p + k) := by
  refine pd_lw_ch (fun t ht => ?_)
  rw [pk_cpy_out (by omega), pk_cpy_in (by omega) (by omega)]
  congr 1
  omega
theorem pd_cp8o {B : Nat → Nat} {o p k w : Nat} (hk : k < 8) (hw : w ≠ 8 * p + k) : pd_lw (va_cpy B B (64 * o) (64 * p) (8 * (k + 1))) w = pd_lw (va_cpy B B (64 * o) (64 * p) (8 * k)) w := by
  refine pd_lw_cg (fun t ht => ?_)
  unfold va_cpy
  by_cases h1 : 64 * p ≤ 8 * w + t ∧ 8 * w + t < 64 * p + 8 * k
  · rw [if_pos h1, if_pos (by omega)]
  · rw [if_neg h1, if_neg (by omega)]
def pd_rr (a : Nat) (S : pdS) (cc add : Nat) : Prop := pd_pf (S 4 cc + add) ≤ 400 ∧ ((pd_cp S cc add ∧ pd_pf (S 4 cc + add) - pd_pf (S 4 cc) + 1 ≤ a) ∨ (¬ pd_cp S cc add ∧ pd_pf (S 4 cc + add) - pd_pf (S 4 cc) ≤ a))
/-- before the model's loop -/
def pd_xm (U B : pdS) (c add : Nat) : Prop :=
  B 3 = U 3 ∧ B 4 = U 4 ∧ B 5 = va_up (U 5) c 1 ∧ B 6 = U 6 ∧ B 7 2 = 0 ∧ B 7 3 = 0 ∧ (∀ d, d ≠ c → d < 32 → B (8 + d) = U (8 + d)) ∧ (∀ j, B 0 j < 256) ∧
  (∀ q, q < 1024 → B 1 q < 1000000) ∧ (∀ q, q < 1024 → B 1 q = 0 → pd_ct U q = 0 ∧ (pd_cp U c add → B (8 + c) (U 4 c / 64) ≠ q)) ∧ pd_nz (B 1) 1024 + (pd_pf (U 4 c + add) - pd_pf (U 4 c)) ≤ 1024 ∧
  ((¬ pd_cp U c add ∧ B 0 = U 0 ∧ B 7 1 = U 7 1 ∧ B (8 + c) = U (8 + c)) ∨
   (pd_cp U c add ∧ B 7 1 = U 7 1 + 1 ∧ ∃ nw, nw < 1024 ∧ pd_ct U nw = 0 ∧ B (8 + c) = va_up (U (8 + c)) (U 4 c / 64) nw ∧ B 0 = va_cpy (U 0) (U 0) (64 * U (8 + c) (U 4 c / 64)) (64 * nw) 64))
/-- in the model's loop, k bytes written -/
def pd_ml (U B X : pdS) (c add : Nat) (tp : Nat → Nat) (k : Nat) : Prop :=
  (∀ d, d ≠ 0 → d ≠ 1 → d ≠ 8 + c → X d = B d) ∧ (∀ j, j < pd_pf (U 4 c) → X (8 + c) j = B (8 + c) j) ∧
  (∀ j, pd_pf (U 4 c) ≤ j → j < pd_pf (U 4 c + k) → X (8 + c) j < 1024 ∧ pd_ct U (X (8 + c) j) = 0 ∧ (pd_cp U c add → X (8 + c) j ≠ B (8 + c) (U 4 c / 64))) ∧
  (∀ i j, pd_pf (U 4 c) ≤ i → i < pd_pf (U 4 c + k) → pd_pf (U 4 c) ≤ j → j < pd_pf (U 4 c + k) → X (8 + c) i = X (8 + c) j → i = j) ∧
  X 0 = pd_wt (B 0) (X (8 + c)) (U 4 c) tp k ∧ (∀ q, q < 1024 → X 1 q < 1000000) ∧
  (∀ q, q < 1024 → X 1 q = 0 → pd_ct U q = 0 ∧ (pd_cp U c add → B (8 + c) (U 4 c / 64) ≠ q) ∧ ∀ j, pd_pf (U 4 c) ≤ j → j < pd_pf (U 4 c + k) → X (8 + c) j ≠ q) ∧ pd_nz (X 1) 1024 + (pd_pf (U 4 c + add) - pd_pf (U 4 c + k)) ≤ 1024
theorem pd_ml_0 {U B : pdS} {c add : Nat} {tp : Nat → Nat} (h : pd_xm U B c add) : pd_ml U B B c add tp 0 := by
  obtain ⟨-, -, -, -, -, -, -, -, h1, h2, h3, -⟩ := h
  refine ⟨fun _ _ _ _ => rfl, fun _ _ => rfl, fun j a b => by rw [Nat.add_zero] at b; omega, fun i j a b => by rw [Nat.add_zero] at b; omega, rfl, h1, fun q hq hz => ⟨(h2 q hq hz).1, (h2 q hq hz).2, fun j a b => by rw [Nat.add_zero] at b; omega⟩, h3⟩
theorem pd_wt_cg {B r r' : Nat → Nat} {a : Nat} {tp : Nat → Nat} : ∀ {m : Nat}, (∀ i, i < m → r ((a + i) / 64) = r' ((a + i) / 64)) → pd_wt B r a tp m = pd_wt B r' a tp m
  | 0, _ => rfl
  | m + 1, h => by
    simp only [pd_wt]
    rw [pd_wt_cg (fun i hi => h i (Nat.lt_succ_of_lt hi)), h m (Nat.lt_succ_self m)]
/-- a byte, no new page -/
theorem pd_ml_b {U B X Z : pdS} {c add k : Nat} {tp : Nat → Nat} (h : pd_ml U B X c add tp k) (hm : (U 4 c + k) % 64 ≠ 0) (e : Z = pd_st X 0 (64 * X (8 + c) ((U 4 c + k) / 64) + (U 4 c + k) % 64) (tp k)) : pd_ml U B Z c add tp (k + 1) := by
  have hpf : pd_pf (U 4 c + (k + 1)) = pd_pf (U 4 c + k) := by
    unfold pd_pf
    omega
  have eb : ∀ b, b ≠ 0 → Z b = X b := fun b hb => by rw [e, pd_bk _ hb]
  obtain ⟨h1, h2, h3, h4, h5, h6, h7, h8⟩ := h
  unfold pd_ml
  rw [hpf, eb (8 + c) (by omega), eb 1 (by decide)]
  refine ⟨fun d d0 d1 dc => (eb d d0).trans (h1 d d0 d1 dc), h2, h3, h4, ?_, h6, h7, h8⟩
  rw [e, pd_own, h5, pd_wt_s]
/-- a byte, with a new page -/
theorem pd_ml_n {U B X Z : pdS} {c add k q : Nat} {tp : Nat → Nat} (h : pd_ml U B X c add tp k) (hk : k < add) (hm : (U 4 c + k) % 64 = 0) (hq : q < 1024) (hz : X 1 q = 0) (e : Z = pd_st (pd_st (pd_st X 1 q 1) (8 + c) ((U 4 c + k) / 64) q) 0 (64 * q + (U 4 c + k) % 64) (tp k)) : pd_ml U B Z c add tp (k + 1) := by
  have hp0 : pd_pf (U 4 c + k) = (U 4 c + k) / 64 := by
    unfold pd_pf
    omega
  have hp1 : pd_pf (U 4 c + (k + 1)) = (U 4 c + k) / 64 + 1 := by
    unfold pd_pf
    omega
  have hpz : pd_pf (U 4 c) ≤ (U 4 c + k) / 64 := by
    unfold pd_pf
    omega
  have hpa : (U 4 c + k) / 64 + 1 ≤ pd_pf (U 4 c + add) := by
    unfold pd_pf
    omega
  generalize hj0 : (U 4 c + k) / 64 = j0 at hp0 hp1 hpz hpa e
  obtain ⟨h1, h2, h3, h4, h5, h6, h7, h8⟩ := h
  rw [hp0] at h3 h4 h7 h8
  have eb : ∀ b, b ≠ 0 → b ≠ 1 → b ≠ 8 + c → Z b = X b := fun b b0 b1 bc => by rw [e, pd_bk _ b0, pd_bk _ bc, pd_bk _ b1]
  have er : Z (8 + c) = va_up (X (8 + c)) j0 q := by rw [e, pd_bk _ (by omega), pd_own, pd_bk _ (by omega)]
  have e1 : Z 1 = va_up (X 1) q 1 := by rw [e, pd_bk _ (by decide), pd_bk _ (by omega), pd_own]
  obtain ⟨z1, z2, z3⟩ := h7 q hq hz
  unfold pd_ml
  rw [hp1, er, e1]
  refine ⟨fun d d0 d1 dc => (eb d d0 d1 dc).trans (h1 d d0 d1 dc), fun j hj => ?_, fun j hj1 hj2 => ?_, fun i j hi1 hi2 hj1 hj2 hij => ?_, ?_, fun r hr => ?_, fun r hr hzr => ?_, ?_⟩
  · rw [va_up_ne _ _ (by omega)]
    exact h2 j hj
  · by_cases hjj : j = j0
    · subst hjj
      rw [va_up_self]
      exact ⟨hq, z1, fun hc => fun w => z2 hc w.symm⟩
    · rw [va_up_ne _ _ hjj]
      exact h3 j hj1 (by omega)
  · by_cases hii : i = j0 <;> by_cases hjj : j = j0
    · omega
    · subst hii
      rw [va_up_self, va_up_ne _ _ hjj] at hij
      exact absurd hij.symm (z3 j hj1 (by omega))
    · subst hjj
      rw [va_up_self, va_up_ne _ _ hii] at hij
      exact absurd hij (z3 i hi1 (by omega))
    · rw [va_up_ne _ _ hii, va_up_ne _ _ hjj] at hij
      exact h4 i j hi1 (by omega) hj1 (by omega) hij
  · rw [e, pd_own, pd_bk _ (by omega), pd_bk _ (by decide), h5, pd_wt_s, hj0, va_up_self]
    congr 1
    refine pd_wt_cg (fun i hi => ?_)
    rw [va_up_ne _ _ (by omega)]
  · by_cases hrq : r = q
    · subst hrq
      rw [va_up_self]
      decide
    · rw [va_up_ne _ _ hrq]
      exact h6 r hr
  · have hrq : r ≠ q := fun w => by
      subst w
      rw [va_up_self] at hzr
      omega
    rw [va_up_ne _ _ hrq] at hzr
    obtain ⟨w1, w2, w3⟩ := h7 r hr hzr
    refine ⟨w1, w2, fun j hj1 hj2 => ?_⟩
    by_cases hjj : j = j0
    · subst hjj
      rw [va_up_self]
      exact fun w => hrq w.symm
    · rw [va_up_ne _ _ hjj]
      exact w3 j hj1 (by omega)
  · rw [pd_nz_in hz (by decide) hq]
    omega
theorem pd_ml_end {U B X Z : pdS} {c add : Nat} {tp : Nat → Nat} (hc : c < 32) (hv : pd_v 1024 U) (hx : pd_xm U B c add) (h : pd_ml U B X c add tp add) (h72 : U 7 2 = 0) (htp : ∀ i, tp i < 256) (e : Z = pd_st X 4 c (U 4 c + add)) : pd_ap 1024 U Z c add tp ∧ Z 7 3 = 0 := by
  obtain ⟨b3, b4, b5, b6, b72, b73, bo, b0, s1, s2, s3, hcase⟩ := hx
  obtain ⟨h1, h2, h3, h4, h5, h6, h7, h8⟩ := h
  have hl0 : pd_cp U c add → U 4 c / 64 < pd_pf (U 4 c) := fun q => by
    have := q.2.1
    unfold pd_pf
    omega
  have ez : ∀ b, b ≠ 4 → Z b = X b := fun b hb => by rw [e, pd_bk _ hb]
  have er : ∀ d, Z (8 + d) = X (8 + d) := fun d => ez _ (by omega)
  have eo : ∀ d, d ≠ c → d < 32 → Z (8 + d) = U (8 + d) := fun d hd hl => by rw [er d, h1 (8 + d) (by omega) (by omega) (by omega), bo d hd hl]
  have hold : ∀ k, k < pd_pf (U 4 c) → ¬ (pd_cp U c add ∧ k = U 4 c / 64) → Z (8 + c) k = U (8 + c) k := fun k hk hn => by
    rw [er c, h2 k hk]
    rcases hcase with ⟨q1, q2, q3, q4⟩ | ⟨q1, q2, nw, q3, q4, q5, q6⟩
    · rw [q4]
    · rw [q5, va_up_ne _ _ (fun z => hn ⟨q1, z⟩)]
  have hnwk : ∀ k, pd_nw U c add k → k < pd_pf (U 4 c) → pd_cp U c add ∧ k = U 4 c / 64 := fun k hk hl => by
    rcases hk.2 with q | q
    · omega
    · exact q
  have hgv : pd_gv 1024 U (va_up Z 0 (B 0)) c add := by
    have eg : ∀ b, b ≠ 0 → va_up Z 0 (B 0) b = Z b := fun b hb => va_up_ne _ _ hb
    have egr : ∀ d, va_up Z 0 (B 0) (8 + d) = Z (8 + d) := fun d => eg _ (by omega)
    refine ⟨by rw [eg 4 (by decide), e, pd_own, h1 4 (by decide) (by decide) (by omega), b4], by rw [eg 5 (by decide), ez 5 (by decide), h1 5 (by decide) (by decide) (by omega), b5], by rw [eg 6 (by decide), ez 6 (by decide), h1 6 (by decide) (by decide) (by omega), b6], by rw [eg 3 (by decide), ez 3 (by decide), h1 3 (by decide) (by decide) (by omega), b3], ?_, by rw [eg 7 (by decide), ez 7 (by decide), h1 7 (by decide) (by decide) (by omega), b72, h72], fun d k hd hdc _ => by rw [egr d, eo d hdc hd], fun k hk hn => by rw [egr c]; exact hold k hk hn, fun k hk => ?_, fun k j hk hj hq => ?_, fun d i hd hi => ?_, by rw [va_up_self]; exact b0⟩
    · rw [eg 7 (by decide), ez 7 (by decide), h1 7 (by decide) (by decide) (by omega)]
      rcases hcase with ⟨q1, q2, q3, q4⟩ | ⟨q1, q2, -⟩
      · exact Or.inr ⟨q1, q3⟩
      · exact Or.inl ⟨q1, q2⟩
    · rw [egr c, er c]
      by_cases hl : k < pd_pf (U 4 c)
      · obtain ⟨w1, w2⟩ := hnwk k hk hl
        rw [h2 k hl]
        rcases hcase with ⟨q1, -⟩ | ⟨q1, q2, nw, q3, q4, q5, q6⟩
        · exact absurd w1 q1
        · rw [q5, w2, va_up_self]
          exact ⟨q3, q4⟩
      · obtain ⟨w1, w2, -⟩ := h3 k (by omega) hk.1
        exact ⟨w1, w2⟩
    · rw [egr c, er c] at hq
      by_cases hkl : k < pd_pf (U 4 c) <;> by_cases hjl : j < pd_pf (U 4 c)
      · obtain ⟨-, w2⟩ := hnwk k hk hkl
        obtain ⟨-, z2⟩ := hnwk j hj hjl
        omega
      · obtain ⟨w1, w2⟩ := hnwk k hk hkl
        rw [h2 k hkl, w2] at hq
        exact absurd hq.symm ((h3 j (by omega) hj.1).2.2 w1)
      · obtain ⟨w1, w2⟩ := hnwk j hj hjl
        rw [h2 j hjl, w2] at hq
        exact absurd hq ((h3 k (by omega) hk.1).2.2 w1)
      · exact h4 k j (by omega) hk.1 (by omega) hj.1 hq
    · have hkd : i / 64 < pd_pf (U 4 d) := by
        unfold pd_pf
        omega
      unfold pd_by
      rw [va_up_self, egr d]
      rcases hcase with ⟨q1, q2, q3, q4⟩ | ⟨q1, q2, nw, q3, q4, q5, q6⟩
      · rw [q2]
        by_cases hdc : d = c
        · subst hdc
          rw [hold _ hkd (fun z => q1 z.1)]
        · rw [eo d hdc hd]
      · rw [q6]
        by_cases hdl : d = c ∧ i / 64 = U 4 c / 64
        · obtain ⟨rfl, hd2⟩ := hdl
          have hr : Z (8 + d) (i / 64) = nw := by rw [hd2, er d, h2 _ (hl0 q1), q5, va_up_self]
          rw [hr, pk_cpy_in (by omega) (by omega), show 64 * nw + i % 64 - 64 * nw = i % 64 by omega, hd2]
        · have hr : Z (8 + d) (i / 64) = U (8 + d) (i / 64) := by
            by_cases hdc : d = c
            · subst hdc
              exact hold _ hkd (fun z => hdl ⟨rfl, z.2⟩)
            · rw [eo d hdc hd]
          have hne : U (8 + d) (i / 64) ≠ nw := pd_ct_live q4 hd hkd
          rw [hr, pk_cpy_out (by omega)]
  refine ⟨pd_ap_gv hc hv hgv ?_ htp (by rw [va_up_ne _ _ (by decide), ez 7 (by decide), h1 7 (by decide) (by decide) (by omega), b72]), by rw [ez 7 (by decide), h1 7 (by decide) (by decide) (by omega), b73]⟩
  funext b
  by_cases hb : b = 0
  · subst hb
    rw [va_up_self, va_up_self, ez 0 (by decide), h5, va_up_ne _ _ (by omega), er c]
  · rw [va_up_ne _ _ hb, va_up_ne _ _ hb]
