/-! PURE, 12: ints in a range; the tape fed -/
theorem pd_rng {k : Int32} {a b : Nat} (ha : a < 2 ^ 31) (hb : b < 2 ^ 31) (h1 : ¬ k < nI a) (h2 : ¬ nI b < k) : ∃ j : Nat, a ≤ j ∧ j ≤ b ∧ k = nI j := by
  have h0 : ¬ k < 0 := fun q => h1 (Int32.lt_of_lt_of_le q (nI_pos' ha))
  obtain ⟨j, hj, rfl⟩ := nI_of h0
  exact ⟨j, Nat.not_lt.mp fun q => h1 ((nI_ltI hj ha).mpr q), Nat.not_lt.mp fun q => h2 ((nI_ltI hb hj).mpr q), rfl⟩
theorem pd_below {k : Int32} {a : Nat} (h : k < nI a) (j : Nat) (h1 : a ≤ j) (h2 : j < 2 ^ 31) : k ≠ nI j := fun q => by
  subst q
  have := (nI_ltI h2 (by omega)).mp h
  omega
theorem pd_above {k : Int32} {b : Nat} (hb : b < 2 ^ 31) (h : nI b < k) (j : Nat) (h1 : j ≤ b) : k ≠ nI j := fun q => by
  subst q
  have := (nI_ltI hb (by omega)).mp h
  omega
def pd_tp (S : pdS) (x : Int64) (a : Nat) : Nat → pdS
  | 0 => S
  | m + 1 => pd_st (pd_tp S x a m) 3 (a + m) (pd_bv x m)
theorem pd_tp_bk {S : pdS} {x : Int64} {a b : Nat} (hb : b ≠ 3) : ∀ m, pd_tp S x a m b = S b
  | 0 => rfl
  | m + 1 => by
    simp only [pd_tp]
    rw [pd_bk _ hb, pd_tp_bk hb m]
/-- the tape behind feed -/
def pd_fd (S : pdS) (x : Int64) (j : Nat) : pdS := pd_st (pd_tp S x (S 7 2) j) 7 2 (S 7 2 + j)
theorem pd_tp_at {S : pdS} {x : Int64} {a i : Nat} : ∀ m, pd_tp S x a m 3 i = if a ≤ i ∧ i < a + m then pd_bv x (i - a) else S 3 i
  | 0 => by
    rw [if_neg (by omega)]
    rfl
  | m + 1 => by
    simp only [pd_tp]
    rw [pd_at]
    by_cases hi : i = a + m
    · subst hi
      rw [if_pos ⟨rfl, rfl⟩, if_pos (by omega), show a + m - a = m by omega]
    · rw [if_neg (fun q => hi q.2), pd_tp_at m]
      by_cases h : a ≤ i ∧ i < a + m
      · rw [if_pos h, if_pos (by omega)]
      · rw [if_neg h, if_neg (by omega)]
theorem pd_fd_v {S : pdS} {N : Nat} {x : Int64} {j : Nat} (hv : pd_v N S) (hj : S 7 2 + j ≤ 4096) : pd_v N (pd_fd S x j) := by
  have hb : ∀ b, b ≠ 3 → b ≠ 7 → pd_fd S x j b = S b := fun b h3 h7 => by
    unfold pd_fd
    rw [pd_bk _ h7, pd_tp_bk h3]
  obtain ⟨v1, v2, v3, v4, v5, v6⟩ := hv
  refine ⟨fun c hc => by rw [hb 4 (by decide) (by decide), hb 5 (by decide) (by decide)]; exact v1 c hc, fun c k hc hk => ?_, fun c d k i hc hd hk hi => ?_, ?_, fun i => ?_, by rw [hb 0 (by decide) (by decide)]; exact v6⟩
  · rw [hb 4 (by decide) (by decide)] at hk
    rw [hb (8 + c) (by omega) (by omega)]
    exact v2 c k hc hk
  · rw [hb 4 (by decide) (by decide)] at hk hi
    rw [hb (8 + c) (by omega) (by omega), hb (8 + d) (by omega) (by omega)]
    exact v3 c d k i hc hd hk hi
  · unfold pd_fd
    rw [pd_self]
    exact hj
  · unfold pd_fd
    rw [pd_bk _ (by decide), pd_tp_at]
    by_cases h : S 7 2 ≤ i ∧ i < S 7 2 + j
    · rw [if_pos h]
      exact pd_bv_lt _ _
    · rw [if_neg h]
      exact v5 i
theorem pd_fd_ct {S : pdS} {x : Int64} {j : Nat} (p : Nat) : pd_ct (pd_fd S x j) p = pd_ct S p := pd_ct_congr (by unfold pd_fd; rw [pd_bk _ (by decide), pd_tp_bk (by decide)]) (fun d _ k _ => by unfold pd_fd; rw [pd_bk _ (by omega), pd_tp_bk (by omega)]) p
theorem pd_fd_ok {S : pdS} {n : Nat} {x : Int64} {j : Nat} (h : pd_ok n S (pd_ct S)) : pd_ok n (pd_fd S x j) (pd_ct (pd_fd S x j)) := by
  refine pd_ok_congr (pd_ok_eqv h ?_ ?_ ?_) (fun p _ => (pd_fd_ct p).symm)
  · unfold pd_fd
    rw [pd_bk _ (by decide), pd_tp_bk (by decide)]
  · unfold pd_fd
    rw [pd_bk _ (by decide), pd_tp_bk (by decide)]
  · unfold pd_fd
    rw [pd_ne _ (by decide), pd_tp_bk (by decide)]
theorem pd_fd_eq {S Q : pdS} {x : Int64} {j : Nat} (e : pd_eq S Q) : pd_eq (pd_fd S x j) (pd_fd Q x j) := by
  have hb : ∀ (T : pdS) b, b ≠ 3 → b ≠ 7 → pd_fd T x j b = T b := fun T b h3 h7 => by
    unfold pd_fd
    rw [pd_bk _ h7, pd_tp_bk h3]
  have h71 : ∀ T : pdS, pd_fd T x j 7 1 = T 7 1 := fun T => by
    unfold pd_fd
    rw [pd_ne _ (by decide), pd_tp_bk (by decide)]
  have h72 : ∀ T : pdS, pd_fd T x j 7 2 = T 7 2 + j := fun T => by
    unfold pd_fd
    rw [pd_self]
  have h3e : ∀ (T : pdS) i, pd_fd T x j 3 i = if T 7 2 ≤ i ∧ i < T 7 2 + j then pd_bv x (i - T 7 2) else T 3 i := fun T i => by
    unfold pd_fd
    rw [pd_bk _ (by decide), pd_tp_at]
  obtain ⟨h1, h2, h3, h4, h5, h6, h7⟩ := e
  refine ⟨by rw [hb S 4 (by decide) (by decide), hb S 5 (by decide) (by decide), hb Q 4 (by decide) (by decide), hb Q 5 (by decide) (by decide)]; exact h1, by rw [hb S 6 (by decide) (by decide), hb Q 6 (by decide) (by decide)]; exact h2, by rw [h71, h71]; exact h3, by rw [h72, h72, h4], fun i hi => ?_, fun c d k hc hd hk hk2 => ?_, fun c i hc hi => ?_⟩
  · rw [h72] at hi
    rw [h3e, h3e, ← h4]
    by_cases h : S 7 2 ≤ i ∧ i < S 7 2 + j
    · rw [if_pos h, if_pos h]
    · rw [if_neg h, if_neg h]
      exact h5 i (by omega)
  · rw [hb S 4 (by decide) (by decide)] at hk hk2
    rw [hb S (8 + c) (by omega) (by omega), hb S (8 + d) (by omega) (by omega), hb Q (8 + c) (by omega) (by omega), hb Q (8 + d) (by omega) (by omega)]
    exact h6 c d k hc hd hk hk2
  · rw [hb S 4 (by decide) (by decide)] at hi
    rw [pd_by_congr (hb S 0 (by decide) (by decide)) (by rw [hb S (8 + c) (by omega) (by omega)]), pd_by_congr (hb Q 0 (by decide) (by decide)) (by rw [hb Q (8 + c) (by omega) (by omega)])]
    exact h7 c i hc hi
theorem pd_ap_0 {n : Nat} {S T S' : pdS} {c add : Nat} {tp : Nat → Nat} (hb : ∀ b, b ≠ 7 → T b = S b) (h71 : T 7 1 = S 7 1) (h : pd_ap n T S' c add tp) : pd_ap n S S' c add tp := by
  have hct : ∀ p, pd_ct T p = pd_ct S p := fun p => pd_ct_congr (hb 4 (by decide)) (fun d _ k _ => by rw [hb (8 + d) (by omega)]) p
  have hr : ∀ d, T (8 + d) = S (8 + d) := fun d => hb (8 + d) (by omega)
  have hcp : pd_cp T c add ↔ pd_cp S c add := by
    unfold pd_cp
    rw [hb 4 (by decide), hr c, hct]
  have hnw : ∀ k, pd_nw T c add k ↔ pd_nw S c add k := fun k => by
    unfold pd_nw
    rw [hcp, hb 4 (by decide)]
  have hby : ∀ d i, pd_by T d i = pd_by S d i := fun d i => by
    unfold pd_by
    rw [hb 0 (by decide), hr d]
  obtain ⟨e4, e5, e6, e71, e72, eo, ec, en, ei, eb, et, e3, e0⟩ := h
  rw [hb 4 (by decide)] at e4 eo ec eb et
  rw [hb 5 (by decide)] at e5
  rw [hb 6 (by decide)] at e6
  rw [hcp, h71] at e71
  refine ⟨e4, e5, e6, e71, e72, fun d k hd hdc hk => by rw [← hr d]; exact eo d k hd hdc hk, fun k hk hn => by rw [← hr c]; exact ec k hk (by rw [hcp]; exact hn), fun k hk => by rw [← hct]; exact en k ((hnw k).mpr hk), fun k j hk hj => ei k j ((hnw k).mpr hk) ((hnw j).mpr hj), fun d i hd hi => by rw [← hby]; exact eb d i hd hi, et, e3, e0⟩
theorem pd_gw_row {n : Nat} {S X : pdS} {c add : Nat} (hc : c < 32) (hv : pd_v n S) (h : pd_gw n S X c add) {k : Nat} (hk : k < pd_pf (S 4 c + add)) : X (8 + c) k < n := by
  obtain ⟨g4, g5, g6, g3, g71, g72, go, gold, gnew, -⟩ := h
  by_cases hn : pd_nw S c add k
  · exact (gnew k hn).1
  · have h1 : k < pd_pf (S 4 c) := Nat.not_le.mp (fun q => hn ⟨hk, Or.inl q⟩)
    rw [gold k h1 (fun q => hn ⟨hk, Or.inr q⟩)]
    exact hv.2.1 c k hc h1
theorem pd_min {a b : Nat} (ha : a < 2 ^ 31) (hb : b < 2 ^ 31) : (if nI b < nI a then nI b else nI a) = nI (if b < a then b else a) := by
  by_cases h : b < a
  · rw [if_pos h, if_pos ((nI_ltI hb ha).mpr h)]
  · rw [if_neg h, if_neg (fun q => h ((nI_ltI hb ha).mp q))]
theorem pd_fal_lo {S S' : pdS} {i k : Nat} (h : pd_fal S S' i k) (hi : i < 16) (hl : pd_lo S) : pd_lo S' := by
  obtain ⟨T, h1, U, h2, h3⟩ := h
  have hT : (∀ d, d ≠ 2 * i → T 4 d = S 4 d) ∧ T 6 = S 6 := by
    rcases h1 with ⟨-, a⟩ | ⟨-, -, a⟩ | ⟨-, -, a⟩
    · exact ⟨fun d hd => by rw [a.2.2.1, va_up_ne _ _ hd], a.2.2.2.2.1⟩
    · exact ⟨fun d hd => by rw [a.2.2.1, va_up_ne _ _ hd], a.2.2.2.2.1⟩
    · exact ⟨fun d _ => by rw [a.2.2.1], a.2.2.2.2.1⟩
  intro j hj
  have h64 : U 4 (2 * j) = T 4 (2 * j) := by rw [h2.2.2.1, va_up_ne _ _ (by omega)]
  rw [h3.2.2.1, h3.2.2.2.2.1, pd_bk _ (show (4 : Nat) ≠ 6 by decide), pd_own, h64]
  by_cases hji : j = i
  · subst hji
    rw [va_up_self]
    exact Nat.le_refl _
  · rw [va_up_ne _ _ hji, h2.2.2.2.2.1, hT.2, hT.1 _ (by omega)]
    exact hl j hj
theorem pd_fal_v {S S' : pdS} {N i k : Nat} (h : pd_fal S S' i k) (hi : i < 16) (hv : pd_v N S) : pd_v N S' := by
  obtain ⟨T, h1, h2⟩ := h
  refine (pd_set_v h2 hi ?_).1
  rcases h1 with ⟨-, a⟩ | ⟨-, b, a⟩ | ⟨-, -, a⟩
  · exact pd_be_v a (by omega) hv
  · exact pd_sh_v a (by omega) hv
  · exact pd_sa_v a hv
/-- the first m files crash; what is drawn goes from x to y -/
def pd_al (S : pdS) (x : Int64) : Nat → pdS → Int64 → Prop
  | 0, S', y => pd_sa S S' ∧ y = x
  | m + 1, S', y => ∃ T z, pd_al S x m T z ∧ y = z * 6364136223846793005 + 1442695040888963407 ∧ pd_fal T S' m (pd_kp y (T 4 (2 * m)) (T 6 m))
/-- what file(f, w) answers -/
def pd_fi (S : pdS) (i w : Nat) : Nat := if w = 0 then S 4 (2 * i) else if w = 1 then S 4 (2 * i + 1) else if w = 2 then S 6 i else if w = 3 then S 5 (2 * i) else if w = 4 then S 5 (2 * i + 1) else if w = 5 then pd_pf (S 4 (2 * i)) else if w = 6 then pd_pf (S 4 (2 * i + 1)) else pd_shd S (2 * i)
theorem pd_sw {z : Int32} {b : Nat} (hb : b < 2 ^ 31) (h : ∀ w, w ≤ b → z ≠ nI w) : z.toInt < 0 ∨ (b : Int) < z.toInt := by
  by_cases h0 : z < 0
  · left
    rw [Int32.lt_iff_toInt_lt] at h0
    exact h0
  · right
    obtain ⟨j, hj, rfl⟩ := nI_of h0
    rw [nI_toInt hj]
    by_cases hjb : j ≤ b
    · exact absurd rfl (h j hjb)
    · omega
/-- what count(w) answers -/
def pd_co (n u : Nat) (S : pdS) (w : Nat) : Nat := if w = 0 then u else if w = 1 then n else if w = 2 then S 7 1 else if w = 3 then S 7 2 else pd_th S
