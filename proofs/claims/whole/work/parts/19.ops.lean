/-! PURE, 9: the calls, said of both sides -/
def pd_sa (S S' : pdS) : Prop := S' 0 = S 0 ∧ S' 3 = S 3 ∧ S' 4 = S 4 ∧ S' 5 = S 5 ∧ S' 6 = S 6 ∧ S' 7 1 = S 7 1 ∧ S' 7 2 = S 7 2 ∧ ∀ d, d < 32 → S' (8 + d) = S (8 + d)
theorem pd_sa_rf (S : pdS) : pd_sa S S := ⟨rfl, rfl, rfl, rfl, rfl, rfl, rfl, fun _ _ => rfl⟩
theorem pd_sa_tr {S T U : pdS} (h : pd_sa S T) (g : pd_sa T U) : pd_sa S U := by
  obtain ⟨a0, a3, a4, a5, a6, a7, a8, ar⟩ := h
  obtain ⟨b0, b3, b4, b5, b6, b7, b8, br⟩ := g
  exact ⟨b0.trans a0, b3.trans a3, b4.trans a4, b5.trans a5, b6.trans a6, b7.trans a7, b8.trans a8, fun d hd => (br d hd).trans (ar d hd)⟩
theorem pd_sa_fr {S T : pdS} (h : pd_fr S T) : pd_sa S T := ⟨h.1 0 (by decide) (by decide) (by decide), h.1 3 (by decide) (by decide) (by decide), h.1 4 (by decide) (by decide) (by decide), h.1 5 (by decide) (by decide) (by decide), h.1 6 (by decide) (by decide) (by decide), h.2 1 (by decide), h.2 2 (by decide), fun d _ => h.1 (8 + d) (by omega) (by omega) (by omega)⟩
/-- a store that nobody sees -/
theorem pd_sa_st {S : pdS} {b j v : Nat} (h : b = 1 ∨ b = 2 ∨ (b = 7 ∧ j ≠ 1 ∧ j ≠ 2)) : pd_sa S (pd_st S b j v) := by
  have hb : ∀ a, a ≠ 1 → a ≠ 2 → a ≠ 7 → pd_st S b j v a = S a := fun a h1 h2 h7 => pd_bk _ (by omega)
  refine ⟨hb 0 (by decide) (by decide) (by decide), hb 3 (by decide) (by decide) (by decide), hb 4 (by decide) (by decide) (by decide), hb 5 (by decide) (by decide) (by decide), hb 6 (by decide) (by decide) (by decide), ?_, ?_, fun d _ => hb (8 + d) (by omega) (by omega) (by omega)⟩
  · rw [pd_at, if_neg (by omega)]
  · rw [pd_at, if_neg (by omega)]
theorem pd_sa_by {S S' : pdS} (h : pd_sa S S') {c : Nat} (hc : c < 32) (i : Nat) : pd_by S' c i = pd_by S c i := pd_by_congr h.1 (by rw [h.2.2.2.2.2.2.2 c hc])
theorem pd_sa_v {S S' : pdS} {N : Nat} (h : pd_sa S S') (hv : pd_v N S) : pd_v N S' := by
  obtain ⟨e0, e3, e4, e5, e6, e71, e72, er⟩ := h
  obtain ⟨v1, v2, v3, v4, v5, v6⟩ := hv
  refine ⟨fun c hc => by rw [e4, e5]; exact v1 c hc, fun c k hc hk => ?_, fun c d k j hc hd hk hj => ?_, by rw [e72]; exact v4, by rw [e3]; exact v5, by rw [e0]; exact v6⟩
  · rw [e4] at hk
    rw [er c hc]
    exact v2 c k hc hk
  · rw [e4] at hk hj
    rw [er c hc, er d hd]
    exact v3 c d k j hc hd hk hj
theorem pd_sa_ct {S S' : pdS} (h : pd_sa S S') (p : Nat) : pd_ct S' p = pd_ct S p := pd_ct_congr h.2.2.1 (fun d hd k _ => by rw [h.2.2.2.2.2.2.2 d hd]) p
theorem pd_sa_eq {S S' Q : pdS} (h : pd_sa S S') (e : pd_eq S Q) : pd_eq S' Q := by
  have hby := fun (c i : Nat) (hc : c < 32) => pd_sa_by h hc i
  obtain ⟨e0, e3, e4, e5, e6, e71, e72, er⟩ := h
  obtain ⟨h1, h2, h3, h4, h5, h6, h7⟩ := e
  refine ⟨by rw [e4, e5]; exact h1, by rw [e6]; exact h2, by rw [e71]; exact h3, by rw [e72]; exact h4, by rw [e72, e3]; exact h5, fun c d k hc hd hk hk2 => ?_, fun c i hc hi => ?_⟩
  · rw [e4] at hk hk2
    rw [er c hc, er d hd]
    exact h6 c d k hc hd hk hk2
  · rw [e4] at hi
    rw [hby c i hc]
    exact h7 c i hc hi
theorem pd_sa_eq2 {S Q Q' : pdS} (h : pd_sa Q Q') (e : pd_eq S Q) : pd_eq S Q' := pd_eq_symm (pd_sa_eq h (pd_eq_symm e))
theorem pd_v_6 {S : pdS} {N i v : Nat} (hv : pd_v N S) : pd_v N (pd_st S 6 i v) := by
  have hb : ∀ a, a ≠ 6 → pd_st S 6 i v a = S a := fun a h => pd_bk _ h
  obtain ⟨v1, v2, v3, v4, v5, v6⟩ := hv
  refine ⟨fun c hc => by rw [hb 4 (by decide), hb 5 (by decide)]; exact v1 c hc, fun c k hc hk => ?_, fun c d k j hc hd hk hj => ?_, by rw [hb 7 (by decide)]; exact v4, by rw [hb 3 (by decide)]; exact v5, by rw [hb 0 (by decide)]; exact v6⟩
  · rw [hb 4 (by decide)] at hk
    rw [hb (8 + c) (by omega)]
    exact v2 c k hc hk
  · rw [hb 4 (by decide)] at hk hj
    rw [hb (8 + c) (by omega), hb (8 + d) (by omega)]
    exact v3 c d k j hc hd hk hj
theorem pd_eq_6 {S Q : pdS} {i v : Nat} (e : pd_eq S Q) : pd_eq (pd_st S 6 i v) (pd_st Q 6 i v) := by
  have hb : ∀ a, a ≠ 6 → pd_st S 6 i v a = S a := fun a h => pd_bk _ h
  have gb : ∀ a, a ≠ 6 → pd_st Q 6 i v a = Q a := fun a h => pd_bk _ h
  obtain ⟨h1, h2, h3, h4, h5, h6, h7⟩ := e
  refine ⟨by rw [hb 4 (by decide), hb 5 (by decide), gb 4 (by decide), gb 5 (by decide)]; exact h1, fun j hj => ?_, by rw [hb 7 (by decide), gb 7 (by decide)]; exact h3, by rw [hb 7 (by decide), gb 7 (by decide)]; exact h4, by rw [hb 7 (by decide), hb 3 (by decide), gb 3 (by decide)]; exact h5, fun c d k hc hd hk hk2 => ?_, fun c i2 hc hi => ?_⟩
  · rw [pd_own, pd_own]
    by_cases hji : j = i
    · subst hji
      rw [va_up_self, va_up_self]
    · rw [va_up_ne _ _ hji, va_up_ne _ _ hji]
      exact h2 j hj
  · rw [hb 4 (by decide)] at hk hk2
    rw [hb (8 + c) (by omega), hb (8 + d) (by omega), gb (8 + c) (by omega), gb (8 + d) (by omega)]
    exact h6 c d k hc hd hk hk2
  · rw [hb 4 (by decide)] at hi
    rw [pd_by_congr (hb 0 (by decide)) (by rw [hb (8 + c) (by omega)]), pd_by_congr (gb 0 (by decide)) (by rw [gb (8 + c) (by omega)])]
    exact h7 c i2 hc hi
/-- cut -/
def pd_cut (S S' : pdS) (f s : Nat) : Prop := ∃ T, pd_sh S T (2 * f) s ∧ pd_sa (pd_st T 6 f (if s < S 6 f then s else S 6 f)) S'
/-- remove -/
def pd_rem (S S' : pdS) (f : Nat) : Prop := ∃ T, pd_sh S T (2 * f) 0 ∧ pd_sa (pd_st (pd_st T 5 (2 * f) 0) 6 f 0) S'
/-- twin -/
def pd_twi (S S' : pdS) (a b : Nat) : Prop := ∃ T, pd_be S T (2 * b) (2 * a) ∧ pd_sa (pd_st T 6 b 0) S'
/-- settle -/
def pd_set (S S' : pdS) (f : Nat) : Prop := ∃ T, pd_be S T (2 * f + 1) (2 * f) ∧ pd_sa (pd_st T 6 f (S 4 (2 * f))) S'
/-- a crash of a file -/
def pd_fal (S S' : pdS) (f keep : Nat) : Prop := ∃ T, ((keep = 0 ∧ pd_be S T (2 * f) (2 * f + 1)) ∨ (0 < keep ∧ S 6 f + keep - 1 < S 4 (2 * f) ∧ pd_sh S T (2 * f) (S 6 f + keep - 1)) ∨ (0 < keep ∧ S 4 (2 * f) ≤ S 6 f + keep - 1 ∧ pd_sa S T)) ∧ pd_set T S' f
/-- how many files are there -/
def pd_th (S : pdS) : Nat := pd_sm (fun i => S 5 (2 * i)) 16
theorem pd_th_eq {S Q : pdS} (e : pd_eq S Q) : pd_th S = pd_th Q := pd_sm_congr (fun i hi => (e.1 (2 * i) (by omega)).2)
/-- the pages that sync counts -/
def pd_un (S : pdS) (f : Nat) : Nat := pd_sm (fun k => if k < pd_pf (S 4 (2 * f + 1)) ∧ S (8 + (2 * f + 1)) k = S (8 + 2 * f) k then 0 else 1) (pd_pf (S 4 (2 * f)))
theorem pd_un_eq {S Q : pdS} (e : pd_eq S Q) {f : Nat} (hf : f < 16) : pd_un S f = pd_un Q f := by
  obtain ⟨h1, -, -, -, -, h6, -⟩ := e
  unfold pd_un
  rw [← (h1 (2 * f) (by omega)).1, ← (h1 (2 * f + 1) (by omega)).1]
  refine pd_sm_congr (fun k hk => ?_)
  by_cases hl : k < pd_pf (S 4 (2 * f + 1))
  · have := h6 (2 * f + 1) (2 * f) k (by omega) (by omega) hl hk
    by_cases hq : S (8 + (2 * f + 1)) k = S (8 + 2 * f) k
    · rw [if_pos ⟨hl, hq⟩, if_pos ⟨hl, this.mp hq⟩]
    · rw [if_neg (fun z => hq z.2), if_neg (fun z => hq (this.mpr z.2))]
  · rw [if_neg (fun z => hl z.1), if_neg (fun z => hl z.1)]
/-- the pages of a row that are in another, too -/
def pd_shd (S : pdS) (c : Nat) : Nat := pd_sm (fun k => if 1 < pd_ct S (S (8 + c) k) then 1 else 0) (pd_pf (S 4 c))
theorem pd_shd_eq {S Q : pdS} (e : pd_eq S Q) (hS : pd_po S) (hQ : pd_po Q) {c : Nat} (hc : c < 32) : pd_shd S c = pd_shd Q c := by
  unfold pd_shd
  rw [← (e.1 c hc).1]
  refine pd_sm_congr (fun k hk => ?_)
  rw [pd_eq_ct e hS hQ hc hk]
theorem pd_cut_eq {S S' Q Q' : pdS} {f s : Nat} (h : pd_cut S S' f s) (g : pd_cut Q Q' f s) (hf : f < 16) (hs : s ≤ S 4 (2 * f)) (e : pd_eq S Q) : pd_eq S' Q' := by
  obtain ⟨T, h1, h2⟩ := h
  obtain ⟨U, g1, g2⟩ := g
  refine pd_sa_eq h2 (pd_sa_eq2 g2 ?_)
  rw [← e.2.1 f hf]
  exact pd_eq_6 (pd_sh_eq h1 g1 hs (by omega) e)
theorem pd_eq_5 {S Q : pdS} {c v : Nat} (e : pd_eq S Q) : pd_eq (pd_st S 5 c v) (pd_st Q 5 c v) := by
  have hb : ∀ a, a ≠ 5 → pd_st S 5 c v a = S a := fun a h => pd_bk _ h
  have gb : ∀ a, a ≠ 5 → pd_st Q 5 c v a = Q a := fun a h => pd_bk _ h
  obtain ⟨h1, h2, h3, h4, h5, h6, h7⟩ := e
  refine ⟨fun d hd => ⟨by rw [hb 4 (by decide), gb 4 (by decide)]; exact (h1 d hd).1, ?_⟩, by rw [hb 6 (by decide), gb 6 (by decide)]; exact h2, by rw [hb 7 (by decide), gb 7 (by decide)]; exact h3, by rw [hb 7 (by decide), gb 7 (by decide)]; exact h4, by rw [hb 7 (by decide), hb 3 (by decide), gb 3 (by decide)]; exact h5, fun a d k ha hd hk hk2 => ?_, fun d i hd hi => ?_⟩
  · rw [pd_own, pd_own]
    by_cases hdc : d = c
    · subst hdc
      rw [va_up_self, va_up_self]
    · rw [va_up_ne _ _ hdc, va_up_ne _ _ hdc]
      exact (h1 d hd).2
  · rw [hb 4 (by decide)] at hk hk2
    rw [hb (8 + a) (by omega), hb (8 + d) (by omega), gb (8 + a) (by omega), gb (8 + d) (by omega)]
    exact h6 a d k ha hd hk hk2
  · rw [hb 4 (by decide)] at hi
    rw [pd_by_congr (hb 0 (by decide)) (by rw [hb (8 + d) (by omega)]), pd_by_congr (gb 0 (by decide)) (by rw [gb (8 + d) (by omega)])]
    exact h7 d i hd hi
theorem pd_rem_eq {S S' Q Q' : pdS} {f : Nat} (h : pd_rem S S' f) (g : pd_rem Q Q' f) (hf : f < 16) (e : pd_eq S Q) : pd_eq S' Q' := by
  obtain ⟨T, h1, h2⟩ := h
  obtain ⟨U, g1, g2⟩ := g
  exact pd_sa_eq h2 (pd_sa_eq2 g2 (pd_eq_6 (pd_eq_5 (pd_sh_eq h1 g1 (Nat.zero_le _) (by omega) e))))
theorem pd_twi_eq {S S' Q Q' : pdS} {a b : Nat} (h : pd_twi S S' a b) (g : pd_twi Q Q' a b) (ha : a < 16) (e : pd_eq S Q) : pd_eq S' Q' := by
  obtain ⟨T, h1, h2⟩ := h
  obtain ⟨U, g1, g2⟩ := g
  exact pd_sa_eq h2 (pd_sa_eq2 g2 (pd_eq_6 (pd_be_eq h1 g1 (by omega) e)))
theorem pd_set_eq {S S' Q Q' : pdS} {f : Nat} (h : pd_set S S' f) (g : pd_set Q Q' f) (hf : f < 16) (e : pd_eq S Q) : pd_eq S' Q' := by
  obtain ⟨T, h1, h2⟩ := h
  obtain ⟨U, g1, g2⟩ := g
  refine pd_sa_eq h2 (pd_sa_eq2 g2 ?_)
  rw [← (e.1 (2 * f) (by omega)).1]
  exact pd_eq_6 (pd_be_eq h1 g1 (by omega) e)
theorem pd_fal_eq {S S' Q Q' : pdS} {f keep : Nat} (h : pd_fal S S' f keep) (g : pd_fal Q Q' f keep) (hf : f < 16) (e : pd_eq S Q) : pd_eq S' Q' := by
  obtain ⟨T, h1, h2⟩ := h
  obtain ⟨U, g1, g2⟩ := g
  have hz := (e.1 (2 * f) (by omega)).1
  have hlw := e.2.1 f hf
  rw [← hz, ← hlw] at g1
  refine pd_set_eq h2 g2 hf ?_
  rcases h1 with ⟨a1, a2⟩ | ⟨a1, a2, a3⟩ | ⟨a1, a2, a3⟩ <;> rcases g1 with ⟨b1, b2⟩ | ⟨b1, b2, b3⟩ | ⟨b1, b2, b3⟩
  · exact pd_be_eq a2 b2 (by omega) e
  · omega
  · omega
  · omega
  · exact pd_sh_eq a3 b3 (by omega) (by omega) e
  · omega
  · omega
  · omega
  · exact pd_sa_eq a3 (pd_sa_eq2 b3 e)
theorem pd_set_v {S S' : pdS} {N f : Nat} (h : pd_set S S' f) (hf : f < 16) (hv : pd_v N S) : pd_v N S' ∧ S' 4 (2 * f) = S 4 (2 * f) ∧ S' 6 f = S 4 (2 * f) := by
  obtain ⟨T, h1, h2⟩ := h
  refine ⟨pd_sa_v h2 (pd_v_6 (pd_be_v h1 (by omega) hv)), ?_, ?_⟩
  · rw [h2.2.2.1, pd_bk _ (by decide), h1.2.2.1, va_up_ne _ _ (by omega)]
  · rw [h2.2.2.2.2.1, pd_self]
