/-! PURE, 2: what both sides keep, and when they are alike -/
def pd_by (S : pdS) (c i : Nat) : Nat := S 0 (64 * S (8 + c) (i / 64) + i % 64)
/-- a page lies at one place in all rows -/
def pd_po (S : pdS) : Prop := ∀ c d k j, c < 32 → d < 32 → k < pd_pf (S 4 c) → j < pd_pf (S 4 d) → S (8 + c) k = S (8 + d) j → k = j
def pd_v (N : Nat) (S : pdS) : Prop :=
  (∀ c, c < 32 → S 4 c ≤ 25600 ∧ S 5 c ≤ 1 ∧ (S 5 c = 0 → S 4 c = 0)) ∧ (∀ c k, c < 32 → k < pd_pf (S 4 c) → S (8 + c) k < N) ∧ pd_po S ∧ S 7 2 ≤ 4096 ∧ (∀ j, S 3 j < 256) ∧ ∀ j, S 0 j < 256
def pd_lo (S : pdS) : Prop := ∀ i, i < 16 → S 6 i ≤ S 4 (2 * i)
/-- the class's own state -/
def pd_I (n : Nat) (S : pdS) : Prop := 4 ≤ n ∧ n ≤ 1024 ∧ pd_v n S ∧ pd_ok n S (pd_ct S)
def pd_eq (S Q : pdS) : Prop :=
  (∀ c, c < 32 → S 4 c = Q 4 c ∧ S 5 c = Q 5 c) ∧ (∀ i, i < 16 → S 6 i = Q 6 i) ∧ S 7 1 = Q 7 1 ∧ S 7 2 = Q 7 2 ∧ (∀ j, j < S 7 2 → S 3 j = Q 3 j) ∧
  (∀ c d k, c < 32 → d < 32 → k < pd_pf (S 4 c) → k < pd_pf (S 4 d) → (S (8 + c) k = S (8 + d) k ↔ Q (8 + c) k = Q (8 + d) k)) ∧ ∀ c i, c < 32 → i < S 4 c → pd_by S c i = pd_by Q c i
theorem pd_eq_symm {S Q : pdS} (h : pd_eq S Q) : pd_eq Q S := by
  obtain ⟨h1, h2, h3, h4, h5, h6, h7⟩ := h
  refine ⟨fun c hc => ⟨(h1 c hc).1.symm, (h1 c hc).2.symm⟩, fun i hi => (h2 i hi).symm, h3.symm, h4.symm, fun j hj => (h5 j (by rw [h4]; exact hj)).symm, fun c d k hc hd hk hk2 => ?_, fun c i hc hi => ?_⟩
  · rw [← (h1 c hc).1] at hk
    rw [← (h1 d hd).1] at hk2
    exact (h6 c d k hc hd hk hk2).symm
  · rw [← (h1 c hc).1] at hi
    exact (h7 c i hc hi).symm
theorem pd_rc_one {r : Nat → Nat} {p k m : Nat} (h : ∀ j, j < m → r j = p → j = k) : pd_rc r p m = if k < m ∧ r k = p then 1 else 0 := by
  by_cases hk : k < m ∧ r k = p
  · rw [if_pos hk]
    have h1 := pd_rc_pos hk.2 hk.1
    have h2 := pd_rc_le1 (r := r) (p := p) (m := m) (fun i j hi hj hi2 hj2 => (h i hi hi2).trans (h j hj hj2).symm)
    omega
  · rw [if_neg hk]
    refine pd_rc_0 (fun j hj q => hk ?_)
    have := h j hj q
    subst this
    exact ⟨hj, q⟩
/-- a live page is in as many rows here as there -/
theorem pd_eq_ct {S Q : pdS} (h : pd_eq S Q) (hS : pd_po S) (hQ : pd_po Q) {c k : Nat} (hc : c < 32) (hk : k < pd_pf (S 4 c)) : pd_ct S (S (8 + c) k) = pd_ct Q (Q (8 + c) k) := by
  obtain ⟨h1, -, -, -, -, h6, -⟩ := h
  have hkQ : k < pd_pf (Q 4 c) := by rw [← (h1 c hc).1]; exact hk
  refine pd_sm_congr (fun d hd => ?_)
  show pd_rc (S (8 + d)) (S (8 + c) k) (pd_pf (S 4 d)) = pd_rc (Q (8 + d)) (Q (8 + c) k) (pd_pf (Q 4 d))
  rw [pd_rc_one (k := k) (fun j hj q => hS d c j k hd hc hj hk q), pd_rc_one (k := k) (fun j hj q => hQ d c j k hd hc hj hkQ q), ← (h1 d hd).1]
  by_cases hl : k < pd_pf (S 4 d)
  · have := h6 d c k hd hc hl hk
    by_cases hq : S (8 + d) k = S (8 + c) k
    · rw [if_pos ⟨hl, hq⟩, if_pos ⟨hl, this.mp hq⟩]
    · rw [if_neg (fun q => hq q.2), if_neg (fun q => hq (this.mpr q.2))]
  · rw [if_neg (fun q => hl q.1), if_neg (fun q => hl q.1)]
theorem pd_nz_inj {R : Nat → Nat → Prop} {f : Nat → Nat} {M : Nat} (hR : ∀ p p' q, R p q → R p' q → p = p') : ∀ (N : Nat) (g : Nat → Nat), (∀ p, p < N → 0 < f p → ∃ q, q < M ∧ 0 < g q ∧ R p q) → pd_nz f N ≤ pd_nz g M
  | 0, g, _ => Nat.zero_le _
  | N + 1, g, h => by
    simp only [pd_nz]
    by_cases hf : 0 < f N
    · rw [if_pos hf]
      obtain ⟨q, hq, hg, hr⟩ := h N (Nat.lt_succ_self N) hf
      have h1 := pd_nz_out hg hq
      have h2 := pd_nz_inj (R := R) (f := f) (M := M) hR N (va_up g q 0) (fun p hp hfp => by
        obtain ⟨q', hq', hg', hr'⟩ := h p (by omega) hfp
        have hne : q' ≠ q := fun e => by
          subst e
          have := hR p N q' hr' hr
          omega
        exact ⟨q', hq', by rw [va_up_ne _ _ hne]; exact hg', hr'⟩)
      omega
    · rw [if_neg hf]
      have h2 := pd_nz_inj (R := R) (f := f) (M := M) hR N g (fun p hp hfp => h p (by omega) hfp)
      omega
theorem pd_ct_of {S : pdS} {p : Nat} (h : 0 < pd_ct S p) : ∃ c k, c < 32 ∧ k < pd_pf (S 4 c) ∧ S (8 + c) k = p := by
  obtain ⟨c, hc, h1⟩ := pd_sm_of h
  obtain ⟨k, hk, h2⟩ := pd_rc_of h1
  exact ⟨c, k, hc, hk, h2⟩
theorem pd_ct_pos {S : pdS} {c k : Nat} (hc : c < 32) (hk : k < pd_pf (S 4 c)) : 0 < pd_ct S (S (8 + c) k) := by
  have h1 : 0 < pd_rc (S (8 + c)) (S (8 + c) k) (pd_pf (S 4 c)) := pd_rc_pos rfl hk
  have h2 := pd_sm_le (f := fun d => pd_rc (S (8 + d)) (S (8 + c) k) (pd_pf (S 4 d))) hc
  exact Nat.lt_of_lt_of_le h1 h2
theorem pd_eq_le {S Q : pdS} {n N : Nat} (h : pd_eq S Q) (hQ : pd_po Q) (hN : ∀ c k, c < 32 → k < pd_pf (Q 4 c) → Q (8 + c) k < N) : pd_nz (pd_ct S) n ≤ pd_nz (pd_ct Q) N := by
  obtain ⟨h1, -, -, -, -, h6, -⟩ := h
  refine pd_nz_inj (R := fun p q => ∃ c k, c < 32 ∧ k < pd_pf (S 4 c) ∧ S (8 + c) k = p ∧ Q (8 + c) k = q) ?_ n _ ?_
  · rintro p p' q ⟨c, k, hc, hk, rfl, hq⟩ ⟨d, j, hd, hj, rfl, hq2⟩
    have hkQ : k < pd_pf (Q 4 c) := by rw [← (h1 c hc).1]; exact hk
    have hjQ : j < pd_pf (Q 4 d) := by rw [← (h1 d hd).1]; exact hj
    have hkj := hQ c d k j hc hd hkQ hjQ (hq.trans hq2.symm)
    subst hkj
    exact (h6 c d k hc hd hk hj).mpr (hq.trans hq2.symm)
  · intro p _ hp
    obtain ⟨c, k, hc, hk, hpk⟩ := pd_ct_of hp
    have hkQ : k < pd_pf (Q 4 c) := by rw [← (h1 c hc).1]; exact hk
    exact ⟨Q (8 + c) k, hN c k hc hkQ, pd_ct_pos hc hkQ, c, k, hc, hk, hpk, rfl⟩
/-- as many pages are used here as there -/
theorem pd_eq_nz {S Q : pdS} {n N : Nat} (h : pd_eq S Q) (hS : pd_v n S) (hQ : pd_v N Q) : pd_nz (pd_ct S) n = pd_nz (pd_ct Q) N := by
  have h1 := pd_eq_le (n := n) h hQ.2.2.1 hQ.2.1
  have h2 := pd_eq_le (n := N) (pd_eq_symm h) hS.2.2.1 hS.2.1
  omega
/-- NOW of a file is cut: a content of size s -/
def pd_sh (S S' : pdS) (c s : Nat) : Prop := S' 0 = S 0 ∧ S' 3 = S 3 ∧ S' 4 = va_up (S 4) c s ∧ S' 5 = S 5 ∧ S' 6 = S 6 ∧ S' 7 1 = S 7 1 ∧ S' 7 2 = S 7 2 ∧ ∀ d, d < 32 → S' (8 + d) = S (8 + d)
theorem pd_pf_mono {a b : Nat} (h : a ≤ b) : pd_pf a ≤ pd_pf b := by
  unfold pd_pf
  omega
theorem pd_sh_sz {S S' : pdS} {c s : Nat} (h : pd_sh S S' c s) (hs : s ≤ S 4 c) (d : Nat) : S' 4 d ≤ S 4 d := by
  rw [h.2.2.1]
  by_cases hd : d = c
  · subst hd
    rw [va_up_self]
    exact hs
  · rw [va_up_ne _ _ hd]
    exact Nat.le_refl _
theorem pd_sh_v {S S' : pdS} {N c s : Nat} (h : pd_sh S S' c s) (hs : s ≤ S 4 c) (hv : pd_v N S) : pd_v N S' := by
  have hz := pd_sh_sz h hs
  obtain ⟨e0, e3, e4, e5, e6, e71, e72, er⟩ := h
  obtain ⟨v1, v2, v3, v4, v5, v6⟩ := hv
  refine ⟨fun d hd => ?_, fun d k hd hk => ?_, fun a d k j ha hd hk hj => ?_, by rw [e72]; exact v4, by rw [e3]; exact v5, by rw [e0]; exact v6⟩
  · obtain ⟨w1, w2, w3⟩ := v1 d hd
    have := hz d
    rw [e5]
    exact ⟨by omega, w2, fun q => by have := w3 q; omega⟩
  · rw [er d hd]
    exact v2 d k hd (Nat.lt_of_lt_of_le hk (pd_pf_mono (hz d)))
  · rw [er a ha, er d hd]
    exact v3 a d k j ha hd (Nat.lt_of_lt_of_le hk (pd_pf_mono (hz a))) (Nat.lt_of_lt_of_le hj (pd_pf_mono (hz d)))
theorem pd_by_congr {S S' : pdS} {c i : Nat} (h0 : S' 0 = S 0) (hr : S' (8 + c) (i / 64) = S (8 + c) (i / 64)) : pd_by S' c i = pd_by S c i := by
  unfold pd_by
  rw [h0, hr]
theorem pd_sh_eq {S S' Q Q' : pdS} {c s : Nat} (h : pd_sh S S' c s) (g : pd_sh Q Q' c s) (hs : s ≤ S 4 c) (hc : c < 32) (e : pd_eq S Q) : pd_eq S' Q' := by
  have hz := pd_sh_sz h hs
  obtain ⟨e0, e3, e4, e5, e6, e71, e72, er⟩ := h
  obtain ⟨g0, g3, g4, g5, g6, g71, g72, gr⟩ := g
  obtain ⟨h1, h2, h3, h4, h5, h6, h7⟩ := e
  refine ⟨fun d hd => ⟨?_, by rw [e5, g5]; exact (h1 d hd).2⟩, by rw [e6, g6]; exact h2, by rw [e71, g71]; exact h3, by rw [e72, g72]; exact h4, by rw [e72, e3, g3]; exact h5, fun a d k ha hd hk hk2 => ?_, fun d i hd hi => ?_⟩
  · rw [e4, g4]
    by_cases hdc : d = c
    · subst hdc
      rw [va_up_self, va_up_self]
    · rw [va_up_ne _ _ hdc, va_up_ne _ _ hdc]
      exact (h1 d hd).1
  · rw [er a ha, er d hd, gr a ha, gr d hd]
    exact h6 a d k ha hd (Nat.lt_of_lt_of_le hk (pd_pf_mono (hz a))) (Nat.lt_of_lt_of_le hk2 (pd_pf_mono (hz d)))
  · rw [pd_by_congr e0 (by rw [er d hd]), pd_by_congr g0 (by rw [gr d hd])]
    exact h7 d i hd (Nat.lt_of_lt_of_le hi (hz d))
/-- a content becomes another -/
def pd_be (S S' : pdS) (to fr : Nat) : Prop := S' 0 = S 0 ∧ S' 3 = S 3 ∧ S' 4 = va_up (S 4) to (S 4 fr) ∧ S' 5 = va_up (S 5) to (S 5 fr) ∧ S' 6 = S 6 ∧ S' 7 1 = S 7 1 ∧ S' 7 2 = S 7 2 ∧ (∀ k, k < pd_pf (S 4 fr) → S' (8 + to) k = S (8 + fr) k) ∧ ∀ d k, d < 32 → d ≠ to → k < pd_pf (S 4 d) → S' (8 + d) k = S (8 + d) k
/-- whose row a row is behind pd_be -/
theorem pd_be_src {S S' : pdS} {to fr : Nat} (h : pd_be S S' to fr) (hf : fr < 32) {d : Nat} (hd : d < 32) : ∃ d', d' < 32 ∧ S' 4 d = S 4 d' ∧ S' 5 d = S 5 d' ∧ (d' = if d = to then fr else d) ∧ ∀ k, k < pd_pf (S' 4 d) → S' (8 + d) k = S (8 + d') k := by
  obtain ⟨e0, e3, e4, e5, e6, e71, e72, er, eo⟩ := h
  by_cases hdt : d = to
  · subst hdt
    refine ⟨fr, hf, by rw [e4, va_up_self], by rw [e5, va_up_self], by rw [if_pos rfl], fun k hk => er k ?_⟩
    rw [e4, va_up_self] at hk
    exact hk
  · refine ⟨d, hd, by rw [e4, va_up_ne _ _ hdt], by rw [e5, va_up_ne _ _ hdt], by rw [if_neg hdt], fun k hk => eo d k hd hdt ?_⟩
    rw [e4, va_up_ne _ _ hdt] at hk
    exact hk
theorem pd_be_v {S S' : pdS} {N to fr : Nat} (h : pd_be S S' to fr) (hf : fr < 32) (hv : pd_v N S) : pd_v N S' := by
  have hsrc := fun (d : Nat) (hd : d < 32) => pd_be_src h hf hd
  obtain ⟨v1, v2, v3, v4, v5, v6⟩ := hv
  refine ⟨fun d hd => ?_, fun d k hd hk => ?_, fun a d k j ha hd hk hj => ?_, by rw [h.2.2.2.2.2.2.1]; exact v4, by rw [h.2.1]; exact v5, by rw [h.1]; exact v6⟩
  · obtain ⟨d', h1, h2, h3, -, h5⟩ := hsrc d hd
    rw [h2, h3]
    exact v1 d' h1
  · obtain ⟨d', h1, h2, h3, -, h5⟩ := hsrc d hd
    rw [h5 k hk]
    rw [h2] at hk
    exact v2 d' k h1 hk
  · obtain ⟨a', a1, a2, a3, -, a5⟩ := hsrc a ha
    obtain ⟨d', h1, h2, h3, -, h5⟩ := hsrc d hd
    rw [a5 k hk, h5 j hj]
    rw [a2] at hk
    rw [h2] at hj
    exact v3 a' d' k j a1 h1 hk hj
theorem pd_be_eq {S S' Q Q' : pdS} {to fr : Nat} (h : pd_be S S' to fr) (g : pd_be Q Q' to fr) (hf : fr < 32) (e : pd_eq S Q) : pd_eq S' Q' := by
  have hs := fun (d : Nat) (hd : d < 32) => pd_be_src h hf hd
  have gs := fun (d : Nat) (hd : d < 32) => pd_be_src g hf hd
  obtain ⟨h1, h2, h3, h4, h5, h6, h7⟩ := e
  obtain ⟨e0, e3, e4, e5, e6, e71, e72, er, eo⟩ := h
  obtain ⟨g0, g3, g4, g5, g6, g71, g72, gr, go⟩ := g
  refine ⟨fun d hd => ?_, by rw [e6, g6]; exact h2, by rw [e71, g71]; exact h3, by rw [e72, g72]; exact h4, by rw [e72, e3, g3]; exact h5, fun a d k ha hd hk hk2 => ?_, fun d i hd hi => ?_⟩
  · obtain ⟨d', w1, w2, w3, w4, -⟩ := hs d hd
    obtain ⟨d2, z1, z2, z3, z4, -⟩ := gs d hd
    have hdd : d2 = d' := z4.trans w4.symm
    subst hdd
    rw [w2, w3, z2, z3]
    exact h1 d2 w1
  · obtain ⟨a', x1, x2, x3, x4, x5⟩ := hs a ha
    obtain ⟨a2, y1, y2, y3, y4, y5⟩ := gs a ha
    obtain ⟨d', w1, w2, w3, w4, w5⟩ := hs d hd
    obtain ⟨d2, z1, z2, z3, z4, z5⟩ := gs d hd
    have haa : a2 = a' := y4.trans x4.symm
    have hdd : d2 = d' := z4.trans w4.symm
    subst haa
    subst hdd
    rw [x5 k hk, w5 k hk2]
    rw [x2] at hk
    rw [w2] at hk2
    rw [y5 k (by rw [y2, ← (h1 a2 x1).1]; exact hk), z5 k (by rw [z2, ← (h1 d2 w1).1]; exact hk2)]
    exact h6 a2 d2 k x1 w1 hk hk2
  · obtain ⟨d', w1, w2, w3, w4, w5⟩ := hs d hd
    obtain ⟨d2, z1, z2, z3, z4, z5⟩ := gs d hd
    have hdd : d2 = d' := z4.trans w4.symm
    subst hdd
    have hi2 : i < S 4 d2 := by rw [← w2]; exact hi
    have hk : i / 64 < pd_pf (S 4 d2) := by unfold pd_pf; omega
    have hkQ : i / 64 < pd_pf (Q 4 d2) := by rw [← (h1 d2 w1).1]; exact hk
    have := h7 d2 i w1 hi2
    unfold pd_by at this ⊢
    rw [e0, g0, w5 _ (by rw [w2]; exact hk), z5 _ (by rw [z2]; exact hkQ)]
    exact this
