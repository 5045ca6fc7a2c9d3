/-! PURE, 3: appending -/
/-- does the last page have to be copied -/
def pd_cp (S : pdS) (c add : Nat) : Prop := 0 < add ∧ S 4 c % 64 ≠ 0 ∧ 1 < pd_ct S (S (8 + c) (S 4 c / 64))
/-- the pages that are new in row c -/
def pd_nw (S : pdS) (c add k : Nat) : Prop := k < pd_pf (S 4 c + add) ∧ (pd_pf (S 4 c) ≤ k ∨ (pd_cp S c add ∧ k = S 4 c / 64))
def pd_ap (N : Nat) (S S' : pdS) (c add : Nat) (tp : Nat → Nat) : Prop :=
  S' 4 = va_up (S 4) c (S 4 c + add) ∧ S' 5 = va_up (S 5) c 1 ∧ S' 6 = S 6 ∧ ((pd_cp S c add ∧ S' 7 1 = S 7 1 + 1) ∨ (¬ pd_cp S c add ∧ S' 7 1 = S 7 1)) ∧ S' 7 2 = 0 ∧
  (∀ d k, d < 32 → d ≠ c → k < pd_pf (S 4 d) → S' (8 + d) k = S (8 + d) k) ∧ (∀ k, k < pd_pf (S 4 c) → ¬ (pd_cp S c add ∧ k = S 4 c / 64) → S' (8 + c) k = S (8 + c) k) ∧
  (∀ k, pd_nw S c add k → S' (8 + c) k < N ∧ pd_ct S (S' (8 + c) k) = 0) ∧ (∀ k j, pd_nw S c add k → pd_nw S c add j → S' (8 + c) k = S' (8 + c) j → k = j) ∧
  (∀ d i, d < 32 → i < S 4 d → pd_by S' d i = pd_by S d i) ∧ (∀ i, i < add → pd_by S' c (S 4 c + i) = tp i) ∧ (∀ j, S' 3 j < 256) ∧ ∀ j, S' 0 j < 256
theorem pd_ct_live {S : pdS} {p c k : Nat} (h : pd_ct S p = 0) (hc : c < 32) (hk : k < pd_pf (S 4 c)) : S (8 + c) k ≠ p := fun q => by
  have := pd_ct_pos hc hk
  rw [q] at this
  omega
/-- a row behind an append: each page is an old one at its place, or a new one -/
theorem pd_ap_row {S S' : pdS} {N c add : Nat} {tp : Nat → Nat} (h : pd_ap N S S' c add tp) {d k : Nat} (hd : d < 32) (hk : k < pd_pf (S' 4 d)) : (k < pd_pf (S 4 d) ∧ S' (8 + d) k = S (8 + d) k ∧ ¬ (d = c ∧ pd_nw S c add k)) ∨ (d = c ∧ pd_nw S c add k) := by
  obtain ⟨e4, e5, e6, e71, e72, eo, ec, en, ei, eb, et, e3, e0⟩ := h
  rw [e4] at hk
  by_cases hdc : d = c
  · subst hdc
    rw [va_up_self] at hk
    by_cases hn : pd_nw S d add k
    · exact Or.inr ⟨rfl, hn⟩
    · refine Or.inl ?_
      have h1 : k < pd_pf (S 4 d) := Nat.not_le.mp (fun q => hn ⟨hk, Or.inl q⟩)
      have h2 : ¬ (pd_cp S d add ∧ k = S 4 d / 64) := fun q => hn ⟨hk, Or.inr q⟩
      exact ⟨h1, ec k h1 h2, fun q => hn q.2⟩
  · rw [va_up_ne _ _ hdc] at hk
    exact Or.inl ⟨hk, eo d k hd hdc hk, fun q => hdc q.1⟩
theorem pd_ap_v {S S' : pdS} {N c add : Nat} {tp : Nat → Nat} (h : pd_ap N S S' c add tp) (hz : S 4 c + add ≤ 25600) (hv : pd_v N S) : pd_v N S' := by
  have hrow := fun (d k : Nat) (hd : d < 32) (hk : k < pd_pf (S' 4 d)) => pd_ap_row h hd hk
  obtain ⟨e4, e5, e6, e71, e72, eo, ec, en, ei, eb, et, e3, e0⟩ := h
  obtain ⟨v1, v2, v3, v4, v5, v6⟩ := hv
  refine ⟨fun d hd => ?_, fun d k hd hk => ?_, fun a d k j ha hd hk hj hq => ?_, by rw [e72]; omega, e3, e0⟩
  · rw [e4, e5]
    by_cases hdc : d = c
    · subst hdc
      rw [va_up_self, va_up_self]
      exact ⟨hz, Nat.le_refl 1, fun q => by omega⟩
    · rw [va_up_ne _ _ hdc, va_up_ne _ _ hdc]
      exact v1 d hd
  · rcases hrow d k hd hk with ⟨h1, h2, -⟩ | ⟨h1, h2⟩
    · rw [h2]
      exact v2 d k hd h1
    · subst h1
      exact (en k h2).1
  · rcases hrow a k ha hk with ⟨h1, h2, -⟩ | ⟨h1, h2⟩ <;> rcases hrow d j hd hj with ⟨h3, h4, -⟩ | ⟨h3, h4⟩
    · rw [h2, h4] at hq
      exact v3 a d k j ha hd h1 h3 hq
    · subst h3
      rw [h2] at hq
      exact absurd hq (pd_ct_live (en j h4).2 ha h1)
    · subst h1
      rw [h4] at hq
      exact absurd hq.symm (pd_ct_live (en k h2).2 hd h3)
    · subst h1
      subst h3
      exact ei k j h2 h4 hq
theorem pd_eq_cp {S Q : pdS} (h : pd_eq S Q) (hS : pd_po S) (hQ : pd_po Q) {c add : Nat} (hc : c < 32) : pd_cp S c add ↔ pd_cp Q c add := by
  have hz := (h.1 c hc).1
  unfold pd_cp
  rw [← hz]
  by_cases hm : S 4 c % 64 ≠ 0
  · have hk : S 4 c / 64 < pd_pf (S 4 c) := by unfold pd_pf; omega
    rw [pd_eq_ct h hS hQ hc hk]
  · constructor
    · intro q
      exact absurd q.2.1 hm
    · intro q
      exact absurd q.2.1 hm
theorem pd_eq_nw {S Q : pdS} (h : pd_eq S Q) (hS : pd_po S) (hQ : pd_po Q) {c add k : Nat} (hc : c < 32) : pd_nw S c add k ↔ pd_nw Q c add k := by
  have hz := (h.1 c hc).1
  unfold pd_nw
  rw [pd_eq_cp h hS hQ hc, ← hz]
theorem pd_ap_eq {S S' Q Q' : pdS} {N M c add : Nat} {tp tq : Nat → Nat} (h : pd_ap N S S' c add tp) (g : pd_ap M Q Q' c add tq) (hc : c < 32) (hS : pd_po S) (hQ : pd_po Q) (e : pd_eq S Q) (ht : ∀ i, i < add → tp i = tq i) : pd_eq S' Q' := by
  have hcp := pd_eq_cp (add := add) e hS hQ hc
  have hnw := fun (k : Nat) => pd_eq_nw (add := add) (k := k) e hS hQ hc
  have hr := fun (d k : Nat) (hd : d < 32) (hk : k < pd_pf (S' 4 d)) => pd_ap_row h hd hk
  have gr := fun (d k : Nat) (hd : d < 32) (hk : k < pd_pf (Q' 4 d)) => pd_ap_row g hd hk
  obtain ⟨e4, e5, e6, e71, e72, eo, ec, en, ei, eb, et, e3, e0⟩ := h
  obtain ⟨g4, g5, g6, g71, g72, go, gc, gn, gi, gb, gt, g3, g0⟩ := g
  obtain ⟨h1, h2, h3, h4, h5, h6, h7⟩ := e
  have hz : ∀ d, d < 32 → S' 4 d = Q' 4 d := fun d hd => by
    rw [e4, g4, ← (h1 c hc).1]
    by_cases hdc : d = c
    · subst hdc
      rw [va_up_self, va_up_self]
    · rw [va_up_ne _ _ hdc, va_up_ne _ _ hdc]
      exact (h1 d hd).1
  refine ⟨fun d hd => ⟨hz d hd, ?_⟩, by rw [e6, g6]; exact h2, ?_, by rw [e72, g72], fun j hj => by rw [e72] at hj; exact absurd hj (Nat.not_lt_zero j), fun a d k ha hd hk hk2 => ?_, fun d i hd hi => ?_⟩
  · rw [e5, g5]
    by_cases hdc : d = c
    · subst hdc
      rw [va_up_self, va_up_self]
    · rw [va_up_ne _ _ hdc, va_up_ne _ _ hdc]
      exact (h1 d hd).2
  · rcases e71 with ⟨q1, q2⟩ | ⟨q1, q2⟩ <;> rcases g71 with ⟨r1, r2⟩ | ⟨r1, r2⟩
    · rw [q2, r2, h3]
    · exact absurd (hcp.mp q1) r1
    · exact absurd (hcp.mpr r1) q1
    · rw [q2, r2, h3]
  · have hkQ : k < pd_pf (Q' 4 a) := by rw [← hz a ha]; exact hk
    have hkQ2 : k < pd_pf (Q' 4 d) := by rw [← hz d hd]; exact hk2
    by_cases had : a = d
    · subst had
      exact ⟨fun _ => rfl, fun _ => rfl⟩
    · rcases hr a k ha hk with ⟨x1, x2, x3⟩ | ⟨x1, x2⟩ <;> rcases hr d k hd hk2 with ⟨y1, y2, y3⟩ | ⟨y1, y2⟩
      · rcases gr a k ha hkQ with ⟨z1, z2, z3⟩ | ⟨z1, z2⟩
        · rcases gr d k hd hkQ2 with ⟨w1, w2, w3⟩ | ⟨w1, w2⟩
          · rw [x2, y2, z2, w2]
            exact h6 a d k ha hd x1 y1
          · exact absurd ⟨w1, (hnw k).mpr w2⟩ y3
        · exact absurd ⟨z1, (hnw k).mpr z2⟩ x3
      · rcases gr a k ha hkQ with ⟨z1, z2, z3⟩ | ⟨z1, z2⟩
        · have w2 := (hnw k).mp y2
          subst y1
          rw [x2, z2]
          exact ⟨fun q => absurd q (pd_ct_live (en k y2).2 ha x1), fun q => absurd q (pd_ct_live (gn k w2).2 ha z1)⟩
        · exact absurd ⟨z1, (hnw k).mpr z2⟩ x3
      · rcases gr d k hd hkQ2 with ⟨z1, z2, z3⟩ | ⟨z1, z2⟩
        · have w2 := (hnw k).mp x2
          subst x1
          rw [y2, z2]
          exact ⟨fun q => absurd q.symm (pd_ct_live (en k x2).2 hd y1), fun q => absurd q.symm (pd_ct_live (gn k w2).2 hd z1)⟩
        · exact absurd ⟨z1, (hnw k).mpr z2⟩ y3
      · exact absurd (x1.trans y1.symm) had
  · by_cases hdc : d = c
    · subst hdc
      rw [e4, va_up_self] at hi
      by_cases hlt : i < S 4 d
      · rw [eb d i hd hlt, gb d i hd (by rw [← (h1 d hd).1]; exact hlt)]
        exact h7 d i hd hlt
      · obtain ⟨t, rfl⟩ : ∃ t, i = S 4 d + t := ⟨i - S 4 d, by omega⟩
        have ht1 : t < add := by omega
        rw [et t ht1, ht t ht1, (h1 d hd).1]
        exact (gt t ht1).symm
    · rw [e4, va_up_ne _ _ hdc] at hi
      rw [eb d i hd hi, gb d i hd (by rw [← (h1 d hd).1]; exact hi)]
      exact h7 d i hd hi
