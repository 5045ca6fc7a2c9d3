/-! PURE, 14: steps from a state that is as good -/
theorem pd_sa_sy {S T : pdS} (h : pd_sa S T) : pd_sa T S := by
  obtain ⟨a0, a3, a4, a5, a6, a7, a8, ar⟩ := h
  exact ⟨a0.symm, a3.symm, a4.symm, a5.symm, a6.symm, a7.symm, a8.symm, fun d hd => (ar d hd).symm⟩
theorem pd_sh_sa {S U T : pdS} {c x : Nat} (h : pd_sa S U) (g : pd_sh U T c x) : pd_sh S T c x := by
  obtain ⟨a0, a3, a4, a5, a6, a7, a8, ar⟩ := h
  obtain ⟨b0, b3, b4, b5, b6, b7, b8, br⟩ := g
  exact ⟨b0.trans a0, b3.trans a3, by rw [b4, a4], b5.trans a5, b6.trans a6, b7.trans a7, b8.trans a8, fun d hd => (br d hd).trans (ar d hd)⟩
theorem pd_be_sa {S U T : pdS} {to fr : Nat} (hf : fr < 32) (h : pd_sa S U) (g : pd_be U T to fr) : pd_be S T to fr := by
  obtain ⟨a0, a3, a4, a5, a6, a7, a8, ar⟩ := h
  obtain ⟨b0, b3, b4, b5, b6, b7, b8, br, bo⟩ := g
  rw [a4] at b4 br bo
  rw [a5] at b5
  exact ⟨b0.trans a0, b3.trans a3, b4, b5, b6.trans a6, b7.trans a7, b8.trans a8, fun k hk => by rw [br k hk, ar fr hf], fun d k hd hdt hk => by rw [bo d k hd hdt hk, ar d hd]⟩
theorem pd_cut_sa {S U T : pdS} {f x : Nat} (h : pd_sa S U) (g : pd_cut U T f x) : pd_cut S T f x := by
  obtain ⟨X, g1, g2⟩ := g
  exact ⟨X, pd_sh_sa h g1, by rw [← show U 6 = S 6 from h.2.2.2.2.1]; exact g2⟩
theorem pd_set_sa {S U T : pdS} {f : Nat} (hf : f < 16) (h : pd_sa S U) (g : pd_set U T f) : pd_set S T f := by
  obtain ⟨X, g1, g2⟩ := g
  exact ⟨X, pd_be_sa (by omega) h g1, by rw [← show U 4 = S 4 from h.2.2.1]; exact g2⟩
theorem pd_fal_sa {S U T : pdS} {f k : Nat} (hf : f < 16) (h : pd_sa S U) (g : pd_fal U T f k) : pd_fal S T f k := by
  obtain ⟨X, g1, g2⟩ := g
  rw [show U 4 = S 4 from h.2.2.1, show U 6 = S 6 from h.2.2.2.2.1] at g1
  refine ⟨X, ?_, g2⟩
  rcases g1 with ⟨a, b⟩ | ⟨a, b, c⟩ | ⟨a, b, c⟩
  · exact Or.inl ⟨a, pd_be_sa (by omega) h b⟩
  · exact Or.inr (Or.inl ⟨a, b, pd_sh_sa h c⟩)
  · exact Or.inr (Or.inr ⟨a, b, pd_sa_tr h c⟩)
theorem pd_al_sa {S U : pdS} {x : Int64} (h : pd_sa S U) : ∀ {m : Nat} {T : pdS} {y : Int64}, pd_al U x m T y → pd_al S x m T y
  | 0, T, y, g => ⟨pd_sa_tr h g.1, g.2⟩
  | m + 1, T, y, g => by
    obtain ⟨X, z, g1, g2, g3⟩ := g
    exact ⟨X, z, pd_al_sa h g1, g2, g3⟩
theorem pd_th_sa {S U : pdS} (h : pd_sa S U) : pd_th U = pd_th S := by
  unfold pd_th
  rw [show U 5 = S 5 from h.2.2.2.1]
theorem pd_un_sa {S U : pdS} {f : Nat} (hf : f < 16) (h : pd_sa S U) : pd_un U f = pd_un S f := by
  unfold pd_un
  rw [show U 4 = S 4 from h.2.2.1, h.2.2.2.2.2.2.2 (2 * f) (by omega), h.2.2.2.2.2.2.2 (2 * f + 1) (by omega)]
theorem pd_shd_sa {S U : pdS} {c : Nat} (hc : c < 32) (h : pd_sa S U) : pd_shd U c = pd_shd S c := by
  unfold pd_shd
  rw [show U 4 = S 4 from h.2.2.1, h.2.2.2.2.2.2.2 c hc]
  exact pd_sm_congr (fun k _ => by rw [pd_sa_ct h])
theorem pd_sa_cg {A B : pdS} {b j v : Nat} (h : pd_sa A B) (hb : b = 4 ∨ b = 5 ∨ b = 6) : pd_sa (pd_st A b j v) (pd_st B b j v) := by
  obtain ⟨a0, a3, a4, a5, a6, a7, a8, ar⟩ := h
  have hbk : ∀ q, A q = B q → pd_st B b j v q = pd_st A b j v q := fun q hq => by
    by_cases h1 : q = b
    · subst h1
      rw [pd_own, pd_own, hq]
    · rw [pd_bk _ h1, pd_bk _ h1, hq]
  refine ⟨hbk 0 a0.symm, hbk 3 a3.symm, hbk 4 a4.symm, hbk 5 a5.symm, hbk 6 a6.symm, ?_, ?_, fun d hd => hbk (8 + d) (ar d hd).symm⟩
  · rw [pd_bk _ (by omega), pd_bk _ (by omega), a7]
  · rw [pd_bk _ (by omega), pd_bk _ (by omega), a8]
theorem pd_sa_73 (S : pdS) (v : Nat) : pd_sa S (pd_st S 7 3 v) := pd_sa_st (Or.inr (Or.inr ⟨rfl, by decide, by decide⟩))
theorem pd_lrem {a b : Nat} (ha : a < 2 ^ 63) (h0 : 0 < b) (hb : b < 2 ^ 63) : lN a - lN a / lN b * lN b = lN (a % b) := pk_lRem ha h0 hb
theorem pd_st_cm (S : pdS) {b b' j v j' v' : Nat} (h : b ≠ b') : pd_st (pd_st S b j v) b' j' v' = pd_st (pd_st S b' j' v') b j v := by
  funext q r
  simp only [pd_at]
  by_cases h1 : q = b ∧ r = j
  · have h2 : ¬ (q = b' ∧ r = j') := fun z => h (h1.1.symm.trans z.1)
    rw [if_neg h2, if_pos h1, if_pos h1]
  · rw [if_neg h1, if_neg h1]
