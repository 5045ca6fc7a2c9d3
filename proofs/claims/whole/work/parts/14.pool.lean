/-! PURE, 4: the pool under the class's loops -/
def pd_fr (S S' : pdS) : Prop := (∀ b, b ≠ 1 → b ≠ 2 → b ≠ 7 → S' b = S b) ∧ ∀ j, j ≠ 0 → S' 7 j = S 7 j
theorem pd_fr_rf (S : pdS) : pd_fr S S := ⟨fun _ _ _ _ => rfl, fun _ _ => rfl⟩
theorem pd_fr_tr {S T U : pdS} (h : pd_fr S T) (g : pd_fr T U) : pd_fr S U := ⟨fun b h1 h2 h3 => (g.1 b h1 h2 h3).trans (h.1 b h1 h2 h3), fun j hj => (g.2 j hj).trans (h.2 j hj)⟩
theorem pd_fr_leave (S : pdS) (p : Nat) : pd_fr S (pd_leave S p) := by
  unfold pd_leave
  by_cases h : S 1 p = 1
  · rw [if_pos h]
    refine ⟨fun b h1 h2 h7 => ?_, fun j hj => ?_⟩
    · rw [pd_bk _ h7, pd_bk _ h2, pd_bk _ h1]
    · rw [pd_ne _ hj, pd_bk _ (show (7 : Nat) ≠ 2 by decide), pd_bk _ (show (7 : Nat) ≠ 1 by decide)]
  · rw [if_neg h]
    refine ⟨fun b h1 h2 h7 => pd_bk _ h1, fun j hj => ?_⟩
    rw [pd_bk _ (show (7 : Nat) ≠ 1 by decide)]
theorem pd_fr_join (S : pdS) (p : Nat) : pd_fr S (pd_join S p) := by
  unfold pd_join
  refine ⟨fun b h1 _ _ => pd_bk _ h1, fun j hj => ?_⟩
  rw [pd_bk _ (show (7 : Nat) ≠ 1 by decide)]
theorem pd_fr_take (S : pdS) : pd_fr S (pd_take S) := by
  unfold pd_take
  refine ⟨fun b h1 _ h7 => ?_, fun j hj => ?_⟩
  · rw [pd_bk _ h1, pd_bk _ h7]
  · rw [pd_bk _ (show (7 : Nat) ≠ 1 by decide), pd_ne _ hj]
theorem pd_rc_hd (r : Nat → Nat) (p k b : Nat) (h : k < b) : pd_rc (fun j => r (k + j)) p (b - k) = (if r k = p then 1 else 0) + pd_rc (fun j => r (k + 1 + j)) p (b - (k + 1)) := by
  rw [show b - k = 1 + (b - (k + 1)) by omega, pd_rc_add]
  simp only [pd_rc, Nat.add_zero, Nat.zero_add]
  congr 1
  refine pd_rc_congr (fun j _ => ?_)
  rw [Nat.add_assoc]
theorem pd_leave_step {n : Nat} {S : pdS} {g r : Nat → Nat} {k b : Nat} (hk : k < b) (hp : r k < n) (h : pd_ok n S (fun p => g p + pd_rc (fun j => r (k + j)) p (b - k))) : S 7 0 < n ∧ 0 < S 1 (r k) ∧ pd_ok n (pd_leave S (r k)) (fun p => g p + pd_rc (fun j => r (k + 1 + j)) p (b - (k + 1))) := by
  have hf : 0 < (fun p => g p + pd_rc (fun j => r (k + j)) p (b - k)) (r k) := by
    show 0 < g (r k) + pd_rc (fun j => r (k + j)) (r k) (b - k)
    rw [pd_rc_hd r (r k) k b hk, if_pos rfl]
    omega
  obtain ⟨h1, h2, h3⟩ := pd_leave_ok h hp hf
  refine ⟨h1, by rw [h2]; exact hf, pd_ok_congr h3 (fun p _ => ?_)⟩
  by_cases hpk : p = r k
  · subst hpk
    rw [va_up_self]
    show g (r k) + pd_rc (fun j => r (k + j)) (r k) (b - k) - 1 = _
    rw [pd_rc_hd r (r k) k b hk, if_pos rfl]
    omega
  · rw [va_up_ne _ _ hpk]
    show g p + pd_rc (fun j => r (k + j)) p (b - k) = _
    rw [pd_rc_hd r p k b hk, if_neg (fun q => hpk q.symm)]
    omega
theorem pd_join_step {n : Nat} {S : pdS} {g r : Nat → Nat} {k : Nat} (hp : r k < n) (hg : 0 < g (r k)) (h : pd_ok n S (fun p => g p + pd_rc r p k)) : pd_ok n (pd_join S (r k)) (fun p => g p + pd_rc r p (k + 1)) := by
  have hf : 0 < (fun p => g p + pd_rc r p k) (r k) := by
    show 0 < g (r k) + pd_rc r (r k) k
    omega
  refine pd_ok_congr (pd_join_ok h hp hf) (fun p _ => ?_)
  simp only [pd_rc]
  by_cases hpk : p = r k
  · subst hpk
    rw [va_up_self, if_pos rfl]
    omega
  · rw [va_up_ne _ _ hpk, if_neg (fun q => hpk q.symm)]
    omega
theorem pd_be_ct {S S' : pdS} {to fr : Nat} (h : pd_be S S' to fr) (ht : to < 32) (hf : fr < 32) (p : Nat) : pd_ct S' p + pd_rc (S (8 + to)) p (pd_pf (S 4 to)) = pd_ct S p + pd_rc (S (8 + fr)) p (pd_pf (S 4 fr)) := by
  have e : pd_ct S' p = pd_sm (va_up (fun c => pd_rc (S (8 + c)) p (pd_pf (S 4 c))) to (pd_rc (S (8 + fr)) p (pd_pf (S 4 fr)))) 32 := by
    refine pd_sm_congr (fun c hc => ?_)
    obtain ⟨e0, e3, e4, e5, e6, e71, e72, er, eo⟩ := h
    by_cases hct : c = to
    · subst hct
      rw [va_up_self, e4, va_up_self]
      exact pd_rc_congr (fun k hk => er k hk)
    · rw [va_up_ne _ _ hct, e4, va_up_ne _ _ hct]
      exact pd_rc_congr (fun k hk => eo c k hc hct hk)
  rw [e]
  exact pd_sm_up (f := fun c => pd_rc (S (8 + c)) p (pd_pf (S 4 c))) ht
theorem pd_sh_ct {S S' : pdS} {c s : Nat} (h : pd_sh S S' c s) (hc : c < 32) (hs : s ≤ S 4 c) (p : Nat) : pd_ct S' p + pd_rc (fun j => S (8 + c) (pd_pf s + j)) p (pd_pf (S 4 c) - pd_pf s) = pd_ct S p := by
  have e : pd_ct S' p = pd_sm (va_up (fun d => pd_rc (S (8 + d)) p (pd_pf (S 4 d))) c (pd_rc (S (8 + c)) p (pd_pf s))) 32 := by
    refine pd_sm_congr (fun d hd => ?_)
    obtain ⟨e0, e3, e4, e5, e6, e71, e72, er⟩ := h
    rw [er d hd]
    by_cases hdc : d = c
    · subst hdc
      rw [va_up_self, e4, va_up_self]
    · rw [va_up_ne _ _ hdc, e4, va_up_ne _ _ hdc]
  have h1 := pd_sm_up (f := fun d => pd_rc (S (8 + d)) p (pd_pf (S 4 d))) (v := pd_rc (S (8 + c)) p (pd_pf s)) hc
  have h2 : pd_rc (S (8 + c)) p (pd_pf (S 4 c)) = pd_rc (S (8 + c)) p (pd_pf s) + pd_rc (fun j => S (8 + c) (pd_pf s + j)) p (pd_pf (S 4 c) - pd_pf s) := by
    have hm := pd_pf_mono hs
    have := pd_rc_add (S (8 + c)) p (pd_pf s) (pd_pf (S 4 c) - pd_pf s)
    rw [← this, show pd_pf s + (pd_pf (S 4 c) - pd_pf s) = pd_pf (S 4 c) by omega]
  rw [e]
  unfold pd_ct
  try dsimp only at h1
  omega
