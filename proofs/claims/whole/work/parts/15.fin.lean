/-! PURE, 5: shorten and become of the class, put together -/
theorem pd_sh_of {S T S' : pdS} {c s : Nat} (hf : pd_fr S T) (he : S' = pd_st T 4 c s) : pd_sh S S' c s := by
  subst he
  refine ⟨?_, ?_, ?_, ?_, ?_, ?_, ?_, fun d _ => ?_⟩
  · rw [pd_bk _ (by decide), hf.1 0 (by decide) (by decide) (by decide)]
  · rw [pd_bk _ (by decide), hf.1 3 (by decide) (by decide) (by decide)]
  · rw [pd_own, hf.1 4 (by decide) (by decide) (by decide)]
  · rw [pd_bk _ (by decide), hf.1 5 (by decide) (by decide) (by decide)]
  · rw [pd_bk _ (by decide), hf.1 6 (by decide) (by decide) (by decide)]
  · rw [pd_bk _ (by decide), hf.2 1 (by decide)]
  · rw [pd_bk _ (by decide), hf.2 2 (by decide)]
  · rw [pd_bk _ (by omega), hf.1 (8 + d) (by omega) (by omega) (by omega)]
theorem pd_ok_st {n : Nat} {S : pdS} {f : Nat → Nat} {b j v : Nat} (h : pd_ok n S f) (h1 : b ≠ 1) (h2 : b ≠ 2) (h7 : b ≠ 7 ∨ j ≠ 0) : pd_ok n (pd_st S b j v) f := by
  refine pd_ok_eqv h (pd_bk _ (fun q => h1 q.symm)) (pd_bk _ (fun q => h2 q.symm)) ?_
  rcases h7 with h7 | h7
  · rw [pd_bk _ (fun q => h7 q.symm)]
  · rw [pd_at, if_neg (fun q => h7 q.2.symm)]
/-- the tail of row c behind size s, counted -/
def pd_tl (S : pdS) (c s p : Nat) : Nat := pd_rc (fun j => S (8 + c) (pd_pf s + j)) p (pd_pf (S 4 c) - pd_pf s)
theorem pd_rc_ct {S : pdS} {c : Nat} (hc : c < 32) (p : Nat) : pd_rc (S (8 + c)) p (pd_pf (S 4 c)) ≤ pd_ct S p := pd_sm_le (f := fun d => pd_rc (S (8 + d)) p (pd_pf (S 4 d))) hc
theorem pd_tl_le {S : pdS} {c s : Nat} (hc : c < 32) (hs : s ≤ S 4 c) (p : Nat) : pd_tl S c s p ≤ pd_ct S p := by
  have hm := pd_pf_mono hs
  have h1 := pd_rc_add (S (8 + c)) p (pd_pf s) (pd_pf (S 4 c) - pd_pf s)
  rw [show pd_pf s + (pd_pf (S 4 c) - pd_pf s) = pd_pf (S 4 c) by omega] at h1
  have h2 := pd_rc_ct (S := S) hc p
  unfold pd_tl
  omega
theorem pd_sh_pre {n : Nat} {S : pdS} {c s : Nat} (hc : c < 32) (hs : s ≤ S 4 c) (h : pd_ok n S (pd_ct S)) : pd_ok n S (fun p => (pd_ct S p - pd_tl S c s p) + pd_rc (fun j => S (8 + c) (pd_pf s + j)) p (pd_pf (S 4 c) - pd_pf s)) := by
  refine pd_ok_congr h (fun p _ => ?_)
  have := pd_tl_le hc hs p
  show pd_ct S p = pd_ct S p - pd_tl S c s p + pd_tl S c s p
  omega
theorem pd_sh_post {n : Nat} {S S' : pdS} {c s : Nat} (hc : c < 32) (hs : s ≤ S 4 c) (h : pd_sh S S' c s) (ho : pd_ok n S' (fun p => pd_ct S p - pd_tl S c s p)) : pd_ok n S' (pd_ct S') := by
  refine pd_ok_congr ho (fun p _ => ?_)
  have h1 := pd_sh_ct h hc hs p
  show pd_ct S p - pd_tl S c s p = pd_ct S' p
  unfold pd_tl
  omega
/-- become: what is there behind joining (T), leaving (U) and the three stores -/
theorem pd_be_of {S T U S' : pdS} {to fr : Nat} (ht : to < 32) (hne : to ≠ fr) (hT : pd_fr S T) (hU : pd_sh T U to 0) (e0 : S' 0 = U 0) (e3 : S' 3 = U 3) (e4 : S' 4 = va_up (U 4) to (U 4 fr)) (e5 : S' 5 = va_up (U 5) to (U 5 fr)) (e6 : S' 6 = U 6) (e7 : S' 7 = U 7)
    (er : S' (8 + to) = va_cpy (U (8 + fr)) (U (8 + to)) 0 0 (pd_pf (S 4 fr))) (eo : ∀ d, d < 32 → d ≠ to → S' (8 + d) = U (8 + d)) (hf : fr < 32) : pd_be S S' to fr := by
  obtain ⟨u0, u3, u4, u5, u6, u71, u72, ur⟩ := hU
  have t4 : T 4 = S 4 := hT.1 4 (by decide) (by decide) (by decide)
  have t5 : T 5 = S 5 := hT.1 5 (by decide) (by decide) (by decide)
  have tr : ∀ d, T (8 + d) = S (8 + d) := fun d => hT.1 (8 + d) (by omega) (by omega) (by omega)
  have hfr : U 4 fr = S 4 fr := by rw [u4, va_up_ne _ _ (fun q => hne q.symm), t4]
  refine ⟨?_, ?_, ?_, ?_, ?_, ?_, ?_, fun k hk => ?_, fun d k hd hdt hk => ?_⟩
  · rw [e0, u0, hT.1 0 (by decide) (by decide) (by decide)]
  · rw [e3, u3, hT.1 3 (by decide) (by decide) (by decide)]
  · rw [e4, hfr, u4, bx_uu, t4]
  · rw [e5, u5, t5]
  · rw [e6, u6, hT.1 6 (by decide) (by decide) (by decide)]
  · rw [e7, u71, hT.2 1 (by decide)]
  · rw [e7, u72, hT.2 2 (by decide)]
  · rw [er, pk_cpy_in (Nat.zero_le k) (by omega), ur fr hf, tr fr, Nat.sub_zero, Nat.zero_add]
  · rw [eo d hd hdt, ur d hd, tr d]
theorem pd_be_pre {n : Nat} {S T : pdS} {to fr : Nat} (ht : to < 32) (h : pd_ok n T (fun p => pd_ct S p + pd_rc (S (8 + fr)) p (pd_pf (S 4 fr)))) (hT : pd_fr S T) : pd_ok n T (fun p => (pd_ct S p + pd_rc (S (8 + fr)) p (pd_pf (S 4 fr)) - pd_rc (S (8 + to)) p (pd_pf (S 4 to))) + pd_rc (fun j => T (8 + to) (pd_pf 0 + j)) p (pd_pf (T 4 to) - pd_pf 0)) := by
  refine pd_ok_congr h (fun p _ => ?_)
  have h1 := pd_rc_ct (S := S) ht p
  have t4 : T 4 = S 4 := hT.1 4 (by decide) (by decide) (by decide)
  have tr : T (8 + to) = S (8 + to) := hT.1 (8 + to) (by omega) (by omega) (by omega)
  have e : pd_rc (fun j => T (8 + to) (pd_pf 0 + j)) p (pd_pf (T 4 to) - pd_pf 0) = pd_rc (S (8 + to)) p (pd_pf (S 4 to)) := by
    have z : pd_pf 0 = 0 := rfl
    rw [t4, tr, z, Nat.sub_zero]
    exact pd_rc_congr (fun k _ => by rw [Nat.zero_add])
  show _ = _ + _
  rw [e]
  omega
theorem pd_be_post {n : Nat} {S S' : pdS} {to fr : Nat} (ht : to < 32) (hf : fr < 32) (h : pd_be S S' to fr) (ho : pd_ok n S' (fun p => pd_ct S p + pd_rc (S (8 + fr)) p (pd_pf (S 4 fr)) - pd_rc (S (8 + to)) p (pd_pf (S 4 to)))) : pd_ok n S' (pd_ct S') := by
  refine pd_ok_congr ho (fun p _ => ?_)
  have h1 := pd_be_ct h ht hf p
  omega
theorem pd_be_self (S : pdS) (c : Nat) : pd_be S S c c := by
  have e : ∀ f : Nat → Nat, f = va_up f c (f c) := fun f => by
    funext j
    by_cases h : j = c
    · subst h
      rw [va_up_self]
    · rw [va_up_ne _ _ h]
  exact ⟨rfl, rfl, e _, e _, rfl, rfl, rfl, fun _ _ => rfl, fun _ _ _ _ _ => rfl⟩
