/-! PURE, 1: banks of numbers, pages, counts of references, the pool -/
abbrev pdS : Type := Nat → Nat → Nat
def pd_st (S : pdS) (b j v : Nat) : pdS := va_up S b (va_up (S b) j v)
theorem pd_at (S : pdS) (b j v b' j' : Nat) : pd_st S b j v b' j' = if b' = b ∧ j' = j then v else S b' j' := by
  unfold pd_st va_up
  by_cases h : b' = b
  · subst h
    by_cases h2 : j' = j
    · simp [h2]
    · simp [h2]
  · simp [h]
theorem pd_bk (S : pdS) {b j v b' : Nat} (h : b' ≠ b) : pd_st S b j v b' = S b' := by
  unfold pd_st
  rw [va_up_ne _ _ h]
theorem pd_self (S : pdS) (b j v : Nat) : pd_st S b j v b j = v := by
  rw [pd_at, if_pos ⟨rfl, rfl⟩]
theorem pd_ne (S : pdS) {b j v j' : Nat} (h : j' ≠ j) : pd_st S b j v b j' = S b j' := by
  rw [pd_at, if_neg (fun q => h q.2)]
theorem pd_own (S : pdS) (b j v : Nat) : pd_st S b j v b = va_up (S b) j v := by
  unfold pd_st
  rw [va_up_self]
def pd_pf (x : Nat) : Nat := (x + 63) / 64
def pd_rc (r : Nat → Nat) (p : Nat) : Nat → Nat
  | 0 => 0
  | m + 1 => pd_rc r p m + if r m = p then 1 else 0
def pd_sm (f : Nat → Nat) : Nat → Nat
  | 0 => 0
  | m + 1 => pd_sm f m + f m
def pd_nz (f : Nat → Nat) : Nat → Nat
  | 0 => 0
  | m + 1 => pd_nz f m + if 0 < f m then 1 else 0
theorem pd_rc_congr {r r' : Nat → Nat} {p : Nat} : ∀ {m : Nat}, (∀ k, k < m → r k = r' k) → pd_rc r p m = pd_rc r' p m
  | 0, _ => rfl
  | m + 1, h => by
    simp only [pd_rc]
    rw [pd_rc_congr (fun k hk => h k (Nat.lt_succ_of_lt hk)), h m (Nat.lt_succ_self m)]
theorem pd_rc_pos {r : Nat → Nat} {k p : Nat} (hr : r k = p) : ∀ {m : Nat}, k < m → 0 < pd_rc r p m
  | 0, h => absurd h (Nat.not_lt_zero k)
  | m + 1, h => by
    simp only [pd_rc]
    by_cases hk : k = m
    · subst hk
      rw [if_pos hr]
      omega
    · have := pd_rc_pos hr (m := m) (by omega)
      omega
theorem pd_rc_of {r : Nat → Nat} {p : Nat} : ∀ {m : Nat}, 0 < pd_rc r p m → ∃ k, k < m ∧ r k = p
  | 0, h => absurd h (Nat.lt_irrefl 0)
  | m + 1, h => by
    simp only [pd_rc] at h
    by_cases hm : r m = p
    · exact ⟨m, Nat.lt_succ_self m, hm⟩
    · rw [if_neg hm, Nat.add_zero] at h
      obtain ⟨k, h1, h2⟩ := pd_rc_of h
      exact ⟨k, by omega, h2⟩
theorem pd_rc_0 {r : Nat → Nat} {p m : Nat} (h : ∀ k, k < m → r k ≠ p) : pd_rc r p m = 0 := by
  rcases Nat.eq_zero_or_pos (pd_rc r p m) with h0 | h0
  · exact h0
  · obtain ⟨k, h1, h2⟩ := pd_rc_of h0
    exact absurd h2 (h k h1)
theorem pd_rc_add (r : Nat → Nat) (p a : Nat) : ∀ b, pd_rc r p (a + b) = pd_rc r p a + pd_rc (fun j => r (a + j)) p b
  | 0 => rfl
  | b + 1 => by
    rw [← Nat.add_assoc]
    simp only [pd_rc]
    rw [pd_rc_add r p a b, Nat.add_assoc]
theorem pd_rc_le1 {r : Nat → Nat} {p : Nat} : ∀ {m : Nat}, (∀ i j, i < m → j < m → r i = p → r j = p → i = j) → pd_rc r p m ≤ 1
  | 0, _ => Nat.zero_le 1
  | m + 1, h => by
    simp only [pd_rc]
    by_cases hm : r m = p
    · rw [if_pos hm, pd_rc_0 (fun k hk q => by have := h k m (by omega) (by omega) q hm; omega)]
      omega
    · rw [if_neg hm]
      have := pd_rc_le1 (r := r) (p := p) (m := m) (fun i j hi hj => h i j (by omega) (by omega))
      omega
theorem pd_sm_congr {f g : Nat → Nat} : ∀ {m : Nat}, (∀ k, k < m → f k = g k) → pd_sm f m = pd_sm g m
  | 0, _ => rfl
  | m + 1, h => by
    simp only [pd_sm]
    rw [pd_sm_congr (fun k hk => h k (Nat.lt_succ_of_lt hk)), h m (Nat.lt_succ_self m)]
theorem pd_sm_up {f : Nat → Nat} {c v : Nat} : ∀ {m : Nat}, c < m → pd_sm (va_up f c v) m + f c = pd_sm f m + v
  | 0, h => absurd h (Nat.not_lt_zero c)
  | m + 1, h => by
    simp only [pd_sm]
    by_cases hc : c = m
    · subst hc
      rw [va_up_self, pd_sm_congr (f := va_up f c v) (g := f) (fun k hk => va_up_ne f v (by omega))]
      omega
    · rw [va_up_ne f v (fun q => hc q.symm)]
      have := pd_sm_up (f := f) (v := v) (c := c) (m := m) (by omega)
      omega
theorem pd_sm_le {f : Nat → Nat} {c : Nat} : ∀ {m : Nat}, c < m → f c ≤ pd_sm f m
  | 0, h => absurd h (Nat.not_lt_zero c)
  | m + 1, h => by
    simp only [pd_sm]
    by_cases hc : c = m
    · subst hc
      omega
    · have := pd_sm_le (f := f) (c := c) (m := m) (by omega)
      omega
theorem pd_sm_of {f : Nat → Nat} : ∀ {m : Nat}, 0 < pd_sm f m → ∃ c, c < m ∧ 0 < f c
  | 0, h => absurd h (Nat.lt_irrefl 0)
  | m + 1, h => by
    simp only [pd_sm] at h
    by_cases hm : 0 < f m
    · exact ⟨m, Nat.lt_succ_self m, hm⟩
    · obtain ⟨c, h1, h2⟩ := pd_sm_of (f := f) (m := m) (by omega)
      exact ⟨c, by omega, h2⟩
theorem pd_sm_0 {f : Nat → Nat} {m : Nat} (h : ∀ c, c < m → f c = 0) : pd_sm f m = 0 := by
  rcases Nat.eq_zero_or_pos (pd_sm f m) with h0 | h0
  · exact h0
  · obtain ⟨c, h1, h2⟩ := pd_sm_of h0
    rw [h c h1] at h2
    exact absurd h2 (Nat.lt_irrefl 0)
theorem pd_nz_congr {f g : Nat → Nat} : ∀ {m : Nat}, (∀ k, k < m → f k = g k) → pd_nz f m = pd_nz g m
  | 0, _ => rfl
  | m + 1, h => by
    simp only [pd_nz]
    rw [pd_nz_congr (fun k hk => h k (Nat.lt_succ_of_lt hk)), h m (Nat.lt_succ_self m)]
theorem pd_nz_le (f : Nat → Nat) : ∀ m : Nat, pd_nz f m ≤ m
  | 0 => Nat.le_refl 0
  | m + 1 => by
    simp only [pd_nz]
    have := pd_nz_le f m
    by_cases h : 0 < f m
    · rw [if_pos h]
      omega
    · rw [if_neg h]
      omega
theorem pd_nz_in {f : Nat → Nat} {p v : Nat} (h0 : f p = 0) (hv : 0 < v) : ∀ {m : Nat}, p < m → pd_nz (va_up f p v) m = pd_nz f m + 1
  | 0, h => absurd h (Nat.not_lt_zero p)
  | m + 1, h => by
    simp only [pd_nz]
    by_cases hc : p = m
    · subst hc
      rw [va_up_self, pd_nz_congr (f := va_up f p v) (g := f) (fun k hk => va_up_ne f v (by omega)), if_pos hv, h0, if_neg (Nat.lt_irrefl 0)]
    · rw [va_up_ne f v (fun q => hc q.symm), pd_nz_in h0 hv (m := m) (by omega)]
      omega
theorem pd_nz_out {f : Nat → Nat} {p : Nat} (h0 : 0 < f p) : ∀ {m : Nat}, p < m → pd_nz (va_up f p 0) m + 1 = pd_nz f m
  | 0, h => absurd h (Nat.not_lt_zero p)
  | m + 1, h => by
    simp only [pd_nz]
    by_cases hc : p = m
    · subst hc
      rw [va_up_self, pd_nz_congr (f := va_up f p 0) (g := f) (fun k hk => va_up_ne f 0 (by omega)), if_pos h0, if_neg (Nat.lt_irrefl 0)]
    · rw [va_up_ne f 0 (fun q => hc q.symm)]
      have := pd_nz_out h0 (m := m) (by omega)
      omega
theorem pd_nz_same {f : Nat → Nat} {p v : Nat} (h0 : 0 < f p) (hv : 0 < v) : ∀ {m : Nat}, pd_nz (va_up f p v) m = pd_nz f m
  | 0 => rfl
  | m + 1 => by
    simp only [pd_nz]
    rw [pd_nz_same h0 hv (m := m)]
    by_cases hc : m = p
    · subst hc
      rw [va_up_self, if_pos hv, if_pos h0]
    · rw [va_up_ne f v hc]
theorem pd_nz_free {f : Nat → Nat} : ∀ {m : Nat}, pd_nz f m < m → ∃ p, p < m ∧ f p = 0
  | 0, h => absurd h (Nat.not_lt_zero _)
  | m + 1, h => by
    simp only [pd_nz] at h
    by_cases hm : f m = 0
    · exact ⟨m, Nat.lt_succ_self m, hm⟩
    · rw [if_pos (Nat.pos_of_ne_zero hm)] at h
      obtain ⟨p, h1, h2⟩ := pd_nz_free (f := f) (m := m) (by omega)
      exact ⟨p, by omega, h2⟩
theorem pd_nz_pos {f : Nat → Nat} {p m : Nat} (hp : p < m) (h : 0 < f p) : 0 < pd_nz f m := by
  have := pd_nz_out h hp
  omega
/-- how many live references there are to page p -/
def pd_ct (S : pdS) (p : Nat) : Nat := pd_sm (fun c => pd_rc (S (8 + c)) p (pd_pf (S 4 c))) 32
/-- the pool: n pages; f says how often each is in a row -/
def pd_ok (n : Nat) (S : pdS) (f : Nat → Nat) : Prop :=
  (∀ p, p < n → S 1 p = f p) ∧ (∀ j, j < S 7 0 → S 2 j < n ∧ f (S 2 j) = 0) ∧ (∀ i j, i < S 7 0 → j < S 7 0 → S 2 i = S 2 j → i = j) ∧ S 7 0 + pd_nz f n = n
theorem pd_ok_congr {n : Nat} {S : pdS} {f g : Nat → Nat} (h : pd_ok n S f) (hfg : ∀ p, p < n → f p = g p) : pd_ok n S g := by
  obtain ⟨h1, h2, h3, h4⟩ := h
  refine ⟨fun p hp => (h1 p hp).trans (hfg p hp), fun j hj => ⟨(h2 j hj).1, ?_⟩, h3, ?_⟩
  · rw [← hfg _ (h2 j hj).1]
    exact (h2 j hj).2
  · rw [← pd_nz_congr hfg]
    exact h4
theorem pd_ok_eqv {n : Nat} {S S' : pdS} {f : Nat → Nat} (h : pd_ok n S f) (h1 : S' 1 = S 1) (h2 : S' 2 = S 2) (h7 : S' 7 0 = S 7 0) : pd_ok n S' f := by
  unfold pd_ok
  rw [h1, h2, h7]
  exact h
def pd_take (S : pdS) : pdS := pd_st (pd_st S 7 0 (S 7 0 - 1)) 1 (S 2 (S 7 0 - 1)) 1
theorem pd_take_ok {n : Nat} {S : pdS} {f : Nat → Nat} (h : pd_ok n S f) (hu : 0 < S 7 0) : S 2 (S 7 0 - 1) < n ∧ f (S 2 (S 7 0 - 1)) = 0 ∧ pd_ok n (pd_take S) (va_up f (S 2 (S 7 0 - 1)) 1) := by
  obtain ⟨h1, h2, h3, h4⟩ := h
  obtain ⟨hp, hf⟩ := h2 (S 7 0 - 1) (by omega)
  generalize hpe : S 2 (S 7 0 - 1) = p at hp hf ⊢
  have e7 : pd_take S 7 0 = S 7 0 - 1 := by
    unfold pd_take
    rw [pd_bk _ (show (7 : Nat) ≠ 1 by decide), pd_self]
  have e2 : pd_take S 2 = S 2 := by
    unfold pd_take
    rw [pd_bk _ (show (2 : Nat) ≠ 1 by decide), pd_bk _ (show (2 : Nat) ≠ 7 by decide)]
  have e1 : pd_take S 1 = va_up (S 1) p 1 := by
    unfold pd_take
    rw [pd_own, pd_bk _ (show (1 : Nat) ≠ 7 by decide), hpe]
  refine ⟨hp, hf, ?_, ?_, ?_, ?_⟩
  · intro q hq
    rw [e1]
    by_cases hqp : q = p
    · subst hqp
      rw [va_up_self, va_up_self]
    · rw [va_up_ne _ _ hqp, va_up_ne _ _ hqp]
      exact h1 q hq
  · intro j hj
    rw [e7] at hj
    rw [e2]
    refine ⟨(h2 j (by omega)).1, ?_⟩
    have hne : S 2 j ≠ p := fun q => by
      have := h3 j (S 7 0 - 1) (by omega) (by omega) (q.trans hpe.symm)
      omega
    rw [va_up_ne _ _ hne]
    exact (h2 j (by omega)).2
  · intro i j hi hj
    rw [e7] at hi hj
    rw [e2]
    exact h3 i j (by omega) (by omega)
  · rw [e7, pd_nz_in hf (by decide) hp]
    omega
def pd_join (S : pdS) (p : Nat) : pdS := pd_st S 1 p (S 1 p + 1)
theorem pd_join_ok {n : Nat} {S : pdS} {f : Nat → Nat} {p : Nat} (h : pd_ok n S f) (hp : p < n) (hf : 0 < f p) : pd_ok n (pd_join S p) (va_up f p (f p + 1)) := by
  obtain ⟨h1, h2, h3, h4⟩ := h
  have e7 : pd_join S p 7 = S 7 := pd_bk _ (by decide)
  have e2 : pd_join S p 2 = S 2 := pd_bk _ (by decide)
  have e1 : pd_join S p 1 = va_up (S 1) p (S 1 p + 1) := pd_own ..
  refine ⟨?_, ?_, ?_, ?_⟩
  · intro q hq
    rw [e1]
    by_cases hqp : q = p
    · subst hqp
      rw [va_up_self, va_up_self, h1 q hq]
    · rw [va_up_ne _ _ hqp, va_up_ne _ _ hqp]
      exact h1 q hq
  · intro j hj
    rw [e7] at hj
    rw [e2]
    refine ⟨(h2 j hj).1, ?_⟩
    have hne : S 2 j ≠ p := fun q => by
      have := (h2 j hj).2
      rw [q] at this
      omega
    rw [va_up_ne _ _ hne]
    exact (h2 j hj).2
  · rw [e7, e2]
    exact h3
  · rw [e7, pd_nz_same hf (by omega)]
    exact h4
def pd_leave (S : pdS) (p : Nat) : pdS := if S 1 p = 1 then pd_st (pd_st (pd_st S 1 p 0) 2 (S 7 0) p) 7 0 (S 7 0 + 1) else pd_st S 1 p (S 1 p - 1)
theorem pd_leave_ok {n : Nat} {S : pdS} {f : Nat → Nat} {p : Nat} (h : pd_ok n S f) (hp : p < n) (hf : 0 < f p) : S 7 0 < n ∧ S 1 p = f p ∧ pd_ok n (pd_leave S p) (va_up f p (f p - 1)) := by
  obtain ⟨h1, h2, h3, h4⟩ := h
  have hz := pd_nz_pos hp hf
  have hout : ∀ j, j < S 7 0 → S 2 j ≠ p := fun j hj q => by
    have := (h2 j hj).2
    rw [q] at this
    omega
  refine ⟨by omega, h1 p hp, ?_⟩
  unfold pd_leave
  by_cases hone : S 1 p = 1
  · rw [if_pos hone]
    have hf1 : f p = 1 := by rw [← h1 p hp]; exact hone
    have e1 : pd_st (pd_st (pd_st S 1 p 0) 2 (S 7 0) p) 7 0 (S 7 0 + 1) 1 = va_up (S 1) p 0 := by
      rw [pd_bk _ (show (1 : Nat) ≠ 7 by decide), pd_bk _ (show (1 : Nat) ≠ 2 by decide), pd_own]
    have e2 : pd_st (pd_st (pd_st S 1 p 0) 2 (S 7 0) p) 7 0 (S 7 0 + 1) 2 = va_up (S 2) (S 7 0) p := by
      rw [pd_bk _ (show (2 : Nat) ≠ 7 by decide), pd_own, pd_bk _ (show (2 : Nat) ≠ 1 by decide)]
    have e7 : pd_st (pd_st (pd_st S 1 p 0) 2 (S 7 0) p) 7 0 (S 7 0 + 1) 7 0 = S 7 0 + 1 := pd_self ..
    have hf0 : f p - 1 = 0 := by omega
    rw [hf0]
    refine ⟨?_, ?_, ?_, ?_⟩
    · intro q hq
      rw [e1]
      by_cases hqp : q = p
      · subst hqp
        rw [va_up_self, va_up_self]
      · rw [va_up_ne _ _ hqp, va_up_ne _ _ hqp]
        exact h1 q hq
    · intro j hj
      rw [e7] at hj
      rw [e2]
      by_cases hju : j = S 7 0
      · subst hju
        rw [va_up_self, va_up_self]
        exact ⟨hp, rfl⟩
      · rw [va_up_ne _ _ hju, va_up_ne _ _ (hout j (by omega))]
        exact h2 j (by omega)
    · intro i j hi hj
      rw [e7] at hi hj
      rw [e2]
      by_cases hi0 : i = S 7 0 <;> by_cases hj0 : j = S 7 0
      · intro _
        omega
      · subst hi0
        rw [va_up_self, va_up_ne _ _ hj0]
        intro q
        exact absurd q.symm (hout j (by omega))
      · subst hj0
        rw [va_up_self, va_up_ne _ _ hi0]
        intro q
        exact absurd q (hout i (by omega))
      · rw [va_up_ne _ _ hi0, va_up_ne _ _ hj0]
        exact h3 i j (by omega) (by omega)
    · rw [e7]
      have := pd_nz_out hf hp
      omega
  · rw [if_neg hone]
    have e1 : pd_st S 1 p (S 1 p - 1) 1 = va_up (S 1) p (S 1 p - 1) := pd_own ..
    have e2 : pd_st S 1 p (S 1 p - 1) 2 = S 2 := pd_bk _ (by decide)
    have e7 : pd_st S 1 p (S 1 p - 1) 7 = S 7 := pd_bk _ (by decide)
    have hf2 : 1 < f p := by
      have := h1 p hp
      omega
    refine ⟨?_, ?_, ?_, ?_⟩
    · intro q hq
      rw [e1]
      by_cases hqp : q = p
      · subst hqp
        rw [va_up_self, va_up_self, h1 q hq]
      · rw [va_up_ne _ _ hqp, va_up_ne _ _ hqp]
        exact h1 q hq
    · intro j hj
      rw [e7] at hj
      rw [e2]
      refine ⟨(h2 j hj).1, ?_⟩
      rw [va_up_ne _ _ (hout j hj)]
      exact (h2 j hj).2
    · rw [e7, e2]
      exact h3
    · rw [e7, pd_nz_same hf (by omega)]
      exact h4
