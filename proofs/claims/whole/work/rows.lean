section
/-! PURE, 1: banks of numbers, pages, counts of references, the pool -/
abbrev pdS : Type := Nat → Nat → Nat
def pd_st (S : pdS) (b j v : Nat) : pdS := va_up S b (va_up (S b) j v)
theorem pd_at (S : pdS) (b j v b' j' : Nat) : pd_st S b j v b' j' = if b' = b ∧ j' = j then v else S b' j' := by
  unfold pd_st va_up
  by_cases h : b' = b
  · subst h
    by_cases h2 : j' = j
    · simp [h2]
    · simp [h2]
  · simp [h]
theorem pd_bk (S : pdS) {b j v b' : Nat} (h : b' ≠ b) : pd_st S b j v b' = S b' := by
  unfold pd_st
  rw [va_up_ne _ _ h]
theorem pd_self (S : pdS) (b j v : Nat) : pd_st S b j v b j = v := by
  rw [pd_at, if_pos ⟨rfl, rfl⟩]
theorem pd_ne (S : pdS) {b j v j' : Nat} (h : j' ≠ j) : pd_st S b j v b j' = S b j' := by
  rw [pd_at, if_neg (fun q => h q.2)]
theorem pd_own (S : pdS) (b j v : Nat) : pd_st S b j v b = va_up (S b) j v := by
  unfold pd_st
  rw [va_up_self]
def pd_pf (x : Nat) : Nat := (x + 63) / 64
def pd_rc (r : Nat → Nat) (p : Nat) : Nat → Nat
  | 0 => 0
  | m + 1 => pd_rc r p m + if r m = p then 1 else 0
def pd_sm (f : Nat → Nat) : Nat → Nat
  | 0 => 0
  | m + 1 => pd_sm f m + f m
def pd_nz (f : Nat → Nat) : Nat → Nat
  | 0 => 0
  | m + 1 => pd_nz f m + if 0 < f m then 1 else 0
theorem pd_rc_congr {r r' : Nat → Nat} {p : Nat} : ∀ {m : Nat}, (∀ k, k < m → r k = r' k) → pd_rc r p m = pd_rc r' p m
  | 0, _ => rfl
  | m + 1, h => by
    simp only [pd_rc]
    rw [pd_rc_congr (fun k hk => h k (Nat.lt_succ_of_lt hk)), h m (Nat.lt_succ_self m)]
theorem pd_rc_pos {r : Nat → Nat} {k p : Nat} (hr : r k = p) : ∀ {m : Nat}, k < m → 0 < pd_rc r p m
  | 0, h => absurd h (Nat.not_lt_zero k)
  | m + 1, h => by
    simp only [pd_rc]
    by_cases hk : k = m
    · subst hk
      rw [if_pos hr]
      omega
    · have := pd_rc_pos hr (m := m) (by omega)
      omega
theorem pd_rc_of {r : Nat → Nat} {p : Nat} : ∀ {m : Nat}, 0 < pd_rc r p m → ∃ k, k < m ∧ r k = p
  | 0, h => absurd h (Nat.lt_irrefl 0)
  | m + 1, h => by
    simp only [pd_rc] at h
    by_cases hm : r m = p
    · exact ⟨m, Nat.lt_succ_self m, hm⟩
    · rw [if_neg hm, Nat.add_zero] at h
      obtain ⟨k, h1, h2⟩ := pd_rc_of h
      exact ⟨k, by omega, h2⟩
theorem pd_rc_0 {r : Nat → Nat} {p m : Nat} (h : ∀ k, k < m → r k ≠ p) : pd_rc r p m = 0 := by
  rcases Nat.eq_zero_or_pos (pd_rc r p m) with h0 | h0
  · exact h0
  · obtain ⟨k, h1, h2⟩ := pd_rc_of h0
    exact absurd h2 (h k h1)
theorem pd_rc_add (r : Nat → Nat) (p a : Nat) : ∀ b, pd_rc r p (a + b) = pd_rc r p a + pd_rc (fun j => r (a + j)) p b
  | 0 => rfl
  | b + 1 => by
    rw [← Nat.add_assoc]
    simp only [pd_rc]
    rw [pd_rc_add r p a b, Nat.add_assoc]
theorem pd_rc_le1 {r : Nat → Nat} {p : Nat} : ∀ {m : Nat}, (∀ i j, i < m → j < m → r i = p → r j = p → i = j) → pd_rc r p m ≤ 1
  | 0, _ => Nat.zero_le 1
  | m + 1, h => by
    simp only [pd_rc]
    by_cases hm : r m = p
    · rw [if_pos hm, pd_rc_0 (fun k hk q => by have := h k m (by omega) (by omega) q hm; omega)]
      omega
    · rw [if_neg hm]
      have := pd_rc_le1 (r := r) (p := p) (m := m) (fun i j hi hj => h i j (by omega) (by omega))
      omega
theorem pd_sm_congr {f g : Nat → Nat} : ∀ {m : Nat}, (∀ k, k < m → f k = g k) → pd_sm f m = pd_sm g m
  | 0, _ => rfl
  | m + 1, h => by
    simp only [pd_sm]
    rw [pd_sm_congr (fun k hk => h k (Nat.lt_succ_of_lt hk)), h m (Nat.lt_succ_self m)]
theorem pd_sm_up {f : Nat → Nat} {c v : Nat} : ∀ {m : Nat}, c < m → pd_sm (va_up f c v) m + f c = pd_sm f m + v
  | 0, h => absurd h (Nat.not_lt_zero c)
  | m + 1, h => by
    simp only [pd_sm]
    by_cases hc : c = m
    · subst hc
      rw [va_up_self, pd_sm_congr (f := va_up f c v) (g := f) (fun k hk => va_up_ne f v (by omega))]
      omega
    · rw [va_up_ne f v (fun q => hc q.symm)]
      have := pd_sm_up (f := f) (v := v) (c := c) (m := m) (by omega)
      omega
theorem pd_sm_le {f : Nat → Nat} {c : Nat} : ∀ {m : Nat}, c < m → f c ≤ pd_sm f m
  | 0, h => absurd h (Nat.not_lt_zero c)
  | m + 1, h => by
    simp only [pd_sm]
    by_cases hc : c = m
    · subst hc
      omega
    · have := pd_sm_le (f := f) (c := c) (m := m) (by omega)
      omega
theorem pd_sm_of {f : Nat → Nat} : ∀ {m : Nat}, 0 < pd_sm f m → ∃ c, c < m ∧ 0 < f c
  | 0, h => absurd h (Nat.lt_irrefl 0)
  | m + 1, h => by
    simp only [pd_sm] at h
    by_cases hm : 0 < f m
    · exact ⟨m, Nat.lt_succ_self m, hm⟩
    · obtain ⟨c, h1, h2⟩ := pd_sm_of (f := f) (m := m) (by omega)
      exact ⟨c, by omega, h2⟩
theorem pd_sm_0 {f : Nat → Nat} {m : Nat} (h : ∀ c, c < m → f c = 0) : pd_sm f m = 0 := by
  rcases Nat.eq_zero_or_pos (pd_sm f m) with h0 | h0
  · exact h0
  · obtain ⟨c, h1, h2⟩ := pd_sm_of h0
    rw [h c h1] at h2
    exact absurd h2 (Nat.lt_irrefl 0)
theorem pd_nz_congr {f g : Nat → Nat} : ∀ {m : Nat}, (∀ k, k < m → f k = g k) → pd_nz f m = pd_nz g m
  | 0, _ => rfl
  | m + 1, h => by
    simp only [pd_nz]
    rw [pd_nz_congr (fun k hk => h k (Nat.lt_succ_of_lt hk)), h m (Nat.lt_succ_self m)]
theorem pd_nz_le (f : Nat → Nat) : ∀ m : Nat, pd_nz f m ≤ m
  | 0 => Nat.le_refl 0
  | m + 1 => by
    simp only [pd_nz]
    have := pd_nz_le f m
    by_cases h : 0 < f m
    · rw [if_pos h]
      omega
    · rw [if_neg h]
      omega
theorem pd_nz_in {f : Nat → Nat} {p v : Nat} (h0 : f p = 0) (hv : 0 < v) : ∀ {m : Nat}, p < m → pd_nz (va_up f p v) m = pd_nz f m + 1
  | 0, h => absurd h (Nat.not_lt_zero p)
  | m + 1, h => by
    simp only [pd_nz]
    by_cases hc : p = m
    · subst hc
      rw [va_up_self, pd_nz_congr (f := va_up f p v) (g := f) (fun k hk => va_up_ne f v (by omega)), if_pos hv, h0, if_neg (Nat.lt_irrefl 0)]
    · rw [va_up_ne f v (fun q => hc q.symm), pd_nz_in h0 hv (m := m) (by omega)]
      omega
theorem pd_nz_out {f : Nat → Nat} {p : Nat} (h0 : 0 < f p) : ∀ {m : Nat}, p < m → pd_nz (va_up f p 0) m + 1 = pd_nz f m
  | 0, h => absurd h (Nat.not_lt_zero p)
  | m + 1, h => by
    simp only [pd_nz]
    by_cases hc : p = m
    · subst hc
      rw [va_up_self, pd_nz_congr (f := va_up f p 0) (g := f) (fun k hk => va_up_ne f 0 (by omega)), if_pos h0, if_neg (Nat.lt_irrefl 0)]
    · rw [va_up_ne f 0 (fun q => hc q.symm)]
      have := pd_nz_out h0 (m := m) (by omega)
      omega
theorem pd_nz_same {f : Nat → Nat} {p v : Nat} (h0 : 0 < f p) (hv : 0 < v) : ∀ {m : Nat}, pd_nz (va_up f p v) m = pd_nz f m
  | 0 => rfl
  | m + 1 => by
    simp only [pd_nz]
    rw [pd_nz_same h0 hv (m := m)]
    by_cases hc : m = p
    · subst hc
      rw [va_up_self, if_pos hv, if_pos h0]
    · rw [va_up_ne f v hc]
theorem pd_nz_free {f : Nat → Nat} : ∀ {m : Nat}, pd_nz f m < m → ∃ p, p < m ∧ f p = 0
  | 0, h => absurd h (Nat.not_lt_zero _)
  | m + 1, h => by
    simp only [pd_nz] at h
    by_cases hm : f m = 0
    · exact ⟨m, Nat.lt_succ_self m, hm⟩
    · rw [if_pos (Nat.pos_of_ne_zero hm)] at h
      obtain ⟨p, h1, h2⟩ := pd_nz_free (f := f) (m := m) (by omega)
      exact ⟨p, by omega, h2⟩
theorem pd_nz_pos {f : Nat → Nat} {p m : Nat} (hp : p < m) (h : 0 < f p) : 0 < pd_nz f m := by
  have := pd_nz_out h hp
  omega
/-- how many live references there are to page p -/
def pd_ct (S : pdS) (p : Nat) : Nat := pd_sm (fun c => pd_rc (S (8 + c)) p (pd_pf (S 4 c))) 32
/-- the pool: n pages; f says how often each is in a row -/
def pd_ok (n : Nat) (S : pdS) (f : Nat → Nat) : Prop :=
  (∀ p, p < n → S 1 p = f p) ∧ (∀ j, j < S 7 0 → S 2 j < n ∧ f (S 2 j) = 0) ∧ (∀ i j, i < S 7 0 → j < S 7 0 → S 2 i = S 2 j → i = j) ∧ S 7 0 + pd_nz f n = n
theorem pd_ok_congr {n : Nat} {S : pdS} {f g : Nat → Nat} (h : pd_ok n S f) (hfg : ∀ p, p < n → f p = g p) : pd_ok n S g := by
  obtain ⟨h1, h2, h3, h4⟩ := h
  refine ⟨fun p hp => (h1 p hp).trans (hfg p hp), fun j hj => ⟨(h2 j hj).1, ?_⟩, h3, ?_⟩
  · rw [← hfg _ (h2 j hj).1]
    exact (h2 j hj).2
  · rw [← pd_nz_congr hfg]
    exact h4
theorem pd_ok_eqv {n : Nat} {S S' : pdS} {f : Nat → Nat} (h : pd_ok n S f) (h1 : S' 1 = S 1) (h2 : S' 2 = S 2) (h7 : S' 7 0 = S 7 0) : pd_ok n S' f := by
  unfold pd_ok
  rw [h1, h2, h7]
  exact h
def pd_take (S : pdS) : pdS := pd_st (pd_st S 7 0 (S 7 0 - 1)) 1 (S 2 (S 7 0 - 1)) 1
theorem pd_take_ok {n : Nat} {S : pdS} {f : Nat → Nat} (h : pd_ok n S f) (hu : 0 < S 7 0) : S 2 (S 7 0 - 1) < n ∧ f (S 2 (S 7 0 - 1)) = 0 ∧ pd_ok n (pd_take S) (va_up f (S 2 (S 7 0 - 1)) 1) := by
  obtain ⟨h1, h2, h3, h4⟩ := h
  obtain ⟨hp, hf⟩ := h2 (S 7 0 - 1) (by omega)
  generalize hpe : S 2 (S 7 0 - 1) = p at hp hf ⊢
  have e7 : pd_take S 7 0 = S 7 0 - 1 := by
    unfold pd_take
    rw [pd_bk _ (show (7 : Nat) ≠ 1 by decide), pd_self]
  have e2 : pd_take S 2 = S 2 := by
    unfold pd_take
    rw [pd_bk _ (show (2 : Nat) ≠ 1 by decide), pd_bk _ (show (2 : Nat) ≠ 7 by decide)]
  have e1 : pd_take S 1 = va_up (S 1) p 1 := by
    unfold pd_take
    rw [pd_own, pd_bk _ (show (1 : Nat) ≠ 7 by decide), hpe]
  refine ⟨hp, hf, ?_, ?_, ?_, ?_⟩
  · intro q hq
    rw [e1]
    by_cases hqp : q = p
    · subst hqp
      rw [va_up_self, va_up_self]
    · rw [va_up_ne _ _ hqp, va_up_ne _ _ hqp]
      exact h1 q hq
  · intro j hj
    rw [e7] at hj
    rw [e2]
    refine ⟨(h2 j (by omega)).1, ?_⟩
    have hne : S 2 j ≠ p := fun q => by
      have := h3 j (S 7 0 - 1) (by omega) (by omega) (q.trans hpe.symm)
      omega
    rw [va_up_ne _ _ hne]
    exact (h2 j (by omega)).2
  · intro i j hi hj
    rw [e7] at hi hj
    rw [e2]
    exact h3 i j (by omega) (by omega)
  · rw [e7, pd_nz_in hf (by decide) hp]
    omega
def pd_join (S : pdS) (p : Nat) : pdS := pd_st S 1 p (S 1 p + 1)
theorem pd_join_ok {n : Nat} {S : pdS} {f : Nat → Nat} {p : Nat} (h : pd_ok n S f) (hp : p < n) (hf : 0 < f p) : pd_ok n (pd_join S p) (va_up f p (f p + 1)) := by
  obtain ⟨h1, h2, h3, h4⟩ := h
  have e7 : pd_join S p 7 = S 7 := pd_bk _ (by decide)
  have e2 : pd_join S p 2 = S 2 := pd_bk _ (by decide)
  have e1 : pd_join S p 1 = va_up (S 1) p (S 1 p + 1) := pd_own ..
  refine ⟨?_, ?_, ?_, ?_⟩
  · intro q hq
    rw [e1]
    by_cases hqp : q = p
    · subst hqp
      rw [va_up_self, va_up_self, h1 q hq]
    · rw [va_up_ne _ _ hqp, va_up_ne _ _ hqp]
      exact h1 q hq
  · intro j hj
    rw [e7] at hj
    rw [e2]
    refine ⟨(h2 j hj).1, ?_⟩
    have hne : S 2 j ≠ p := fun q => by
      have := (h2 j hj).2
      rw [q] at this
      omega
    rw [va_up_ne _ _ hne]
    exact (h2 j hj).2
  · rw [e7, e2]
    exact h3
  · rw [e7, pd_nz_same hf (by omega)]
    exact h4
def pd_leave (S : pdS) (p : Nat) : pdS := if S 1 p = 1 then pd_st (pd_st (pd_st S 1 p 0) 2 (S 7 0) p) 7 0 (S 7 0 + 1) else pd_st S 1 p (S 1 p - 1)
theorem pd_leave_ok {n : Nat} {S : pdS} {f : Nat → Nat} {p : Nat} (h : pd_ok n S f) (hp : p < n) (hf : 0 < f p) : S 7 0 < n ∧ S 1 p = f p ∧ pd_ok n (pd_leave S p) (va_up f p (f p - 1)) := by
  obtain ⟨h1, h2, h3, h4⟩ := h
  have hz := pd_nz_pos hp hf
  have hout : ∀ j, j < S 7 0 → S 2 j ≠ p := fun j hj q => by
    have := (h2 j hj).2
    rw [q] at this
    omega
  refine ⟨by omega, h1 p hp, ?_⟩
  unfold pd_leave
  by_cases hone : S 1 p = 1
  · rw [if_pos hone]
    have hf1 : f p = 1 := by rw [← h1 p hp]; exact hone
    have e1 : pd_st (pd_st (pd_st S 1 p 0) 2 (S 7 0) p) 7 0 (S 7 0 + 1) 1 = va_up (S 1) p 0 := by
      rw [pd_bk _ (show (1 : Nat) ≠ 7 by decide), pd_bk _ (show (1 : Nat) ≠ 2 by decide), pd_own]
    have e2 : pd_st (pd_st (pd_st S 1 p 0) 2 (S 7 0) p) 7 0 (S 7 0 + 1) 2 = va_up (S 2) (S 7 0) p := by
      rw [pd_bk _ (show (2 : Nat) ≠ 7 by decide), pd_own, pd_bk _ (show (2 : Nat) ≠ 1 by decide)]
    have e7 : pd_st (pd_st (pd_st S 1 p 0) 2 (S 7 0) p) 7 0 (S 7 0 + 1) 7 0 = S 7 0 + 1 := pd_self ..
    have hf0 : f p - 1 = 0 := by omega
    rw [hf0]
    refine ⟨?_, ?_, ?_, ?_⟩
    · intro q hq
      rw [e1]
      by_cases hqp : q = p
      · subst hqp
        rw [va_up_self, va_up_self]
      · rw [va_up_ne _ _ hqp, va_up_ne _ _ hqp]
        exact h1 q hq
    · intro j hj
      rw [e7] at hj
      rw [e2]
      by_cases hju : j = S 7 0
      · subst hju
        rw [va_up_self, va_up_self]
        exact ⟨hp, rfl⟩
      · rw [va_up_ne _ _ hju, va_up_ne _ _ (hout j (by omega))]
        exact h2 j (by omega)
    · intro i j hi hj
      rw [e7] at hi hj
      rw [e2]
      by_cases hi0 : i = S 7 0 <;> by_cases hj0 : j = S 7 0
      · intro _
        omega
      · subst hi0
        rw [va_up_self, va_up_ne _ _ hj0]
        intro q
        exact absurd q.symm (hout j (by omega))
      · subst hj0
        rw [va_up_self, va_up_ne _ _ hi0]
        intro q
        exact absurd q (hout i (by omega))
      · rw [va_up_ne _ _ hi0, va_up_ne _ _ hj0]
        exact h3 i j (by omega) (by omega)
    · rw [e7]
      have := pd_nz_out hf hp
      omega
  · rw [if_neg hone]
    have e1 : pd_st S 1 p (S 1 p - 1) 1 = va_up (S 1) p (S 1 p - 1) := pd_own ..
    have e2 : pd_st S 1 p (S 1 p - 1) 2 = S 2 := pd_bk _ (by decide)
    have e7 : pd_st S 1 p (S 1 p - 1) 7 = S 7 := pd_bk _ (by decide)
    have hf2 : 1 < f p := by
      have := h1 p hp
      omega
    refine ⟨?_, ?_, ?_, ?_⟩
    · intro q hq
      rw [e1]
      by_cases hqp : q = p
      · subst hqp
        rw [va_up_self, va_up_self, h1 q hq]
      · rw [va_up_ne _ _ hqp, va_up_ne _ _ hqp]
        exact h1 q hq
    · intro j hj
      rw [e7] at hj
      rw [e2]
      refine ⟨(h2 j hj).1, ?_⟩
      rw [va_up_ne _ _ (hout j hj)]
      exact (h2 j hj).2
    · rw [e7, e2]
      exact h3
    · rw [e7, pd_nz_same hf (by omega)]
      exact h4
end
section
/-! PURE, 2: what both sides keep, and when they are alike -/
def pd_by (S : pdS) (c i : Nat) : Nat := S 0 (64 * S (8 + c) (i / 64) + i % 64)
/-- a page lies at one place in all rows -/
def pd_po (S : pdS) : Prop := ∀ c d k j, c < 32 → d < 32 → k < pd_pf (S 4 c) → j < pd_pf (S 4 d) → S (8 + c) k = S (8 + d) j → k = j
def pd_v (N : Nat) (S : pdS) : Prop :=
  (∀ c, c < 32 → S 4 c ≤ 25600 ∧ S 5 c ≤ 1 ∧ (S 5 c = 0 → S 4 c = 0)) ∧ (∀ c k, c < 32 → k < pd_pf (S 4 c) → S (8 + c) k < N) ∧ pd_po S ∧ S 7 2 ≤ 4096 ∧ (∀ j, S 3 j < 256) ∧ ∀ j, S 0 j < 256
def pd_lo (S : pdS) : Prop := ∀ i, i < 16 → S 6 i ≤ S 4 (2 * i)
/-- the class's own state -/
def pd_I (n : Nat) (S : pdS) : Prop := 4 ≤ n ∧ n ≤ 1024 ∧ pd_v n S ∧ pd_ok n S (pd_ct S)
def pd_eq (S Q : pdS) : Prop :=
  (∀ c, c < 32 → S 4 c = Q 4 c ∧ S 5 c = Q 5 c) ∧ (∀ i, i < 16 → S 6 i = Q 6 i) ∧ S 7 1 = Q 7 1 ∧ S 7 2 = Q 7 2 ∧ (∀ j, j < S 7 2 → S 3 j = Q 3 j) ∧
  (∀ c d k, c < 32 → d < 32 → k < pd_pf (S 4 c) → k < pd_pf (S 4 d) → (S (8 + c) k = S (8 + d) k ↔ Q (8 + c) k = Q (8 + d) k)) ∧ ∀ c i, c < 32 → i < S 4 c → pd_by S c i = pd_by Q c i
theorem pd_eq_symm {S Q : pdS} (h : pd_eq S Q) : pd_eq Q S := by
  obtain ⟨h1, h2, h3, h4, h5, h6, h7⟩ := h
  refine ⟨fun c hc => ⟨(h1 c hc).1.symm, (h1 c hc).2.symm⟩, fun i hi => (h2 i hi).symm, h3.symm, h4.symm, fun j hj => (h5 j (by rw [h4]; exact hj)).symm, fun c d k hc hd hk hk2 => ?_, fun c i hc hi => ?_⟩
  · rw [← (h1 c hc).1] at hk
    rw [← (h1 d hd).1] at hk2
    exact (h6 c d k hc hd hk hk2).symm
  · rw [← (h1 c hc).1] at hi
    exact (h7 c i hc hi).symm
theorem pd_rc_one {r : Nat → Nat} {p k m : Nat} (h : ∀ j, j < m → r j = p → j = k) : pd_rc r p m = if k < m ∧ r k = p then 1 else 0 := by
  by_cases hk : k < m ∧ r k = p
  · rw [if_pos hk]
    have h1 := pd_rc_pos hk.2 hk.1
    have h2 := pd_rc_le1 (r := r) (p := p) (m := m) (fun i j hi hj hi2 hj2 => (h i hi hi2).trans (h j hj hj2).symm)
    omega
  · rw [if_neg hk]
    refine pd_rc_0 (fun j hj q => hk ?_)
    have := h j hj q
    subst this
    exact ⟨hj, q⟩
/-- a live page is in as many rows here as there -/
theorem pd_eq_ct {S Q : pdS} (h : pd_eq S Q) (hS : pd_po S) (hQ : pd_po Q) {c k : Nat} (hc : c < 32) (hk : k < pd_pf (S 4 c)) : pd_ct S (S (8 + c) k) = pd_ct Q (Q (8 + c) k) := by
  obtain ⟨h1, -, -, -, -, h6, -⟩ := h
  have hkQ : k < pd_pf (Q 4 c) := by rw [← (h1 c hc).1]; exact hk
  refine pd_sm_congr (fun d hd => ?_)
  show pd_rc (S (8 + d)) (S (8 + c) k) (pd_pf (S 4 d)) = pd_rc (Q (8 + d)) (Q (8 + c) k) (pd_pf (Q 4 d))
  rw [pd_rc_one (k := k) (fun j hj q => hS d c j k hd hc hj hk q), pd_rc_one (k := k) (fun j hj q => hQ d c j k hd hc hj hkQ q), ← (h1 d hd).1]
  by_cases hl : k < pd_pf (S 4 d)
  · have := h6 d c k hd hc hl hk
    by_cases hq : S (8 + d) k = S (8 + c) k
    · rw [if_pos ⟨hl, hq⟩, if_pos ⟨hl, this.mp hq⟩]
    · rw [if_neg (fun q => hq q.2), if_neg (fun q => hq (this.mpr q.2))]
  · rw [if_neg (fun q => hl q.1), if_neg (fun q => hl q.1)]
theorem pd_nz_inj {R : Nat → Nat → Prop} {f : Nat → Nat} {M : Nat} (hR : ∀ p p' q, R p q → R p' q → p = p') : ∀ (N : Nat) (g : Nat → Nat), (∀ p, p < N → 0 < f p → ∃ q, q < M ∧ 0 < g q ∧ R p q) → pd_nz f N ≤ pd_nz g M
  | 0, g, _ => Nat.zero_le _
  | N + 1, g, h => by
    simp only [pd_nz]
    by_cases hf : 0 < f N
    · rw [if_pos hf]
      obtain ⟨q, hq, hg, hr⟩ := h N (Nat.lt_succ_self N) hf
      have h1 := pd_nz_out hg hq
      have h2 := pd_nz_inj (R := R) (f := f) (M := M) hR N (va_up g q 0) (fun p hp hfp => by
        obtain ⟨q', hq', hg', hr'⟩ := h p (by omega) hfp
        have hne : q' ≠ q := fun e => by
          subst e
          have := hR p N q' hr' hr
          omega
        exact ⟨q', hq', by rw [va_up_ne _ _ hne]; exact hg', hr'⟩)
      omega
    · rw [if_neg hf]
      have h2 := pd_nz_inj (R := R) (f := f) (M := M) hR N g (fun p hp hfp => h p (by omega) hfp)
      omega
theorem pd_ct_of {S : pdS} {p : Nat} (h : 0 < pd_ct S p) : ∃ c k, c < 32 ∧ k < pd_pf (S 4 c) ∧ S (8 + c) k = p := by
  obtain ⟨c, hc, h1⟩ := pd_sm_of h
  obtain ⟨k, hk, h2⟩ := pd_rc_of h1
  exact ⟨c, k, hc, hk, h2⟩
theorem pd_ct_pos {S : pdS} {c k : Nat} (hc : c < 32) (hk : k < pd_pf (S 4 c)) : 0 < pd_ct S (S (8 + c) k) := by
  have h1 : 0 < pd_rc (S (8 + c)) (S (8 + c) k) (pd_pf (S 4 c)) := pd_rc_pos rfl hk
  have h2 := pd_sm_le (f := fun d => pd_rc (S (8 + d)) (S (8 + c) k) (pd_pf (S 4 d))) hc
  exact Nat.lt_of_lt_of_le h1 h2
theorem pd_eq_le {S Q : pdS} {n N : Nat} (h : pd_eq S Q) (hQ : pd_po Q) (hN : ∀ c k, c < 32 → k < pd_pf (Q 4 c) → Q (8 + c) k < N) : pd_nz (pd_ct S) n ≤ pd_nz (pd_ct Q) N := by
  obtain ⟨h1, -, -, -, -, h6, -⟩ := h
  refine pd_nz_inj (R := fun p q => ∃ c k, c < 32 ∧ k < pd_pf (S 4 c) ∧ S (8 + c) k = p ∧ Q (8 + c) k = q) ?_ n _ ?_
  · rintro p p' q ⟨c, k, hc, hk, rfl, hq⟩ ⟨d, j, hd, hj, rfl, hq2⟩
    have hkQ : k < pd_pf (Q 4 c) := by rw [← (h1 c hc).1]; exact hk
    have hjQ : j < pd_pf (Q 4 d) := by rw [← (h1 d hd).1]; exact hj
    have hkj := hQ c d k j hc hd hkQ hjQ (hq.trans hq2.symm)
    subst hkj
    exact (h6 c d k hc hd hk hj).mpr (hq.trans hq2.symm)
  · intro p _ hp
    obtain ⟨c, k, hc, hk, hpk⟩ := pd_ct_of hp
    have hkQ : k < pd_pf (Q 4 c) := by rw [← (h1 c hc).1]; exact hk
    exact ⟨Q (8 + c) k, hN c k hc hkQ, pd_ct_pos hc hkQ, c, k, hc, hk, hpk, rfl⟩
/-- as many pages are used here as there -/
theorem pd_eq_nz {S Q : pdS} {n N : Nat} (h : pd_eq S Q) (hS : pd_v n S) (hQ : pd_v N Q) : pd_nz (pd_ct S) n = pd_nz (pd_ct Q) N := by
  have h1 := pd_eq_le (n := n) h hQ.2.2.1 hQ.2.1
  have h2 := pd_eq_le (n := N) (pd_eq_symm h) hS.2.2.1 hS.2.1
  omega
/-- NOW of a file is cut: a content of size s -/
def pd_sh (S S' : pdS) (c s : Nat) : Prop := S' 0 = S 0 ∧ S' 3 = S 3 ∧ S' 4 = va_up (S 4) c s ∧ S' 5 = S 5 ∧ S' 6 = S 6 ∧ S' 7 1 = S 7 1 ∧ S' 7 2 = S 7 2 ∧ ∀ d, d < 32 → S' (8 + d) = S (8 + d)
theorem pd_pf_mono {a b : Nat} (h : a ≤ b) : pd_pf a ≤ pd_pf b := by
  unfold pd_pf
  omega
theorem pd_sh_sz {S S' : pdS} {c s : Nat} (h : pd_sh S S' c s) (hs : s ≤ S 4 c) (d : Nat) : S' 4 d ≤ S 4 d := by
  rw [h.2.2.1]
  by_cases hd : d = c
  · subst hd
    rw [va_up_self]
    exact hs
  · rw [va_up_ne _ _ hd]
    exact Nat.le_refl _
theorem pd_sh_v {S S' : pdS} {N c s : Nat} (h : pd_sh S S' c s) (hs : s ≤ S 4 c) (hv : pd_v N S) : pd_v N S' := by
  have hz := pd_sh_sz h hs
  obtain ⟨e0, e3, e4, e5, e6, e71, e72, er⟩ := h
  obtain ⟨v1, v2, v3, v4, v5, v6⟩ := hv
  refine ⟨fun d hd => ?_, fun d k hd hk => ?_, fun a d k j ha hd hk hj => ?_, by rw [e72]; exact v4, by rw [e3]; exact v5, by rw [e0]; exact v6⟩
  · obtain ⟨w1, w2, w3⟩ := v1 d hd
    have := hz d
    rw [e5]
    exact ⟨by omega, w2, fun q => by have := w3 q; omega⟩
  · rw [er d hd]
    exact v2 d k hd (Nat.lt_of_lt_of_le hk (pd_pf_mono (hz d)))
  · rw [er a ha, er d hd]
    exact v3 a d k j ha hd (Nat.lt_of_lt_of_le hk (pd_pf_mono (hz a))) (Nat.lt_of_lt_of_le hj (pd_pf_mono (hz d)))
theorem pd_by_congr {S S' : pdS} {c i : Nat} (h0 : S' 0 = S 0) (hr : S' (8 + c) (i / 64) = S (8 + c) (i / 64)) : pd_by S' c i = pd_by S c i := by
  unfold pd_by
  rw [h0, hr]
theorem pd_sh_eq {S S' Q Q' : pdS} {c s : Nat} (h : pd_sh S S' c s) (g : pd_sh Q Q' c s) (hs : s ≤ S 4 c) (hc : c < 32) (e : pd_eq S Q) : pd_eq S' Q' := by
  have hz := pd_sh_sz h hs
  obtain ⟨e0, e3, e4, e5, e6, e71, e72, er⟩ := h
  obtain ⟨g0, g3, g4, g5, g6, g71, g72, gr⟩ := g
  obtain ⟨h1, h2, h3, h4, h5, h6, h7⟩ := e
  refine ⟨fun d hd => ⟨?_, by rw [e5, g5]; exact (h1 d hd).2⟩, by rw [e6, g6]; exact h2, by rw [e71, g71]; exact h3, by rw [e72, g72]; exact h4, by rw [e72, e3, g3]; exact h5, fun a d k ha hd hk hk2 => ?_, fun d i hd hi => ?_⟩
  · rw [e4, g4]
    by_cases hdc : d = c
    · subst hdc
      rw [va_up_self, va_up_self]
    · rw [va_up_ne _ _ hdc, va_up_ne _ _ hdc]
      exact (h1 d hd).1
  · rw [er a ha, er d hd, gr a ha, gr d hd]
    exact h6 a d k ha hd (Nat.lt_of_lt_of_le hk (pd_pf_mono (hz a))) (Nat.lt_of_lt_of_le hk2 (pd_pf_mono (hz d)))
  · rw [pd_by_congr e0 (by rw [er d hd]), pd_by_congr g0 (by rw [gr d hd])]
    exact h7 d i hd (Nat.lt_of_lt_of_le hi (hz d))
/-- a content becomes another -/
def pd_be (S S' : pdS) (to fr : Nat) : Prop := S' 0 = S 0 ∧ S' 3 = S 3 ∧ S' 4 = va_up (S 4) to (S 4 fr) ∧ S' 5 = va_up (S 5) to (S 5 fr) ∧ S' 6 = S 6 ∧ S' 7 1 = S 7 1 ∧ S' 7 2 = S 7 2 ∧ (∀ k, k < pd_pf (S 4 fr) → S' (8 + to) k = S (8 + fr) k) ∧ ∀ d k, d < 32 → d ≠ to → k < pd_pf (S 4 d) → S' (8 + d) k = S (8 + d) k
/-- whose row a row is behind pd_be -/
theorem pd_be_src {S S' : pdS} {to fr : Nat} (h : pd_be S S' to fr) (hf : fr < 32) {d : Nat} (hd : d < 32) : ∃ d', d' < 32 ∧ S' 4 d = S 4 d' ∧ S' 5 d = S 5 d' ∧ (d' = if d = to then fr else d) ∧ ∀ k, k < pd_pf (S' 4 d) → S' (8 + d) k = S (8 + d') k := by
  obtain ⟨e0, e3, e4, e5, e6, e71, e72, er, eo⟩ := h
  by_cases hdt : d = to
  · subst hdt
    refine ⟨fr, hf, by rw [e4, va_up_self], by rw [e5, va_up_self], by rw [if_pos rfl], fun k hk => er k ?_⟩
    rw [e4, va_up_self] at hk
    exact hk
  · refine ⟨d, hd, by rw [e4, va_up_ne _ _ hdt], by rw [e5, va_up_ne _ _ hdt], by rw [if_neg hdt], fun k hk => eo d k hd hdt ?_⟩
    rw [e4, va_up_ne _ _ hdt] at hk
    exact hk
theorem pd_be_v {S S' : pdS} {N to fr : Nat} (h : pd_be S S' to fr) (hf : fr < 32) (hv : pd_v N S) : pd_v N S' := by
  have hsrc := fun (d : Nat) (hd : d < 32) => pd_be_src h hf hd
  obtain ⟨v1, v2, v3, v4, v5, v6⟩ := hv
  refine ⟨fun d hd => ?_, fun d k hd hk => ?_, fun a d k j ha hd hk hj => ?_, by rw [h.2.2.2.2.2.2.1]; exact v4, by rw [h.2.1]; exact v5, by rw [h.1]; exact v6⟩
  · obtain ⟨d', h1, h2, h3, -, h5⟩ := hsrc d hd
    rw [h2, h3]
    exact v1 d' h1
  · obtain ⟨d', h1, h2, h3, -, h5⟩ := hsrc d hd
    rw [h5 k hk]
    rw [h2] at hk
    exact v2 d' k h1 hk
  · obtain ⟨a', a1, a2, a3, -, a5⟩ := hsrc a ha
    obtain ⟨d', h1, h2, h3, -, h5⟩ := hsrc d hd
    rw [a5 k hk, h5 j hj]
    rw [a2] at hk
    rw [h2] at hj
    exact v3 a' d' k j a1 h1 hk hj
theorem pd_be_eq {S S' Q Q' : pdS} {to fr : Nat} (h : pd_be S S' to fr) (g : pd_be Q Q' to fr) (hf : fr < 32) (e : pd_eq S Q) : pd_eq S' Q' := by
  have hs := fun (d : Nat) (hd : d < 32) => pd_be_src h hf hd
  have gs := fun (d : Nat) (hd : d < 32) => pd_be_src g hf hd
  obtain ⟨h1, h2, h3, h4, h5, h6, h7⟩ := e
  obtain ⟨e0, e3, e4, e5, e6, e71, e72, er, eo⟩ := h
  obtain ⟨g0, g3, g4, g5, g6, g71, g72, gr, go⟩ := g
  refine ⟨fun d hd => ?_, by rw [e6, g6]; exact h2, by rw [e71, g71]; exact h3, by rw [e72, g72]; exact h4, by rw [e72, e3, g3]; exact h5, fun a d k ha hd hk hk2 => ?_, fun d i hd hi => ?_⟩
  · obtain ⟨d', w1, w2, w3, w4, -⟩ := hs d hd
    obtain ⟨d2, z1, z2, z3, z4, -⟩ := gs d hd
    have hdd : d2 = d' := z4.trans w4.symm
    subst hdd
    rw [w2, w3, z2, z3]
    exact h1 d2 w1
  · obtain ⟨a', x1, x2, x3, x4, x5⟩ := hs a ha
    obtain ⟨a2, y1, y2, y3, y4, y5⟩ := gs a ha
    obtain ⟨d', w1, w2, w3, w4, w5⟩ := hs d hd
    obtain ⟨d2, z1, z2, z3, z4, z5⟩ := gs d hd
    have haa : a2 = a' := y4.trans x4.symm
    have hdd : d2 = d' := z4.trans w4.symm
    subst haa
    subst hdd
    rw [x5 k hk, w5 k hk2]
    rw [x2] at hk
    rw [w2] at hk2
    rw [y5 k (by rw [y2, ← (h1 a2 x1).1]; exact hk), z5 k (by rw [z2, ← (h1 d2 w1).1]; exact hk2)]
    exact h6 a2 d2 k x1 w1 hk hk2
  · obtain ⟨d', w1, w2, w3, w4, w5⟩ := hs d hd
    obtain ⟨d2, z1, z2, z3, z4, z5⟩ := gs d hd
    have hdd : d2 = d' := z4.trans w4.symm
    subst hdd
    have hi2 : i < S 4 d2 := by rw [← w2]; exact hi
    have hk : i / 64 < pd_pf (S 4 d2) := by unfold pd_pf; omega
    have hkQ : i / 64 < pd_pf (Q 4 d2) := by rw [← (h1 d2 w1).1]; exact hk
    have := h7 d2 i w1 hi2
    unfold pd_by at this ⊢
    rw [e0, g0, w5 _ (by rw [w2]; exact hk), z5 _ (by rw [z2]; exact hkQ)]
    exact this
end
section
/-! PURE, 3: appending -/
/-- does the last page have to be copied -/
def pd_cp (S : pdS) (c add : Nat) : Prop := 0 < add ∧ S 4 c % 64 ≠ 0 ∧ 1 < pd_ct S (S (8 + c) (S 4 c / 64))
/-- the pages that are new in row c -/
def pd_nw (S : pdS) (c add k : Nat) : Prop := k < pd_pf (S 4 c + add) ∧ (pd_pf (S 4 c) ≤ k ∨ (pd_cp S c add ∧ k = S 4 c / 64))
def pd_ap (N : Nat) (S S' : pdS) (c add : Nat) (tp : Nat → Nat) : Prop :=
  S' 4 = va_up (S 4) c (S 4 c + add) ∧ S' 5 = va_up (S 5) c 1 ∧ S' 6 = S 6 ∧ ((pd_cp S c add ∧ S' 7 1 = S 7 1 + 1) ∨ (¬ pd_cp S c add ∧ S' 7 1 = S 7 1)) ∧ S' 7 2 = 0 ∧
  (∀ d k, d < 32 → d ≠ c → k < pd_pf (S 4 d) → S' (8 + d) k = S (8 + d) k) ∧ (∀ k, k < pd_pf (S 4 c) → ¬ (pd_cp S c add ∧ k = S 4 c / 64) → S' (8 + c) k = S (8 + c) k) ∧
  (∀ k, pd_nw S c add k → S' (8 + c) k < N ∧ pd_ct S (S' (8 + c) k) = 0) ∧ (∀ k j, pd_nw S c add k → pd_nw S c add j → S' (8 + c) k = S' (8 + c) j → k = j) ∧
  (∀ d i, d < 32 → i < S 4 d → pd_by S' d i = pd_by S d i) ∧ (∀ i, i < add → pd_by S' c (S 4 c + i) = tp i) ∧ (∀ j, S' 3 j < 256) ∧ ∀ j, S' 0 j < 256
theorem pd_ct_live {S : pdS} {p c k : Nat} (h : pd_ct S p = 0) (hc : c < 32) (hk : k < pd_pf (S 4 c)) : S (8 + c) k ≠ p := fun q => by
  have := pd_ct_pos hc hk
  rw [q] at this
  omega
/-- a row behind an append: each page is an old one at its place, or a new one -/
theorem pd_ap_row {S S' : pdS} {N c add : Nat} {tp : Nat → Nat} (h : pd_ap N S S' c add tp) {d k : Nat} (hd : d < 32) (hk : k < pd_pf (S' 4 d)) : (k < pd_pf (S 4 d) ∧ S' (8 + d) k = S (8 + d) k ∧ ¬ (d = c ∧ pd_nw S c add k)) ∨ (d = c ∧ pd_nw S c add k) := by
  obtain ⟨e4, e5, e6, e71, e72, eo, ec, en, ei, eb, et, e3, e0⟩ := h
  rw [e4] at hk
  by_cases hdc : d = c
  · subst hdc
    rw [va_up_self] at hk
    by_cases hn : pd_nw S d add k
    · exact Or.inr ⟨rfl, hn⟩
    · refine Or.inl ?_
      have h1 : k < pd_pf (S 4 d) := Nat.not_le.mp (fun q => hn ⟨hk, Or.inl q⟩)
      have h2 : ¬ (pd_cp S d add ∧ k = S 4 d / 64) := fun q => hn ⟨hk, Or.inr q⟩
      exact ⟨h1, ec k h1 h2, fun q => hn q.2⟩
  · rw [va_up_ne _ _ hdc] at hk
    exact Or.inl ⟨hk, eo d k hd hdc hk, fun q => hdc q.1⟩
theorem pd_ap_v {S S' : pdS} {N c add : Nat} {tp : Nat → Nat} (h : pd_ap N S S' c add tp) (hz : S 4 c + add ≤ 25600) (hv : pd_v N S) : pd_v N S' := by
  have hrow := fun (d k : Nat) (hd : d < 32) (hk : k < pd_pf (S' 4 d)) => pd_ap_row h hd hk
  obtain ⟨e4, e5, e6, e71, e72, eo, ec, en, ei, eb, et, e3, e0⟩ := h
  obtain ⟨v1, v2, v3, v4, v5, v6⟩ := hv
  refine ⟨fun d hd => ?_, fun d k hd hk => ?_, fun a d k j ha hd hk hj hq => ?_, by rw [e72]; omega, e3, e0⟩
  · rw [e4, e5]
    by_cases hdc : d = c
    · subst hdc
      rw [va_up_self, va_up_self]
      exact ⟨hz, Nat.le_refl 1, fun q => by omega⟩
    · rw [va_up_ne _ _ hdc, va_up_ne _ _ hdc]
      exact v1 d hd
  · rcases hrow d k hd hk with ⟨h1, h2, -⟩ | ⟨h1, h2⟩
    · rw [h2]
      exact v2 d k hd h1
    · subst h1
      exact (en k h2).1
  · rcases hrow a k ha hk with ⟨h1, h2, -⟩ | ⟨h1, h2⟩ <;> rcases hrow d j hd hj with ⟨h3, h4, -⟩ | ⟨h3, h4⟩
    · rw [h2, h4] at hq
      exact v3 a d k j ha hd h1 h3 hq
    · subst h3
      rw [h2] at hq
      exact absurd hq (pd_ct_live (en j h4).2 ha h1)
    · subst h1
      rw [h4] at hq
      exact absurd hq.symm (pd_ct_live (en k h2).2 hd h3)
    · subst h1
      subst h3
      exact ei k j h2 h4 hq
theorem pd_eq_cp {S Q : pdS} (h : pd_eq S Q) (hS : pd_po S) (hQ : pd_po Q) {c add : Nat} (hc : c < 32) : pd_cp S c add ↔ pd_cp Q c add := by
  have hz := (h.1 c hc).1
  unfold pd_cp
  rw [← hz]
  by_cases hm : S 4 c % 64 ≠ 0
  · have hk : S 4 c / 64 < pd_pf (S 4 c) := by unfold pd_pf; omega
    rw [pd_eq_ct h hS hQ hc hk]
  · constructor
    · intro q
      exact absurd q.2.1 hm
    · intro q
      exact absurd q.2.1 hm
theorem pd_eq_nw {S Q : pdS} (h : pd_eq S Q) (hS : pd_po S) (hQ : pd_po Q) {c add k : Nat} (hc : c < 32) : pd_nw S c add k ↔ pd_nw Q c add k := by
  have hz := (h.1 c hc).1
  unfold pd_nw
  rw [pd_eq_cp h hS hQ hc, ← hz]
theorem pd_ap_eq {S S' Q Q' : pdS} {N M c add : Nat} {tp tq : Nat → Nat} (h : pd_ap N S S' c add tp) (g : pd_ap M Q Q' c add tq) (hc : c < 32) (hS : pd_po S) (hQ : pd_po Q) (e : pd_eq S Q) (ht : ∀ i, i < add → tp i = tq i) : pd_eq S' Q' := by
  have hcp := pd_eq_cp (add := add) e hS hQ hc
  have hnw := fun (k : Nat) => pd_eq_nw (add := add) (k := k) e hS hQ hc
  have hr := fun (d k : Nat) (hd : d < 32) (hk : k < pd_pf (S' 4 d)) => pd_ap_row h hd hk
  have gr := fun (d k : Nat) (hd : d < 32) (hk : k < pd_pf (Q' 4 d)) => pd_ap_row g hd hk
  obtain ⟨e4, e5, e6, e71, e72, eo, ec, en, ei, eb, et, e3, e0⟩ := h
  obtain ⟨g4, g5, g6, g71, g72, go, gc, gn, gi, gb, gt, g3, g0⟩ := g
  obtain ⟨h1, h2, h3, h4, h5, h6, h7⟩ := e
  have hz : ∀ d, d < 32 → S' 4 d = Q' 4 d := fun d hd => by
    rw [e4, g4, ← (h1 c hc).1]
    by_cases hdc : d = c
    · subst hdc
      rw [va_up_self, va_up_self]
    · rw [va_up_ne _ _ hdc, va_up_ne _ _ hdc]
      exact (h1 d hd).1
  refine ⟨fun d hd => ⟨hz d hd, ?_⟩, by rw [e6, g6]; exact h2, ?_, by rw [e72, g72], fun j hj => by rw [e72] at hj; exact absurd hj (Nat.not_lt_zero j), fun a d k ha hd hk hk2 => ?_, fun d i hd hi => ?_⟩
  · rw [e5, g5]
    by_cases hdc : d = c
    · subst hdc
      rw [va_up_self, va_up_self]
    · rw [va_up_ne _ _ hdc, va_up_ne _ _ hdc]
      exact (h1 d hd).2
  · rcases e71 with ⟨q1, q2⟩ | ⟨q1, q2⟩ <;> rcases g71 with ⟨r1, r2⟩ | ⟨r1, r2⟩
    · rw [q2, r2, h3]
    · exact absurd (hcp.mp q1) r1
    · exact absurd (hcp.mpr r1) q1
    · rw [q2, r2, h3]
  · have hkQ : k < pd_pf (Q' 4 a) := by rw [← hz a ha]; exact hk
    have hkQ2 : k < pd_pf (Q' 4 d) := by rw [← hz d hd]; exact hk2
    by_cases had : a = d
    · subst had
      exact ⟨fun _ => rfl, fun _ => rfl⟩
    · rcases hr a k ha hk with ⟨x1, x2, x3⟩ | ⟨x1, x2⟩ <;> rcases hr d k hd hk2 with ⟨y1, y2, y3⟩ | ⟨y1, y2⟩
      · rcases gr a k ha hkQ with ⟨z1, z2, z3⟩ | ⟨z1, z2⟩
        · rcases gr d k hd hkQ2 with ⟨w1, w2, w3⟩ | ⟨w1, w2⟩
          · rw [x2, y2, z2, w2]
            exact h6 a d k ha hd x1 y1
          · exact absurd ⟨w1, (hnw k).mpr w2⟩ y3
        · exact absurd ⟨z1, (hnw k).mpr z2⟩ x3
      · rcases gr a k ha hkQ with ⟨z1, z2, z3⟩ | ⟨z1, z2⟩
        · have w2 := (hnw k).mp y2
          subst y1
          rw [x2, z2]
          exact ⟨fun q => absurd q (pd_ct_live (en k y2).2 ha x1), fun q => absurd q (pd_ct_live (gn k w2).2 ha z1)⟩
        · exact absurd ⟨z1, (hnw k).mpr z2⟩ x3
      · rcases gr d k hd hkQ2 with ⟨z1, z2, z3⟩ | ⟨z1, z2⟩
        · have w2 := (hnw k).mp x2
          subst x1
          rw [y2, z2]
          exact ⟨fun q => absurd q.symm (pd_ct_live (en k x2).2 hd y1), fun q => absurd q.symm (pd_ct_live (gn k w2).2 hd z1)⟩
        · exact absurd ⟨z1, (hnw k).mpr z2⟩ y3
      · exact absurd (x1.trans y1.symm) had
  · by_cases hdc : d = c
    · subst hdc
      rw [e4, va_up_self] at hi
      by_cases hlt : i < S 4 d
      · rw [eb d i hd hlt, gb d i hd (by rw [← (h1 d hd).1]; exact hlt)]
        exact h7 d i hd hlt
      · obtain ⟨t, rfl⟩ : ∃ t, i = S 4 d + t := ⟨i - S 4 d, by omega⟩
        have ht1 : t < add := by omega
        rw [et t ht1, ht t ht1, (h1 d hd).1]
        exact (gt t ht1).symm
    · rw [e4, va_up_ne _ _ hdc] at hi
      rw [eb d i hd hi, gb d i hd (by rw [← (h1 d hd).1]; exact hi)]
      exact h7 d i hd hi
end
section
/-! ROWS: instructions on ints that are natural numbers -/
section PQ
variable {p : Program} {l : Launch} {e : Env} {R : Room} {s : State} {m : MethodId} {args : Array Value} {below : List Frame} {meth : Method} {c : Code} {H : Heap} {locs : List Loc} {cells slots : Nat} {Q : State → Prop}
variable {cc : ByteArray} {pc : Nat} {ls : Array Slot} {rest : List Value}
theorem pq_inc (a : Nat) : nI a + Int32.ofInt 1 = nI (a + 1) := nI_1 a
theorem pq_top {x y : Int32} (h : x = y) (k : W p l e R s m args below meth c H locs cells slots Q (F0 m pc ls (.int y :: rest))) : W p l e R s m args below meth c H locs cells slots Q (F0 m pc ls (.int x :: rest)) := by subst h; exact k
theorem pq_topl {x y : Int64} (h : x = y) (k : W p l e R s m args below meth c H locs cells slots Q (F0 m pc ls (.long y :: rest))) : W p l e R s m args below meth c H locs cells slots Q (F0 m pc ls (.long x :: rest)) := by subst h; exact k
theorem pq_topr {x y : Nat} (h : x = y) (k : W p l e R s m args below meth c H locs cells slots Q (F0 m pc ls (.ref y :: rest))) : W p l e R s m args below meth c H locs cells slots Q (F0 m pc ls (.ref x :: rest)) := by subst h; exact k
theorem pq_iadd (hx : p.tables.exec = Jvm.exec) (hb : c.code = cc) {a b : Nat} (hdg : decode cc pc = .ok (.iadd, 1)) (k : W p l e R s m args below meth c H locs cells slots Q (F0 m (pc + 1) ls (.int (nI (a + b)) :: rest))) : W p l e R s m args below meth c H locs cells slots Q (F0 m pc ls (.int (nI b) :: .int (nI a) :: rest)) := lv_iadd hx hb hdg (pq_top (nI_add a b) k)
theorem pq_isub (hx : p.tables.exec = Jvm.exec) (hb : c.code = cc) {a b : Nat} (h : b ≤ a) (hdg : decode cc pc = .ok (.isub, 1)) (k : W p l e R s m args below meth c H locs cells slots Q (F0 m (pc + 1) ls (.int (nI (a - b)) :: rest))) : W p l e R s m args below meth c H locs cells slots Q (F0 m pc ls (.int (nI b) :: .int (nI a) :: rest)) := lv_isub hx hb hdg (pq_top (pk_sub h) k)
theorem pq_imul (hx : p.tables.exec = Jvm.exec) (hb : c.code = cc) {a b : Nat} (hdg : decode cc pc = .ok (.imul, 1)) (k : W p l e R s m args below meth c H locs cells slots Q (F0 m (pc + 1) ls (.int (nI (a * b)) :: rest))) : W p l e R s m args below meth c H locs cells slots Q (F0 m pc ls (.int (nI b) :: .int (nI a) :: rest)) := lv_imul hx hb hdg (pq_top (pk_mul a b) k)
theorem pq_idiv (hx : p.tables.exec = Jvm.exec) (hb : c.code = cc) {a b : Nat} (ha : a < 2 ^ 31) (h0 : 0 < b) (hb2 : b < 2 ^ 31) (hdg : decode cc pc = .ok (.idiv, 1)) (k : W p l e R s m args below meth c H locs cells slots Q (F0 m (pc + 1) ls (.int (nI (a / b)) :: rest))) : W p l e R s m args below meth c H locs cells slots Q (F0 m pc ls (.int (nI b) :: .int (nI a) :: rest)) := lv_idiv hx hb hdg (nI_ne0 h0 hb2) (pq_top (pk_div ha h0 hb2) k)
theorem pq_irem (hx : p.tables.exec = Jvm.exec) (hb : c.code = cc) {a b : Nat} (ha : a < 2 ^ 31) (h0 : 0 < b) (hb2 : b < 2 ^ 31) (hdg : decode cc pc = .ok (.irem, 1)) (k : W p l e R s m args below meth c H locs cells slots Q (F0 m (pc + 1) ls (.int (nI (a % b)) :: rest))) : W p l e R s m args below meth c H locs cells slots Q (F0 m pc ls (.int (nI b) :: .int (nI a) :: rest)) := lv_irem hx hb hdg (nI_ne0 h0 hb2) (pq_top (pk_rem ha h0 hb2) k)
theorem pq_icmp_eq (hx : p.tables.exec = Jvm.exec) (hb : c.code = cc) {a b : Nat} {off : Int} {tgt : Nat} (ha : a < 2 ^ 31) (hb2 : b < 2 ^ 31) (hdg : decode cc pc = .ok (.if_icmp .eq off, 3)) (ht : (pc : Int) + off = (tgt : Int)) (kt : a = b → W p l e R s m args below meth c H locs cells slots Q (F0 m tgt ls rest)) (kf : a ≠ b → W p l e R s m args below meth c H locs cells slots Q (F0 m (pc + 3) ls rest)) : W p l e R s m args below meth c H locs cells slots Q (F0 m pc ls (.int (nI b) :: .int (nI a) :: rest)) := lv_icmp_eq hx hb hdg ht (fun h => kt ((nI_eq ha hb2).mp h)) (fun h => kf (fun q => h ((nI_eq ha hb2).mpr q)))
theorem pq_icmp_ne (hx : p.tables.exec = Jvm.exec) (hb : c.code = cc) {a b : Nat} {off : Int} {tgt : Nat} (ha : a < 2 ^ 31) (hb2 : b < 2 ^ 31) (hdg : decode cc pc = .ok (.if_icmp .ne off, 3)) (ht : (pc : Int) + off = (tgt : Int)) (kt : a ≠ b → W p l e R s m args below meth c H locs cells slots Q (F0 m tgt ls rest)) (kf : a = b → W p l e R s m args below meth c H locs cells slots Q (F0 m (pc + 3) ls rest)) : W p l e R s m args below meth c H locs cells slots Q (F0 m pc ls (.int (nI b) :: .int (nI a) :: rest)) := lv_icmp_ne hx hb hdg ht (fun h => kt (fun q => h ((nI_eq ha hb2).mpr q))) (fun h => kf ((nI_eq ha hb2).mp h))
theorem pq_icmp_lt (hx : p.tables.exec = Jvm.exec) (hb : c.code = cc) {a b : Nat} {off : Int} {tgt : Nat} (ha : a < 2 ^ 31) (hb2 : b < 2 ^ 31) (hdg : decode cc pc = .ok (.if_icmp .lt off, 3)) (ht : (pc : Int) + off = (tgt : Int)) (kt : a < b → W p l e R s m args below meth c H locs cells slots Q (F0 m tgt ls rest)) (kf : b ≤ a → W p l e R s m args below meth c H locs cells slots Q (F0 m (pc + 3) ls rest)) : W p l e R s m args below meth c H locs cells slots Q (F0 m pc ls (.int (nI b) :: .int (nI a) :: rest)) := lv_icmp_lt hx hb hdg ht (fun h => kt ((nI_ltI ha hb2).mp h)) (fun h => kf (Nat.not_lt.mp fun q => h ((nI_ltI ha hb2).mpr q)))
theorem pq_icmp_ge (hx : p.tables.exec = Jvm.exec) (hb : c.code = cc) {a b : Nat} {off : Int} {tgt : Nat} (ha : a < 2 ^ 31) (hb2 : b < 2 ^ 31) (hdg : decode cc pc = .ok (.if_icmp .ge off, 3)) (ht : (pc : Int) + off = (tgt : Int)) (kt : b ≤ a → W p l e R s m args below meth c H locs cells slots Q (F0 m tgt ls rest)) (kf : a < b → W p l e R s m args below meth c H locs cells slots Q (F0 m (pc + 3) ls rest)) : W p l e R s m args below meth c H locs cells slots Q (F0 m pc ls (.int (nI b) :: .int (nI a) :: rest)) := lv_icmp_ge hx hb hdg ht (fun h => kt ((nI_leI hb2 ha).mp h)) (fun h => kf (Nat.not_le.mp fun q => h ((nI_leI hb2 ha).mpr q)))
theorem pq_icmp_gt (hx : p.tables.exec = Jvm.exec) (hb : c.code = cc) {a b : Nat} {off : Int} {tgt : Nat} (ha : a < 2 ^ 31) (hb2 : b < 2 ^ 31) (hdg : decode cc pc = .ok (.if_icmp .gt off, 3)) (ht : (pc : Int) + off = (tgt : Int)) (kt : b < a → W p l e R s m args below meth c H locs cells slots Q (F0 m tgt ls rest)) (kf : a ≤ b → W p l e R s m args below meth c H locs cells slots Q (F0 m (pc + 3) ls rest)) : W p l e R s m args below meth c H locs cells slots Q (F0 m pc ls (.int (nI b) :: .int (nI a) :: rest)) := lv_icmp_gt hx hb hdg ht (fun h => kt ((nI_ltI hb2 ha).mp h)) (fun h => kf (Nat.not_lt.mp fun q => h ((nI_ltI hb2 ha).mpr q)))
theorem pq_icmp_le (hx : p.tables.exec = Jvm.exec) (hb : c.code = cc) {a b : Nat} {off : Int} {tgt : Nat} (ha : a < 2 ^ 31) (hb2 : b < 2 ^ 31) (hdg : decode cc pc = .ok (.if_icmp .le off, 3)) (ht : (pc : Int) + off = (tgt : Int)) (kt : a ≤ b → W p l e R s m args below meth c H locs cells slots Q (F0 m tgt ls rest)) (kf : b < a → W p l e R s m args below meth c H locs cells slots Q (F0 m (pc + 3) ls rest)) : W p l e R s m args below meth c H locs cells slots Q (F0 m pc ls (.int (nI b) :: .int (nI a) :: rest)) := lv_icmp_le hx hb hdg ht (fun h => kt ((nI_leI ha hb2).mp h)) (fun h => kf (Nat.not_le.mp fun q => h ((nI_leI ha hb2).mpr q)))
theorem pq_if_eq (hx : p.tables.exec = Jvm.exec) (hb : c.code = cc) {a : Nat} {off : Int} {tgt : Nat} (ha : a < 2 ^ 31) (hdg : decode cc pc = .ok (.ifCond .eq off, 3)) (ht : (pc : Int) + off = (tgt : Int)) (kt : a = 0 → W p l e R s m args below meth c H locs cells slots Q (F0 m tgt ls rest)) (kf : a ≠ 0 → W p l e R s m args below meth c H locs cells slots Q (F0 m (pc + 3) ls rest)) : W p l e R s m args below meth c H locs cells slots Q (F0 m pc ls (.int (nI a) :: rest)) := lv_if_eq hx hb hdg ht (fun h => kt ((nI_eq ha (show (0 : Nat) < 2 ^ 31 by decide)).mp h)) (fun h => kf (fun q => h ((nI_eq ha (show (0 : Nat) < 2 ^ 31 by decide)).mpr q)))
theorem pq_if_ne (hx : p.tables.exec = Jvm.exec) (hb : c.code = cc) {a : Nat} {off : Int} {tgt : Nat} (ha : a < 2 ^ 31) (hdg : decode cc pc = .ok (.ifCond .ne off, 3)) (ht : (pc : Int) + off = (tgt : Int)) (kt : a ≠ 0 → W p l e R s m args below meth c H locs cells slots Q (F0 m tgt ls rest)) (kf : a = 0 → W p l e R s m args below meth c H locs cells slots Q (F0 m (pc + 3) ls rest)) : W p l e R s m args below meth c H locs cells slots Q (F0 m pc ls (.int (nI a) :: rest)) := lv_if_ne hx hb hdg ht (fun h => kt (fun q => h ((nI_eq ha (show (0 : Nat) < 2 ^ 31 by decide)).mpr q))) (fun h => kf ((nI_eq ha (show (0 : Nat) < 2 ^ 31 by decide)).mp h))
theorem pq_if_lt (hx : p.tables.exec = Jvm.exec) (hb : c.code = cc) {a : Nat} {off : Int} {tgt : Nat} (ha : a < 2 ^ 31) (hdg : decode cc pc = .ok (.ifCond .lt off, 3)) (ht : (pc : Int) + off = (tgt : Int)) (kt : False → W p l e R s m args below meth c H locs cells slots Q (F0 m tgt ls rest)) (kf : True → W p l e R s m args below meth c H locs cells slots Q (F0 m (pc + 3) ls rest)) : W p l e R s m args below meth c H locs cells slots Q (F0 m pc ls (.int (nI a) :: rest)) := lv_if_lt hx hb hdg ht (fun h => kt (absurd h (nI_pos ha))) (fun h => kf (trivial))
theorem pq_if_ge (hx : p.tables.exec = Jvm.exec) (hb : c.code = cc) {a : Nat} {off : Int} {tgt : Nat} (ha : a < 2 ^ 31) (hdg : decode cc pc = .ok (.ifCond .ge off, 3)) (ht : (pc : Int) + off = (tgt : Int)) (kt : True → W p l e R s m args below meth c H locs cells slots Q (F0 m tgt ls rest)) (kf : False → W p l e R s m args below meth c H locs cells slots Q (F0 m (pc + 3) ls rest)) : W p l e R s m args below meth c H locs cells slots Q (F0 m pc ls (.int (nI a) :: rest)) := lv_if_ge hx hb hdg ht (fun h => kt (trivial)) (fun h => kf (h (nI_pos' ha)))
theorem pq_if_gt (hx : p.tables.exec = Jvm.exec) (hb : c.code = cc) {a : Nat} {off : Int} {tgt : Nat} (ha : a < 2 ^ 31) (hdg : decode cc pc = .ok (.ifCond .gt off, 3)) (ht : (pc : Int) + off = (tgt : Int)) (kt : 0 < a → W p l e R s m args below meth c H locs cells slots Q (F0 m tgt ls rest)) (kf : a = 0 → W p l e R s m args below meth c H locs cells slots Q (F0 m (pc + 3) ls rest)) : W p l e R s m args below meth c H locs cells slots Q (F0 m pc ls (.int (nI a) :: rest)) := lv_if_gt hx hb hdg ht (fun h => kt ((nI_ltI (show (0 : Nat) < 2 ^ 31 by decide) ha).mp h)) (fun h => kf (Nat.le_zero.mp (Nat.not_lt.mp fun q => h ((nI_ltI (show (0 : Nat) < 2 ^ 31 by decide) ha).mpr q))))
theorem pq_if_le (hx : p.tables.exec = Jvm.exec) (hb : c.code = cc) {a : Nat} {off : Int} {tgt : Nat} (ha : a < 2 ^ 31) (hdg : decode cc pc = .ok (.ifCond .le off, 3)) (ht : (pc : Int) + off = (tgt : Int)) (kt : a = 0 → W p l e R s m args below meth c H locs cells slots Q (F0 m tgt ls rest)) (kf : 0 < a → W p l e R s m args below meth c H locs cells slots Q (F0 m (pc + 3) ls rest)) : W p l e R s m args below meth c H locs cells slots Q (F0 m pc ls (.int (nI a) :: rest)) := lv_if_le hx hb hdg ht (fun h => kt (Nat.le_zero.mp ((nI_leI ha (show (0 : Nat) < 2 ^ 31 by decide)).mp h))) (fun h => kf (Nat.not_le.mp fun q => h ((nI_leI ha (show (0 : Nat) < 2 ^ 31 by decide)).mpr q)))
theorem pq_iald {D : va_G} {cl : List vw_C} {A : Nat → Prop} {a : Nat} {tys : List (ClassId × FieldType)} {ws : va_W} {H0 : Heap} (hx : p.tables.exec = Jvm.exec) (hb : c.code = cc) (hK : va_K D cl tys s) (hP : va_P D cl ws H) (q0 t0 : Nat) {cA : ClassId} {n : Nat} {f : Nat → Nat} (ha : ws[q0]? = some (a, .inl (cA, n, .inl (fun j => nI (f j))))) (ht : tys[t0]? = some (cA, .int)) {i : Nat} (hi : i < n) (hn : n < 2 ^ 31) (hdg : decode cc pc = .ok (.iaload, 1)) (kk : W p l e R s m args below meth c H locs cells slots Q (F0 m (pc + 1) ls (.int (nI (f i)) :: rest))) : W p l e R s m args below meth c H locs cells slots Q (F0 m pc ls (.int (nI i) :: .ref a :: rest)) := va_iald hx hb hK hP q0 t0 ha ht (vp_in_nI hi hn) hdg (by rw [nI_clamp (Nat.lt_trans hi hn)]; exact kk)
theorem pq_zald {D : va_G} {cl : List vw_C} {A : Nat → Prop} {a : Nat} {tys : List (ClassId × FieldType)} {ws : va_W} {H0 : Heap} (hx : p.tables.exec = Jvm.exec) (hb : c.code = cc) (hK : va_K D cl tys s) (hP : va_P D cl ws H) (q0 t0 : Nat) {cA : ClassId} {n : Nat} {f : Nat → Nat} (ha : ws[q0]? = some (a, .inl (cA, n, .inl (fun j => nI (f j))))) (ht : tys[t0]? = some (cA, .boolean)) {i : Nat} (hi : i < n) (hn : n < 2 ^ 31) (hdg : decode cc pc = .ok (.baload, 1)) (kk : W p l e R s m args below meth c H locs cells slots Q (F0 m (pc + 1) ls (.int (nI (f i)) :: rest))) : W p l e R s m args below meth c H locs cells slots Q (F0 m pc ls (.int (nI i) :: .ref a :: rest)) := va_zald hx hb hK hP q0 t0 ha ht (vp_in_nI hi hn) hdg (by rw [nI_clamp (Nat.lt_trans hi hn)]; exact kk)
theorem pq_bald {D : va_G} {cl : List vw_C} {A : Nat → Prop} {a : Nat} {tys : List (ClassId × FieldType)} {ws : va_W} {H0 : Heap} (hx : p.tables.exec = Jvm.exec) (hb : c.code = cc) (hK : va_K D cl tys s) (hP : va_P D cl ws H) (q0 t0 : Nat) {cA : ClassId} {n : Nat} {f : Nat → Nat} (ha : ws[q0]? = some (a, .inl (cA, n, .inl (fun j => sb_b (f j))))) (ht : tys[t0]? = some (cA, .byte)) {i : Nat} (hi : i < n) (hn : n < 2 ^ 31) (hdg : decode cc pc = .ok (.baload, 1)) (kk : W p l e R s m args below meth c H locs cells slots Q (F0 m (pc + 1) ls (.int (sb_b (f i)) :: rest))) : W p l e R s m args below meth c H locs cells slots Q (F0 m pc ls (.int (nI i) :: .ref a :: rest)) := va_bald hx hb hK hP q0 t0 ha ht (vp_in_nI hi hn) hdg (by rw [nI_clamp (Nat.lt_trans hi hn)]; exact kk)
theorem pq_updI (f : Nat → Nat) (k v : Nat) : upd (fun j => nI (f j)) k (nI v) = fun j => nI (va_up f k v j) := by
  funext j
  unfold upd va_up
  by_cases h : j = k <;> simp [h]
theorem pq_updB (f : Nat → Nat) (k v : Nat) : upd (fun j => sb_b (f j)) k (vp_nar .byte (sb_b v)) = fun j => sb_b (va_up f k v j) := by
  funext j
  have e : vp_nar .byte (sb_b v) = sb_b v := pk_vb (nI v)
  rw [e]
  unfold upd va_up
  by_cases h : j = k <;> simp [h]
end PQ
end
section
/-! PURE, 4: the pool under the class's loops -/
def pd_fr (S S' : pdS) : Prop := (∀ b, b ≠ 1 → b ≠ 2 → b ≠ 7 → S' b = S b) ∧ ∀ j, j ≠ 0 → S' 7 j = S 7 j
theorem pd_fr_rf (S : pdS) : pd_fr S S := ⟨fun _ _ _ _ => rfl, fun _ _ => rfl⟩
theorem pd_fr_tr {S T U : pdS} (h : pd_fr S T) (g : pd_fr T U) : pd_fr S U := ⟨fun b h1 h2 h3 => (g.1 b h1 h2 h3).trans (h.1 b h1 h2 h3), fun j hj => (g.2 j hj).trans (h.2 j hj)⟩
theorem pd_fr_leave (S : pdS) (p : Nat) : pd_fr S (pd_leave S p) := by
  unfold pd_leave
  by_cases h : S 1 p = 1
  · rw [if_pos h]
    refine ⟨fun b h1 h2 h7 => ?_, fun j hj => ?_⟩
    · rw [pd_bk _ h7, pd_bk _ h2, pd_bk _ h1]
    · rw [pd_ne _ hj, pd_bk _ (show (7 : Nat) ≠ 2 by decide), pd_bk _ (show (7 : Nat) ≠ 1 by decide)]
  · rw [if_neg h]
    refine ⟨fun b h1 h2 h7 => pd_bk _ h1, fun j hj => ?_⟩
    rw [pd_bk _ (show (7 : Nat) ≠ 1 by decide)]
theorem pd_fr_join (S : pdS) (p : Nat) : pd_fr S (pd_join S p) := by
  unfold pd_join
  refine ⟨fun b h1 _ _ => pd_bk _ h1, fun j hj => ?_⟩
  rw [pd_bk _ (show (7 : Nat) ≠ 1 by decide)]
theorem pd_fr_take (S : pdS) : pd_fr S (pd_take S) := by
  unfold pd_take
  refine ⟨fun b h1 _ h7 => ?_, fun j hj => ?_⟩
  · rw [pd_bk _ h1, pd_bk _ h7]
  · rw [pd_bk _ (show (7 : Nat) ≠ 1 by decide), pd_ne _ hj]
theorem pd_rc_hd (r : Nat → Nat) (p k b : Nat) (h : k < b) : pd_rc (fun j => r (k + j)) p (b - k) = (if r k = p then 1 else 0) + pd_rc (fun j => r (k + 1 + j)) p (b - (k + 1)) := by
  rw [show b - k = 1 + (b - (k + 1)) by omega, pd_rc_add]
  simp only [pd_rc, Nat.add_zero, Nat.zero_add]
  congr 1
  refine pd_rc_congr (fun j _ => ?_)
  rw [Nat.add_assoc]
theorem pd_leave_step {n : Nat} {S : pdS} {g r : Nat → Nat} {k b : Nat} (hk : k < b) (hp : r k < n) (h : pd_ok n S (fun p => g p + pd_rc (fun j => r (k + j)) p (b - k))) : S 7 0 < n ∧ 0 < S 1 (r k) ∧ pd_ok n (pd_leave S (r k)) (fun p => g p + pd_rc (fun j => r (k + 1 + j)) p (b - (k + 1))) := by
  have hf : 0 < (fun p => g p + pd_rc (fun j => r (k + j)) p (b - k)) (r k) := by
    show 0 < g (r k) + pd_rc (fun j => r (k + j)) (r k) (b - k)
    rw [pd_rc_hd r (r k) k b hk, if_pos rfl]
    omega
  obtain ⟨h1, h2, h3⟩ := pd_leave_ok h hp hf
  refine ⟨h1, by rw [h2]; exact hf, pd_ok_congr h3 (fun p _ => ?_)⟩
  by_cases hpk : p = r k
  · subst hpk
    rw [va_up_self]
    show g (r k) + pd_rc (fun j => r (k + j)) (r k) (b - k) - 1 = _
    rw [pd_rc_hd r (r k) k b hk, if_pos rfl]
    omega
  · rw [va_up_ne _ _ hpk]
    show g p + pd_rc (fun j => r (k + j)) p (b - k) = _
    rw [pd_rc_hd r p k b hk, if_neg (fun q => hpk q.symm)]
    omega
theorem pd_join_step {n : Nat} {S : pdS} {g r : Nat → Nat} {k : Nat} (hp : r k < n) (hg : 0 < g (r k)) (h : pd_ok n S (fun p => g p + pd_rc r p k)) : pd_ok n (pd_join S (r k)) (fun p => g p + pd_rc r p (k + 1)) := by
  have hf : 0 < (fun p => g p + pd_rc r p k) (r k) := by
    show 0 < g (r k) + pd_rc r (r k) k
    omega
  refine pd_ok_congr (pd_join_ok h hp hf) (fun p _ => ?_)
  simp only [pd_rc]
  by_cases hpk : p = r k
  · subst hpk
    rw [va_up_self, if_pos rfl]
    omega
  · rw [va_up_ne _ _ hpk, if_neg (fun q => hpk q.symm)]
    omega
theorem pd_be_ct {S S' : pdS} {to fr : Nat} (h : pd_be S S' to fr) (ht : to < 32) (hf : fr < 32) (p : Nat) : pd_ct S' p + pd_rc (S (8 + to)) p (pd_pf (S 4 to)) = pd_ct S p + pd_rc (S (8 + fr)) p (pd_pf (S 4 fr)) := by
  have e : pd_ct S' p = pd_sm (va_up (fun c => pd_rc (S (8 + c)) p (pd_pf (S 4 c))) to (pd_rc (S (8 + fr)) p (pd_pf (S 4 fr)))) 32 := by
    refine pd_sm_congr (fun c hc => ?_)
    obtain ⟨e0, e3, e4, e5, e6, e71, e72, er, eo⟩ := h
    by_cases hct : c = to
    · subst hct
      rw [va_up_self, e4, va_up_self]
      exact pd_rc_congr (fun k hk => er k hk)
    · rw [va_up_ne _ _ hct, e4, va_up_ne _ _ hct]
      exact pd_rc_congr (fun k hk => eo c k hc hct hk)
  rw [e]
  exact pd_sm_up (f := fun c => pd_rc (S (8 + c)) p (pd_pf (S 4 c))) ht
theorem pd_sh_ct {S S' : pdS} {c s : Nat} (h : pd_sh S S' c s) (hc : c < 32) (hs : s ≤ S 4 c) (p : Nat) : pd_ct S' p + pd_rc (fun j => S (8 + c) (pd_pf s + j)) p (pd_pf (S 4 c) - pd_pf s) = pd_ct S p := by
  have e : pd_ct S' p = pd_sm (va_up (fun d => pd_rc (S (8 + d)) p (pd_pf (S 4 d))) c (pd_rc (S (8 + c)) p (pd_pf s))) 32 := by
    refine pd_sm_congr (fun d hd => ?_)
    obtain ⟨e0, e3, e4, e5, e6, e71, e72, er⟩ := h
    rw [er d hd]
    by_cases hdc : d = c
    · subst hdc
      rw [va_up_self, e4, va_up_self]
    · rw [va_up_ne _ _ hdc, e4, va_up_ne _ _ hdc]
  have h1 := pd_sm_up (f := fun d => pd_rc (S (8 + d)) p (pd_pf (S 4 d))) (v := pd_rc (S (8 + c)) p (pd_pf s)) hc
  have h2 : pd_rc (S (8 + c)) p (pd_pf (S 4 c)) = pd_rc (S (8 + c)) p (pd_pf s) + pd_rc (fun j => S (8 + c) (pd_pf s + j)) p (pd_pf (S 4 c) - pd_pf s) := by
    have hm := pd_pf_mono hs
    have := pd_rc_add (S (8 + c)) p (pd_pf s) (pd_pf (S 4 c) - pd_pf s)
    rw [← this, show pd_pf s + (pd_pf (S 4 c) - pd_pf s) = pd_pf (S 4 c) by omega]
  rw [e]
  unfold pd_ct
  try dsimp only at h1
  omega
end
section
/-! PURE, 5: shorten and become of the class, put together -/
theorem pd_sh_of {S T S' : pdS} {c s : Nat} (hf : pd_fr S T) (he : S' = pd_st T 4 c s) : pd_sh S S' c s := by
  subst he
  refine ⟨?_, ?_, ?_, ?_, ?_, ?_, ?_, fun d _ => ?_⟩
  · rw [pd_bk _ (by decide), hf.1 0 (by decide) (by decide) (by decide)]
  · rw [pd_bk _ (by decide), hf.1 3 (by decide) (by decide) (by decide)]
  · rw [pd_own, hf.1 4 (by decide) (by decide) (by decide)]
  · rw [pd_bk _ (by decide), hf.1 5 (by decide) (by decide) (by decide)]
  · rw [pd_bk _ (by decide), hf.1 6 (by decide) (by decide) (by decide)]
  · rw [pd_bk _ (by decide), hf.2 1 (by decide)]
  · rw [pd_bk _ (by decide), hf.2 2 (by decide)]
  · rw [pd_bk _ (by omega), hf.1 (8 + d) (by omega) (by omega) (by omega)]
theorem pd_ok_st {n : Nat} {S : pdS} {f : Nat → Nat} {b j v : Nat} (h : pd_ok n S f) (h1 : b ≠ 1) (h2 : b ≠ 2) (h7 : b ≠ 7 ∨ j ≠ 0) : pd_ok n (pd_st S b j v) f := by
  refine pd_ok_eqv h (pd_bk _ (fun q => h1 q.symm)) (pd_bk _ (fun q => h2 q.symm)) ?_
  rcases h7 with h7 | h7
  · rw [pd_bk _ (fun q => h7 q.symm)]
  · rw [pd_at, if_neg (fun q => h7 q.2.symm)]
/-- the tail of row c behind size s, counted -/
def pd_tl (S : pdS) (c s p : Nat) : Nat := pd_rc (fun j => S (8 + c) (pd_pf s + j)) p (pd_pf (S 4 c) - pd_pf s)
theorem pd_rc_ct {S : pdS} {c : Nat} (hc : c < 32) (p : Nat) : pd_rc (S (8 + c)) p (pd_pf (S 4 c)) ≤ pd_ct S p := pd_sm_le (f := fun d => pd_rc (S (8 + d)) p (pd_pf (S 4 d))) hc
theorem pd_tl_le {S : pdS} {c s : Nat} (hc : c < 32) (hs : s ≤ S 4 c) (p : Nat) : pd_tl S c s p ≤ pd_ct S p := by
  have hm := pd_pf_mono hs
  have h1 := pd_rc_add (S (8 + c)) p (pd_pf s) (pd_pf (S 4 c) - pd_pf s)
  rw [show pd_pf s + (pd_pf (S 4 c) - pd_pf s) = pd_pf (S 4 c) by omega] at h1
  have h2 := pd_rc_ct (S := S) hc p
  unfold pd_tl
  omega
theorem pd_sh_pre {n : Nat} {S : pdS} {c s : Nat} (hc : c < 32) (hs : s ≤ S 4 c) (h : pd_ok n S (pd_ct S)) : pd_ok n S (fun p => (pd_ct S p - pd_tl S c s p) + pd_rc (fun j => S (8 + c) (pd_pf s + j)) p (pd_pf (S 4 c) - pd_pf s)) := by
  refine pd_ok_congr h (fun p _ => ?_)
  have := pd_tl_le hc hs p
  show pd_ct S p = pd_ct S p - pd_tl S c s p + pd_tl S c s p
  omega
theorem pd_sh_post {n : Nat} {S S' : pdS} {c s : Nat} (hc : c < 32) (hs : s ≤ S 4 c) (h : pd_sh S S' c s) (ho : pd_ok n S' (fun p => pd_ct S p - pd_tl S c s p)) : pd_ok n S' (pd_ct S') := by
  refine pd_ok_congr ho (fun p _ => ?_)
  have h1 := pd_sh_ct h hc hs p
  show pd_ct S p - pd_tl S c s p = pd_ct S' p
  unfold pd_tl
  omega
/-- become: what is there behind joining (T), leaving (U) and the three stores -/
theorem pd_be_of {S T U S' : pdS} {to fr : Nat} (ht : to < 32) (hne : to ≠ fr) (hT : pd_fr S T) (hU : pd_sh T U to 0) (e0 : S' 0 = U 0) (e3 : S' 3 = U 3) (e4 : S' 4 = va_up (U 4) to (U 4 fr)) (e5 : S' 5 = va_up (U 5) to (U 5 fr)) (e6 : S' 6 = U 6) (e7 : S' 7 = U 7)
    (er : S' (8 + to) = va_cpy (U (8 + fr)) (U (8 + to)) 0 0 (pd_pf (S 4 fr))) (eo : ∀ d, d < 32 → d ≠ to → S' (8 + d) = U (8 + d)) (hf : fr < 32) : pd_be S S' to fr := by
  obtain ⟨u0, u3, u4, u5, u6, u71, u72, ur⟩ := hU
  have t4 : T 4 = S 4 := hT.1 4 (by decide) (by decide) (by decide)
  have t5 : T 5 = S 5 := hT.1 5 (by decide) (by decide) (by decide)
  have tr : ∀ d, T (8 + d) = S (8 + d) := fun d => hT.1 (8 + d) (by omega) (by omega) (by omega)
  have hfr : U 4 fr = S 4 fr := by rw [u4, va_up_ne _ _ (fun q => hne q.symm), t4]
  refine ⟨?_, ?_, ?_, ?_, ?_, ?_, ?_, fun k hk => ?_, fun d k hd hdt hk => ?_⟩
  · rw [e0, u0, hT.1 0 (by decide) (by decide) (by decide)]
  · rw [e3, u3, hT.1 3 (by decide) (by decide) (by decide)]
  · rw [e4, hfr, u4, bx_uu, t4]
  · rw [e5, u5, t5]
  · rw [e6, u6, hT.1 6 (by decide) (by decide) (by decide)]
  · rw [e7, u71, hT.2 1 (by decide)]
  · rw [e7, u72, hT.2 2 (by decide)]
  · rw [er, pk_cpy_in (Nat.zero_le k) (by omega), ur fr hf, tr fr, Nat.sub_zero, Nat.zero_add]
  · rw [eo d hd hdt, ur d hd, tr d]
theorem pd_be_pre {n : Nat} {S T : pdS} {to fr : Nat} (ht : to < 32) (h : pd_ok n T (fun p => pd_ct S p + pd_rc (S (8 + fr)) p (pd_pf (S 4 fr)))) (hT : pd_fr S T) : pd_ok n T (fun p => (pd_ct S p + pd_rc (S (8 + fr)) p (pd_pf (S 4 fr)) - pd_rc (S (8 + to)) p (pd_pf (S 4 to))) + pd_rc (fun j => T (8 + to) (pd_pf 0 + j)) p (pd_pf (T 4 to) - pd_pf 0)) := by
  refine pd_ok_congr h (fun p _ => ?_)
  have h1 := pd_rc_ct (S := S) ht p
  have t4 : T 4 = S 4 := hT.1 4 (by decide) (by decide) (by decide)
  have tr : T (8 + to) = S (8 + to) := hT.1 (8 + to) (by omega) (by omega) (by omega)
  have e : pd_rc (fun j => T (8 + to) (pd_pf 0 + j)) p (pd_pf (T 4 to) - pd_pf 0) = pd_rc (S (8 + to)) p (pd_pf (S 4 to)) := by
    have z : pd_pf 0 = 0 := rfl
    rw [t4, tr, z, Nat.sub_zero]
    exact pd_rc_congr (fun k _ => by rw [Nat.zero_add])
  show _ = _ + _
  rw [e]
  omega
theorem pd_be_post {n : Nat} {S S' : pdS} {to fr : Nat} (ht : to < 32) (hf : fr < 32) (h : pd_be S S' to fr) (ho : pd_ok n S' (fun p => pd_ct S p + pd_rc (S (8 + fr)) p (pd_pf (S 4 fr)) - pd_rc (S (8 + to)) p (pd_pf (S 4 to)))) : pd_ok n S' (pd_ct S') := by
  refine pd_ok_congr ho (fun p _ => ?_)
  have h1 := pd_be_ct h ht hf p
  omega
theorem pd_be_self (S : pdS) (c : Nat) : pd_be S S c c := by
  have e : ∀ f : Nat → Nat, f = va_up f c (f c) := fun f => by
    funext j
    by_cases h : j = c
    · subst h
      rw [va_up_self]
    · rw [va_up_ne _ _ h]
  exact ⟨rfl, rfl, e _, e _, rfl, rfl, rfl, fun _ _ => rfl, fun _ _ _ _ _ => rfl⟩
end
section
/-! PURE, 6: bytes of longs (wb_tb, wb_inj, wb_c, wb_cu, wb_sm, wb_shl, wb_and, wb_or and their like begin as rows of kit/laws/BITS.to-paste) -/
theorem wb_tb (n : Nat) : (lN n).toBitVec = BitVec.ofNat 64 n := rfl
theorem wb_inj {a b : Int64} (h : a.toBitVec = b.toBitVec) : a = b := Int64.toBitVec_inj.mp h
theorem wb_c : ∀ k, k < 64 → ((nI k).toInt64 &&& 63) = lN k := by decide +kernel
theorem wb_cu : ∀ k, k < 64 → ((nI k).toInt64.toUInt64 &&& Int64.toUInt64 63) = UInt64.ofNat k := by decide +kernel
theorem wb_sm : ∀ k, k < 64 → (BitVec.ofNat 64 k).smod 64 = BitVec.ofNat 64 k := by decide +kernel
/-- byte k of a long -/
def pd_bv (x : Int64) (k : Nat) : Nat := x.toBitVec.toNat / 2 ^ (8 * k) % 2 ^ 8
theorem pd_bv_lt (x : Int64) (k : Nat) : pd_bv x k < 256 := Nat.mod_lt _ (by decide)
theorem pd_bv_bit (x : Int64) (k i : Nat) : (pd_bv x k).testBit i = (decide (i < 8) && x.toBitVec.getLsbD (8 * k + i)) := by
  unfold pd_bv
  rw [Nat.testBit_mod_two_pow, Nat.testBit_div_two_pow, BitVec.testBit_toNat, Nat.add_comm i]
theorem pd_ushr_bit (x : Int64) {k : Nat} (hk : k < 64) (i : Nat) : ((x.toUInt64 >>> ((nI k).toInt64.toUInt64 &&& Int64.toUInt64 63)).toInt64).toBitVec.getLsbD i = x.toBitVec.getLsbD (k + i) := by
  rw [wb_cu k hk]
  have e : (x.toUInt64 >>> UInt64.ofNat k).toInt64.toBitVec = x.toBitVec >>> k := by
    apply BitVec.eq_of_toNat_eq
    show (x.toUInt64 >>> UInt64.ofNat k).toNat = _
    have h1 : (UInt64.ofNat k).toNat = k := by
      show (BitVec.ofNat 64 k).toNat = k
      rw [BitVec.toNat_ofNat, Nat.mod_eq_of_lt (by omega)]
    rw [UInt64.toNat_shiftRight, h1, Nat.mod_eq_of_lt hk, BitVec.toNat_ushiftRight]
    rfl
  rw [e, BitVec.getLsbD_ushiftRight]
theorem pd_sshr_bit (x : Int64) {k i : Nat} (hk : k < 64) (hi : k + i < 64) : (x >>> ((nI k).toInt64 &&& 63)).toBitVec.getLsbD i = x.toBitVec.getLsbD (k + i) := by
  rw [wb_c k hk, Int64.toBitVec_shiftRight, wb_tb, wb_sm k hk, BitVec.sshiftRight_eq', BitVec.toNat_ofNat, Nat.mod_eq_of_lt (show k < 2 ^ 64 by omega), BitVec.getLsbD_sshiftRight]
  simp only [show ¬ 64 ≤ i by omega, decide_false, Bool.not_false, Bool.true_and, hi, if_true]
theorem pd_nI_bit (v i : Nat) : (nI v).toBitVec.getLsbD i = (decide (i < 32) && v.testBit i) := by
  show (BitVec.ofNat 32 v).getLsbD i = _
  rw [BitVec.getLsbD_ofNat]
theorem pd_255 : ∀ i, i < 64 → (255 : Int64).toBitVec.getLsbD i = decide (i < 8) := by decide +kernel
/-- (int) (x >> 8k & 255L) -/
theorem pd_rd (x : Int64) {k : Nat} (hk : k < 8) : ((x >>> ((nI (8 * k)).toInt64 &&& 63)) &&& 255).toInt32 = nI (pd_bv x k) := by
  apply Int32.toBitVec_inj.mp
  rw [Int64.toBitVec_toInt32]
  apply BitVec.eq_of_getLsbD_eq
  intro i hi
  rw [pd_nI_bit, pd_bv_bit, BitVec.getLsbD_signExtend, if_pos (show i < 64 by omega), Int64.toBitVec_and, BitVec.getLsbD_and, pd_255 i (by omega)]
  by_cases h8 : i < 8
  · rw [pd_sshr_bit x (by omega) (by omega)]
    simp [h8, hi]
  · simp [h8, hi]
/-- (byte) (x >>> 8k) -/
theorem pd_rb (x : Int64) {k : Nat} (hk : k < 8) : ((x.toUInt64 >>> ((nI (8 * k)).toInt64.toUInt64 &&& Int64.toUInt64 63)).toInt64.toInt32).toInt8.toInt32 = sb_b (pd_bv x k) := by
  unfold sb_b
  congr 1
  apply Int8.toBitVec_inj.mp
  rw [Int32.toBitVec_toInt8, Int32.toBitVec_toInt8, Int64.toBitVec_toInt32]
  apply BitVec.eq_of_getLsbD_eq
  intro i hi
  rw [BitVec.getLsbD_signExtend, BitVec.getLsbD_signExtend, BitVec.getLsbD_signExtend, if_pos (show i < 32 by omega), if_pos (show i < 64 by omega), if_pos (show i < 32 by omega), pd_ushr_bit x (by omega), pd_nI_bit, pd_bv_bit]
  simp [hi, show i < 32 by omega]
/-- eight bytes as one long -/
def pd_pk (f : Nat → Nat) : Nat → Nat
  | 0 => 0
  | m + 1 => 2 ^ (8 * m) * f m + pd_pk f m
def pd_lw (b : Nat → Nat) (w : Nat) : Int64 := lN (pd_pk (fun t => b (8 * w + t)) 8)
theorem pd_pk_lt {f : Nat → Nat} (h : ∀ t, f t < 256) : ∀ m, pd_pk f m < 2 ^ (8 * m)
  | 0 => Nat.one_pos
  | m + 1 => by
    have h1 := pd_pk_lt h m
    have h2 := h m
    simp only [pd_pk]
    have e : 2 ^ (8 * (m + 1)) = 2 ^ (8 * m) * 256 := by rw [show 8 * (m + 1) = 8 * m + 8 by omega, Nat.pow_add]
    rw [e]
    have h3 : 2 ^ (8 * m) * f m ≤ 2 ^ (8 * m) * 255 := Nat.mul_le_mul_left _ (by omega)
    omega
theorem pd_pk_bit {f : Nat → Nat} (h : ∀ t, f t < 256) : ∀ m i, i < 8 * m → (pd_pk f m).testBit i = (f (i / 8)).testBit (i % 8)
  | 0, i, hi => absurd hi (by omega)
  | m + 1, i, hi => by
    simp only [pd_pk]
    rw [Nat.testBit_two_pow_mul_add _ (pd_pk_lt h m)]
    by_cases hl : i < 8 * m
    · rw [if_pos hl, pd_pk_bit h m i hl]
    · rw [if_neg hl, show i / 8 = m by omega, show i - 8 * m = i % 8 by omega]
theorem pd_lw_bit {b : Nat → Nat} (h : ∀ t, b t < 256) (w : Nat) {i : Nat} (hi : i < 64) : (pd_lw b w).toBitVec.getLsbD i = (b (8 * w + i / 8)).testBit (i % 8) := by
  unfold pd_lw
  rw [wb_tb, BitVec.getLsbD_ofNat, pd_pk_bit (f := fun t => b (8 * w + t)) (fun t => h _) 8 i (by omega)]
  simp [hi]
theorem pd_lw_bv {b : Nat → Nat} (h : ∀ t, b t < 256) (w : Nat) {k : Nat} (hk : k < 8) : pd_bv (pd_lw b w) k = b (8 * w + k) := by
  apply Nat.eq_of_testBit_eq
  intro i
  rw [pd_bv_bit]
  by_cases hi : i < 8
  · rw [pd_lw_bit h w (show 8 * k + i < 64 by omega), show (8 * k + i) / 8 = k by omega, show (8 * k + i) % 8 = i by omega]
    simp [hi]
  · have h1 := h (8 * w + k)
    have h2 : (b (8 * w + k)).testBit i = false := Nat.testBit_lt_two_pow (Nat.lt_of_lt_of_le h1 (show 2 ^ 8 ≤ 2 ^ i from Nat.pow_le_pow_right (by decide) (by omega)))
    rw [h2]
    simp [hi]
theorem pd_lw_in {b : Nat → Nat} (h : ∀ t, b t < 256) (w : Nat) {k v : Nat} (hk : k < 8) (hv : v < 256) : (pd_lw b w &&& (((255 : Int64) <<< ((nI (8 * k)).toInt64 &&& 63)) ^^^ (-1))) ||| ((nI v).toInt64 <<< ((nI (8 * k)).toInt64 &&& 63)) = pd_lw (va_up b (8 * w + k) v) w := by
  have h' : ∀ t, va_up b (8 * w + k) v t < 256 := fun t => by
    unfold va_up
    by_cases q : t = 8 * w + k
    · rw [if_pos q]
      exact hv
    · rw [if_neg q]
      exact h t
  apply wb_inj
  apply BitVec.eq_of_getLsbD_eq
  intro i hi
  rw [pd_lw_bit h' w hi, Int64.toBitVec_or, Int64.toBitVec_and, Int64.toBitVec_xor, BitVec.getLsbD_or, BitVec.getLsbD_and, BitVec.getLsbD_xor, pd_lw_bit h w hi, wb_c (8 * k) (by omega), Int64.toBitVec_shiftLeft, Int64.toBitVec_shiftLeft, wb_tb, wb_sm (8 * k) (by omega), BitVec.shiftLeft_eq', BitVec.shiftLeft_eq', BitVec.toNat_ofNat, Nat.mod_eq_of_lt (show 8 * k < 2 ^ 64 by omega), BitVec.getLsbD_shiftLeft, BitVec.getLsbD_shiftLeft, nI_l (show v < 2 ^ 31 by omega), wb_tb, BitVec.getLsbD_ofNat]
  have hm1 : ∀ i, i < 64 → (-1 : Int64).toBitVec.getLsbD i = true := by decide +kernel
  rw [hm1 i hi]
  by_cases hlo : i < 8 * k
  · rw [va_up_ne _ _ (show 8 * w + i / 8 ≠ 8 * w + k by omega)]
    simp [hlo, hi]
  · rw [pd_255 (i - 8 * k) (by omega)]
    by_cases hhi : i - 8 * k < 8
    · rw [show i / 8 = k by omega, va_up_self, show i % 8 = i - 8 * k by omega]
      simp [hlo, hi, hhi, show i - 8 * k < 64 by omega]
    · rw [va_up_ne _ _ (show 8 * w + i / 8 ≠ 8 * w + k by omega)]
      have h2 : v.testBit (i - 8 * k) = false := Nat.testBit_lt_two_pow (Nat.lt_of_lt_of_le hv (show 2 ^ 8 ≤ 2 ^ (i - 8 * k) from Nat.pow_le_pow_right (by decide) (by omega)))
      simp [hlo, hi, hhi, h2]
theorem pd_lw_out {b : Nat → Nat} {w w' k v : Nat} (hk : k < 8) (hw : w' ≠ w) : pd_lw (va_up b (8 * w + k) v) w' = pd_lw b w' := by
  unfold pd_lw
  simp only [pd_pk]
  simp only [va_up_ne b v (show 8 * w' + 0 ≠ 8 * w + k by omega), va_up_ne b v (show 8 * w' + 1 ≠ 8 * w + k by omega), va_up_ne b v (show 8 * w' + 2 ≠ 8 * w + k by omega), va_up_ne b v (show 8 * w' + 3 ≠ 8 * w + k by omega), va_up_ne b v (show 8 * w' + 4 ≠ 8 * w + k by omega), va_up_ne b v (show 8 * w' + 5 ≠ 8 * w + k by omega), va_up_ne b v (show 8 * w' + 6 ≠ 8 * w + k by omega), va_up_ne b v (show 8 * w' + 7 ≠ 8 * w + k by omega)]
end
section
/-! PURE, 7: the class's grow and writeTape -/
def pd_gl (n : Nat) (T X : pdS) (c b k : Nat) : Prop :=
  (∀ d, d ≠ 1 → d ≠ 2 → d ≠ 7 → d ≠ 8 + c → X d = T d) ∧ (∀ j, j ≠ 0 → X 7 j = T 7 j) ∧ (∀ j, j < b → X (8 + c) j = T (8 + c) j) ∧ X 7 0 + (k - b) = T 7 0 ∧ pd_ok n X (fun p => pd_ct T p + pd_rc (fun j => X (8 + c) (b + j)) p (k - b)) ∧
  (∀ j, b ≤ j → j < k → X (8 + c) j < n ∧ pd_ct T (X (8 + c) j) = 0) ∧ ∀ i j, b ≤ i → i < k → b ≤ j → j < k → X (8 + c) i = X (8 + c) j → i = j
theorem pd_gl_0 {n : Nat} {T : pdS} (c b : Nat) (h : pd_ok n T (pd_ct T)) : pd_gl n T T c b b := by
  refine ⟨fun _ _ _ _ _ => rfl, fun _ _ => rfl, fun _ _ => rfl, by omega, pd_ok_congr h (fun p _ => ?_), fun j h1 h2 => by omega, fun i j h1 h2 _ _ _ => by omega⟩
  rw [Nat.sub_self]
  rfl
theorem pd_gl_s {n : Nat} {T X : pdS} {c b k : Nat} (h : pd_gl n T X c b k) (hbk : b ≤ k) (hu : 0 < X 7 0) : X 2 (X 7 0 - 1) < n ∧ pd_gl n T (pd_st (pd_take X) (8 + c) k (X 2 (X 7 0 - 1))) c b (k + 1) := by
  obtain ⟨h1, h2, h3, h4, h5, h6, h7⟩ := h
  obtain ⟨hp, hf, ho⟩ := pd_take_ok h5 hu
  have hfr := pd_fr_take X
  have ht0 : pd_take X 7 0 = X 7 0 - 1 := by
    unfold pd_take
    rw [pd_bk _ (show (7 : Nat) ≠ 1 by decide), pd_self]
  generalize hpe : X 2 (X 7 0 - 1) = p at hp hf ho ⊢
  have hf' : pd_ct T p + pd_rc (fun j => X (8 + c) (b + j)) p (k - b) = 0 := hf
  have hne : ∀ j, b ≤ j → j < k → X (8 + c) j ≠ p := fun j hj1 hj2 q => by
    have : 0 < pd_rc (fun j => X (8 + c) (b + j)) p (k - b) := pd_rc_pos (k := j - b) (by show X (8 + c) (b + (j - b)) = p; rw [show b + (j - b) = j by omega]; exact q) (by omega)
    omega
  have er : ∀ j, j ≠ k → pd_st (pd_take X) (8 + c) k p (8 + c) j = X (8 + c) j := fun j hj => by
    rw [pd_ne _ hj, hfr.1 (8 + c) (by omega) (by omega) (by omega)]
  refine ⟨hp, ⟨fun d d1 d2 d7 dc => ?_, fun j hj => ?_, fun j hj => ?_, ?_, ?_, fun j hj1 hj2 => ?_, fun i j hi1 hi2 hj1 hj2 hq => ?_⟩⟩
  · rw [pd_bk _ dc, hfr.1 d d1 d2 d7, h1 d d1 d2 d7 dc]
  · rw [pd_bk _ (show (7 : Nat) ≠ 8 + c by omega), hfr.2 j hj, h2 j hj]
  · rw [er j (by omega), h3 j hj]
  · rw [pd_bk _ (show (7 : Nat) ≠ 8 + c by omega), ht0]
    omega
  · refine pd_ok_congr (pd_ok_st ho (by omega) (by omega) (Or.inl (by omega))) (fun q _ => ?_)
    have e1 : pd_rc (fun j => pd_st (pd_take X) (8 + c) k p (8 + c) (b + j)) q (k + 1 - b) = pd_rc (fun j => X (8 + c) (b + j)) q (k - b) + if p = q then 1 else 0 := by
      rw [show k + 1 - b = (k - b) + 1 by omega]
      have hv : pd_st (pd_take X) (8 + c) k p (8 + c) (b + (k - b)) = p := by
        rw [show b + (k - b) = k by omega, pd_self]
      simp only [pd_rc, hv]
      congr 1
      exact pd_rc_congr (fun j hj => er (b + j) (by omega))
    rw [e1]
    by_cases hqp : q = p
    · subst hqp
      rw [va_up_self, if_pos rfl]
      omega
    · rw [va_up_ne _ _ hqp, if_neg (fun z => hqp z.symm)]
      rfl
  · by_cases hjk : j = k
    · subst hjk
      rw [pd_self]
      exact ⟨hp, by omega⟩
    · rw [er j hjk]
      exact h6 j hj1 (by omega)
  · by_cases hik : i = k <;> by_cases hjk : j = k
    · omega
    · subst hik
      rw [pd_self, er j hjk] at hq
      exact absurd hq.symm (hne j hj1 (by omega))
    · subst hjk
      rw [pd_self, er i hik] at hq
      exact absurd hq (hne i hi1 (by omega))
    · rw [er i hik, er j hjk] at hq
      exact h7 i j hi1 (by omega) hj1 (by omega) hq
/-- one place of a row exchanged -/
theorem pd_ct_put {S : pdS} {c k v : Nat} (hc : c < 32) (hk : k < pd_pf (S 4 c)) (p : Nat) : pd_ct (pd_st S (8 + c) k v) p + (if S (8 + c) k = p then 1 else 0) = pd_ct S p + if v = p then 1 else 0 := by
  have hrc : ∀ m, k < m → pd_rc (va_up (S (8 + c)) k v) p m + (if S (8 + c) k = p then 1 else 0) = pd_rc (S (8 + c)) p m + if v = p then 1 else 0 := by
    intro m
    induction m with
    | zero => intro h; omega
    | succ m ih =>
      intro h
      simp only [pd_rc]
      by_cases hkm : k = m
      · subst hkm
        rw [va_up_self, pd_rc_congr (r := va_up (S (8 + c)) k v) (r' := S (8 + c)) (fun j hj => va_up_ne _ _ (by omega))]
        omega
      · rw [va_up_ne _ _ (fun q => hkm q.symm)]
        have := ih (by omega)
        omega
  have e : pd_ct (pd_st S (8 + c) k v) p = pd_sm (va_up (fun d => pd_rc (S (8 + d)) p (pd_pf (S 4 d))) c (pd_rc (va_up (S (8 + c)) k v) p (pd_pf (S 4 c)))) 32 := by
    refine pd_sm_congr (fun d hd => ?_)
    show pd_rc (pd_st S (8 + c) k v (8 + d)) p (pd_pf (pd_st S (8 + c) k v 4 d)) = _
    rw [pd_bk _ (show (4 : Nat) ≠ 8 + c by omega)]
    by_cases hdc : d = c
    · subst hdc
      rw [va_up_self, pd_own]
    · rw [va_up_ne _ _ hdc, pd_bk _ (show 8 + d ≠ 8 + c by omega)]
  have h1 := pd_sm_up (f := fun d => pd_rc (S (8 + d)) p (pd_pf (S 4 d))) (v := pd_rc (va_up (S (8 + c)) k v) p (pd_pf (S 4 c))) hc
  have h2 := hrc (pd_pf (S 4 c)) hk
  rw [e]
  unfold pd_ct
  try dsimp only at h1
  omega
theorem pd_ct_congr {S T : pdS} (h4 : T 4 = S 4) (hr : ∀ d, d < 32 → ∀ k, k < pd_pf (S 4 d) → T (8 + d) k = S (8 + d) k) (p : Nat) : pd_ct T p = pd_ct S p := by
  refine pd_sm_congr (fun d hd => ?_)
  rw [h4]
  exact pd_rc_congr (fun k hk => hr d hd k hk)
/-- bytes written one behind the other -/
def pd_wt (B r : Nat → Nat) (a : Nat) (tp : Nat → Nat) : Nat → Nat → Nat
  | 0 => B
  | m + 1 => va_up (pd_wt B r a tp m) (64 * r ((a + m) / 64) + (a + m) % 64) (tp m)
theorem pd_wt_out {B r : Nat → Nat} {a : Nat} {tp : Nat → Nat} {x : Nat} : ∀ {m : Nat}, (∀ i, i < m → 64 * r ((a + i) / 64) + (a + i) % 64 ≠ x) → pd_wt B r a tp m x = B x
  | 0, _ => rfl
  | m + 1, h => by
    simp only [pd_wt]
    rw [va_up_ne _ _ (fun q => h m (Nat.lt_succ_self m) q.symm)]
    exact pd_wt_out (fun i hi => h i (Nat.lt_succ_of_lt hi))
theorem pd_wt_in {B r : Nat → Nat} {a i : Nat} {tp : Nat → Nat} : ∀ {m : Nat}, i < m → (∀ j, i < j → j < m → 64 * r ((a + j) / 64) + (a + j) % 64 ≠ 64 * r ((a + i) / 64) + (a + i) % 64) → pd_wt B r a tp m (64 * r ((a + i) / 64) + (a + i) % 64) = tp i
  | 0, h, _ => absurd h (Nat.not_lt_zero i)
  | m + 1, h, hd => by
    simp only [pd_wt]
    by_cases him : i = m
    · subst him
      rw [va_up_self]
    · rw [va_up_ne _ _ (fun q => hd m (by omega) (Nat.lt_succ_self m) q.symm)]
      exact pd_wt_in (by omega) (fun j h1 h2 => hd j h1 (by omega))
theorem pd_wt_lt {B r : Nat → Nat} {a : Nat} {tp : Nat → Nat} (hB : ∀ x, B x < 256) (ht : ∀ i, tp i < 256) : ∀ m x, pd_wt B r a tp m x < 256
  | 0, x => hB x
  | m + 1, x => by
    simp only [pd_wt]
    unfold va_up
    by_cases h : x = 64 * r ((a + m) / 64) + (a + m) % 64
    · rw [if_pos h]
      exact ht m
    · rw [if_neg h]
      exact pd_wt_lt hB ht m x
end
section
/-! PURE, 8: the class's append, put together -/
/-- behind grow -/
def pd_gw (n : Nat) (S S' : pdS) (c add : Nat) : Prop :=
  S' 4 = va_up (S 4) c (S 4 c + add) ∧ S' 5 = va_up (S 5) c 1 ∧ S' 6 = S 6 ∧ S' 3 = S 3 ∧ ((pd_cp S c add ∧ S' 7 1 = S 7 1 + 1) ∨ (¬ pd_cp S c add ∧ S' 7 1 = S 7 1)) ∧ S' 7 2 = S 7 2 ∧
  (∀ d k, d < 32 → d ≠ c → k < pd_pf (S 4 d) → S' (8 + d) k = S (8 + d) k) ∧ (∀ k, k < pd_pf (S 4 c) → ¬ (pd_cp S c add ∧ k = S 4 c / 64) → S' (8 + c) k = S (8 + c) k) ∧
  (∀ k, pd_nw S c add k → S' (8 + c) k < n ∧ pd_ct S (S' (8 + c) k) = 0) ∧ (∀ k j, pd_nw S c add k → pd_nw S c add j → S' (8 + c) k = S' (8 + c) j → k = j) ∧
  (∀ d i, d < 32 → i < S 4 d → pd_by S' d i = pd_by S d i) ∧ (∀ j, S' 0 j < 256) ∧ pd_ok n S' (pd_ct S')
/-- what holds behind the copying of the last page, or without it -/
def pd_xc (n : Nat) (S T : pdS) (c add : Nat) : Prop :=
  T 3 = S 3 ∧ T 4 = S 4 ∧ T 5 = S 5 ∧ T 6 = S 6 ∧ T 7 2 = S 7 2 ∧ (∀ d, d ≠ c → d < 32 → T (8 + d) = S (8 + d)) ∧ (∀ j, T 0 j < 256) ∧ pd_ok n T (pd_ct T) ∧
  ((¬ pd_cp S c add ∧ T 0 = S 0 ∧ T 7 1 = S 7 1 ∧ T (8 + c) = S (8 + c)) ∨
   (pd_cp S c add ∧ T 7 1 = S 7 1 + 1 ∧ ∃ nw, nw < n ∧ pd_ct S nw = 0 ∧ T (8 + c) = va_up (S (8 + c)) (S 4 c / 64) nw ∧ T 0 = va_cpy (S 0) (S 0) (64 * S (8 + c) (S 4 c / 64)) (64 * nw) 64))
theorem pd_xc_no {n : Nat} {S : pdS} {c add : Nat} (h : ¬ pd_cp S c add) (hv : pd_v n S) (ho : pd_ok n S (pd_ct S)) : pd_xc n S S c add := ⟨rfl, rfl, rfl, rfl, rfl, fun _ _ _ => rfl, hv.2.2.2.2.2, ho, Or.inl ⟨h, rfl, rfl, rfl⟩⟩
theorem pd_xc_ct {n : Nat} {S T : pdS} {c add : Nat} (hc : c < 32) (h : pd_xc n S T c add) {q : Nat} (hq : pd_ct T q = 0) : pd_ct S q = 0 ∧ ∀ k, pd_cp S c add → k = S 4 c / 64 → T (8 + c) k ≠ q := by
  obtain ⟨e3, e4, e5, e6, e72, eo, e0, ho, h1 | h1⟩ := h
  · obtain ⟨hn, z0, z7, zr⟩ := h1
    refine ⟨?_, fun k hcp _ => absurd hcp hn⟩
    rw [← hq]
    refine (pd_ct_congr e4 (fun d hd k hk => ?_) q).symm
    by_cases hdc : d = c
    · subst hdc
      rw [zr]
    · rw [eo d hdc hd]
  · obtain ⟨hcp, z7, nw, hnw, hct, zr, z0⟩ := h1
    have hl : S 4 c / 64 < pd_pf (S 4 c) := by
      have := hcp.2.1
      unfold pd_pf
      omega
    have e : pd_ct T q = pd_ct (pd_st S (8 + c) (S 4 c / 64) nw) q := by
      refine pd_ct_congr (by rw [e4, pd_bk _ (show (4 : Nat) ≠ 8 + c by omega)]) (fun d hd k hk => ?_) q
      by_cases hdc : d = c
      · subst hdc
        rw [zr, pd_own]
      · rw [eo d hdc hd, pd_bk _ (show 8 + d ≠ 8 + c by omega)]
    have hput := pd_ct_put (v := nw) hc hl q
    rw [← e, hq] at hput
    by_cases hold : S (8 + c) (S 4 c / 64) = q
    · have := hcp.2.2
      rw [hold] at this
      rw [if_pos hold] at hput
      omega
    · rw [if_neg hold] at hput
      by_cases hnq : nw = q
      · rw [if_pos hnq] at hput
        omega
      · refine ⟨by omega, fun k _ hk q2 => hnq ?_⟩
        subst hk
        rw [zr, va_up_self] at q2
        exact q2
theorem pd_gw_of {n : Nat} {S T X S' : pdS} {c add : Nat} (hc : c < 32) (hv : pd_v n S) (h : pd_xc n S T c add) (hX : pd_gl n T X c (pd_pf (S 4 c)) (pd_pf (S 4 c + add))) (e : S' = pd_st (pd_st X 4 c (S 4 c + add)) 5 c 1) : pd_gw n S S' c add := by
  have hxc := fun (q : Nat) (hq : pd_ct T q = 0) => pd_xc_ct hc h hq
  obtain ⟨e3, e4, e5, e6, e72, eo, e0, ho, hcase⟩ := h
  obtain ⟨x1, x2, x3, x4, x5, x6, x7⟩ := hX
  have er : ∀ d, S' (8 + d) = X (8 + d) := fun d => by rw [e, pd_bk _ (show 8 + d ≠ 5 by omega), pd_bk _ (show 8 + d ≠ 4 by omega)]
  have es4 : S' 4 = va_up (S 4) c (S 4 c + add) := by rw [e, pd_bk _ (by decide), pd_own, x1 4 (by decide) (by decide) (by decide) (by omega), e4]
  have es0 : S' 0 = T 0 := by rw [e, pd_bk _ (by decide), pd_bk _ (by decide), x1 0 (by decide) (by decide) (by decide) (by omega)]
  have hmono := pd_pf_mono (show S 4 c ≤ S 4 c + add by omega)
  have hoth : ∀ d, d < 32 → d ≠ c → S' (8 + d) = S (8 + d) := fun d hd hdc => by rw [er d, x1 (8 + d) (by omega) (by omega) (by omega) (by omega), eo d hdc hd]
  have hlast : pd_cp S c add → S 4 c / 64 < pd_pf (S 4 c) := fun q => by
    have := q.2.1
    unfold pd_pf
    omega
  have hnwlt : ∀ k, pd_nw S c add k → k < pd_pf (S 4 c) → pd_cp S c add ∧ k = S 4 c / 64 := fun k hk hl => by
    rcases hk.2 with q | q
    · omega
    · exact q
  have hold : ∀ k, k < pd_pf (S 4 c) → ¬ (pd_cp S c add ∧ k = S 4 c / 64) → S' (8 + c) k = S (8 + c) k := fun k hk hn => by
    rw [er c, x3 k hk]
    rcases hcase with ⟨q1, q2, q3, q4⟩ | ⟨q1, q2, nw, q3, q4, q5, q6⟩
    · rw [q4]
    · rw [q5, va_up_ne _ _ (fun z => hn ⟨q1, z⟩)]
  have hnew : ∀ k, pd_nw S c add k → S' (8 + c) k < n ∧ pd_ct S (S' (8 + c) k) = 0 := fun k hk => by
    rw [er c]
    by_cases hl : k < pd_pf (S 4 c)
    · obtain ⟨w1, w2⟩ := hnwlt k hk hl
      rw [x3 k hl]
      rcases hcase with ⟨q1, -⟩ | ⟨q1, q2, nw, q3, q4, q5, q6⟩
      · exact absurd w1 q1
      · rw [q5, w2, va_up_self]
        exact ⟨q3, q4⟩
    · obtain ⟨w1, w2⟩ := x6 k (by omega) hk.1
      exact ⟨w1, (hxc _ w2).1⟩
  refine ⟨es4, ?_, ?_, ?_, ?_, ?_, fun d k hd hdc _ => by rw [hoth d hd hdc], hold, hnew, fun k j hk hj hq => ?_, fun d i hd hi => ?_, by rw [es0]; exact e0, ?_⟩
  · rw [e, pd_own, pd_bk _ (by decide), x1 5 (by decide) (by decide) (by decide) (by omega), e5]
  · rw [e, pd_bk _ (by decide), pd_bk _ (by decide), x1 6 (by decide) (by decide) (by decide) (by omega), e6]
  · rw [e, pd_bk _ (by decide), pd_bk _ (by decide), x1 3 (by decide) (by decide) (by decide) (by omega), e3]
  · have e71 : S' 7 1 = T 7 1 := by rw [e, pd_bk _ (by decide), pd_bk _ (by decide), x2 1 (by decide)]
    rw [e71]
    rcases hcase with ⟨q1, q2, q3, q4⟩ | ⟨q1, q2, -⟩
    · exact Or.inr ⟨q1, q3⟩
    · exact Or.inl ⟨q1, q2⟩
  · rw [e, pd_bk _ (by decide), pd_bk _ (by decide), x2 2 (by decide), e72]
  · by_cases hkl : k < pd_pf (S 4 c) <;> by_cases hjl : j < pd_pf (S 4 c)
    · obtain ⟨-, w2⟩ := hnwlt k hk hkl
      obtain ⟨-, z2⟩ := hnwlt j hj hjl
      omega
    · obtain ⟨w1, w2⟩ := hnwlt k hk hkl
      rw [er c, x3 k hkl] at hq
      exact absurd hq ((hxc _ (x6 j (by omega) hj.1).2).2 k w1 w2)
    · obtain ⟨w1, w2⟩ := hnwlt j hj hjl
      rw [er c, x3 j hjl] at hq
      exact absurd hq.symm ((hxc _ (x6 k (by omega) hk.1).2).2 j w1 w2)
    · rw [er c] at hq
      exact x7 k j (by omega) hk.1 (by omega) hj.1 hq
  · have hkd : i / 64 < pd_pf (S 4 d) := by
      unfold pd_pf
      omega
    have hp := hv.2.1 d (i / 64) hd hkd
    rcases hcase with ⟨q1, q2, q3, q4⟩ | ⟨q1, q2, nw, q3, q4, q5, q6⟩
    · refine pd_by_congr (es0.trans q2) ?_
      by_cases hdc : d = c
      · subst hdc
        exact hold _ hkd (fun z => q1 z.1)
      · rw [hoth d hd hdc]
    · unfold pd_by
      rw [es0, q6]
      by_cases hdl : d = c ∧ i / 64 = S 4 c / 64
      · obtain ⟨rfl, h2⟩ := hdl
        have hr : S' (8 + d) (i / 64) = nw := by rw [h2, er d, x3 _ (hlast q1), q5, va_up_self]
        rw [hr, pk_cpy_in (by omega) (by omega), show 64 * nw + i % 64 - 64 * nw = i % 64 by omega, h2]
      · have hr : S' (8 + d) (i / 64) = S (8 + d) (i / 64) := by
          by_cases hdc : d = c
          · subst hdc
            exact hold _ hkd (fun z => hdl ⟨rfl, z.2⟩)
          · rw [hoth d hd hdc]
        have hne : S (8 + d) (i / 64) ≠ nw := pd_ct_live q4 hd hkd
        rw [hr, pk_cpy_out (by omega)]
  · have hct : ∀ p, p < n → pd_ct T p + pd_rc (fun j => X (8 + c) (pd_pf (S 4 c) + j)) p (pd_pf (S 4 c + add) - pd_pf (S 4 c)) = pd_ct S' p := fun p _ => by
      have e1 : pd_ct S' p = pd_sm (va_up (fun d => pd_rc (T (8 + d)) p (pd_pf (T 4 d))) c (pd_rc (X (8 + c)) p (pd_pf (S 4 c + add)))) 32 := by
        refine pd_sm_congr (fun d hd => ?_)
        show pd_rc (S' (8 + d)) p (pd_pf (S' 4 d)) = _
        rw [es4, er d]
        by_cases hdc : d = c
        · subst hdc
          rw [va_up_self, va_up_self]
        · rw [va_up_ne _ _ hdc, va_up_ne _ _ hdc, x1 (8 + d) (by omega) (by omega) (by omega) (by omega), e4]
      have h1 := pd_sm_up (f := fun d => pd_rc (T (8 + d)) p (pd_pf (T 4 d))) (v := pd_rc (X (8 + c)) p (pd_pf (S 4 c + add))) hc
      have h2 := pd_rc_add (X (8 + c)) p (pd_pf (S 4 c)) (pd_pf (S 4 c + add) - pd_pf (S 4 c))
      rw [show pd_pf (S 4 c) + (pd_pf (S 4 c + add) - pd_pf (S 4 c)) = pd_pf (S 4 c + add) by omega] at h2
      have h3 : pd_rc (X (8 + c)) p (pd_pf (S 4 c)) = pd_rc (T (8 + c)) p (pd_pf (T 4 c)) := by
        rw [e4]
        exact pd_rc_congr (fun k hk => x3 k hk)
      rw [e1]
      unfold pd_ct
      try dsimp only at h1
      omega
    rw [e]
    refine pd_ok_st (pd_ok_st ?_ (by decide) (by decide) (Or.inl (by decide))) (by decide) (by decide) (Or.inl (by decide))
    rw [← e]
    exact pd_ok_congr x5 hct
/-- and behind the writing of the tape -/
theorem pd_ap_of {n : Nat} {S X S' : pdS} {c add : Nat} {tp : Nat → Nat} (hc : c < 32) (hv : pd_v n S) (h : pd_gw n S X c add) (e : S' = va_up X 0 (pd_wt (X 0) (X (8 + c)) (S 4 c) tp add)) (htp : ∀ i, tp i < 256) (h72 : X 7 2 = 0) : pd_ap n S S' c add tp ∧ pd_ok n S' (pd_ct S') := by
  obtain ⟨g4, g5, g6, g3, g71, g72, go, gold, gnew, gdis, gby, g0, gok⟩ := h
  have eb : ∀ b, b ≠ 0 → S' b = X b := fun b hb => by rw [e, va_up_ne _ _ hb]
  have e0 : S' 0 = pd_wt (X 0) (X (8 + c)) (S 4 c) tp add := by rw [e, va_up_self]
  have er : ∀ d, S' (8 + d) = X (8 + d) := fun d => eb _ (by omega)
  -- places of row c behind the old end
  have hnwk : ∀ i, i < add → (S 4 c % 64 = 0 ∨ (S 4 c + i) / 64 ≠ S 4 c / 64) → pd_nw S c add ((S 4 c + i) / 64) := fun i hi hz => by
    refine ⟨by unfold pd_pf; omega, Or.inl (by unfold pd_pf; omega)⟩
  -- a page that is written is in no other row, and at one place of this row
  have hown : ∀ i, i < add → ∀ d k, d < 32 → k < pd_pf (S 4 d) → X (8 + d) k = X (8 + c) ((S 4 c + i) / 64) → d = c ∧ k = (S 4 c + i) / 64 := by
    intro i hi d k hd hk hq
    by_cases hnw : pd_nw S c add ((S 4 c + i) / 64)
    · have hz := (gnew _ hnw).2
      by_cases hdc : d = c
      · subst hdc
        by_cases hnk : pd_nw S d add k
        · exact ⟨rfl, gdis k _ hnk hnw hq⟩
        · rw [gold k hk (fun z => hnk ⟨Nat.lt_of_lt_of_le hk (pd_pf_mono (by omega)), Or.inr z⟩)] at hq
          exact absurd hq (pd_ct_live hz hd hk)
      · rw [go d k hd hdc hk] at hq
        exact absurd hq (pd_ct_live hz hd hk)
    · have hm : S 4 c % 64 ≠ 0 := fun z => hnw (hnwk i hi (Or.inl z))
      have hl : (S 4 c + i) / 64 = S 4 c / 64 := by
        by_cases z : (S 4 c + i) / 64 = S 4 c / 64
        · exact z
        · exact absurd (hnwk i hi (Or.inr z)) hnw
      have hll : S 4 c / 64 < pd_pf (S 4 c) := by
        unfold pd_pf
        omega
      have hncp : ¬ pd_cp S c add := fun z => hnw ⟨by unfold pd_pf; omega, Or.inr ⟨z, hl⟩⟩
      rw [hl, gold _ hll (fun z => hncp z.1)] at hq
      have hone : ¬ 1 < pd_ct S (S (8 + c) (S 4 c / 64)) := fun z => hncp ⟨by omega, hm, z⟩
      by_cases hdc : d = c
      · subst hdc
        by_cases hnk : pd_nw S d add k
        · exact absurd hq.symm (pd_ct_live (gnew k hnk).2 hd hll)
        · rw [gold k hk (fun z => hncp z.1)] at hq
          exact ⟨rfl, by rw [hl]; exact hv.2.2.1 d d k _ hd hd hk hll hq⟩
      · rw [go d k hd hdc hk] at hq
        -- two live references
        have h1 : 0 < pd_rc (S (8 + d)) (S (8 + c) (S 4 c / 64)) (pd_pf (S 4 d)) := pd_rc_pos hq hk
        have h2 : 0 < pd_rc (S (8 + c)) (S (8 + c) (S 4 c / 64)) (pd_pf (S 4 c)) := pd_rc_pos rfl hll
        have h3 : pd_rc (S (8 + d)) (S (8 + c) (S 4 c / 64)) (pd_pf (S 4 d)) + pd_rc (S (8 + c)) (S (8 + c) (S 4 c / 64)) (pd_pf (S 4 c)) ≤ pd_ct S (S (8 + c) (S 4 c / 64)) := by
          have u1 := pd_sm_up (f := fun d => pd_rc (S (8 + d)) (S (8 + c) (S 4 c / 64)) (pd_pf (S 4 d))) (v := 0) hd
          have u2 := pd_sm_le (f := va_up (fun d => pd_rc (S (8 + d)) (S (8 + c) (S 4 c / 64)) (pd_pf (S 4 d))) d 0) hc
          rw [va_up_ne _ _ (fun z => hdc z.symm)] at u2
          unfold pd_ct
          try dsimp only at u1 u2
          omega
        omega
  have hout : ∀ d i, d < 32 → i < S 4 d → pd_by S' d i = pd_by X d i := fun d i hd hi => by
    unfold pd_by
    rw [er d, e0]
    refine pd_wt_out (fun t ht q => ?_)
    have hk : i / 64 < pd_pf (S 4 d) := by
      unfold pd_pf
      omega
    have h1 : X (8 + d) (i / 64) = X (8 + c) ((S 4 c + t) / 64) := by omega
    obtain ⟨rfl, h3⟩ := hown t ht d _ hd hk h1
    omega
  have hin : ∀ i, i < add → pd_by S' c (S 4 c + i) = tp i := fun i hi => by
    unfold pd_by
    rw [er c, e0]
    refine pd_wt_in hi (fun j h1 h2 q => ?_)
    have hjq : X (8 + c) ((S 4 c + j) / 64) = X (8 + c) ((S 4 c + i) / 64) := by omega
    have hkk : (S 4 c + j) / 64 = (S 4 c + i) / 64 := by
      by_cases hj : (S 4 c + j) / 64 < pd_pf (S 4 c)
      · exact (hown i hi c _ hc hj hjq).2
      · by_cases hi2 : (S 4 c + i) / 64 < pd_pf (S 4 c)
        · exact ((hown j h2 c _ hc hi2 hjq.symm).2).symm
        · exact gdis _ _ ⟨by unfold pd_pf; omega, Or.inl (by omega)⟩ ⟨by unfold pd_pf; omega, Or.inl (by omega)⟩ hjq
    omega
  refine ⟨⟨by rw [eb 4 (by decide)]; exact g4, by rw [eb 5 (by decide)]; exact g5, by rw [eb 6 (by decide)]; exact g6, by rw [eb 7 (by decide)]; exact g71, by rw [eb 7 (by decide)]; exact h72, fun d k hd hdc hk => by rw [er d]; exact go d k hd hdc hk, fun k hk hn => by rw [er c]; exact gold k hk hn, fun k hk => by rw [er c]; exact gnew k hk, fun k j hk hj => by rw [er c]; exact gdis k j hk hj, fun d i hd hi => (hout d i hd hi).trans (gby d i hd hi), hin, by rw [eb 3 (by decide), g3]; exact hv.2.2.2.2.1, by rw [e0]; exact pd_wt_lt g0 htp add⟩, ?_⟩
  refine pd_ok_congr (pd_ok_eqv gok (eb 1 (by decide)) (eb 2 (by decide)) (by rw [eb 7 (by decide)])) (fun p _ => ?_)
  exact (pd_ct_congr (S := X) (T := S') (eb 4 (by decide)) (fun d _ k _ => by rw [er d]) p).symm
end
section
/-! PURE, 9: the calls, said of both sides -/
def pd_sa (S S' : pdS) : Prop := S' 0 = S 0 ∧ S' 3 = S 3 ∧ S' 4 = S 4 ∧ S' 5 = S 5 ∧ S' 6 = S 6 ∧ S' 7 1 = S 7 1 ∧ S' 7 2 = S 7 2 ∧ ∀ d, d < 32 → S' (8 + d) = S (8 + d)
theorem pd_sa_rf (S : pdS) : pd_sa S S := ⟨rfl, rfl, rfl, rfl, rfl, rfl, rfl, fun _ _ => rfl⟩
theorem pd_sa_tr {S T U : pdS} (h : pd_sa S T) (g : pd_sa T U) : pd_sa S U := by
  obtain ⟨a0, a3, a4, a5, a6, a7, a8, ar⟩ := h
  obtain ⟨b0, b3, b4, b5, b6, b7, b8, br⟩ := g
  exact ⟨b0.trans a0, b3.trans a3, b4.trans a4, b5.trans a5, b6.trans a6, b7.trans a7, b8.trans a8, fun d hd => (br d hd).trans (ar d hd)⟩
theorem pd_sa_fr {S T : pdS} (h : pd_fr S T) : pd_sa S T := ⟨h.1 0 (by decide) (by decide) (by decide), h.1 3 (by decide) (by decide) (by decide), h.1 4 (by decide) (by decide) (by decide), h.1 5 (by decide) (by decide) (by decide), h.1 6 (by decide) (by decide) (by decide), h.2 1 (by decide), h.2 2 (by decide), fun d _ => h.1 (8 + d) (by omega) (by omega) (by omega)⟩
/-- a store that nobody sees -/
theorem pd_sa_st {S : pdS} {b j v : Nat} (h : b = 1 ∨ b = 2 ∨ (b = 7 ∧ j ≠ 1 ∧ j ≠ 2)) : pd_sa S (pd_st S b j v) := by
  have hb : ∀ a, a ≠ 1 → a ≠ 2 → a ≠ 7 → pd_st S b j v a = S a := fun a h1 h2 h7 => pd_bk _ (by omega)
  refine ⟨hb 0 (by decide) (by decide) (by decide), hb 3 (by decide) (by decide) (by decide), hb 4 (by decide) (by decide) (by decide), hb 5 (by decide) (by decide) (by decide), hb 6 (by decide) (by decide) (by decide), ?_, ?_, fun d _ => hb (8 + d) (by omega) (by omega) (by omega)⟩
  · rw [pd_at, if_neg (by omega)]
  · rw [pd_at, if_neg (by omega)]
theorem pd_sa_by {S S' : pdS} (h : pd_sa S S') {c : Nat} (hc : c < 32) (i : Nat) : pd_by S' c i = pd_by S c i := pd_by_congr h.1 (by rw [h.2.2.2.2.2.2.2 c hc])
theorem pd_sa_v {S S' : pdS} {N : Nat} (h : pd_sa S S') (hv : pd_v N S) : pd_v N S' := by
  obtain ⟨e0, e3, e4, e5, e6, e71, e72, er⟩ := h
  obtain ⟨v1, v2, v3, v4, v5, v6⟩ := hv
  refine ⟨fun c hc => by rw [e4, e5]; exact v1 c hc, fun c k hc hk => ?_, fun c d k j hc hd hk hj => ?_, by rw [e72]; exact v4, by rw [e3]; exact v5, by rw [e0]; exact v6⟩
  · rw [e4] at hk
    rw [er c hc]
    exact v2 c k hc hk
  · rw [e4] at hk hj
    rw [er c hc, er d hd]
    exact v3 c d k j hc hd hk hj
theorem pd_sa_ct {S S' : pdS} (h : pd_sa S S') (p : Nat) : pd_ct S' p = pd_ct S p := pd_ct_congr h.2.2.1 (fun d hd k _ => by rw [h.2.2.2.2.2.2.2 d hd]) p
theorem pd_sa_eq {S S' Q : pdS} (h : pd_sa S S') (e : pd_eq S Q) : pd_eq S' Q := by
  have hby := fun (c i : Nat) (hc : c < 32) => pd_sa_by h hc i
  obtain ⟨e0, e3, e4, e5, e6, e71, e72, er⟩ := h
  obtain ⟨h1, h2, h3, h4, h5, h6, h7⟩ := e
  refine ⟨by rw [e4, e5]; exact h1, by rw [e6]; exact h2, by rw [e71]; exact h3, by rw [e72]; exact h4, by rw [e72, e3]; exact h5, fun c d k hc hd hk hk2 => ?_, fun c i hc hi => ?_⟩
  · rw [e4] at hk hk2
    rw [er c hc, er d hd]
    exact h6 c d k hc hd hk hk2
  · rw [e4] at hi
    rw [hby c i hc]
    exact h7 c i hc hi
theorem pd_sa_eq2 {S Q Q' : pdS} (h : pd_sa Q Q') (e : pd_eq S Q) : pd_eq S Q' := pd_eq_symm (pd_sa_eq h (pd_eq_symm e))
theorem pd_v_6 {S : pdS} {N i v : Nat} (hv : pd_v N S) : pd_v N (pd_st S 6 i v) := by
  have hb : ∀ a, a ≠ 6 → pd_st S 6 i v a = S a := fun a h => pd_bk _ h
  obtain ⟨v1, v2, v3, v4, v5, v6⟩ := hv
  refine ⟨fun c hc => by rw [hb 4 (by decide), hb 5 (by decide)]; exact v1 c hc, fun c k hc hk => ?_, fun c d k j hc hd hk hj => ?_, by rw [hb 7 (by decide)]; exact v4, by rw [hb 3 (by decide)]; exact v5, by rw [hb 0 (by decide)]; exact v6⟩
  · rw [hb 4 (by decide)] at hk
    rw [hb (8 + c) (by omega)]
    exact v2 c k hc hk
  · rw [hb 4 (by decide)] at hk hj
    rw [hb (8 + c) (by omega), hb (8 + d) (by omega)]
    exact v3 c d k j hc hd hk hj
theorem pd_eq_6 {S Q : pdS} {i v : Nat} (e : pd_eq S Q) : pd_eq (pd_st S 6 i v) (pd_st Q 6 i v) := by
  have hb : ∀ a, a ≠ 6 → pd_st S 6 i v a = S a := fun a h => pd_bk _ h
  have gb : ∀ a, a ≠ 6 → pd_st Q 6 i v a = Q a := fun a h => pd_bk _ h
  obtain ⟨h1, h2, h3, h4, h5, h6, h7⟩ := e
  refine ⟨by rw [hb 4 (by decide), hb 5 (by decide), gb 4 (by decide), gb 5 (by decide)]; exact h1, fun j hj => ?_, by rw [hb 7 (by decide), gb 7 (by decide)]; exact h3, by rw [hb 7 (by decide), gb 7 (by decide)]; exact h4, by rw [hb 7 (by decide), hb 3 (by decide), gb 3 (by decide)]; exact h5, fun c d k hc hd hk hk2 => ?_, fun c i2 hc hi => ?_⟩
  · rw [pd_own, pd_own]
    by_cases hji : j = i
    · subst hji
      rw [va_up_self, va_up_self]
    · rw [va_up_ne _ _ hji, va_up_ne _ _ hji]
      exact h2 j hj
  · rw [hb 4 (by decide)] at hk hk2
    rw [hb (8 + c) (by omega), hb (8 + d) (by omega), gb (8 + c) (by omega), gb (8 + d) (by omega)]
    exact h6 c d k hc hd hk hk2
  · rw [hb 4 (by decide)] at hi
    rw [pd_by_congr (hb 0 (by decide)) (by rw [hb (8 + c) (by omega)]), pd_by_congr (gb 0 (by decide)) (by rw [gb (8 + c) (by omega)])]
    exact h7 c i2 hc hi
/-- cut -/
def pd_cut (S S' : pdS) (f s : Nat) : Prop := ∃ T, pd_sh S T (2 * f) s ∧ pd_sa (pd_st T 6 f (if s < S 6 f then s else S 6 f)) S'
/-- remove -/
def pd_rem (S S' : pdS) (f : Nat) : Prop := ∃ T, pd_sh S T (2 * f) 0 ∧ pd_sa (pd_st (pd_st T 5 (2 * f) 0) 6 f 0) S'
/-- twin -/
def pd_twi (S S' : pdS) (a b : Nat) : Prop := ∃ T, pd_be S T (2 * b) (2 * a) ∧ pd_sa (pd_st T 6 b 0) S'
/-- settle -/
def pd_set (S S' : pdS) (f : Nat) : Prop := ∃ T, pd_be S T (2 * f + 1) (2 * f) ∧ pd_sa (pd_st T 6 f (S 4 (2 * f))) S'
/-- a crash of a file -/
def pd_fal (S S' : pdS) (f keep : Nat) : Prop := ∃ T, ((keep = 0 ∧ pd_be S T (2 * f) (2 * f + 1)) ∨ (0 < keep ∧ S 6 f + keep - 1 < S 4 (2 * f) ∧ pd_sh S T (2 * f) (S 6 f + keep - 1)) ∨ (0 < keep ∧ S 4 (2 * f) ≤ S 6 f + keep - 1 ∧ pd_sa S T)) ∧ pd_set T S' f
/-- how many files are there -/
def pd_th (S : pdS) : Nat := pd_sm (fun i => S 5 (2 * i)) 16
theorem pd_th_eq {S Q : pdS} (e : pd_eq S Q) : pd_th S = pd_th Q := pd_sm_congr (fun i hi => (e.1 (2 * i) (by omega)).2)
/-- the pages that sync counts -/
def pd_un (S : pdS) (f : Nat) : Nat := pd_sm (fun k => if k < pd_pf (S 4 (2 * f + 1)) ∧ S (8 + (2 * f + 1)) k = S (8 + 2 * f) k then 0 else 1) (pd_pf (S 4 (2 * f)))
theorem pd_un_eq {S Q : pdS} (e : pd_eq S Q) {f : Nat} (hf : f < 16) : pd_un S f = pd_un Q f := by
  obtain ⟨h1, -, -, -, -, h6, -⟩ := e
  unfold pd_un
  rw [← (h1 (2 * f) (by omega)).1, ← (h1 (2 * f + 1) (by omega)).1]
  refine pd_sm_congr (fun k hk => ?_)
  by_cases hl : k < pd_pf (S 4 (2 * f + 1))
  · have := h6 (2 * f + 1) (2 * f) k (by omega) (by omega) hl hk
    by_cases hq : S (8 + (2 * f + 1)) k = S (8 + 2 * f) k
    · rw [if_pos ⟨hl, hq⟩, if_pos ⟨hl, this.mp hq⟩]
    · rw [if_neg (fun z => hq z.2), if_neg (fun z => hq (this.mpr z.2))]
  · rw [if_neg (fun z => hl z.1), if_neg (fun z => hl z.1)]
/-- the pages of a row that are in another, too -/
def pd_shd (S : pdS) (c : Nat) : Nat := pd_sm (fun k => if 1 < pd_ct S (S (8 + c) k) then 1 else 0) (pd_pf (S 4 c))
theorem pd_shd_eq {S Q : pdS} (e : pd_eq S Q) (hS : pd_po S) (hQ : pd_po Q) {c : Nat} (hc : c < 32) : pd_shd S c = pd_shd Q c := by
  unfold pd_shd
  rw [← (e.1 c hc).1]
  refine pd_sm_congr (fun k hk => ?_)
  rw [pd_eq_ct e hS hQ hc hk]
theorem pd_cut_eq {S S' Q Q' : pdS} {f s : Nat} (h : pd_cut S S' f s) (g : pd_cut Q Q' f s) (hf : f < 16) (hs : s ≤ S 4 (2 * f)) (e : pd_eq S Q) : pd_eq S' Q' := by
  obtain ⟨T, h1, h2⟩ := h
  obtain ⟨U, g1, g2⟩ := g
  refine pd_sa_eq h2 (pd_sa_eq2 g2 ?_)
  rw [← e.2.1 f hf]
  exact pd_eq_6 (pd_sh_eq h1 g1 hs (by omega) e)
theorem pd_eq_5 {S Q : pdS} {c v : Nat} (e : pd_eq S Q) : pd_eq (pd_st S 5 c v) (pd_st Q 5 c v) := by
  have hb : ∀ a, a ≠ 5 → pd_st S 5 c v a = S a := fun a h => pd_bk _ h
  have gb : ∀ a, a ≠ 5 → pd_st Q 5 c v a = Q a := fun a h => pd_bk _ h
  obtain ⟨h1, h2, h3, h4, h5, h6, h7⟩ := e
  refine ⟨fun d hd => ⟨by rw [hb 4 (by decide), gb 4 (by decide)]; exact (h1 d hd).1, ?_⟩, by rw [hb 6 (by decide), gb 6 (by decide)]; exact h2, by rw [hb 7 (by decide), gb 7 (by decide)]; exact h3, by rw [hb 7 (by decide), gb 7 (by decide)]; exact h4, by rw [hb 7 (by decide), hb 3 (by decide), gb 3 (by decide)]; exact h5, fun a d k ha hd hk hk2 => ?_, fun d i hd hi => ?_⟩
  · rw [pd_own, pd_own]
    by_cases hdc : d = c
    · subst hdc
      rw [va_up_self, va_up_self]
    · rw [va_up_ne _ _ hdc, va_up_ne _ _ hdc]
      exact (h1 d hd).2
  · rw [hb 4 (by decide)] at hk hk2
    rw [hb (8 + a) (by omega), hb (8 + d) (by omega), gb (8 + a) (by omega), gb (8 + d) (by omega)]
    exact h6 a d k ha hd hk hk2
  · rw [hb 4 (by decide)] at hi
    rw [pd_by_congr (hb 0 (by decide)) (by rw [hb (8 + d) (by omega)]), pd_by_congr (gb 0 (by decide)) (by rw [gb (8 + d) (by omega)])]
    exact h7 d i hd hi
theorem pd_rem_eq {S S' Q Q' : pdS} {f : Nat} (h : pd_rem S S' f) (g : pd_rem Q Q' f) (hf : f < 16) (e : pd_eq S Q) : pd_eq S' Q' := by
  obtain ⟨T, h1, h2⟩ := h
  obtain ⟨U, g1, g2⟩ := g
  exact pd_sa_eq h2 (pd_sa_eq2 g2 (pd_eq_6 (pd_eq_5 (pd_sh_eq h1 g1 (Nat.zero_le _) (by omega) e))))
theorem pd_twi_eq {S S' Q Q' : pdS} {a b : Nat} (h : pd_twi S S' a b) (g : pd_twi Q Q' a b) (ha : a < 16) (e : pd_eq S Q) : pd_eq S' Q' := by
  obtain ⟨T, h1, h2⟩ := h
  obtain ⟨U, g1, g2⟩ := g
  exact pd_sa_eq h2 (pd_sa_eq2 g2 (pd_eq_6 (pd_be_eq h1 g1 (by omega) e)))
theorem pd_set_eq {S S' Q Q' : pdS} {f : Nat} (h : pd_set S S' f) (g : pd_set Q Q' f) (hf : f < 16) (e : pd_eq S Q) : pd_eq S' Q' := by
  obtain ⟨T, h1, h2⟩ := h
  obtain ⟨U, g1, g2⟩ := g
  refine pd_sa_eq h2 (pd_sa_eq2 g2 ?_)
  rw [← (e.1 (2 * f) (by omega)).1]
  exact pd_eq_6 (pd_be_eq h1 g1 (by omega) e)
theorem pd_fal_eq {S S' Q Q' : pdS} {f keep : Nat} (h : pd_fal S S' f keep) (g : pd_fal Q Q' f keep) (hf : f < 16) (e : pd_eq S Q) : pd_eq S' Q' := by
  obtain ⟨T, h1, h2⟩ := h
  obtain ⟨U, g1, g2⟩ := g
  have hz := (e.1 (2 * f) (by omega)).1
  have hlw := e.2.1 f hf
  rw [← hz, ← hlw] at g1
  refine pd_set_eq h2 g2 hf ?_
  rcases h1 with ⟨a1, a2⟩ | ⟨a1, a2, a3⟩ | ⟨a1, a2, a3⟩ <;> rcases g1 with ⟨b1, b2⟩ | ⟨b1, b2, b3⟩ | ⟨b1, b2, b3⟩
  · exact pd_be_eq a2 b2 (by omega) e
  · omega
  · omega
  · omega
  · exact pd_sh_eq a3 b3 (by omega) (by omega) e
  · omega
  · omega
  · omega
  · exact pd_sa_eq a3 (pd_sa_eq2 b3 e)
theorem pd_set_v {S S' : pdS} {N f : Nat} (h : pd_set S S' f) (hf : f < 16) (hv : pd_v N S) : pd_v N S' ∧ S' 4 (2 * f) = S 4 (2 * f) ∧ S' 6 f = S 4 (2 * f) := by
  obtain ⟨T, h1, h2⟩ := h
  refine ⟨pd_sa_v h2 (pd_v_6 (pd_be_v h1 (by omega) hv)), ?_, ?_⟩
  · rw [h2.2.2.1, pd_bk _ (by decide), h1.2.2.1, va_up_ne _ _ (by omega)]
  · rw [h2.2.2.2.2.1, pd_self]
end
