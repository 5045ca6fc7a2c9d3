/-! THE CLASS'S WORLD: 87 cells by their index -/
def pw_E (n : Nat) (ad : Nat → Nat) (cI cB cE : ClassId) (S : pdS) (k : Nat) : va_E :=
  if k = 0 then .inr (0, [.ref (ad 1), .ref (ad 2), .ref (ad 3), .int (nI (S 7 2))])
  else if k = 1 then .inr (1, [.int (nI n), .ref (ad 4), .ref (ad 5), .ref (ad 6), .int (nI (S 7 0)), .int (nI (S 7 1))])
  else if k = 2 then .inl (cE, 16, .inr (.inr (.inr (.inr (fun i => some (ad (7 + i)))))))
  else if k = 3 then .inl (cB, 4096, .inl (fun j => sb_b (S 3 j)))
  else if k = 4 then .inl (cB, n * 64, .inl (fun j => sb_b (S 0 j)))
  else if k = 5 then .inl (cI, n, .inl (fun j => nI (S 1 j)))
  else if k = 6 then .inl (cI, n, .inl (fun j => nI (S 2 j)))
  else if k < 23 then .inr (2, [.ref (ad (23 + 2 * (k - 7))), .ref (ad (23 + (2 * (k - 7) + 1))), .int (nI (S 6 (k - 7)))])
  else if k < 55 then .inr (3, [.ref (ad (55 + (k - 23))), .int (nI (S 4 (k - 23))), .int (nI (S 5 (k - 23)))])
  else .inl (cI, 400, .inl (fun j => nI (S (8 + (k - 55)) j)))
def pw (n : Nat) (ad : Nat → Nat) (cI cB cE : ClassId) (S : pdS) : va_W := (List.range 87).map (fun k => (ad k, pw_E n ad cI cB cE S k))
section PW
variable {n : Nat} {ad : Nat → Nat} {cI cB cE : ClassId} {S S' : pdS}
theorem pw_at {k : Nat} (hk : k < 87) : (pw n ad cI cB cE S)[k]? = some (ad k, pw_E n ad cI cB cE S k) := by
  unfold pw
  rw [List.getElem?_map, List.getElem?_range hk]
  rfl
theorem pw_out {k : Nat} {q : Nat × va_E} (h : (pw n ad cI cB cE S)[k]? = some q) : k < 87 ∧ q.1 = ad k := by
  unfold pw at h
  have hk : k < 87 := by
    have := (List.getElem?_eq_some_iff.mp h).1
    rw [List.length_map, List.length_range] at this
    exact this
  refine ⟨hk, ?_⟩
  rw [List.getElem?_map, List.getElem?_range hk] at h
  cases h
  rfl
theorem pw_put {k : Nat} {x : va_E} (hk : k < 87) (he : pw_E n ad cI cB cE S' k = x) (ho : ∀ j, j < 87 → j ≠ k → pw_E n ad cI cB cE S' j = pw_E n ad cI cB cE S j) : (pw n ad cI cB cE S).set k (ad k, x) = pw n ad cI cB cE S' := by
  apply List.ext_getElem?
  intro j
  by_cases hj : j < 87
  · by_cases hjk : j = k
    · subst hjk
      rw [List.getElem?_set_self (by unfold pw; rw [List.length_map, List.length_range]; exact hj), pw_at hj, he]
    · rw [List.getElem?_set_ne (fun q => hjk q.symm), pw_at hj, pw_at hj, ho j hj hjk]
  · rw [List.getElem?_eq_none (by rw [List.length_set]; unfold pw; rw [List.length_map, List.length_range]; omega), List.getElem?_eq_none (by unfold pw; rw [List.length_map, List.length_range]; omega)]
theorem pw_cg (S S' : pdS) {k : Nat} (h0 : k = 0 → S' 7 2 = S 7 2) (h1 : k = 1 → S' 7 0 = S 7 0 ∧ S' 7 1 = S 7 1) (h3 : k = 3 → S' 3 = S 3) (h4 : k = 4 → S' 0 = S 0) (h5 : k = 5 → S' 1 = S 1) (h6 : k = 6 → S' 2 = S 2) (h7 : 7 ≤ k → k < 23 → S' 6 (k - 7) = S 6 (k - 7)) (h8 : 23 ≤ k → k < 55 → S' 4 (k - 23) = S 4 (k - 23) ∧ S' 5 (k - 23) = S 5 (k - 23)) (h9 : 55 ≤ k → S' (8 + (k - 55)) = S (8 + (k - 55))) : pw_E n ad cI cB cE S' k = pw_E n ad cI cB cE S k := by
  unfold pw_E
  by_cases c0 : k = 0
  · rw [if_pos c0, if_pos c0, h0 c0]
  rw [if_neg c0, if_neg c0]
  by_cases c1 : k = 1
  · rw [if_pos c1, if_pos c1, (h1 c1).1, (h1 c1).2]
  rw [if_neg c1, if_neg c1]
  by_cases c2 : k = 2
  · rw [if_pos c2, if_pos c2]
  rw [if_neg c2, if_neg c2]
  by_cases c3 : k = 3
  · rw [if_pos c3, if_pos c3, h3 c3]
  rw [if_neg c3, if_neg c3]
  by_cases c4 : k = 4
  · rw [if_pos c4, if_pos c4, h4 c4]
  rw [if_neg c4, if_neg c4]
  by_cases c5 : k = 5
  · rw [if_pos c5, if_pos c5, h5 c5]
  rw [if_neg c5, if_neg c5]
  by_cases c6 : k = 6
  · rw [if_pos c6, if_pos c6, h6 c6]
  rw [if_neg c6, if_neg c6]
  by_cases c7 : k < 23
  · rw [if_pos c7, if_pos c7, h7 (by omega) c7]
  rw [if_neg c7, if_neg c7]
  by_cases c8 : k < 55
  · rw [if_pos c8, if_pos c8, (h8 (by omega) c8).1, (h8 (by omega) c8).2]
  rw [if_neg c8, if_neg c8, h9 (by omega)]
theorem pw_e0 : pw_E n ad cI cB cE S (0) = .inr (0, [.ref (ad 1), .ref (ad 2), .ref (ad 3), .int (nI (S 7 2))]) := by
  unfold pw_E
  rw [if_pos (by omega)]
theorem pw_g0 : (pw n ad cI cB cE S)[0]? = some (ad (0), .inr (0, [.ref (ad 1), .ref (ad 2), .ref (ad 3), .int (nI (S 7 2))])) := by
  rw [pw_at (by omega), pw_e0]
theorem pw_e1 : pw_E n ad cI cB cE S (1) = .inr (1, [.int (nI n), .ref (ad 4), .ref (ad 5), .ref (ad 6), .int (nI (S 7 0)), .int (nI (S 7 1))]) := by
  unfold pw_E
  rw [if_neg (by omega), if_pos (by omega)]
theorem pw_g1 : (pw n ad cI cB cE S)[1]? = some (ad (1), .inr (1, [.int (nI n), .ref (ad 4), .ref (ad 5), .ref (ad 6), .int (nI (S 7 0)), .int (nI (S 7 1))])) := by
  rw [pw_at (by omega), pw_e1]
theorem pw_e2 : pw_E n ad cI cB cE S (2) = .inl (cE, 16, .inr (.inr (.inr (.inr (fun i => some (ad (7 + i))))))) := by
  unfold pw_E
  rw [if_neg (by omega), if_neg (by omega), if_pos (by omega)]
theorem pw_g2 : (pw n ad cI cB cE S)[2]? = some (ad (2), .inl (cE, 16, .inr (.inr (.inr (.inr (fun i => some (ad (7 + i)))))))) := by
  rw [pw_at (by omega), pw_e2]
theorem pw_e3 : pw_E n ad cI cB cE S (3) = .inl (cB, 4096, .inl (fun j => sb_b (S 3 j))) := by
  unfold pw_E
  rw [if_neg (by omega), if_neg (by omega), if_neg (by omega), if_pos (by omega)]
theorem pw_g3 : (pw n ad cI cB cE S)[3]? = some (ad (3), .inl (cB, 4096, .inl (fun j => sb_b (S 3 j)))) := by
  rw [pw_at (by omega), pw_e3]
theorem pw_e4 : pw_E n ad cI cB cE S (4) = .inl (cB, n * 64, .inl (fun j => sb_b (S 0 j))) := by
  unfold pw_E
  rw [if_neg (by omega), if_neg (by omega), if_neg (by omega), if_neg (by omega), if_pos (by omega)]
theorem pw_g4 : (pw n ad cI cB cE S)[4]? = some (ad (4), .inl (cB, n * 64, .inl (fun j => sb_b (S 0 j)))) := by
  rw [pw_at (by omega), pw_e4]
theorem pw_e5 : pw_E n ad cI cB cE S (5) = .inl (cI, n, .inl (fun j => nI (S 1 j))) := by
  unfold pw_E
  rw [if_neg (by omega), if_neg (by omega), if_neg (by omega), if_neg (by omega), if_neg (by omega), if_pos (by omega)]
theorem pw_g5 : (pw n ad cI cB cE S)[5]? = some (ad (5), .inl (cI, n, .inl (fun j => nI (S 1 j)))) := by
  rw [pw_at (by omega), pw_e5]
theorem pw_e6 : pw_E n ad cI cB cE S (6) = .inl (cI, n, .inl (fun j => nI (S 2 j))) := by
  unfold pw_E
  rw [if_neg (by omega), if_neg (by omega), if_neg (by omega), if_neg (by omega), if_neg (by omega), if_neg (by omega), if_pos (by omega)]
theorem pw_g6 : (pw n ad cI cB cE S)[6]? = some (ad (6), .inl (cI, n, .inl (fun j => nI (S 2 j)))) := by
  rw [pw_at (by omega), pw_e6]
theorem pw_eE {i : Nat} (hi : i < 16) : pw_E n ad cI cB cE S (7 + i) = .inr (2, [.ref (ad (23 + 2 * i)), .ref (ad (23 + (2 * i + 1))), .int (nI (S 6 i))]) := by
  unfold pw_E
  rw [if_neg (by omega), if_neg (by omega), if_neg (by omega), if_neg (by omega), if_neg (by omega), if_neg (by omega), if_neg (by omega), if_pos (by omega), Nat.add_sub_cancel_left]
theorem pw_gE {i : Nat} (hi : i < 16) : (pw n ad cI cB cE S)[7 + i]? = some (ad (7 + i), .inr (2, [.ref (ad (23 + 2 * i)), .ref (ad (23 + (2 * i + 1))), .int (nI (S 6 i))])) := by
  rw [pw_at (by omega), pw_eE hi]
theorem pw_eC {i : Nat} (hi : i < 32) : pw_E n ad cI cB cE S (23 + i) = .inr (3, [.ref (ad (55 + i)), .int (nI (S 4 i)), .int (nI (S 5 i))]) := by
  unfold pw_E
  rw [if_neg (by omega), if_neg (by omega), if_neg (by omega), if_neg (by omega), if_neg (by omega), if_neg (by omega), if_neg (by omega), if_neg (by omega), if_pos (by omega), Nat.add_sub_cancel_left]
theorem pw_gC {i : Nat} (hi : i < 32) : (pw n ad cI cB cE S)[23 + i]? = some (ad (23 + i), .inr (3, [.ref (ad (55 + i)), .int (nI (S 4 i)), .int (nI (S 5 i))])) := by
  rw [pw_at (by omega), pw_eC hi]
theorem pw_eR {i : Nat} (hi : i < 32) : pw_E n ad cI cB cE S (55 + i) = .inl (cI, 400, .inl (fun j => nI (S (8 + i) j))) := by
  unfold pw_E
  rw [if_neg (by omega), if_neg (by omega), if_neg (by omega), if_neg (by omega), if_neg (by omega), if_neg (by omega), if_neg (by omega), if_neg (by omega), if_neg (by omega), Nat.add_sub_cancel_left]
theorem pw_gR {i : Nat} (hi : i < 32) : (pw n ad cI cB cE S)[55 + i]? = some (ad (55 + i), .inl (cI, 400, .inl (fun j => nI (S (8 + i) j)))) := by
  rw [pw_at (by omega), pw_eR hi]
theorem pw_staped (v : Nat) : (pw n ad cI cB cE S).set (0) (ad (0), .inr (0, [.ref (ad 1), .ref (ad 2), .ref (ad 3), .int (nI v)])) = pw n ad cI cB cE (pd_st S 7 2 v) := by
  refine pw_put (by omega) ?_ (fun j _ hj => pw_cg _ _ (fun q => absurd q hj) (fun _ => ⟨pd_ne _ (by decide), pd_ne _ (by decide)⟩) (fun _ => pd_bk _ (by decide)) (fun _ => pd_bk _ (by decide)) (fun _ => pd_bk _ (by decide)) (fun _ => pd_bk _ (by decide)) (fun _ _ => by rw [pd_bk _ (by decide)]) (fun _ _ => ⟨by rw [pd_bk _ (by decide)], by rw [pd_bk _ (by decide)]⟩) (fun _ => pd_bk _ (by omega)))
  rw [pw_e0, pd_self]
theorem pw_suc (v : Nat) : (pw n ad cI cB cE S).set (1) (ad (1), .inr (1, [.int (nI n), .ref (ad 4), .ref (ad 5), .ref (ad 6), .int (nI v), .int (nI (S 7 1))])) = pw n ad cI cB cE (pd_st S 7 0 v) := by
  refine pw_put (by omega) ?_ (fun j _ hj => pw_cg _ _ (fun _ => pd_ne _ (by decide)) (fun q => absurd q hj) (fun _ => pd_bk _ (by decide)) (fun _ => pd_bk _ (by decide)) (fun _ => pd_bk _ (by decide)) (fun _ => pd_bk _ (by decide)) (fun _ _ => by rw [pd_bk _ (by decide)]) (fun _ _ => ⟨by rw [pd_bk _ (by decide)], by rw [pd_bk _ (by decide)]⟩) (fun _ => pd_bk _ (by omega)))
  rw [pw_e1, pd_self, pd_ne _ (by decide)]
theorem pw_scop (v : Nat) : (pw n ad cI cB cE S).set (1) (ad (1), .inr (1, [.int (nI n), .ref (ad 4), .ref (ad 5), .ref (ad 6), .int (nI (S 7 0)), .int (nI v)])) = pw n ad cI cB cE (pd_st S 7 1 v) := by
  refine pw_put (by omega) ?_ (fun j _ hj => pw_cg _ _ (fun _ => pd_ne _ (by decide)) (fun q => absurd q hj) (fun _ => pd_bk _ (by decide)) (fun _ => pd_bk _ (by decide)) (fun _ => pd_bk _ (by decide)) (fun _ => pd_bk _ (by decide)) (fun _ _ => by rw [pd_bk _ (by decide)]) (fun _ _ => ⟨by rw [pd_bk _ (by decide)], by rw [pd_bk _ (by decide)]⟩) (fun _ => pd_bk _ (by omega)))
  rw [pw_e1, pd_self, pd_ne _ (by decide)]
theorem pw_slow {i : Nat} (hi : i < 16) (v : Nat) : (pw n ad cI cB cE S).set (7 + i) (ad (7 + i), .inr (2, [.ref (ad (23 + 2 * i)), .ref (ad (23 + (2 * i + 1))), .int (nI v)])) = pw n ad cI cB cE (pd_st S 6 i v) := by
  refine pw_put (by omega) ?_ (fun j _ hj => pw_cg _ _ (fun _ => by rw [pd_bk _ (by decide)]) (fun _ => ⟨by rw [pd_bk _ (by decide)], by rw [pd_bk _ (by decide)]⟩) (fun _ => pd_bk _ (by decide)) (fun _ => pd_bk _ (by decide)) (fun _ => pd_bk _ (by decide)) (fun _ => pd_bk _ (by decide)) (fun _ _ => pd_ne _ (by omega)) (fun _ _ => ⟨by rw [pd_bk _ (by decide)], by rw [pd_bk _ (by decide)]⟩) (fun _ => pd_bk _ (by omega)))
  rw [pw_eE hi, pd_self]
theorem pw_ssize {i : Nat} (hi : i < 32) (v : Nat) : (pw n ad cI cB cE S).set (23 + i) (ad (23 + i), .inr (3, [.ref (ad (55 + i)), .int (nI v), .int (nI (S 5 i))])) = pw n ad cI cB cE (pd_st S 4 i v) := by
  refine pw_put (by omega) ?_ (fun j _ hj => pw_cg _ _ (fun _ => by rw [pd_bk _ (by decide)]) (fun _ => ⟨by rw [pd_bk _ (by decide)], by rw [pd_bk _ (by decide)]⟩) (fun _ => pd_bk _ (by decide)) (fun _ => pd_bk _ (by decide)) (fun _ => pd_bk _ (by decide)) (fun _ => pd_bk _ (by decide)) (fun _ _ => by rw [pd_bk _ (by decide)]) (fun _ _ => ⟨pd_ne _ (by omega), by rw [pd_bk _ (by decide)]⟩) (fun _ => pd_bk _ (by omega)))
  rw [pw_eC hi, pd_self, pd_bk _ (by decide)]
theorem pw_sthere {i : Nat} (hi : i < 32) (v : Nat) : (pw n ad cI cB cE S).set (23 + i) (ad (23 + i), .inr (3, [.ref (ad (55 + i)), .int (nI (S 4 i)), .int (nI v)])) = pw n ad cI cB cE (pd_st S 5 i v) := by
  refine pw_put (by omega) ?_ (fun j _ hj => pw_cg _ _ (fun _ => by rw [pd_bk _ (by decide)]) (fun _ => ⟨by rw [pd_bk _ (by decide)], by rw [pd_bk _ (by decide)]⟩) (fun _ => pd_bk _ (by decide)) (fun _ => pd_bk _ (by decide)) (fun _ => pd_bk _ (by decide)) (fun _ => pd_bk _ (by decide)) (fun _ _ => by rw [pd_bk _ (by decide)]) (fun _ _ => ⟨by rw [pd_bk _ (by decide)], pd_ne _ (by omega)⟩) (fun _ => pd_bk _ (by omega)))
  rw [pw_eC hi, pd_self, pd_bk _ (by decide)]
theorem pw_stape (k v : Nat) : (pw n ad cI cB cE S).set (3) (ad (3), .inl (cB, 4096, .inl (fun j => sb_b (va_up (S 3) k v j)))) = pw n ad cI cB cE (pd_st S 3 k v) := by
  refine pw_put (by omega) ?_ (fun j _ hj => pw_cg _ _ (fun _ => by rw [pd_bk _ (by decide)]) (fun _ => ⟨by rw [pd_bk _ (by decide)], by rw [pd_bk _ (by decide)]⟩) (fun q => absurd q hj) (fun _ => pd_bk _ (by decide)) (fun _ => pd_bk _ (by decide)) (fun _ => pd_bk _ (by decide)) (fun _ _ => by rw [pd_bk _ (by decide)]) (fun _ _ => ⟨by rw [pd_bk _ (by decide)], by rw [pd_bk _ (by decide)]⟩) (fun _ => pd_bk _ (by omega)))
  rw [pw_e3, pd_own]
theorem pw_sbyte (k v : Nat) : (pw n ad cI cB cE S).set (4) (ad (4), .inl (cB, n * 64, .inl (fun j => sb_b (va_up (S 0) k v j)))) = pw n ad cI cB cE (pd_st S 0 k v) := by
  refine pw_put (by omega) ?_ (fun j _ hj => pw_cg _ _ (fun _ => by rw [pd_bk _ (by decide)]) (fun _ => ⟨by rw [pd_bk _ (by decide)], by rw [pd_bk _ (by decide)]⟩) (fun _ => pd_bk _ (by decide)) (fun q => absurd q hj) (fun _ => pd_bk _ (by decide)) (fun _ => pd_bk _ (by decide)) (fun _ _ => by rw [pd_bk _ (by decide)]) (fun _ _ => ⟨by rw [pd_bk _ (by decide)], by rw [pd_bk _ (by decide)]⟩) (fun _ => pd_bk _ (by omega)))
  rw [pw_e4, pd_own]
theorem pw_srw (k v : Nat) : (pw n ad cI cB cE S).set (5) (ad (5), .inl (cI, n, .inl (fun j => nI (va_up (S 1) k v j)))) = pw n ad cI cB cE (pd_st S 1 k v) := by
  refine pw_put (by omega) ?_ (fun j _ hj => pw_cg _ _ (fun _ => by rw [pd_bk _ (by decide)]) (fun _ => ⟨by rw [pd_bk _ (by decide)], by rw [pd_bk _ (by decide)]⟩) (fun _ => pd_bk _ (by decide)) (fun _ => pd_bk _ (by decide)) (fun q => absurd q hj) (fun _ => pd_bk _ (by decide)) (fun _ _ => by rw [pd_bk _ (by decide)]) (fun _ _ => ⟨by rw [pd_bk _ (by decide)], by rw [pd_bk _ (by decide)]⟩) (fun _ => pd_bk _ (by omega)))
  rw [pw_e5, pd_own]
theorem pw_sun (k v : Nat) : (pw n ad cI cB cE S).set (6) (ad (6), .inl (cI, n, .inl (fun j => nI (va_up (S 2) k v j)))) = pw n ad cI cB cE (pd_st S 2 k v) := by
  refine pw_put (by omega) ?_ (fun j _ hj => pw_cg _ _ (fun _ => by rw [pd_bk _ (by decide)]) (fun _ => ⟨by rw [pd_bk _ (by decide)], by rw [pd_bk _ (by decide)]⟩) (fun _ => pd_bk _ (by decide)) (fun _ => pd_bk _ (by decide)) (fun _ => pd_bk _ (by decide)) (fun q => absurd q hj) (fun _ _ => by rw [pd_bk _ (by decide)]) (fun _ _ => ⟨by rw [pd_bk _ (by decide)], by rw [pd_bk _ (by decide)]⟩) (fun _ => pd_bk _ (by omega)))
  rw [pw_e6, pd_own]
theorem pw_srow {i : Nat} (hi : i < 32) (k v : Nat) : (pw n ad cI cB cE S).set (55 + i) (ad (55 + i), .inl (cI, 400, .inl (fun j => nI (va_up (S (8 + i)) k v j)))) = pw n ad cI cB cE (pd_st S (8 + i) k v) := by
  refine pw_put (by omega) ?_ (fun j _ hj => pw_cg _ _ (fun _ => by rw [pd_bk _ (by omega)]) (fun _ => ⟨by rw [pd_bk _ (by omega)], by rw [pd_bk _ (by omega)]⟩) (fun _ => pd_bk _ (by omega)) (fun _ => pd_bk _ (by omega)) (fun _ => pd_bk _ (by omega)) (fun _ => pd_bk _ (by omega)) (fun _ _ => by rw [pd_bk _ (by omega)]) (fun _ _ => ⟨by rw [pd_bk _ (by omega)], by rw [pd_bk _ (by omega)]⟩) (fun _ => pd_bk _ (by omega)))
  rw [pw_eR hi, pd_own]
theorem pw_bbyte (g : Nat → Nat) : (pw n ad cI cB cE S).set (4) (ad (4), .inl (cB, n * 64, .inl (fun j => sb_b (g j)))) = pw n ad cI cB cE (va_up S 0 g) := by
  refine pw_put (by omega) ?_ (fun j _ hj => pw_cg _ _ (fun _ => by rw [va_up_ne _ _ (by decide)]) (fun _ => ⟨by rw [va_up_ne _ _ (by decide)], by rw [va_up_ne _ _ (by decide)]⟩) (fun _ => va_up_ne _ _ (by decide)) (fun q => absurd q hj) (fun _ => va_up_ne _ _ (by decide)) (fun _ => va_up_ne _ _ (by decide)) (fun _ _ => by rw [va_up_ne _ _ (by decide)]) (fun _ _ => ⟨by rw [va_up_ne _ _ (by decide)], by rw [va_up_ne _ _ (by decide)]⟩) (fun _ => va_up_ne _ _ (by omega)))
  rw [pw_e4, va_up_self]
theorem pw_brow {i : Nat} (hi : i < 32) (g : Nat → Nat) : (pw n ad cI cB cE S).set (55 + i) (ad (55 + i), .inl (cI, 400, .inl (fun j => nI (g j)))) = pw n ad cI cB cE (va_up S (8 + i) g) := by
  refine pw_put (by omega) ?_ (fun j _ hj => pw_cg _ _ (fun _ => by rw [va_up_ne _ _ (by omega)]) (fun _ => ⟨by rw [va_up_ne _ _ (by omega)], by rw [va_up_ne _ _ (by omega)]⟩) (fun _ => va_up_ne _ _ (by omega)) (fun _ => va_up_ne _ _ (by omega)) (fun _ => va_up_ne _ _ (by omega)) (fun _ => va_up_ne _ _ (by omega)) (fun _ _ => by rw [va_up_ne _ _ (by omega)]) (fun _ _ => ⟨by rw [va_up_ne _ _ (by omega)], by rw [va_up_ne _ _ (by omega)]⟩) (fun _ => va_up_ne _ _ (by omega)))
  rw [pw_eR hi, va_up_self]
end PW
