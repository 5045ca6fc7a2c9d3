/-! WHAT PageDrive's constructor makes: 16 blocks of 5 cells, and the whole world in its order -/
abbrev pn_row (cI : ClassId) : va_E := .inl (cI, 400, .inl (fun _ => nI 0))
abbrev pn_blk (ad : Nat → Nat) (cI : ClassId) (i : Nat) : va_W := [(ad (7 + i), .inr (2, [.ref (ad (23 + 2 * i)), .ref (ad (23 + (2 * i + 1))), .int (nI 0)])), (ad (23 + 2 * i), .inr (3, [.ref (ad (55 + 2 * i)), .int (nI 0), .int (nI 0)])), (ad (55 + 2 * i), pn_row cI), (ad (23 + (2 * i + 1)), .inr (3, [.ref (ad (55 + (2 * i + 1))), .int (nI 0), .int (nI 0)])), (ad (55 + (2 * i + 1)), pn_row cI)]
def pn_B (ad : Nat → Nat) (cI : ClassId) : Nat → va_W
  | 0 => []
  | i + 1 => pn_B ad cI i ++ pn_blk ad cI i
theorem pn_B_cg {ad ad' : Nat → Nat} {cI : ClassId} (i : Nat) (h : ∀ k, (7 ≤ k ∧ k < 7 + i) ∨ (23 ≤ k ∧ k < 23 + 2 * i) ∨ (55 ≤ k ∧ k < 55 + 2 * i) → ad' k = ad k) : pn_B ad' cI i = pn_B ad cI i := by
  induction i with
  | zero => rfl
  | succ i ih =>
    unfold pn_B pn_blk
    rw [ih (fun k hk => h k (by omega)), h (7 + i) (by omega), h (23 + 2 * i) (by omega), h (23 + (2 * i + 1)) (by omega), h (55 + 2 * i) (by omega), h (55 + (2 * i + 1)) (by omega)]
theorem pn_B_len (ad : Nat → Nat) (cI : ClassId) (i : Nat) : (pn_B ad cI i).length = 5 * i := by
  induction i with
  | zero => rfl
  | succ i ih =>
    unfold pn_B
    rw [List.length_append, ih]
    show 5 * i + 5 = _
    omega
theorem pn_B_at {ad : Nat → Nat} {cI : ClassId} {i j r : Nat} {x : Nat × va_E} (hj : j < i) (hr : (pn_blk ad cI j)[r]? = some x) : (pn_B ad cI i)[5 * j + r]? = some x := by
  have h5 : r < 5 := (List.getElem?_eq_some_iff.mp hr).1
  induction i with
  | zero => omega
  | succ i ih =>
    unfold pn_B
    by_cases hq : j < i
    · rw [List.getElem?_append_left (by rw [pn_B_len]; omega)]
      exact ih hq
    · have hji : j = i := by omega
      subst hji
      rw [List.getElem?_append_right (by rw [pn_B_len]; omega), pn_B_len, Nat.add_sub_cancel_left]
      exact hr
def pn_s0 (n : Nat) : pdS := fun b j => if b = 2 then (if j < n then j else 0) else if b = 7 ∧ j = 0 then n else 0
theorem pn_s0_z {n b j : Nat} (h2 : b ≠ 2) (h7 : b ≠ 7 ∨ j ≠ 0) : pn_s0 n b j = 0 := by
  unfold pn_s0
  rw [if_neg h2, if_neg (fun q => h7.elim (fun z => z q.1) (fun z => z q.2))]
theorem pn_s0_7 (n : Nat) : pn_s0 n 7 0 = n := rfl
abbrev pn_base (n : Nat) (ad : Nat → Nat) (cI cB cE : ClassId) : va_W := [(ad 0, .inr (0, [.ref (ad 1), .ref (ad 2), .ref (ad 3), .int (nI 0)])), (ad 1, .inr (1, [.int (nI n), .ref (ad 4), .ref (ad 5), .ref (ad 6), .int (nI n), .int (nI 0)])), (ad 4, .inl (cB, n * 64, .inl (fun _ => sb_b 0))), (ad 5, .inl (cI, n, .inl (fun _ => nI 0))), (ad 6, .inl (cI, n, .inl (fun j => nI (if j < n then j else 0)))), (ad 2, .inl (cE, 16, .inr (.inr (.inr (.inr (fun j => if j < 16 then some (ad (7 + j)) else none))))))]
abbrev pn_end (ad : Nat → Nat) (cB : ClassId) : va_W := [(ad 3, .inl (cB, 4096, .inl (fun _ => sb_b 0)))]
def pn_R (k r : Nat) : Prop := (k = 0 ∧ r = 0) ∨ (k = 1 ∧ r = 1) ∨ (k = 4 ∧ r = 2) ∨ (k = 5 ∧ r = 3) ∨ (k = 6 ∧ r = 4) ∨ (k = 2 ∧ r = 5) ∨ (k = 3 ∧ r = 86) ∨ (7 ≤ k ∧ k < 23 ∧ r = 6 + 5 * (k - 7)) ∨ (23 ≤ k ∧ k < 55 ∧ k % 2 = 1 ∧ r = 6 + (5 * ((k - 23) / 2) + 1)) ∨ (23 ≤ k ∧ k < 55 ∧ k % 2 = 0 ∧ r = 6 + (5 * ((k - 23) / 2) + 3)) ∨ (55 ≤ k ∧ k < 87 ∧ k % 2 = 1 ∧ r = 6 + (5 * ((k - 55) / 2) + 2)) ∨ (55 ≤ k ∧ k < 87 ∧ k % 2 = 0 ∧ r = 6 + (5 * ((k - 55) / 2) + 4))
theorem pn_R_inj {k k' r : Nat} (h : pn_R k r) (h' : pn_R k' r) : k = k' := by
  unfold pn_R at h h'
  omega
theorem pn_all {n : Nat} {ad : Nat → Nat} {cI cB cE : ClassId} {k : Nat} (hk : k < 87) : ∃ (r : Nat) (x : va_E), ((pn_base n ad cI cB cE ++ pn_B ad cI 16) ++ pn_end ad cB)[r]? = some (ad k, x) ∧ pn_R k r ∧ (x = pw_E n ad cI cB cE (pn_s0 n) k ∨ (k = 2 ∧ x = .inl (cE, 16, .inr (.inr (.inr (.inr (fun j => if j < 16 then some (ad (7 + j)) else none))))))) := by
  have hb : ∀ {j r : Nat} {x : Nat × va_E}, j < 16 → (pn_blk ad cI j)[r]? = some x → ((pn_base n ad cI cB cE ++ pn_B ad cI 16) ++ pn_end ad cB)[6 + (5 * j + r)]? = some x := fun {j r x} hj hr => by
    have h1 := pn_B_at (i := 16) hj hr
    exact pn_gl (pn_gr (w1 := pn_base n ad cI cB cE) h1)
  by_cases c0 : k = 0
  · subst c0
    exact ⟨0, _, rfl, by unfold pn_R; omega, Or.inl (by rw [pw_e0, pn_s0_z (by decide) (by decide)])⟩
  by_cases c1 : k = 1
  · subst c1
    exact ⟨1, _, rfl, by unfold pn_R; omega, Or.inl (by rw [pw_e1, pn_s0_7, pn_s0_z (by decide) (Or.inr (by decide))])⟩
  by_cases c2 : k = 2
  · subst c2
    exact ⟨5, _, rfl, by unfold pn_R; omega, Or.inr ⟨rfl, rfl⟩⟩
  by_cases c3 : k = 3
  · subst c3
    refine ⟨86, .inl (cB, 4096, .inl (fun _ => sb_b 0)), ?_, by unfold pn_R; omega, Or.inl ?_⟩
    · have h1 := pn_gr (w1 := pn_base n ad cI cB cE ++ pn_B ad cI 16) (w2 := pn_end ad cB) (k := 0) rfl
      rw [List.length_append, pn_B_len] at h1
      exact h1
    · rw [pw_e3]
      congr 3
  by_cases c4 : k = 4
  · subst c4
    refine ⟨2, _, rfl, by unfold pn_R; omega, Or.inl ?_⟩
    rw [pw_e4]
    congr 3
  by_cases c5 : k = 5
  · subst c5
    refine ⟨3, _, rfl, by unfold pn_R; omega, Or.inl ?_⟩
    rw [pw_e5]
    congr 3
  by_cases c6 : k = 6
  · subst c6
    refine ⟨4, _, rfl, by unfold pn_R; omega, Or.inl ?_⟩
    rw [pw_e6]
    rfl
  by_cases c7 : k < 23
  · obtain ⟨i, rfl⟩ : ∃ i, k = 7 + i := ⟨k - 7, by omega⟩
    refine ⟨6 + (5 * i + 0), _, hb (j := i) (by omega) rfl, by unfold pn_R; omega, Or.inl ?_⟩
    rw [pw_eE (by omega), pn_s0_z (by decide) (Or.inl (by decide))]
  by_cases c8 : k < 55
  · by_cases hpar : k % 2 = 1
    · obtain ⟨i, rfl⟩ : ∃ i, k = 23 + 2 * i := ⟨(k - 23) / 2, by omega⟩
      refine ⟨6 + (5 * i + 1), _, hb (j := i) (by omega) rfl, by unfold pn_R; omega, Or.inl ?_⟩
      rw [pw_eC (by omega), pn_s0_z (by decide) (Or.inl (by decide)), pn_s0_z (by decide) (Or.inl (by decide))]
    · obtain ⟨i, rfl⟩ : ∃ i, k = 23 + (2 * i + 1) := ⟨(k - 23) / 2, by omega⟩
      refine ⟨6 + (5 * i + 3), _, hb (j := i) (by omega) rfl, by unfold pn_R; omega, Or.inl ?_⟩
      rw [pw_eC (by omega), pn_s0_z (by decide) (Or.inl (by decide)), pn_s0_z (by decide) (Or.inl (by decide))]
  · by_cases hpar : k % 2 = 1
    · obtain ⟨i, rfl⟩ : ∃ i, k = 55 + 2 * i := ⟨(k - 55) / 2, by omega⟩
      refine ⟨6 + (5 * i + 2), _, hb (j := i) (by omega) rfl, by unfold pn_R; omega, Or.inl ?_⟩
      rw [pw_eR (by omega), show (fun j => nI (pn_s0 n (8 + 2 * i) j)) = fun _ => nI 0 from funext fun j => by rw [pn_s0_z (by omega) (Or.inl (by omega))]]
    · obtain ⟨i, rfl⟩ : ∃ i, k = 55 + (2 * i + 1) := ⟨(k - 55) / 2, by omega⟩
      refine ⟨6 + (5 * i + 4), _, hb (j := i) (by omega) rfl, by unfold pn_R; omega, Or.inl ?_⟩
      rw [pw_eR (by omega), show (fun j => nI (pn_s0 n (8 + (2 * i + 1)) j)) = fun _ => nI 0 from funext fun j => by rw [pn_s0_z (by omega) (Or.inl (by omega))]]
theorem pn_arr {cA : ClassId} {N : Nat} {f g : Nat → Value} (h : ∀ j, j < N → f j = g j) : arrV cA N f = arrV cA N g := by
  unfold arrV
  congr 1
  apply Array.ext
  · simp
  · intro i h1 h2
    simp at h1
    simp [h i h1]
theorem pn_fin {D : va_G} {A : Nat → Prop} {n : Nat} {ad : Nat → Nat} {cI cB cE : ClassId} {H : Heap} (hP : va_P D pwCl ((pn_base n ad cI cB cE ++ pn_B ad cI 16) ++ pn_end ad cB) H) (hD : va_D A ((pn_base n ad cI cB cE ++ pn_B ad cI 16) ++ pn_end ad cB)) : va_P D pwCl (pw n ad cI cB cE (pn_s0 n)) H ∧ va_D A (pw n ad cI cB cE (pn_s0 n)) := by
  refine ⟨fun k q hq => ?_, fun i j x y hi hj hxy => ?_, fun k q hq => ?_⟩
  · obtain ⟨hk, -⟩ := pw_out hq
    rw [pw_at hk] at hq
    obtain ⟨r, x, h1, -, h3⟩ := pn_all (n := n) (ad := ad) (cI := cI) (cB := cB) (cE := cE) hk
    have h4 := hP r _ h1
    cases hq
    rcases h3 with rfl | ⟨rfl, rfl⟩
    · exact h4
    · rw [pw_e2]
      show H[ad 2]? = some (vp_cell cE (16, .inr (.inr (.inr (.inr (fun i => some (ad (7 + i))))))))
      have h5 : H[ad 2]? = some (vp_cell cE (16, .inr (.inr (.inr (.inr (fun j => if j < 16 then some (ad (7 + j)) else none)))))) := h4
      rw [h5, vp_cell_q, vp_cell_q]
      exact congrArg some (pn_arr (fun j hj => by rw [if_pos hj]))
  · obtain ⟨hik, hix⟩ := pw_out hi
    obtain ⟨hjk, hjy⟩ := pw_out hj
    obtain ⟨r, u, h1, h2, -⟩ := pn_all (n := n) (ad := ad) (cI := cI) (cB := cB) (cE := cE) hik
    obtain ⟨r', u', h1', h2', -⟩ := pn_all (n := n) (ad := ad) (cI := cI) (cB := cB) (cE := cE) hjk
    have h3 := hD.1 r r' _ _ h1 h1' (by show ad i = ad j; rw [← hix, ← hjy]; exact hxy)
    subst h3
    exact pn_R_inj h2 h2'
  · obtain ⟨hk, hx⟩ := pw_out hq
    obtain ⟨r, u, h1, -, -⟩ := pn_all (n := n) (ad := ad) (cI := cI) (cB := cB) (cE := cE) hk
    rw [hx]
    exact hD.2 r _ h1
section PL
variable {p : Program} {l : Launch} {e : Env} {R : Room} {s : State} {m : MethodId} {args : Array Value} {below : List Frame} {meth : Method} {c : Code} {Q : State → Prop}
theorem pn_loop {pc : Nat} (I : Nat → Nat → Nat → Heap → List Loc → Array Slot → Prop) (step : ∀ k cs ss H locs ls, I k cs ss H locs ls → (∀ k' cs' ss' H' locs' ls', k' < k → I k' cs' ss' H' locs' ls' → W p l e R s m args below meth c H' locs' cs' ss' Q (F0 m pc ls' [])) → W p l e R s m args below meth c H locs cs ss Q (F0 m pc ls [])) : ∀ k cs ss H locs ls, I k cs ss H locs ls → W p l e R s m args below meth c H locs cs ss Q (F0 m pc ls []) := by
  intro k
  induction k using Nat.strongRecOn with
  | ind k ih =>
    intro cs ss H locs ls h
    exact step k cs ss H locs ls h (fun k' cs' ss' H' locs' ls' hk hI => ih k' hk cs' ss' H' locs' ls' hI)
end PL
