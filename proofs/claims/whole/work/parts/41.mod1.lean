/-! THE MODEL, 1: small ones, look, fresh, write, read -/
set_option maxHeartbeats 4000000 in
set_option maxRecDepth 100000 in
/-- within -/
theorem c_MO_within (l : Launch) (dC : Nat → ClassId) (dI : Nat → Nat → Nat) (cI cB cE cL cZ : ClassId) (Wd : va_W) (x a b : Int32) (sz : Nat) : CMi l (dC, dI) (pw_ty cI cB cE cL cZ) y_MO_within w_MO_within ({ frames := 0, cells := 0, slots := 0, locals := 0 }) [.int x, .int a, .int b] (Wd) (fun _ : Unit => Wd) sz (fun r _ => (¬ x < a ∧ ¬ b < x ∧ r = nI 1) ∨ ((x < a ∨ b < x) ∧ r = nI 0)) := by
  refine Met.ofW (cc := b_MO_within) (maxL := 3) (ret := (some .boolean)) (by decide) rfl ?_
  intro p e s m args below meth c s₁ B hml hv
  obtain ⟨rfl, hsz, hP, hK, hD0⟩ := hv
  have hx := B.exec
  have hb := B.bytes
  have hret := B.returns
  have hts := atoms_spec (ws := w_MO_within) B.pre
  have hg : ∀ w ∈ wsG, w.before _ s = true := fun w h => hts w (List.mem_cons_of_mem _ h)
  have hown : s.vm.findClass "PageDriveModel" = some m.cls := findClass_of_methodNamed B.named
  have hlocks := B.notSynchronized
  subst hsz
  have hD := hD0.self (sz := s.heap.size)
  generalize hAe : va_A (Wd) s.heap.size = A at hD ⊢
  have hA : ∀ q : Nat, s.heap.size ≤ q → A q := fun q h => by rw [← hAe]; exact Or.inr h
  have hS : va_S A s.heap s.heap [] := va_S.rf
  have hl := lv_entry ([.int x, .int a, .int b]) (n := 3) (Nat.le_of_ble_eq_true rfl)
  rw [lg_entry_eq]
  generalize (lg_sl ([.int x, .int a, .int b]) ++ List.replicate (3 - (lg_sl ([.int x, .int a, .int b])).length) Slot.unset).toArray = ls at hl ⊢
  have hl : lv_has ls 3 [(0, .int x), (1, .int a), (2, .int b)] := hl
  refine lv_iload_n hx hb d_MO_within_0 rfl (lv_at hl 0 rfl) ?_
  refine lv_iload_n hx hb d_MO_within_1 rfl (lv_at hl 1 rfl) ?_
  refine lv_icmp_lt (tgt := 14) hx hb d_MO_within_2 (by decide) (fun h1 => ?_) (fun h1 => ?_)
  · refine lv_iconst (v := nI 0) hx hb d_MO_within_14 (by decide) ?_
    exact W.zret (v := (nI 0)) hx hb hret rfl (fun t9 ht9 hW9 => ⟨⟨_, (), rfl, Or.inr ⟨Or.inl h1, rfl⟩, by rw [ht9]; exact hP, va_K.moved hW9.alike hK, hD⟩, hS.F ht9⟩) hS.2.2 d_MO_within_15
  · refine lv_iload_n hx hb d_MO_within_5 rfl (lv_at hl 0 rfl) ?_
    refine lv_iload_n hx hb d_MO_within_6 rfl (lv_at hl 2 rfl) ?_
    refine lv_icmp_gt (tgt := 14) hx hb d_MO_within_7 (by decide) (fun h2 => ?_) (fun h2 => ?_)
    · refine lv_iconst (v := nI 0) hx hb d_MO_within_14 (by decide) ?_
      exact W.zret (v := (nI 0)) hx hb hret rfl (fun t9 ht9 hW9 => ⟨⟨_, (), rfl, Or.inr ⟨Or.inr h2, rfl⟩, by rw [ht9]; exact hP, va_K.moved hW9.alike hK, hD⟩, hS.F ht9⟩) hS.2.2 d_MO_within_15
    · refine lv_iconst (v := nI 1) hx hb d_MO_within_10 (by decide) ?_
      refine lv_goto (tgt := 15) hx hb d_MO_within_11 (by decide) ?_
      exact W.zret (v := (nI 1)) hx hb hret rfl (fun t9 ht9 hW9 => ⟨⟨_, (), rfl, Or.inl ⟨h1, h2, rfl⟩, by rw [ht9]; exact hP, va_K.moved hW9.alike hK, hD⟩, hS.F ht9⟩) hS.2.2 d_MO_within_15
set_option maxHeartbeats 4000000 in
set_option maxRecDepth 100000 in
/-- noFile -/
theorem c_MO_noFile (l : Launch) (dC : Nat → ClassId) (dI : Nat → Nat → Nat) (cI cB cE cL cZ : ClassId) (Wd : va_W) (x : Int32) (sz : Nat) : CMi l (dC, dI) (pw_ty cI cB cE cL cZ) y_MO_noFile w_MO_noFile ({ frames := 1, cells := 0, slots := 0, locals := 22 }) [.int x] (Wd) (fun _ : Unit => Wd) sz (fun r _ => (∃ f : Nat, f < 16 ∧ x = nI f ∧ r = nI 0) ∨ (pd_nof x ∧ r = nI 1)) := by
  refine Met.ofW (cc := b_MO_noFile) (maxL := 1) (ret := (some .boolean)) (by decide) rfl ?_
  intro p e s m args below meth c s₁ B hml hv
  obtain ⟨rfl, hsz, hP, hK, hD0⟩ := hv
  have hx := B.exec
  have hb := B.bytes
  have hret := B.returns
  have hts := atoms_spec (ws := w_MO_noFile) B.pre
  have hg : ∀ w ∈ wsG, w.before _ s = true := fun w h => hts w (List.mem_cons_of_mem _ h)
  have hown : s.vm.findClass "PageDriveModel" = some m.cls := findClass_of_methodNamed B.named
  have hlocks := B.notSynchronized
  subst hsz
  have hD := hD0.self (sz := s.heap.size)
  generalize hAe : va_A (Wd) s.heap.size = A at hD ⊢
  have hA : ∀ q : Nat, s.heap.size ≤ q → A q := fun q h => by rw [← hAe]; exact Or.inr h
  have hS : va_S A s.heap s.heap [] := va_S.rf
  have hl := lv_entry ([.int x]) (n := 1) (Nat.le_of_ble_eq_true rfl)
  rw [lg_entry_eq]
  generalize (lg_sl ([.int x]) ++ List.replicate (1 - (lg_sl ([.int x])).length) Slot.unset).toArray = ls at hl ⊢
  have hl : lv_has ls 1 [(0, .int x)] := hl
  refine lv_iload_n hx hb d_MO_noFile_0 rfl (lv_at hl 0 rfl) ?_
  refine lv_iconst (v := nI 0) hx hb d_MO_noFile_1 (by decide) ?_
  refine lv_bipush (v := nI 15) hx hb d_MO_noFile_2 (by decide) ?_
  refine pw_callip (va_runS (As := [.int x, .int (nI 0), .int (nI 15)]) (rest := []) ⟨hx, hb, hml, hown, hg⟩ (c_MO_within l dC dI cI cB cE cL cZ Wd x (nI 0) (nI 15) s.heap.size) (cwS 3 hg (gi_S (fun _ h => h) (wG_m11 (List.mem_of_getElem? (i := 27) rfl)) (wG_m11 (List.mem_of_getElem? (i := 28) rfl)) (wG_m1 (List.mem_of_getElem? (i := 6) rfl)) (wG_m11 (List.mem_of_getElem? (i := 29) rfl))) rfl rfl rfl (by decide +kernel) ⟨Nat.le_of_ble_eq_true rfl, Nat.le_of_ble_eq_true rfl⟩) (pw_ps hK hP hD [.int x, .int (nI 0), .int (nI 15)]) rfl rfl hl.1 rfl (lv_room (Nat.le_of_ble_eq_true rfl)) d_MO_noFile_4 ⟨Nat.le_of_ble_eq_true rfl, Nat.le_of_ble_eq_true rfl⟩) hD hS hA (fun r1 H locs hr hP hD hS => ?_)
  rcases hr with ⟨h1, h2, rfl⟩ | ⟨h1, rfl⟩
  · obtain ⟨j, hj1, hj2, rfl⟩ := pd_rng (a := 0) (b := 15) (by decide) (by decide) h1 h2
    refine pq_if_ne (tgt := 14) hx hb (by omega) d_MO_noFile_7 (by decide) (fun _ => ?_) (fun h9 => absurd h9 (by omega))
    refine lv_iconst (v := nI 0) hx hb d_MO_noFile_14 (by decide) ?_
    exact W.zret (v := (nI 0)) hx hb hret rfl (fun t9 ht9 hW9 => ⟨⟨_, (), rfl, Or.inl ⟨j, by omega, rfl, rfl⟩, by rw [ht9]; exact hP, va_K.moved hW9.alike hK, hD⟩, hS.F ht9⟩) hS.2.2 d_MO_noFile_15
  · refine pq_if_ne (tgt := 14) hx hb (by omega) d_MO_noFile_7 (by decide) (fun h9 => absurd h9 (by omega)) (fun _ => ?_)
    refine lv_iconst (v := nI 1) hx hb d_MO_noFile_10 (by decide) ?_
    refine lv_goto (tgt := 15) hx hb d_MO_noFile_11 (by decide) ?_
    exact W.zret (v := (nI 1)) hx hb hret rfl (fun t9 ht9 hW9 => ⟨⟨_, (), rfl, Or.inr ⟨fun f hf => h1.elim (fun q => pd_below q f (by omega) (by omega)) (fun q => pd_above (b := 15) (by decide) q f (by omega)), rfl⟩, by rw [ht9]; exact hP, va_K.moved hW9.alike hK, hD⟩, hS.F ht9⟩) hS.2.2 d_MO_noFile_15
set_option maxHeartbeats 4000000 in
set_option maxRecDepth 100000 in
/-- needed(x) -/
theorem c_MO_needed (l : Launch) (dC : Nat → ClassId) (dI : Nat → Nat → Nat) (cI cB cE cL cZ : ClassId) (Wd : va_W) (x : Nat) (hx0 : x < 1000000) (sz : Nat) : CMi l (dC, dI) (pw_ty cI cB cE cL cZ) y_MO_needed w_MO_needed ({ frames := 0, cells := 0, slots := 0, locals := 0 }) [.int (nI x)] (Wd) (fun _ : Unit => Wd) sz (fun r _ => r = nI (pd_pf x)) := by
  refine Met.ofW (cc := b_MO_needed) (maxL := 1) (ret := (some .int)) (by decide) rfl ?_
  intro p e s m args below meth c s₁ B hml hv
  obtain ⟨rfl, hsz, hP, hK, hD0⟩ := hv
  have hx := B.exec
  have hb := B.bytes
  have hret := B.returns
  have hts := atoms_spec (ws := w_MO_needed) B.pre
  have hg : ∀ w ∈ wsG, w.before _ s = true := fun w h => hts w (List.mem_cons_of_mem _ h)
  have hown : s.vm.findClass "PageDriveModel" = some m.cls := findClass_of_methodNamed B.named
  have hlocks := B.notSynchronized
  subst hsz
  have hD := hD0.self (sz := s.heap.size)
  generalize hAe : va_A (Wd) s.heap.size = A at hD ⊢
  have hA : ∀ q : Nat, s.heap.size ≤ q → A q := fun q h => by rw [← hAe]; exact Or.inr h
  have hS : va_S A s.heap s.heap [] := va_S.rf
  have hl := lv_entry ([.int (nI x)]) (n := 1) (Nat.le_of_ble_eq_true rfl)
  rw [lg_entry_eq]
  generalize (lg_sl ([.int (nI x)]) ++ List.replicate (1 - (lg_sl ([.int (nI x)])).length) Slot.unset).toArray = ls at hl ⊢
  have hl : lv_has ls 1 [(0, .int (nI x))] := hl
  refine lv_iload_n hx hb d_MO_needed_0 rfl (lv_at hl 0 rfl) ?_
  refine lv_bipush (v := nI 64) hx hb d_MO_needed_1 (by decide) ?_
  refine pq_iadd hx hb d_MO_needed_3 ?_
  refine lv_iconst (v := nI 1) hx hb d_MO_needed_4 (by decide) ?_
  refine pq_isub hx hb (by omega) d_MO_needed_5 ?_
  refine lv_bipush (v := nI 64) hx hb d_MO_needed_6 (by decide) ?_
  refine pq_idiv hx hb (by omega) (by omega) (by omega) d_MO_needed_8 ?_
  refine pq_top (y := nI (pd_pf x)) (by rw [show (x + 64 - 1) / 64 = pd_pf x by unfold pd_pf; omega]) ?_
  exact W.iret (v := (nI (pd_pf x))) hx hb hret (fun t9 ht9 hW9 => ⟨⟨_, (), rfl, rfl, by rw [ht9]; exact hP, va_K.moved hW9.alike hK, hD⟩, hS.F ht9⟩) hS.2.2 d_MO_needed_9
set_option maxHeartbeats 4000000 in
set_option maxRecDepth 100000 in
/-- thrown() -/
theorem c_MO_thrown (l : Launch) (dC : Nat → ClassId) (dI : Nat → Nat → Nat) (cI cB cE cL cZ : ClassId) (n : Nat) (am : Nat → Nat) (S : pdS) (sz : Nat) : CMi l (dC, dI) (pw_ty cI cB cE cL cZ) y_MO_thrown w_MO_thrown ({ frames := 0, cells := 0, slots := 0, locals := 0 }) [.ref (am 0)] (mw n am cI cL cZ S) (fun _ : Unit => mw n am cI cL cZ S) sz (fun r _ => r = nI (S 7 3)) := by
  refine Met.ofW (cc := b_MO_thrown) (maxL := 1) (ret := (some .int)) (by decide) rfl ?_
  intro p e s m args below meth c s₁ B hml hv
  obtain ⟨rfl, hsz, hP, hK, hD0⟩ := hv
  have hx := B.exec
  have hb := B.bytes
  have hret := B.returns
  have hts := atoms_spec (ws := w_MO_thrown) B.pre
  have hg : ∀ w ∈ wsG, w.before _ s = true := fun w h => hts w (List.mem_cons_of_mem _ h)
  have hown : s.vm.findClass "PageDriveModel" = some m.cls := findClass_of_methodNamed B.named
  have hlocks := B.notSynchronized
  subst hsz
  have hD := hD0.self (sz := s.heap.size)
  generalize hAe : va_A (mw n am cI cL cZ S) s.heap.size = A at hD ⊢
  have hA : ∀ q : Nat, s.heap.size ≤ q → A q := fun q h => by rw [← hAe]; exact Or.inr h
  have hS : va_S A s.heap s.heap [] := va_S.rf
  have hl := lv_entry ([.ref (am 0)]) (n := 1) (Nat.le_of_ble_eq_true rfl)
  rw [lg_entry_eq]
  generalize (lg_sl ([.ref (am 0)]) ++ List.replicate (1 - (lg_sl ([.ref (am 0)])).length) Slot.unset).toArray = ls at hl ⊢
  have hl : lv_has ls 1 [(0, .ref (am 0))] := hl
  refine lv_aload_n hx hb d_MO_thrown_0 rfl (lv_at hl 0 rfl) ?_
  refine va_get (C := "PageDriveModel") (T := F_MO) (N := 11) hx hb hg iw_MO hown hK hP (0) mw_g0 rfl 0 (by decide) (hg (Cond.fieldLink "PageDriveModel" 37 "PageDriveModel" "thrown" "I") (wG_m10 (List.mem_of_getElem? (i := 23) rfl))) (fun _ h9 => h9) rfl d_MO_thrown_1 ?_
  exact W.iret (v := (nI (S 7 3))) hx hb hret (fun t9 ht9 hW9 => ⟨⟨_, (), rfl, rfl, by rw [ht9]; exact hP, va_K.moved hW9.alike hK, hD⟩, hS.F ht9⟩) hS.2.2 d_MO_thrown_4
set_option maxHeartbeats 4000000 in
set_option maxRecDepth 100000 in
/-- fail(k) -/
theorem c_MO_fail (l : Launch) (dC : Nat → ClassId) (dI : Nat → Nat → Nat) (cI cB cE cL cZ : ClassId) (n : Nat) (am : Nat → Nat) (S : pdS) (k : Nat) (sz : Nat) : CMi l (dC, dI) (pw_ty cI cB cE cL cZ) y_MO_fail w_MO_fail ({ frames := 0, cells := 0, slots := 0, locals := 0 }) [.ref (am 0), .int (nI k)] (mw n am cI cL cZ S) (mw n am cI cL cZ) sz (fun r S2 => r = nI 0 ∧ S2 = pd_st S 7 3 k) := by
  refine Met.ofW (cc := b_MO_fail) (maxL := 2) (ret := (some .int)) (by decide) rfl ?_
  intro p e s m args below meth c s₁ B hml hv
  obtain ⟨rfl, hsz, hP, hK, hD0⟩ := hv
  have hx := B.exec
  have hb := B.bytes
  have hret := B.returns
  have hts := atoms_spec (ws := w_MO_fail) B.pre
  have hg : ∀ w ∈ wsG, w.before _ s = true := fun w h => hts w (List.mem_cons_of_mem _ h)
  have hown : s.vm.findClass "PageDriveModel" = some m.cls := findClass_of_methodNamed B.named
  have hlocks := B.notSynchronized
  subst hsz
  have hD := hD0.self (sz := s.heap.size)
  generalize hAe : va_A (mw n am cI cL cZ S) s.heap.size = A at hD ⊢
  have hA : ∀ q : Nat, s.heap.size ≤ q → A q := fun q h => by rw [← hAe]; exact Or.inr h
  have hS : va_S A s.heap s.heap [] := va_S.rf
  have hl := lv_entry ([.ref (am 0), .int (nI k)]) (n := 2) (Nat.le_of_ble_eq_true rfl)
  rw [lg_entry_eq]
  generalize (lg_sl ([.ref (am 0), .int (nI k)]) ++ List.replicate (2 - (lg_sl ([.ref (am 0), .int (nI k)])).length) Slot.unset).toArray = ls at hl ⊢
  have hl : lv_has ls 2 [(0, .ref (am 0)), (1, .int (nI k))] := hl
  refine lv_aload_n hx hb d_MO_fail_0 rfl (lv_at hl 0 rfl) ?_
  refine lv_iload_n hx hb d_MO_fail_1 rfl (lv_at hl 1 rfl) ?_
  refine pm_thr hx hb hg hown hK hP hD hS (hg (Cond.fieldLink "PageDriveModel" 37 "PageDriveModel" "thrown" "I") (wG_m10 (List.mem_of_getElem? (i := 23) rfl))) d_MO_fail_2 (fun H locs hP hD hS => ?_)
  generalize eS1 : pd_st S 7 3 k = S1 at hP hD
  refine lv_iconst (v := nI 0) hx hb d_MO_fail_5 (by decide) ?_
  exact W.iret (v := (nI 0)) hx hb hret (fun t9 ht9 hW9 => ⟨⟨_, _, rfl, ⟨rfl, by first | rfl | exact eS1.symm⟩, by rw [ht9]; exact hP, va_K.moved hW9.alike hK, hD⟩, hS.F ht9⟩) hS.2.2 d_MO_fail_6
set_option maxHeartbeats 4000000 in
set_option maxRecDepth 100000 in
/-- look() -/
theorem c_MO_look (l : Launch) (dC : Nat → ClassId) (dI : Nat → Nat → Nat) (cI cB cE cL cZ : ClassId) (n : Nat) (am : Nat → Nat) (S : pdS) (hv : pd_v 1024 S) (sz : Nat) : CMi l (dC, dI) (pw_ty cI cB cE cL cZ) y_MO_look w_MO_look ({ frames := 1, cells := 0, slots := 0, locals := 20 }) [.ref (am 0)] (mw n am cI cL cZ S) (mw n am cI cL cZ) sz (fun r S2 => r = nI (pd_nz (pd_ct S) 1024) ∧ (∀ q, q < 1024 → S2 1 q = pd_ct S q) ∧ ∀ b, b ≠ 1 → S2 b = S b) := by
  refine Met.ofW (cc := b_MO_look) (maxL := 3) (ret := (some .int)) (by decide) rfl ?_
  intro p e s m args below meth c s₁ B hml hv
  obtain ⟨rfl, hsz, hP, hK, hD0⟩ := hv
  have hx := B.exec
  have hb := B.bytes
  have hret := B.returns
  have hts := atoms_spec (ws := w_MO_look) B.pre
  have hg : ∀ w ∈ wsG, w.before _ s = true := fun w h => hts w (List.mem_cons_of_mem _ h)
  have hown : s.vm.findClass "PageDriveModel" = some m.cls := findClass_of_methodNamed B.named
  have hlocks := B.notSynchronized
  subst hsz
  have hD := hD0.self (sz := s.heap.size)
  generalize hAe : va_A (mw n am cI cL cZ S) s.heap.size = A at hD ⊢
  have hA : ∀ q : Nat, s.heap.size ≤ q → A q := fun q h => by rw [← hAe]; exact Or.inr h
  have hS : va_S A s.heap s.heap [] := va_S.rf
  have hl := lv_entry ([.ref (am 0)]) (n := 3) (Nat.le_of_ble_eq_true rfl)
  rw [lg_entry_eq]
  generalize (lg_sl ([.ref (am 0)]) ++ List.replicate (3 - (lg_sl ([.ref (am 0)])).length) Slot.unset).toArray = ls at hl ⊢
  have hl : lv_has ls 3 [(0, .ref (am 0))] := hl
  refine lv_iconst (v := nI 0) hx hb d_MO_look_0 (by decide) ?_
  refine lv_istore_n (lv' := [(1, .int (nI 0)), (0, .ref (am 0))]) hx hb d_MO_look_1 rfl hl (by decide) rfl (fun ls hl => ?_)
  refine pw_loop (fun mm H locs ls => ∃ (T : pdS) (k : Nat), mm = 1024 - k ∧ k ≤ 1024 ∧ (∀ b, b ≠ 1 → T b = S b) ∧ (∀ q, q < k → T 1 q = 0) ∧ va_P (dC, dI) pwCl (mw n am cI cL cZ T) H ∧ va_D A (mw n am cI cL cZ T) ∧ va_S A s.heap H locs ∧ lv_has ls 3 [(1, .int (nI k)), (0, .ref (am 0))]) ?_ _ _ _ _ ⟨S, 0, rfl, by omega, fun _ _ => rfl, fun q h => by omega, hP, hD, hS, hl⟩
  rintro mm H locs ls ⟨T, k, hmm, hk, hT, hz, hP, hD, hS, hl⟩ ih
  refine lv_iload_n hx hb d_MO_look_2 rfl (lv_at hl 0 rfl) ?_
  refine lv_sipush (v := nI 1024) hx hb d_MO_look_3 (by decide) ?_
  refine pq_icmp_ge (tgt := 22) hx hb (by omega) (by omega) d_MO_look_6 (by decide) (fun h1 => ?_) (fun h1 => ?_)
  · have hz : ∀ q, q < 1024 → T 1 q = 0 := fun q hq => hz q (by omega)
    refine lv_iconst (v := nI 0) hx hb d_MO_look_22 (by decide) ?_
    refine lv_istore_n (lv' := [(1, .int (nI 0)), (0, .ref (am 0))]) hx hb d_MO_look_23 rfl hl (by decide) rfl (fun ls hl => ?_)
    refine pw_loop (fun mm H locs ls => ∃ (T : pdS) (d : Nat), mm = 32 - d ∧ d ≤ 32 ∧ (∀ b, b ≠ 1 → T b = S b) ∧ (∀ q, q < 1024 → T 1 q = pd_sm (fun c => pd_rc (S (8 + c)) q (pd_pf (S 4 c))) d) ∧ va_P (dC, dI) pwCl (mw n am cI cL cZ T) H ∧ va_D A (mw n am cI cL cZ T) ∧ va_S A s.heap H locs ∧ lv_has ls 3 [(1, .int (nI d)), (0, .ref (am 0))]) ?_ _ _ _ _ ⟨T, 0, rfl, by omega, hT, hz, hP, hD, hS, hl⟩
    clear ih hP hD hS hl hz hT hmm hk h1
    rintro mm2 H locs ls ⟨T, d, hmm2, hd, hT, hc, hP, hD, hS, hl⟩ ih
    refine lv_iload_n hx hb d_MO_look_24 rfl (lv_at hl 0 rfl) ?_
    refine lv_bipush (v := nI 32) hx hb d_MO_look_25 (by decide) ?_
    refine pq_icmp_ge (tgt := 78) hx hb (by omega) (by omega) d_MO_look_27 (by decide) (fun h2 => ?_) (fun h2 => ?_)
    · have hct : ∀ q, q < 1024 → T 1 q = pd_ct S q := fun q hq => by rw [hc q hq, show d = 32 by omega]; rfl
      refine lv_iconst (v := nI 0) hx hb d_MO_look_78 (by decide) ?_
      refine lv_istore_n (lv' := [(1, .int (nI 0)), (0, .ref (am 0))]) hx hb d_MO_look_79 rfl hl (by decide) rfl (fun ls hl => ?_)
      refine lv_iconst (v := nI 0) hx hb d_MO_look_80 (by decide) ?_
      refine lv_istore_n (lv' := [(2, .int (nI 0)), (1, .int (nI 0)), (0, .ref (am 0))]) hx hb d_MO_look_81 rfl hl (by decide) rfl (fun ls hl => ?_)
      refine pw_loop (fun mm H locs ls => ∃ k : Nat, mm = 1024 - k ∧ k ≤ 1024 ∧ va_P (dC, dI) pwCl (mw n am cI cL cZ T) H ∧ va_D A (mw n am cI cL cZ T) ∧ va_S A s.heap H locs ∧ lv_has ls 3 [(2, .int (nI k)), (1, .int (nI (pd_nz (pd_ct S) k))), (0, .ref (am 0))]) ?_ _ _ _ _ ⟨0, rfl, by omega, hP, hD, hS, hl⟩
      rintro mm3 H locs ls ⟨k, hmm3, hk, hP, hD, hS, hl⟩ ih
      refine lv_iload_n hx hb d_MO_look_82 rfl (lv_at hl 0 rfl) ?_
      refine lv_sipush (v := nI 1024) hx hb d_MO_look_83 (by decide) ?_
      refine pq_icmp_ge (tgt := 112) hx hb (by omega) (by omega) d_MO_look_86 (by decide) (fun h3 => ?_) (fun h3 => ?_)
      · have hk16 : k = 1024 := by omega
        subst hk16
        refine lv_iload_n hx hb d_MO_look_112 rfl (lv_at hl 1 rfl) ?_
        exact W.iret (v := (nI (pd_nz (pd_ct S) 1024))) hx hb hret (fun t9 ht9 hW9 => ⟨⟨_, T, rfl, ⟨rfl, hct, hT⟩, by rw [ht9]; exact hP, va_K.moved hW9.alike hK, hD⟩, hS.F ht9⟩) hS.2.2 d_MO_look_113
      · have hbd := pd_ct_bd hv k
        have hTk := hct k h3
        refine lv_iload_n hx hb d_MO_look_89 rfl (lv_at hl 1 rfl) ?_
        refine lv_aload_n hx hb d_MO_look_90 rfl (lv_at hl 2 rfl) ?_
        refine va_get (C := "PageDriveModel") (T := F_MO) (N := 11) hx hb hg iw_MO hown hK hP (0) mw_g0 rfl 10 (by decide) (hg (Cond.fieldLink "PageDriveModel" 30 "PageDriveModel" "seen" "[I") (wG_m10 (List.mem_of_getElem? (i := 33) rfl))) (fun _ h9 => h9) rfl d_MO_look_91 ?_
        refine lv_iload_n hx hb d_MO_look_94 rfl (lv_at hl 0 rfl) ?_
        refine pq_iald hx hb hK hP 7 0 mw_g7 rfl (by omega) (by omega) d_MO_look_95 ?_
        refine pq_if_le (tgt := 103) hx hb (by omega) d_MO_look_96 (by decide) (fun h4 => ?_) (fun h4 => ?_)
        · refine lv_iconst (v := nI 0) hx hb d_MO_look_103 (by decide) ?_
          refine pq_iadd hx hb d_MO_look_104 ?_
          refine lv_istore_n (lv' := [(1, .int (nI ((pd_nz (pd_ct S) k) + 0))), (2, .int (nI k)), (0, .ref (am 0))]) hx hb d_MO_look_105 rfl hl (by decide) rfl (fun ls hl => ?_)
          refine lv_iinc (v := (nI (k + 1))) (lv' := [(2, .int (nI (k + 1))), (1, .int (nI ((pd_nz (pd_ct S) k) + 0))), (0, .ref (am 0))]) hx hb d_MO_look_106 hl (k := 1) rfl (pq_inc _) (by decide) rfl (fun ls hl => ?_)
          refine lv_goto (tgt := 82) hx hb d_MO_look_109 (by decide) ?_
          exact ih _ _ _ _ (by omega) ⟨k + 1, rfl, by omega, hP, hD, hS, by simp only [pd_nz]; rw [if_neg (by omega)]; exact hl⟩
        · refine lv_iconst (v := nI 1) hx hb d_MO_look_99 (by decide) ?_
          refine lv_goto (tgt := 104) hx hb d_MO_look_100 (by decide) ?_
          refine pq_iadd hx hb d_MO_look_104 ?_
          refine lv_istore_n (lv' := [(1, .int (nI ((pd_nz (pd_ct S) k) + 1))), (2, .int (nI k)), (0, .ref (am 0))]) hx hb d_MO_look_105 rfl hl (by decide) rfl (fun ls hl => ?_)
          refine lv_iinc (v := (nI (k + 1))) (lv' := [(2, .int (nI (k + 1))), (1, .int (nI ((pd_nz (pd_ct S) k) + 1))), (0, .ref (am 0))]) hx hb d_MO_look_106 hl (k := 1) rfl (pq_inc _) (by decide) rfl (fun ls hl => ?_)
          refine lv_goto (tgt := 82) hx hb d_MO_look_109 (by decide) ?_
          exact ih _ _ _ _ (by omega) ⟨k + 1, rfl, by omega, hP, hD, hS, by simp only [pd_nz]; rw [if_pos (by omega)]; exact hl⟩
    · have hs4 := (hv.1 d h2).1
      have h400 : pd_pf (S 4 d) ≤ 400 := by unfold pd_pf; omega
      refine lv_iconst (v := nI 0) hx hb d_MO_look_30 (by decide) ?_
      refine lv_istore_n (lv' := [(2, .int (nI 0)), (1, .int (nI d)), (0, .ref (am 0))]) hx hb d_MO_look_31 rfl hl (by decide) rfl (fun ls hl => ?_)
      refine pw_loop (fun mm H locs ls => ∃ (T : pdS) (k : Nat), mm = pd_pf (S 4 d) - k ∧ k ≤ pd_pf (S 4 d) ∧ (∀ b, b ≠ 1 → T b = S b) ∧ (∀ q, q < 1024 → T 1 q = pd_sm (fun c => pd_rc (S (8 + c)) q (pd_pf (S 4 c))) d + pd_rc (S (8 + d)) q k) ∧ va_P (dC, dI) pwCl (mw n am cI cL cZ T) H ∧ va_D A (mw n am cI cL cZ T) ∧ va_S A s.heap H locs ∧ lv_has ls 3 [(2, .int (nI k)), (1, .int (nI d)), (0, .ref (am 0))]) ?_ _ _ _ _ ⟨T, 0, rfl, by omega, hT, hc, hP, hD, hS, hl⟩
      clear hP hD hS hl hc hT
      rintro mm3 H locs ls ⟨T, k, hmm3, hk, hT, hc, hP, hD, hS, hl⟩ ih2
      have hT4 : T 4 d = S 4 d := by rw [hT 4 (by decide)]
      have hTr : T (8 + d) = S (8 + d) := hT _ (by omega)
      refine lv_iload_n hx hb d_MO_look_32 rfl (lv_at hl 0 rfl) ?_
      refine lv_aload_n hx hb d_MO_look_33 rfl (lv_at hl 2 rfl) ?_
      refine va_get (C := "PageDriveModel") (T := F_MO) (N := 11) hx hb hg iw_MO hown hK hP (0) mw_g0 rfl 6 (by decide) (hg (Cond.fieldLink "PageDriveModel" 20 "PageDriveModel" "sizes" "[I") (wG_m10 (List.mem_of_getElem? (i := 29) rfl))) (fun _ h9 => h9) rfl d_MO_look_34 ?_
      refine lv_iload_n hx hb d_MO_look_37 rfl (lv_at hl 1 rfl) ?_
      refine pq_iald hx hb hK hP 4 0 mw_g4 rfl (by omega) (by omega) d_MO_look_38 ?_
      refine pw_callip (va_runS (As := [.int (nI (T 4 d))]) (rest := [.int (nI k)]) ⟨hx, hb, hml, hown, hg⟩ (c_MO_needed l dC dI cI cB cE cL cZ (mw n am cI cL cZ T) (T 4 d) (by omega) H.size) (cwS 1 hg (gi_S (fun _ h => h) (wG_m12 (List.mem_of_getElem? (i := 4) rfl)) (wG_m12 (List.mem_of_getElem? (i := 5) rfl)) (wG_m1 (List.mem_of_getElem? (i := 6) rfl)) (wG_m12 (List.mem_of_getElem? (i := 6) rfl))) rfl rfl rfl (by decide +kernel) ⟨Nat.le_of_ble_eq_true rfl, Nat.le_of_ble_eq_true rfl⟩) (pw_ps hK hP hD [.int (nI (T 4 d))]) rfl rfl hl.1 rfl (lv_room (Nat.le_of_ble_eq_true rfl)) d_MO_look_39 ⟨Nat.le_of_ble_eq_true rfl, Nat.le_of_ble_eq_true rfl⟩) hD hS hA (fun r1 H locs hr hP hD hS => ?_)
      subst hr
      refine pq_top (y := nI (pd_pf (S 4 d))) (by rw [hT4]) ?_
      refine pq_icmp_ge (tgt := 72) hx hb (by omega) (by omega) d_MO_look_42 (by decide) (fun h3 => ?_) (fun h3 => ?_)
      · have hkk : k = pd_pf (S 4 d) := by omega
        subst hkk
        refine lv_iinc (v := (nI (d + 1))) (lv' := [(1, .int (nI (d + 1))), (2, .int (nI (pd_pf (S 4 d)))), (0, .ref (am 0))]) hx hb d_MO_look_72 hl (k := 1) rfl (pq_inc _) (by decide) rfl (fun ls hl => ?_)
        refine lv_goto (tgt := 24) hx hb d_MO_look_75 (by decide) ?_
        exact ih _ _ _ _ (by omega) ⟨T, d + 1, rfl, by omega, hT, fun q hq => hc q hq, hP, hD, hS, lv_sub hl [0, 2] rfl⟩
      · have hpg := hv.2.1 d k h2 h3
        refine lv_aload_n hx hb d_MO_look_45 rfl (lv_at hl 2 rfl) ?_
        refine va_get (C := "PageDriveModel") (T := F_MO) (N := 11) hx hb hg iw_MO hown hK hP (0) mw_g0 rfl 10 (by decide) (hg (Cond.fieldLink "PageDriveModel" 30 "PageDriveModel" "seen" "[I") (wG_m10 (List.mem_of_getElem? (i := 33) rfl))) (fun _ h9 => h9) rfl d_MO_look_46 ?_
        refine lv_aload_n hx hb d_MO_look_49 rfl (lv_at hl 2 rfl) ?_
        refine va_get (C := "PageDriveModel") (T := F_MO) (N := 11) hx hb hg iw_MO hown hK hP (0) mw_g0 rfl 5 (by decide) (hg (Cond.fieldLink "PageDriveModel" 17 "PageDriveModel" "rows" "[I") (wG_m10 (List.mem_of_getElem? (i := 28) rfl))) (fun _ h9 => h9) rfl d_MO_look_50 ?_
        refine lv_sipush (v := nI 400) hx hb d_MO_look_53 (by decide) ?_
        refine lv_iload_n hx hb d_MO_look_56 rfl (lv_at hl 1 rfl) ?_
        refine pq_imul hx hb d_MO_look_57 ?_
        refine lv_iload_n hx hb d_MO_look_58 rfl (lv_at hl 0 rfl) ?_
        refine pq_iadd hx hb d_MO_look_59 ?_
        refine pm_rowld (d := d) (k := k) hx hb hK hP (by omega) (by omega) (by omega) rfl d_MO_look_60 ?_
        refine pq_top (y := nI (S (8 + d) k)) (by rw [hTr]) ?_
        refine lv_dup2_11 hx hb d_MO_look_61 rfl rfl ?_
        refine pq_iald hx hb hK hP 7 0 mw_g7 rfl (by omega) (by omega) d_MO_look_62 ?_
        refine lv_iconst (v := nI 1) hx hb d_MO_look_63 (by decide) ?_
        refine pq_iadd hx hb d_MO_look_64 ?_
        refine pm_seen hx hb hK hP hD hS (by omega) rfl d_MO_look_65 (fun H locs hP hD hS => ?_)
        generalize eS2 : pd_st T 1 (S (8 + d) k) ((T 1 (S (8 + d) k)) + 1) = S2 at hP hD
        refine lv_iinc (v := (nI (k + 1))) (lv' := [(2, .int (nI (k + 1))), (1, .int (nI d)), (0, .ref (am 0))]) hx hb d_MO_look_66 hl (k := 0) rfl (pq_inc _) (by decide) rfl (fun ls hl => ?_)
        refine lv_goto (tgt := 32) hx hb d_MO_look_69 (by decide) ?_
        exact ih2 _ _ _ _ (by omega) ⟨_, k + 1, rfl, by omega, fun b hb => by rw [← eS2, pd_bk _ hb, hT b hb], fun q hq => by
          by_cases hqp : q = S (8 + d) k
          · subst hqp
            rw [← eS2, pd_self, hc _ hq]
            simp only [pd_rc, if_true]
            omega
          · rw [← eS2, pd_ne _ hqp, hc q hq]
            simp only [pd_rc]
            rw [if_neg (fun z => hqp z.symm)]
            omega, hP, hD, hS, hl⟩
  · refine lv_aload_n hx hb d_MO_look_9 rfl (lv_at hl 1 rfl) ?_
    refine va_get (C := "PageDriveModel") (T := F_MO) (N := 11) hx hb hg iw_MO hown hK hP (0) mw_g0 rfl 10 (by decide) (hg (Cond.fieldLink "PageDriveModel" 30 "PageDriveModel" "seen" "[I") (wG_m10 (List.mem_of_getElem? (i := 33) rfl))) (fun _ h9 => h9) rfl d_MO_look_10 ?_
    refine lv_iload_n hx hb d_MO_look_13 rfl (lv_at hl 0 rfl) ?_
    refine lv_iconst (v := nI 0) hx hb d_MO_look_14 (by decide) ?_
    refine pm_seen hx hb hK hP hD hS (by omega) rfl d_MO_look_15 (fun H locs hP hD hS => ?_)
    generalize eS3 : pd_st T 1 k 0 = S3 at hP hD
    refine lv_iinc (v := (nI (k + 1))) (lv' := [(1, .int (nI (k + 1))), (0, .ref (am 0))]) hx hb d_MO_look_16 hl (k := 0) rfl (pq_inc _) (by decide) rfl (fun ls hl => ?_)
    refine lv_goto (tgt := 2) hx hb d_MO_look_19 (by decide) ?_
    exact ih _ _ _ _ (by omega) ⟨_, k + 1, rfl, by omega, fun b hb => by rw [← eS3, pd_bk _ hb, hT b hb], fun q hq => by rw [← eS3, pd_at]; by_cases hqk : q = k; rw [if_pos ⟨rfl, hqk⟩]; rw [if_neg (fun z => hqk z.2)]; exact hz q (by omega), hP, hD, hS, hl⟩
set_option maxHeartbeats 4000000 in
set_option maxRecDepth 100000 in
/-- fresh() -/
theorem c_MO_fresh (l : Launch) (dC : Nat → ClassId) (dI : Nat → Nat → Nat) (cI cB cE cL cZ : ClassId) (n : Nat) (am : Nat → Nat) (S : pdS) (hb1 : ∀ q, q < 1024 → S 1 q < 1000000) (hfr : pd_nz (S 1) 1024 < 1024) (sz : Nat) : CMi l (dC, dI) (pw_ty cI cB cE cL cZ) y_MO_fresh w_MO_fresh ({ frames := 0, cells := 0, slots := 0, locals := 0 }) [.ref (am 0)] (mw n am cI cL cZ S) (mw n am cI cL cZ) sz (fun r S2 => ∃ q, q < 1024 ∧ S 1 q = 0 ∧ r = nI q ∧ S2 = pd_st S 1 q 1) := by
  refine Met.ofW (cc := b_MO_fresh) (maxL := 2) (ret := (some .int)) (by decide) rfl ?_
  intro p e s m args below meth c s₁ B hml hv
  obtain ⟨rfl, hsz, hP, hK, hD0⟩ := hv
  have hx := B.exec
  have hb := B.bytes
  have hret := B.returns
  have hts := atoms_spec (ws := w_MO_fresh) B.pre
  have hg : ∀ w ∈ wsG, w.before _ s = true := fun w h => hts w (List.mem_cons_of_mem _ h)
  have hown : s.vm.findClass "PageDriveModel" = some m.cls := findClass_of_methodNamed B.named
  have hlocks := B.notSynchronized
  subst hsz
  have hD := hD0.self (sz := s.heap.size)
  generalize hAe : va_A (mw n am cI cL cZ S) s.heap.size = A at hD ⊢
  have hA : ∀ q : Nat, s.heap.size ≤ q → A q := fun q h => by rw [← hAe]; exact Or.inr h
  have hS : va_S A s.heap s.heap [] := va_S.rf
  have hl := lv_entry ([.ref (am 0)]) (n := 2) (Nat.le_of_ble_eq_true rfl)
  rw [lg_entry_eq]
  generalize (lg_sl ([.ref (am 0)]) ++ List.replicate (2 - (lg_sl ([.ref (am 0)])).length) Slot.unset).toArray = ls at hl ⊢
  have hl : lv_has ls 2 [(0, .ref (am 0))] := hl
  obtain ⟨q0, hq0, hq1⟩ := pd_nz_free hfr
  refine lv_iconst (v := nI 0) hx hb d_MO_fresh_0 (by decide) ?_
  refine lv_istore_n (lv' := [(1, .int (nI 0)), (0, .ref (am 0))]) hx hb d_MO_fresh_1 rfl hl (by decide) rfl (fun ls hl => ?_)
  refine pw_loop (fun mm H locs ls => ∃ k : Nat, mm = q0 - k ∧ k ≤ q0 ∧ va_P (dC, dI) pwCl (mw n am cI cL cZ S) H ∧ va_D A (mw n am cI cL cZ S) ∧ va_S A s.heap H locs ∧ lv_has ls 2 [(1, .int (nI k)), (0, .ref (am 0))]) ?_ _ _ _ _ ⟨0, rfl, by omega, hP, hD, hS, hl⟩
  rintro mm H locs ls ⟨k, hmm, hk, hP, hD, hS, hl⟩ ih
  have hbk := hb1 k (by omega)
  refine lv_aload_n hx hb d_MO_fresh_2 rfl (lv_at hl 1 rfl) ?_
  refine va_get (C := "PageDriveModel") (T := F_MO) (N := 11) hx hb hg iw_MO hown hK hP (0) mw_g0 rfl 10 (by decide) (hg (Cond.fieldLink "PageDriveModel" 30 "PageDriveModel" "seen" "[I") (wG_m10 (List.mem_of_getElem? (i := 33) rfl))) (fun _ h9 => h9) rfl d_MO_fresh_3 ?_
  refine lv_iload_n hx hb d_MO_fresh_6 rfl (lv_at hl 0 rfl) ?_
  refine pq_iald hx hb hK hP 7 0 mw_g7 rfl (by omega) (by omega) d_MO_fresh_7 ?_
  refine pq_if_le (tgt := 17) hx hb (by omega) d_MO_fresh_8 (by decide) (fun h1 => ?_) (fun h1 => ?_)
  · refine lv_aload_n hx hb d_MO_fresh_17 rfl (lv_at hl 1 rfl) ?_
    refine va_get (C := "PageDriveModel") (T := F_MO) (N := 11) hx hb hg iw_MO hown hK hP (0) mw_g0 rfl 10 (by decide) (hg (Cond.fieldLink "PageDriveModel" 30 "PageDriveModel" "seen" "[I") (wG_m10 (List.mem_of_getElem? (i := 33) rfl))) (fun _ h9 => h9) rfl d_MO_fresh_18 ?_
    refine lv_iload_n hx hb d_MO_fresh_21 rfl (lv_at hl 0 rfl) ?_
    refine lv_iconst (v := nI 1) hx hb d_MO_fresh_22 (by decide) ?_
    refine pm_seen hx hb hK hP hD hS (by omega) rfl d_MO_fresh_23 (fun H locs hP hD hS => ?_)
    generalize eS1 : pd_st S 1 k 1 = S1 at hP hD
    refine lv_iload_n hx hb d_MO_fresh_24 rfl (lv_at hl 0 rfl) ?_
    exact W.iret (v := (nI k)) hx hb hret (fun t9 ht9 hW9 => ⟨⟨_, _, rfl, ⟨k, by omega, h1, rfl, by first | rfl | exact eS1.symm⟩, by rw [ht9]; exact hP, va_K.moved hW9.alike hK, hD⟩, hS.F ht9⟩) hS.2.2 d_MO_fresh_25
  · have hne : k ≠ q0 := fun q => by rw [q] at h1; omega
    refine lv_iinc (v := (nI (k + 1))) (lv' := [(1, .int (nI (k + 1))), (0, .ref (am 0))]) hx hb d_MO_fresh_11 hl (k := 0) rfl (pq_inc _) (by decide) rfl (fun ls hl => ?_)
    refine lv_goto (tgt := 2) hx hb d_MO_fresh_14 (by decide) ?_
    exact ih _ _ _ _ (by omega) ⟨k + 1, rfl, by omega, hP, hD, hS, hl⟩
set_option maxHeartbeats 4000000 in
set_option maxRecDepth 100000 in
/-- write(page, i, b) -/
theorem c_MO_write (l : Launch) (dC : Nat → ClassId) (dI : Nat → Nat → Nat) (cI cB cE cL cZ : ClassId) (n : Nat) (am : Nat → Nat) (S : pdS) (pg i b : Nat) (hp : pg < 1024) (hi : i < 64) (hb0 : b < 256) (h0 : ∀ j, S 0 j < 256) (sz : Nat) : CMv l (dC, dI) (pw_ty cI cB cE cL cZ) y_MO_write w_MO_write ({ frames := 0, cells := 0, slots := 0, locals := 0 }) [.ref (am 0), .int (nI pg), .int (nI i), .int (nI b)] (mw n am cI cL cZ S) (mw n am cI cL cZ) sz (fun S2 => S2 = pd_st S 0 (64 * pg + i) b) := by
  refine Met.ofW (cc := b_MO_write) (maxL := 6) (ret := none) (by decide) rfl ?_
  intro p e s m args below meth c s₁ B hml hv
  obtain ⟨rfl, hsz, hP, hK, hD0⟩ := hv
  have hx := B.exec
  have hb := B.bytes
  have hret := B.returns
  have hts := atoms_spec (ws := w_MO_write) B.pre
  have hg : ∀ w ∈ wsG, w.before _ s = true := fun w h => hts w (List.mem_cons_of_mem _ h)
  have hown : s.vm.findClass "PageDriveModel" = some m.cls := findClass_of_methodNamed B.named
  have hlocks := B.notSynchronized
  subst hsz
  have hD := hD0.self (sz := s.heap.size)
  generalize hAe : va_A (mw n am cI cL cZ S) s.heap.size = A at hD ⊢
  have hA : ∀ q : Nat, s.heap.size ≤ q → A q := fun q h => by rw [← hAe]; exact Or.inr h
  have hS : va_S A s.heap s.heap [] := va_S.rf
  have hl := lv_entry ([.ref (am 0), .int (nI pg), .int (nI i), .int (nI b)]) (n := 6) (Nat.le_of_ble_eq_true rfl)
  rw [lg_entry_eq]
  generalize (lg_sl ([.ref (am 0), .int (nI pg), .int (nI i), .int (nI b)]) ++ List.replicate (6 - (lg_sl ([.ref (am 0), .int (nI pg), .int (nI i), .int (nI b)])).length) Slot.unset).toArray = ls at hl ⊢
  have hl : lv_has ls 6 [(0, .ref (am 0)), (1, .int (nI pg)), (2, .int (nI i)), (3, .int (nI b))] := hl
  refine lv_bipush (v := nI 8) hx hb d_MO_write_0 (by decide) ?_
  refine lv_iload_n hx hb d_MO_write_2 rfl (lv_at hl 1 rfl) ?_
  refine pq_imul hx hb d_MO_write_3 ?_
  refine lv_iload_n hx hb d_MO_write_4 rfl (lv_at hl 2 rfl) ?_
  refine lv_bipush (v := nI 8) hx hb d_MO_write_5 (by decide) ?_
  refine pq_idiv hx hb (by omega) (by omega) (by omega) d_MO_write_7 ?_
  refine pq_iadd hx hb d_MO_write_8 ?_
  refine lv_istore (lv' := [(4, .int (nI ((8 * pg) + (i / 8)))), (0, .ref (am 0)), (1, .int (nI pg)), (2, .int (nI i)), (3, .int (nI b))]) hx hb d_MO_write_9 hl (by decide) rfl (fun ls hl => ?_)
  refine lv_bipush (v := nI 8) hx hb d_MO_write_11 (by decide) ?_
  refine lv_iload_n hx hb d_MO_write_13 rfl (lv_at hl 3 rfl) ?_
  refine lv_bipush (v := nI 8) hx hb d_MO_write_14 (by decide) ?_
  refine pq_irem hx hb (by omega) (by omega) (by omega) d_MO_write_16 ?_
  refine pq_imul hx hb d_MO_write_17 ?_
  refine lv_istore (lv' := [(5, .int (nI (8 * (i % 8)))), (4, .int (nI ((8 * pg) + (i / 8)))), (0, .ref (am 0)), (1, .int (nI pg)), (2, .int (nI i)), (3, .int (nI b))]) hx hb d_MO_write_18 hl (by decide) rfl (fun ls hl => ?_)
  refine lv_aload_n hx hb d_MO_write_20 rfl (lv_at hl 2 rfl) ?_
  refine va_get (C := "PageDriveModel") (T := F_MO) (N := 11) hx hb hg iw_MO hown hK hP (0) mw_g0 rfl 4 (by decide) (hg (Cond.fieldLink "PageDriveModel" 13 "PageDriveModel" "pages" "[J") (wG_m10 (List.mem_of_getElem? (i := 27) rfl))) (fun _ h9 => h9) rfl d_MO_write_21 ?_
  refine lv_iload hx hb d_MO_write_24 (lv_at hl 1 rfl) ?_
  refine lv_aload_n hx hb d_MO_write_26 rfl (lv_at hl 2 rfl) ?_
  refine va_get (C := "PageDriveModel") (T := F_MO) (N := 11) hx hb hg iw_MO hown hK hP (0) mw_g0 rfl 4 (by decide) (hg (Cond.fieldLink "PageDriveModel" 13 "PageDriveModel" "pages" "[J") (wG_m10 (List.mem_of_getElem? (i := 27) rfl))) (fun _ h9 => h9) rfl d_MO_write_27 ?_
  refine lv_iload hx hb d_MO_write_30 (lv_at hl 1 rfl) ?_
  refine pm_pgld hx hb hK hP (by omega) rfl d_MO_write_32 ?_
  refine lv_ldc2 hx hb hown (hg (Cond.constantLong "PageDriveModel" 51 (255)) (wG_m11 (List.mem_of_getElem? (i := 33) rfl))) d_MO_write_33 ?_
  refine lv_iload hx hb d_MO_write_36 (lv_at hl 0 rfl) ?_
  refine lv_lshl hx hb d_MO_write_38 rfl ?_
  refine lv_ldc2 hx hb hown (hg (Cond.constantLong "PageDriveModel" 56 (-1)) (wG_m12 (List.mem_of_getElem? (i := 13) rfl))) d_MO_write_39 ?_
  refine lv_lxor hx hb d_MO_write_42 ?_
  refine lv_land hx hb d_MO_write_43 ?_
  refine lv_iload_n hx hb d_MO_write_44 rfl (lv_at hl 5 rfl) ?_
  refine lv_i2l hx hb d_MO_write_45 rfl ?_
  refine lv_iload hx hb d_MO_write_46 (lv_at hl 0 rfl) ?_
  refine lv_lshl hx hb d_MO_write_48 rfl ?_
  refine lv_lor hx hb d_MO_write_49 ?_
  refine pm_pgst (g := va_up (S 0) (8 * (8 * pg + i / 8) + i % 8) b) hx hb hK hP hD hS (by omega) (pd_lw_in h0 _ (by omega) hb0) (fun w hw => pd_lw_out (by omega) hw) rfl d_MO_write_50 (fun H locs hP hD hS => ?_)
  generalize eS1 : va_up S 0 (va_up (S 0) (8 * (8 * pg + i / 8) + i % 8) b) = S1 at hP hD
  exact W.vret hx hb hret (fun t9 ht9 hW9 => ⟨⟨_, rfl, by rw [← eS1, show 8 * (8 * pg + i / 8) + i % 8 = 64 * pg + i by omega]; rfl, by rw [ht9]; exact hP, va_K.moved hW9.alike hK, hD⟩, hS.F ht9⟩) hS.2.2 d_MO_write_51
set_option maxHeartbeats 4000000 in
set_option maxRecDepth 100000 in
/-- read(c, i) -/
theorem c_MO_read (l : Launch) (dC : Nat → ClassId) (dI : Nat → Nat → Nat) (cI cB cE cL cZ : ClassId) (n : Nat) (am : Nat → Nat) (S : pdS) (d i : Nat) (hd : d < 32) (hi : i < 25600) (hp : S (8 + d) (i / 64) < 1024) (h0 : ∀ j, S 0 j < 256) (sz : Nat) : CMi l (dC, dI) (pw_ty cI cB cE cL cZ) y_MO_read w_MO_read ({ frames := 0, cells := 0, slots := 0, locals := 0 }) [.ref (am 0), .int (nI d), .int (nI i)] (mw n am cI cL cZ S) (fun _ : Unit => mw n am cI cL cZ S) sz (fun r _ => r = nI (pd_by S d i)) := by
  refine Met.ofW (cc := b_MO_read) (maxL := 3) (ret := (some .int)) (by decide) rfl ?_
  intro p e s m args below meth c s₁ B hml hv
  obtain ⟨rfl, hsz, hP, hK, hD0⟩ := hv
  have hx := B.exec
  have hb := B.bytes
  have hret := B.returns
  have hts := atoms_spec (ws := w_MO_read) B.pre
  have hg : ∀ w ∈ wsG, w.before _ s = true := fun w h => hts w (List.mem_cons_of_mem _ h)
  have hown : s.vm.findClass "PageDriveModel" = some m.cls := findClass_of_methodNamed B.named
  have hlocks := B.notSynchronized
  subst hsz
  have hD := hD0.self (sz := s.heap.size)
  generalize hAe : va_A (mw n am cI cL cZ S) s.heap.size = A at hD ⊢
  have hA : ∀ q : Nat, s.heap.size ≤ q → A q := fun q h => by rw [← hAe]; exact Or.inr h
  have hS : va_S A s.heap s.heap [] := va_S.rf
  have hl := lv_entry ([.ref (am 0), .int (nI d), .int (nI i)]) (n := 3) (Nat.le_of_ble_eq_true rfl)
  rw [lg_entry_eq]
  generalize (lg_sl ([.ref (am 0), .int (nI d), .int (nI i)]) ++ List.replicate (3 - (lg_sl ([.ref (am 0), .int (nI d), .int (nI i)])).length) Slot.unset).toArray = ls at hl ⊢
  have hl : lv_has ls 3 [(0, .ref (am 0)), (1, .int (nI d)), (2, .int (nI i))] := hl
  refine lv_aload_n hx hb d_MO_read_0 rfl (lv_at hl 0 rfl) ?_
  refine va_get (C := "PageDriveModel") (T := F_MO) (N := 11) hx hb hg iw_MO hown hK hP (0) mw_g0 rfl 4 (by decide) (hg (Cond.fieldLink "PageDriveModel" 13 "PageDriveModel" "pages" "[J") (wG_m10 (List.mem_of_getElem? (i := 27) rfl))) (fun _ h9 => h9) rfl d_MO_read_1 ?_
  refine lv_bipush (v := nI 8) hx hb d_MO_read_4 (by decide) ?_
  refine lv_aload_n hx hb d_MO_read_6 rfl (lv_at hl 0 rfl) ?_
  refine va_get (C := "PageDriveModel") (T := F_MO) (N := 11) hx hb hg iw_MO hown hK hP (0) mw_g0 rfl 5 (by decide) (hg (Cond.fieldLink "PageDriveModel" 17 "PageDriveModel" "rows" "[I") (wG_m10 (List.mem_of_getElem? (i := 28) rfl))) (fun _ h9 => h9) rfl d_MO_read_7 ?_
  refine lv_sipush (v := nI 400) hx hb d_MO_read_10 (by decide) ?_
  refine lv_iload_n hx hb d_MO_read_13 rfl (lv_at hl 1 rfl) ?_
  refine pq_imul hx hb d_MO_read_14 ?_
  refine lv_iload_n hx hb d_MO_read_15 rfl (lv_at hl 2 rfl) ?_
  refine lv_bipush (v := nI 64) hx hb d_MO_read_16 (by decide) ?_
  refine pq_idiv hx hb (by omega) (by omega) (by omega) d_MO_read_18 ?_
  refine pq_iadd hx hb d_MO_read_19 ?_
  refine pm_rowld (d := d) (k := (i / 64)) hx hb hK hP (by omega) (by omega) (by omega) rfl d_MO_read_20 ?_
  refine pq_imul hx hb d_MO_read_21 ?_
  refine lv_iload_n hx hb d_MO_read_22 rfl (lv_at hl 2 rfl) ?_
  refine lv_bipush (v := nI 64) hx hb d_MO_read_23 (by decide) ?_
  refine pq_irem hx hb (by omega) (by omega) (by omega) d_MO_read_25 ?_
  refine lv_bipush (v := nI 8) hx hb d_MO_read_26 (by decide) ?_
  refine pq_idiv hx hb (by omega) (by omega) (by omega) d_MO_read_28 ?_
  refine pq_iadd hx hb d_MO_read_29 ?_
  refine pm_pgld hx hb hK hP (by omega) rfl d_MO_read_30 ?_
  refine lv_bipush (v := nI 8) hx hb d_MO_read_31 (by decide) ?_
  refine lv_iload_n hx hb d_MO_read_33 rfl (lv_at hl 2 rfl) ?_
  refine lv_bipush (v := nI 8) hx hb d_MO_read_34 (by decide) ?_
  refine pq_irem hx hb (by omega) (by omega) (by omega) d_MO_read_36 ?_
  refine pq_imul hx hb d_MO_read_37 ?_
  refine lv_lshr hx hb d_MO_read_38 rfl ?_
  refine lv_ldc2 hx hb hown (hg (Cond.constantLong "PageDriveModel" 51 (255)) (wG_m11 (List.mem_of_getElem? (i := 33) rfl))) d_MO_read_39 ?_
  refine lv_land hx hb d_MO_read_42 ?_
  refine lv_l2i hx hb d_MO_read_43 rfl ?_
  refine pq_top (y := nI (pd_by S d i)) (by rw [pd_rd _ (by omega), pd_lw_bv h0 _ (by omega), show 8 * (8 * S (8 + d) (i / 64) + i % 64 / 8) + i % 8 = 64 * S (8 + d) (i / 64) + i % 64 by omega]; rfl) ?_
  exact W.iret (v := (nI (pd_by S d i))) hx hb hret (fun t9 ht9 hW9 => ⟨⟨_, (), rfl, rfl, by rw [ht9]; exact hP, va_K.moved hW9.alike hK, hD⟩, hS.F ht9⟩) hS.2.2 d_MO_read_44
