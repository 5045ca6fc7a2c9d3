/-! THE MODEL, 2: become, shorten, isIn, settle, present, breaks, sharedPages, feed -/
set_option maxHeartbeats 4000000 in
set_option maxRecDepth 100000 in
/-- become(to, fr) -/
theorem c_MO_become (l : Launch) (dC : Nat → ClassId) (dI : Nat → Nat → Nat) (cI cB cE cL cZ : ClassId) (n : Nat) (am : Nat → Nat) (S : pdS) (to fr : Nat) (ht : to < 32) (hf : fr < 32) (hne : to ≠ fr) (h4 : S 4 fr ≤ 25600) (h5 : S 5 fr ≤ 1) (sz : Nat) : CMv l (dC, dI) (pw_ty cI cB cE cL cZ) y_MO_become w_MO_become ({ frames := 0, cells := 0, slots := 0, locals := 0 }) [.ref (am 0), .int (nI to), .int (nI fr)] (mw n am cI cL cZ S) (mw n am cI cL cZ) sz (fun S2 => pd_be S S2 to fr ∧ S2 7 = S 7 ∧ S2 1 = S 1) := by
  refine Met.ofW (cc := b_MO_become) (maxL := 4) (ret := none) (by decide) rfl ?_
  intro p e s m args below meth c s₁ B hml hv
  obtain ⟨rfl, hsz, hP, hK, hD0⟩ := hv
  have hx := B.exec
  have hb := B.bytes
  have hret := B.returns
  have hts := atoms_spec (ws := w_MO_become) B.pre
  have hg : ∀ w ∈ wsG, w.before _ s = true := fun w h => hts w (List.mem_cons_of_mem _ h)
  have hown : s.vm.findClass "PageDriveModel" = some m.cls := findClass_of_methodNamed B.named
  have hlocks := B.notSynchronized
  subst hsz
  have hD := hD0.self (sz := s.heap.size)
  generalize hAe : va_A (mw n am cI cL cZ S) s.heap.size = A at hD ⊢
  have hA : ∀ q : Nat, s.heap.size ≤ q → A q := fun q h => by rw [← hAe]; exact Or.inr h
  have hS : va_S A s.heap s.heap [] := va_S.rf
  have hl := lv_entry ([.ref (am 0), .int (nI to), .int (nI fr)]) (n := 4) (Nat.le_of_ble_eq_true rfl)
  rw [lg_entry_eq]
  generalize (lg_sl ([.ref (am 0), .int (nI to), .int (nI fr)]) ++ List.replicate (4 - (lg_sl ([.ref (am 0), .int (nI to), .int (nI fr)])).length) Slot.unset).toArray = ls at hl ⊢
  have hl : lv_has ls 4 [(0, .ref (am 0)), (1, .int (nI to)), (2, .int (nI fr))] := hl
  refine lv_iconst (v := nI 0) hx hb d_MO_become_0 (by decide) ?_
  refine lv_istore_n (lv' := [(3, .int (nI 0)), (0, .ref (am 0)), (1, .int (nI to)), (2, .int (nI fr))]) hx hb d_MO_become_1 rfl hl (by decide) rfl (fun ls hl => ?_)
  refine pw_loop (fun mm H locs ls => ∃ (T : pdS) (k : Nat), mm = 400 - k ∧ k ≤ 400 ∧ (∀ b, b ≠ 8 + to → T b = S b) ∧ (∀ j, j < k → T (8 + to) j = S (8 + fr) j) ∧ va_P (dC, dI) pwCl (mw n am cI cL cZ T) H ∧ va_D A (mw n am cI cL cZ T) ∧ va_S A s.heap H locs ∧ lv_has ls 4 [(3, .int (nI k)), (0, .ref (am 0)), (1, .int (nI to)), (2, .int (nI fr))]) ?_ _ _ _ _ ⟨S, 0, rfl, by omega, fun _ _ => rfl, fun j h => by omega, hP, hD, hS, hl⟩
  rintro mm H locs ls ⟨T, k, hmm, hk, hT, hz, hP, hD, hS, hl⟩ ih
  have hTf : T (8 + fr) = S (8 + fr) := hT _ (by omega)
  refine lv_iload_n hx hb d_MO_become_2 rfl (lv_at hl 0 rfl) ?_
  refine lv_sipush (v := nI 400) hx hb d_MO_become_3 (by decide) ?_
  refine pq_icmp_ge (tgt := 39) hx hb (by omega) (by omega) d_MO_become_6 (by decide) (fun h1 => ?_) (fun h1 => ?_)
  · have h4T : T 4 fr = S 4 fr := by rw [hT 4 (by omega)]
    have h5T : T 5 fr = S 5 fr := by rw [hT 5 (by omega)]
    refine lv_aload_n hx hb d_MO_become_39 rfl (lv_at hl 1 rfl) ?_
    refine va_get (C := "PageDriveModel") (T := F_MO) (N := 11) hx hb hg iw_MO hown hK hP (0) mw_g0 rfl 6 (by decide) (hg (Cond.fieldLink "PageDriveModel" 20 "PageDriveModel" "sizes" "[I") (wG_m10 (List.mem_of_getElem? (i := 29) rfl))) (fun _ h9 => h9) rfl d_MO_become_40 ?_
    refine lv_iload_n hx hb d_MO_become_43 rfl (lv_at hl 2 rfl) ?_
    refine lv_aload_n hx hb d_MO_become_44 rfl (lv_at hl 1 rfl) ?_
    refine va_get (C := "PageDriveModel") (T := F_MO) (N := 11) hx hb hg iw_MO hown hK hP (0) mw_g0 rfl 6 (by decide) (hg (Cond.fieldLink "PageDriveModel" 20 "PageDriveModel" "sizes" "[I") (wG_m10 (List.mem_of_getElem? (i := 29) rfl))) (fun _ h9 => h9) rfl d_MO_become_45 ?_
    refine lv_iload_n hx hb d_MO_become_48 rfl (lv_at hl 3 rfl) ?_
    refine pq_iald hx hb hK hP 4 0 mw_g4 rfl (by omega) (by omega) d_MO_become_49 ?_
    refine pq_top (y := nI (S 4 fr)) (by rw [h4T]) ?_
    refine pm_size hx hb hK hP hD hS (by omega) rfl d_MO_become_50 (fun H locs hP hD hS => ?_)
    generalize eS1 : pd_st T 4 to (S 4 fr) = S1 at hP hD
    have h5S : S1 5 fr = S 5 fr := by rw [← eS1, pd_bk _ (by decide), h5T]
    refine lv_aload_n hx hb d_MO_become_51 rfl (lv_at hl 1 rfl) ?_
    refine va_get (C := "PageDriveModel") (T := F_MO) (N := 11) hx hb hg iw_MO hown hK hP (0) mw_g0 rfl 7 (by decide) (hg (Cond.fieldLink "PageDriveModel" 23 "PageDriveModel" "there" "[Z") (wG_m10 (List.mem_of_getElem? (i := 30) rfl))) (fun _ h9 => h9) rfl d_MO_become_52 ?_
    refine lv_iload_n hx hb d_MO_become_55 rfl (lv_at hl 2 rfl) ?_
    refine lv_aload_n hx hb d_MO_become_56 rfl (lv_at hl 1 rfl) ?_
    refine va_get (C := "PageDriveModel") (T := F_MO) (N := 11) hx hb hg iw_MO hown hK hP (0) mw_g0 rfl 7 (by decide) (hg (Cond.fieldLink "PageDriveModel" 23 "PageDriveModel" "there" "[Z") (wG_m10 (List.mem_of_getElem? (i := 30) rfl))) (fun _ h9 => h9) rfl d_MO_become_57 ?_
    refine lv_iload_n hx hb d_MO_become_60 rfl (lv_at hl 3 rfl) ?_
    refine pq_zald hx hb hK hP 5 4 mw_g5 rfl (by omega) (by omega) d_MO_become_61 ?_
    refine pq_top (y := nI (S 5 fr)) (by rw [h5S]) ?_
    refine pm_there hx hb hK hP hD hS h5 (by omega) rfl d_MO_become_62 (fun H locs hP hD hS => ?_)
    generalize eS2 : pd_st S1 5 to (S 5 fr) = S2 at hP hD
    exact W.vret hx hb hret (fun t9 ht9 hW9 => ⟨⟨_, rfl, ⟨pd_be_m ht hT (fun j hj => hz j (by omega)) h4 (by rw [← eS2, ← eS1]), by rw [← eS2, ← eS1, pd_bk _ (by decide), pd_bk _ (by decide), hT 7 (by omega)], by rw [← eS2, ← eS1, pd_bk _ (by decide), pd_bk _ (by decide), hT 1 (by omega)]⟩, by rw [ht9]; exact hP, va_K.moved hW9.alike hK, hD⟩, hS.F ht9⟩) hS.2.2 d_MO_become_63
  · refine lv_aload_n hx hb d_MO_become_9 rfl (lv_at hl 1 rfl) ?_
    refine va_get (C := "PageDriveModel") (T := F_MO) (N := 11) hx hb hg iw_MO hown hK hP (0) mw_g0 rfl 5 (by decide) (hg (Cond.fieldLink "PageDriveModel" 17 "PageDriveModel" "rows" "[I") (wG_m10 (List.mem_of_getElem? (i := 28) rfl))) (fun _ h9 => h9) rfl d_MO_become_10 ?_
    refine lv_sipush (v := nI 400) hx hb d_MO_become_13 (by decide) ?_
    refine lv_iload_n hx hb d_MO_become_16 rfl (lv_at hl 2 rfl) ?_
    refine pq_imul hx hb d_MO_become_17 ?_
    refine lv_iload_n hx hb d_MO_become_18 rfl (lv_at hl 0 rfl) ?_
    refine pq_iadd hx hb d_MO_become_19 ?_
    refine lv_aload_n hx hb d_MO_become_20 rfl (lv_at hl 1 rfl) ?_
    refine va_get (C := "PageDriveModel") (T := F_MO) (N := 11) hx hb hg iw_MO hown hK hP (0) mw_g0 rfl 5 (by decide) (hg (Cond.fieldLink "PageDriveModel" 17 "PageDriveModel" "rows" "[I") (wG_m10 (List.mem_of_getElem? (i := 28) rfl))) (fun _ h9 => h9) rfl d_MO_become_21 ?_
    refine lv_sipush (v := nI 400) hx hb d_MO_become_24 (by decide) ?_
    refine lv_iload_n hx hb d_MO_become_27 rfl (lv_at hl 3 rfl) ?_
    refine pq_imul hx hb d_MO_become_28 ?_
    refine lv_iload_n hx hb d_MO_become_29 rfl (lv_at hl 0 rfl) ?_
    refine pq_iadd hx hb d_MO_become_30 ?_
    refine pm_rowld (d := fr) (k := k) hx hb hK hP (by omega) (by omega) (by omega) rfl d_MO_become_31 ?_
    refine pq_top (y := nI (S (8 + fr) k)) (by rw [hTf]) ?_
    refine pm_row (d := to) (k := k) hx hb hK hP hD hS (by omega) (by omega) (by omega) rfl d_MO_become_32 (fun H locs hP hD hS => ?_)
    generalize eS3 : pd_st T (8 + to) k (S (8 + fr) k) = S3 at hP hD
    refine lv_iinc (v := (nI (k + 1))) (lv' := [(3, .int (nI (k + 1))), (0, .ref (am 0)), (1, .int (nI to)), (2, .int (nI fr))]) hx hb d_MO_become_33 hl (k := 0) rfl (pq_inc _) (by decide) rfl (fun ls hl => ?_)
    refine lv_goto (tgt := 2) hx hb d_MO_become_36 (by decide) ?_
    exact ih _ _ _ _ (by omega) ⟨_, k + 1, rfl, by omega, fun b hb => by rw [← eS3, pd_bk _ hb, hT b hb], fun j hj => by by_cases hjk : j = k; rw [hjk, ← eS3, pd_self]; rw [← eS3, pd_ne _ hjk]; exact hz j (by omega), hP, hD, hS, hl⟩
set_option maxHeartbeats 4000000 in
set_option maxRecDepth 100000 in
/-- shorten(f, x) -/
theorem c_MO_shorten (l : Launch) (dC : Nat → ClassId) (dI : Nat → Nat → Nat) (cI cB cE cL cZ : ClassId) (n : Nat) (am : Nat → Nat) (S : pdS) (f x : Nat) (hf : f < 16) (hx0 : x < 1000000) (h6 : S 6 f < 1000000) (sz : Nat) : CMv l (dC, dI) (pw_ty cI cB cE cL cZ) y_MO_shorten w_MO_shorten ({ frames := 0, cells := 0, slots := 0, locals := 0 }) [.ref (am 0), .int (nI f), .int (nI x)] (mw n am cI cL cZ S) (mw n am cI cL cZ) sz (fun S2 => S2 = pd_st (pd_st S 4 (2 * f) x) 6 f (if x < S 6 f then x else S 6 f)) := by
  refine Met.ofW (cc := b_MO_shorten) (maxL := 3) (ret := none) (by decide) rfl ?_
  intro p e s m args below meth c s₁ B hml hv
  obtain ⟨rfl, hsz, hP, hK, hD0⟩ := hv
  have hx := B.exec
  have hb := B.bytes
  have hret := B.returns
  have hts := atoms_spec (ws := w_MO_shorten) B.pre
  have hg : ∀ w ∈ wsG, w.before _ s = true := fun w h => hts w (List.mem_cons_of_mem _ h)
  have hown : s.vm.findClass "PageDriveModel" = some m.cls := findClass_of_methodNamed B.named
  have hlocks := B.notSynchronized
  subst hsz
  have hD := hD0.self (sz := s.heap.size)
  generalize hAe : va_A (mw n am cI cL cZ S) s.heap.size = A at hD ⊢
  have hA : ∀ q : Nat, s.heap.size ≤ q → A q := fun q h => by rw [← hAe]; exact Or.inr h
  have hS : va_S A s.heap s.heap [] := va_S.rf
  have hl := lv_entry ([.ref (am 0), .int (nI f), .int (nI x)]) (n := 3) (Nat.le_of_ble_eq_true rfl)
  rw [lg_entry_eq]
  generalize (lg_sl ([.ref (am 0), .int (nI f), .int (nI x)]) ++ List.replicate (3 - (lg_sl ([.ref (am 0), .int (nI f), .int (nI x)])).length) Slot.unset).toArray = ls at hl ⊢
  have hl : lv_has ls 3 [(0, .ref (am 0)), (1, .int (nI f)), (2, .int (nI x))] := hl
  refine lv_aload_n hx hb d_MO_shorten_0 rfl (lv_at hl 0 rfl) ?_
  refine va_get (C := "PageDriveModel") (T := F_MO) (N := 11) hx hb hg iw_MO hown hK hP (0) mw_g0 rfl 6 (by decide) (hg (Cond.fieldLink "PageDriveModel" 20 "PageDriveModel" "sizes" "[I") (wG_m10 (List.mem_of_getElem? (i := 29) rfl))) (fun _ h9 => h9) rfl d_MO_shorten_1 ?_
  refine lv_iconst (v := nI 2) hx hb d_MO_shorten_4 (by decide) ?_
  refine lv_iload_n hx hb d_MO_shorten_5 rfl (lv_at hl 1 rfl) ?_
  refine pq_imul hx hb d_MO_shorten_6 ?_
  refine lv_iload_n hx hb d_MO_shorten_7 rfl (lv_at hl 2 rfl) ?_
  refine pm_size hx hb hK hP hD hS (by omega) rfl d_MO_shorten_8 (fun H locs hP hD hS => ?_)
  generalize eS1 : pd_st S 4 (2 * f) x = S1 at hP hD
  have h6S : S1 6 f = S 6 f := by rw [← eS1, pd_bk _ (by decide)]
  refine lv_aload_n hx hb d_MO_shorten_9 rfl (lv_at hl 0 rfl) ?_
  refine va_get (C := "PageDriveModel") (T := F_MO) (N := 11) hx hb hg iw_MO hown hK hP (0) mw_g0 rfl 8 (by decide) (hg (Cond.fieldLink "PageDriveModel" 27 "PageDriveModel" "lows" "[I") (wG_m10 (List.mem_of_getElem? (i := 31) rfl))) (fun _ h9 => h9) rfl d_MO_shorten_10 ?_
  refine lv_iload_n hx hb d_MO_shorten_13 rfl (lv_at hl 1 rfl) ?_
  refine lv_aload_n hx hb d_MO_shorten_14 rfl (lv_at hl 0 rfl) ?_
  refine va_get (C := "PageDriveModel") (T := F_MO) (N := 11) hx hb hg iw_MO hown hK hP (0) mw_g0 rfl 8 (by decide) (hg (Cond.fieldLink "PageDriveModel" 27 "PageDriveModel" "lows" "[I") (wG_m10 (List.mem_of_getElem? (i := 31) rfl))) (fun _ h9 => h9) rfl d_MO_shorten_15 ?_
  refine lv_iload_n hx hb d_MO_shorten_18 rfl (lv_at hl 1 rfl) ?_
  refine pq_iald hx hb hK hP 6 0 mw_g6 rfl (by omega) (by omega) d_MO_shorten_19 ?_
  refine lv_iload_n hx hb d_MO_shorten_20 rfl (lv_at hl 2 rfl) ?_
  refine pq_icmp_le (tgt := 28) hx hb (by omega) (by omega) d_MO_shorten_21 (by decide) (fun h1 => ?_) (fun h1 => ?_)
  · refine lv_aload_n hx hb d_MO_shorten_28 rfl (lv_at hl 0 rfl) ?_
    refine va_get (C := "PageDriveModel") (T := F_MO) (N := 11) hx hb hg iw_MO hown hK hP (0) mw_g0 rfl 8 (by decide) (hg (Cond.fieldLink "PageDriveModel" 27 "PageDriveModel" "lows" "[I") (wG_m10 (List.mem_of_getElem? (i := 31) rfl))) (fun _ h9 => h9) rfl d_MO_shorten_29 ?_
    refine lv_iload_n hx hb d_MO_shorten_32 rfl (lv_at hl 1 rfl) ?_
    refine pq_iald hx hb hK hP 6 0 mw_g6 rfl (by omega) (by omega) d_MO_shorten_33 ?_
    refine pq_top (y := nI (S 6 f)) (by rw [h6S]) ?_
    refine pm_low hx hb hK hP hD hS (by omega) rfl d_MO_shorten_34 (fun H locs hP hD hS => ?_)
    generalize eS2 : pd_st S1 6 f (S 6 f) = S2 at hP hD
    exact W.vret hx hb hret (fun t9 ht9 hW9 => ⟨⟨_, rfl, by rw [← eS2, ← eS1, if_neg (by omega)], by rw [ht9]; exact hP, va_K.moved hW9.alike hK, hD⟩, hS.F ht9⟩) hS.2.2 d_MO_shorten_35
  · refine lv_iload_n hx hb d_MO_shorten_24 rfl (lv_at hl 2 rfl) ?_
    refine lv_goto (tgt := 34) hx hb d_MO_shorten_25 (by decide) ?_
    refine pm_low hx hb hK hP hD hS (by omega) rfl d_MO_shorten_34 (fun H locs hP hD hS => ?_)
    generalize eS3 : pd_st S1 6 f x = S3 at hP hD
    exact W.vret hx hb hret (fun t9 ht9 hW9 => ⟨⟨_, rfl, by rw [← eS3, ← eS1, if_pos (by omega)], by rw [ht9]; exact hP, va_K.moved hW9.alike hK, hD⟩, hS.F ht9⟩) hS.2.2 d_MO_shorten_35
set_option maxHeartbeats 4000000 in
set_option maxRecDepth 100000 in
/-- isIn(d, pg) -/
theorem c_MO_isIn (l : Launch) (dC : Nat → ClassId) (dI : Nat → Nat → Nat) (cI cB cE cL cZ : ClassId) (n : Nat) (am : Nat → Nat) (S : pdS) (d pg : Nat) (hd : d < 32) (h4 : S 4 d ≤ 25600) (hpg : pg < 1024) (hrow : ∀ k, k < pd_pf (S 4 d) → S (8 + d) k < 1024) (sz : Nat) : CMi l (dC, dI) (pw_ty cI cB cE cL cZ) y_MO_isIn w_MO_isIn ({ frames := 1, cells := 0, slots := 0, locals := 20 }) [.ref (am 0), .int (nI d), .int (nI pg)] (mw n am cI cL cZ S) (fun _ : Unit => mw n am cI cL cZ S) sz (fun r _ => ((∃ j, j < pd_pf (S 4 d) ∧ S (8 + d) j = pg) ∧ r = nI 1) ∨ ((∀ j, j < pd_pf (S 4 d) → S (8 + d) j ≠ pg) ∧ r = nI 0)) := by
  refine Met.ofW (cc := b_MO_isIn) (maxL := 5) (ret := (some .boolean)) (by decide) rfl ?_
  intro p e s m args below meth c s₁ B hml hv
  obtain ⟨rfl, hsz, hP, hK, hD0⟩ := hv
  have hx := B.exec
  have hb := B.bytes
  have hret := B.returns
  have hts := atoms_spec (ws := w_MO_isIn) B.pre
  have hg : ∀ w ∈ wsG, w.before _ s = true := fun w h => hts w (List.mem_cons_of_mem _ h)
  have hown : s.vm.findClass "PageDriveModel" = some m.cls := findClass_of_methodNamed B.named
  have hlocks := B.notSynchronized
  subst hsz
  have hD := hD0.self (sz := s.heap.size)
  generalize hAe : va_A (mw n am cI cL cZ S) s.heap.size = A at hD ⊢
  have hA : ∀ q : Nat, s.heap.size ≤ q → A q := fun q h => by rw [← hAe]; exact Or.inr h
  have hS : va_S A s.heap s.heap [] := va_S.rf
  have hl := lv_entry ([.ref (am 0), .int (nI d), .int (nI pg)]) (n := 5) (Nat.le_of_ble_eq_true rfl)
  rw [lg_entry_eq]
  generalize (lg_sl ([.ref (am 0), .int (nI d), .int (nI pg)]) ++ List.replicate (5 - (lg_sl ([.ref (am 0), .int (nI d), .int (nI pg)])).length) Slot.unset).toArray = ls at hl ⊢
  have hl : lv_has ls 5 [(0, .ref (am 0)), (1, .int (nI d)), (2, .int (nI pg))] := hl
  have h400 : pd_pf (S 4 d) ≤ 400 := by unfold pd_pf; omega
  refine lv_iconst (v := nI 0) hx hb d_MO_isIn_0 (by decide) ?_
  refine lv_istore_n (lv' := [(3, .int (nI 0)), (0, .ref (am 0)), (1, .int (nI d)), (2, .int (nI pg))]) hx hb d_MO_isIn_1 rfl hl (by decide) rfl (fun ls hl => ?_)
  refine lv_iconst (v := nI 0) hx hb d_MO_isIn_2 (by decide) ?_
  refine lv_istore (lv' := [(4, .int (nI 0)), (3, .int (nI 0)), (0, .ref (am 0)), (1, .int (nI d)), (2, .int (nI pg))]) hx hb d_MO_isIn_3 hl (by decide) rfl (fun ls hl => ?_)
  refine pw_loop (fun mm H locs ls => ∃ k v : Nat, mm = pd_pf (S 4 d) - k ∧ k ≤ pd_pf (S 4 d) ∧ (((∃ j, j < k ∧ S (8 + d) j = pg) ∧ v = 1) ∨ ((∀ j, j < k → S (8 + d) j ≠ pg) ∧ v = 0)) ∧ va_P (dC, dI) pwCl (mw n am cI cL cZ S) H ∧ va_D A (mw n am cI cL cZ S) ∧ va_S A s.heap H locs ∧ lv_has ls 5 [(4, .int (nI k)), (3, .int (nI v)), (0, .ref (am 0)), (1, .int (nI d)), (2, .int (nI pg))]) ?_ _ _ _ _ ⟨0, 0, rfl, by omega, Or.inr ⟨fun j h => by omega, rfl⟩, hP, hD, hS, hl⟩
  rintro mm H locs ls ⟨k, v, hmm, hk, hv, hP, hD, hS, hl⟩ ih
  refine lv_iload hx hb d_MO_isIn_5 (lv_at hl 0 rfl) ?_
  refine lv_aload_n hx hb d_MO_isIn_7 rfl (lv_at hl 2 rfl) ?_
  refine va_get (C := "PageDriveModel") (T := F_MO) (N := 11) hx hb hg iw_MO hown hK hP (0) mw_g0 rfl 6 (by decide) (hg (Cond.fieldLink "PageDriveModel" 20 "PageDriveModel" "sizes" "[I") (wG_m10 (List.mem_of_getElem? (i := 29) rfl))) (fun _ h9 => h9) rfl d_MO_isIn_8 ?_
  refine lv_iload_n hx hb d_MO_isIn_11 rfl (lv_at hl 3 rfl) ?_
  refine pq_iald hx hb hK hP 4 0 mw_g4 rfl (by omega) (by omega) d_MO_isIn_12 ?_
  refine pw_callip (va_runS (As := [.int (nI (S 4 d))]) (rest := [.int (nI k)]) ⟨hx, hb, hml, hown, hg⟩ (c_MO_needed l dC dI cI cB cE cL cZ (mw n am cI cL cZ S) (S 4 d) (by omega) H.size) (cwS 1 hg (gi_S (fun _ h => h) (wG_m12 (List.mem_of_getElem? (i := 4) rfl)) (wG_m12 (List.mem_of_getElem? (i := 5) rfl)) (wG_m1 (List.mem_of_getElem? (i := 6) rfl)) (wG_m12 (List.mem_of_getElem? (i := 6) rfl))) rfl rfl rfl (by decide +kernel) ⟨Nat.le_of_ble_eq_true rfl, Nat.le_of_ble_eq_true rfl⟩) (pw_ps hK hP hD [.int (nI (S 4 d))]) rfl rfl hl.1 rfl (lv_room (Nat.le_of_ble_eq_true rfl)) d_MO_isIn_13 ⟨Nat.le_of_ble_eq_true rfl, Nat.le_of_ble_eq_true rfl⟩) hD hS hA (fun r1 H locs hr hP hD hS => ?_)
  subst hr
  refine pq_icmp_ge (tgt := 52) hx hb (by omega) (by omega) d_MO_isIn_16 (by decide) (fun h1 => ?_) (fun h1 => ?_)
  · have hkk : k = pd_pf (S 4 d) := by omega
    subst hkk
    rcases hv with ⟨h2, rfl⟩ | ⟨h2, rfl⟩
    · refine lv_iload_n hx hb d_MO_isIn_52 rfl (lv_at hl 1 rfl) ?_
      exact W.zret (v := (nI 1)) hx hb hret rfl (fun t9 ht9 hW9 => ⟨⟨_, (), rfl, Or.inl ⟨h2, rfl⟩, by rw [ht9]; exact hP, va_K.moved hW9.alike hK, hD⟩, hS.F ht9⟩) hS.2.2 d_MO_isIn_53
    · refine lv_iload_n hx hb d_MO_isIn_52 rfl (lv_at hl 1 rfl) ?_
      exact W.zret (v := (nI 0)) hx hb hret rfl (fun t9 ht9 hW9 => ⟨⟨_, (), rfl, Or.inr ⟨h2, rfl⟩, by rw [ht9]; exact hP, va_K.moved hW9.alike hK, hD⟩, hS.F ht9⟩) hS.2.2 d_MO_isIn_53
  · have hrk := hrow k h1
    rcases hv with ⟨h2, rfl⟩ | ⟨h2, rfl⟩
    · refine lv_iload_n hx hb d_MO_isIn_19 rfl (lv_at hl 1 rfl) ?_
      refine pq_if_ne (tgt := 40) hx hb (by omega) d_MO_isIn_20 (by decide) (fun _ => ?_) (fun h9 => absurd h9 (by omega))
      refine lv_iconst (v := nI 1) hx hb d_MO_isIn_40 (by decide) ?_
      refine lv_goto (tgt := 45) hx hb d_MO_isIn_41 (by decide) ?_
      refine lv_istore_n (lv' := [(3, .int (nI 1)), (4, .int (nI k)), (0, .ref (am 0)), (1, .int (nI d)), (2, .int (nI pg))]) hx hb d_MO_isIn_45 rfl hl (by decide) rfl (fun ls hl => ?_)
      refine lv_iinc (v := (nI (k + 1))) (lv' := [(4, .int (nI (k + 1))), (3, .int (nI 1)), (0, .ref (am 0)), (1, .int (nI d)), (2, .int (nI pg))]) hx hb d_MO_isIn_46 hl (k := 1) rfl (pq_inc _) (by decide) rfl (fun ls hl => ?_)
      refine lv_goto (tgt := 5) hx hb d_MO_isIn_49 (by decide) ?_
      exact ih _ _ _ _ (by omega) ⟨k + 1, 1, rfl, by omega, Or.inl ⟨by obtain ⟨j, hj, hq⟩ := h2; exact ⟨j, by omega, hq⟩, rfl⟩, hP, hD, hS, hl⟩
    · refine lv_iload_n hx hb d_MO_isIn_19 rfl (lv_at hl 1 rfl) ?_
      refine pq_if_ne (tgt := 40) hx hb (by omega) d_MO_isIn_20 (by decide) (fun h9 => absurd h9 (by omega)) (fun _ => ?_)
      refine lv_aload_n hx hb d_MO_isIn_23 rfl (lv_at hl 2 rfl) ?_
      refine va_get (C := "PageDriveModel") (T := F_MO) (N := 11) hx hb hg iw_MO hown hK hP (0) mw_g0 rfl 5 (by decide) (hg (Cond.fieldLink "PageDriveModel" 17 "PageDriveModel" "rows" "[I") (wG_m10 (List.mem_of_getElem? (i := 28) rfl))) (fun _ h9 => h9) rfl d_MO_isIn_24 ?_
      refine lv_sipush (v := nI 400) hx hb d_MO_isIn_27 (by decide) ?_
      refine lv_iload_n hx hb d_MO_isIn_30 rfl (lv_at hl 3 rfl) ?_
      refine pq_imul hx hb d_MO_isIn_31 ?_
      refine lv_iload hx hb d_MO_isIn_32 (lv_at hl 0 rfl) ?_
      refine pq_iadd hx hb d_MO_isIn_34 ?_
      refine pm_rowld (d := d) (k := k) hx hb hK hP (by omega) (by omega) (by omega) rfl d_MO_isIn_35 ?_
      refine lv_iload_n hx hb d_MO_isIn_36 rfl (lv_at hl 4 rfl) ?_
      refine pq_icmp_ne (tgt := 44) hx hb (by omega) (by omega) d_MO_isIn_37 (by decide) (fun h3 => ?_) (fun h3 => ?_)
      · refine lv_iconst (v := nI 0) hx hb d_MO_isIn_44 (by decide) ?_
        refine lv_istore_n (lv' := [(3, .int (nI 0)), (4, .int (nI k)), (0, .ref (am 0)), (1, .int (nI d)), (2, .int (nI pg))]) hx hb d_MO_isIn_45 rfl hl (by decide) rfl (fun ls hl => ?_)
        refine lv_iinc (v := (nI (k + 1))) (lv' := [(4, .int (nI (k + 1))), (3, .int (nI 0)), (0, .ref (am 0)), (1, .int (nI d)), (2, .int (nI pg))]) hx hb d_MO_isIn_46 hl (k := 1) rfl (pq_inc _) (by decide) rfl (fun ls hl => ?_)
        refine lv_goto (tgt := 5) hx hb d_MO_isIn_49 (by decide) ?_
        exact ih _ _ _ _ (by omega) ⟨k + 1, 0, rfl, by omega, Or.inr ⟨fun j hj => by by_cases q : j = k; rw [q]; exact h3; exact h2 j (by omega), rfl⟩, hP, hD, hS, hl⟩
      · refine lv_iconst (v := nI 1) hx hb d_MO_isIn_40 (by decide) ?_
        refine lv_goto (tgt := 45) hx hb d_MO_isIn_41 (by decide) ?_
        refine lv_istore_n (lv' := [(3, .int (nI 1)), (4, .int (nI k)), (0, .ref (am 0)), (1, .int (nI d)), (2, .int (nI pg))]) hx hb d_MO_isIn_45 rfl hl (by decide) rfl (fun ls hl => ?_)
        refine lv_iinc (v := (nI (k + 1))) (lv' := [(4, .int (nI (k + 1))), (3, .int (nI 1)), (0, .ref (am 0)), (1, .int (nI d)), (2, .int (nI pg))]) hx hb d_MO_isIn_46 hl (k := 1) rfl (pq_inc _) (by decide) rfl (fun ls hl => ?_)
        refine lv_goto (tgt := 5) hx hb d_MO_isIn_49 (by decide) ?_
        exact ih _ _ _ _ (by omega) ⟨k + 1, 1, rfl, by omega, Or.inl ⟨⟨k, by omega, h3⟩, rfl⟩, hP, hD, hS, hl⟩
set_option maxHeartbeats 4000000 in
set_option maxRecDepth 100000 in
/-- settle(f) -/
theorem c_MO_settle (l : Launch) (dC : Nat → ClassId) (dI : Nat → Nat → Nat) (cI cB cE cL cZ : ClassId) (n : Nat) (am : Nat → Nat) (S : pdS) (f : Nat) (hf : f < 16) (hv : pd_v 1024 S) (sz : Nat) : CMv l (dC, dI) (pw_ty cI cB cE cL cZ) y_MO_settle w_MO_settle ({ frames := 1, cells := 0, slots := 0, locals := 23 }) [.ref (am 0), .int (nI f)] (mw n am cI cL cZ S) (mw n am cI cL cZ) sz (fun S2 => pd_set S S2 f ∧ S2 7 = S 7) := by
  refine Met.ofW (cc := b_MO_settle) (maxL := 2) (ret := none) (by decide) rfl ?_
  intro p e s m args below meth c s₁ B hml hv
  obtain ⟨rfl, hsz, hP, hK, hD0⟩ := hv
  have hx := B.exec
  have hb := B.bytes
  have hret := B.returns
  have hts := atoms_spec (ws := w_MO_settle) B.pre
  have hg : ∀ w ∈ wsG, w.before _ s = true := fun w h => hts w (List.mem_cons_of_mem _ h)
  have hown : s.vm.findClass "PageDriveModel" = some m.cls := findClass_of_methodNamed B.named
  have hlocks := B.notSynchronized
  subst hsz
  have hD := hD0.self (sz := s.heap.size)
  generalize hAe : va_A (mw n am cI cL cZ S) s.heap.size = A at hD ⊢
  have hA : ∀ q : Nat, s.heap.size ≤ q → A q := fun q h => by rw [← hAe]; exact Or.inr h
  have hS : va_S A s.heap s.heap [] := va_S.rf
  have hl := lv_entry ([.ref (am 0), .int (nI f)]) (n := 2) (Nat.le_of_ble_eq_true rfl)
  rw [lg_entry_eq]
  generalize (lg_sl ([.ref (am 0), .int (nI f)]) ++ List.replicate (2 - (lg_sl ([.ref (am 0), .int (nI f)])).length) Slot.unset).toArray = ls at hl ⊢
  have hl : lv_has ls 2 [(0, .ref (am 0)), (1, .int (nI f))] := hl
  have hs4 := (hv.1 (2 * f) (by omega)).1
  have hs5 := (hv.1 (2 * f) (by omega)).2.1
  refine lv_aload_n hx hb d_MO_settle_0 rfl (lv_at hl 0 rfl) ?_
  refine lv_iconst (v := nI 2) hx hb d_MO_settle_1 (by decide) ?_
  refine lv_iload_n hx hb d_MO_settle_2 rfl (lv_at hl 1 rfl) ?_
  refine pq_imul hx hb d_MO_settle_3 ?_
  refine lv_iconst (v := nI 1) hx hb d_MO_settle_4 (by decide) ?_
  refine pq_iadd hx hb d_MO_settle_5 ?_
  refine lv_iconst (v := nI 2) hx hb d_MO_settle_6 (by decide) ?_
  refine lv_iload_n hx hb d_MO_settle_7 rfl (lv_at hl 1 rfl) ?_
  refine pq_imul hx hb d_MO_settle_8 ?_
  refine pw_callv (va_runV (As := [.int (nI ((2 * f) + 1)), .int (nI (2 * f))]) (rest := []) ⟨hx, hb, hml, hown, hg⟩ (c_MO_become l dC dI cI cB cE cL cZ n am S (2 * f + 1) (2 * f) (by omega) (by omega) (by omega) hs4 hs5 s.heap.size) (cwV 2 hg (gi_V (fun _ h => h) (wG_m12 (List.mem_of_getElem? (i := 29) rfl)) (wG_m12 (List.mem_of_getElem? (i := 30) rfl)) (wG_m14 (List.mem_of_getElem? (i := 16) rfl)) (wG_m1 (List.mem_of_getElem? (i := 6) rfl)) (wG_m12 (List.mem_of_getElem? (i := 31) rfl))) rfl rfl rfl (by decide +kernel) ⟨Nat.le_of_ble_eq_true rfl, Nat.le_of_ble_eq_true rfl⟩) (pw_pv hK hP hD (va_recv hK hP (ci := 4) (q0 := 0) rfl mw_g0) [.int (nI ((2 * f) + 1)), .int (nI (2 * f))]) rfl rfl hl.1 rfl (lv_room (Nat.le_of_ble_eq_true rfl)) d_MO_settle_9 ⟨Nat.le_of_ble_eq_true rfl, Nat.le_of_ble_eq_true rfl⟩) hD hS hA (fun T H locs hr hP hD hS => ?_)
  have hT4 : T 4 (2 * f) = S 4 (2 * f) := by rw [hr.1.2.2.1, va_up_ne _ _ (by omega)]
  refine lv_aload_n hx hb d_MO_settle_12 rfl (lv_at hl 0 rfl) ?_
  refine va_get (C := "PageDriveModel") (T := F_MO) (N := 11) hx hb hg iw_MO hown hK hP (0) mw_g0 rfl 8 (by decide) (hg (Cond.fieldLink "PageDriveModel" 27 "PageDriveModel" "lows" "[I") (wG_m10 (List.mem_of_getElem? (i := 31) rfl))) (fun _ h9 => h9) rfl d_MO_settle_13 ?_
  refine lv_iload_n hx hb d_MO_settle_16 rfl (lv_at hl 1 rfl) ?_
  refine lv_aload_n hx hb d_MO_settle_17 rfl (lv_at hl 0 rfl) ?_
  refine va_get (C := "PageDriveModel") (T := F_MO) (N := 11) hx hb hg iw_MO hown hK hP (0) mw_g0 rfl 6 (by decide) (hg (Cond.fieldLink "PageDriveModel" 20 "PageDriveModel" "sizes" "[I") (wG_m10 (List.mem_of_getElem? (i := 29) rfl))) (fun _ h9 => h9) rfl d_MO_settle_18 ?_
  refine lv_iconst (v := nI 2) hx hb d_MO_settle_21 (by decide) ?_
  refine lv_iload_n hx hb d_MO_settle_22 rfl (lv_at hl 1 rfl) ?_
  refine pq_imul hx hb d_MO_settle_23 ?_
  refine pq_iald hx hb hK hP 4 0 mw_g4 rfl (by omega) (by omega) d_MO_settle_24 ?_
  refine pq_top (y := nI (S 4 (2 * f))) (by rw [hT4]) ?_
  refine pm_low hx hb hK hP hD hS (by omega) rfl d_MO_settle_25 (fun H locs hP hD hS => ?_)
  generalize eS1 : pd_st T 6 f (S 4 (2 * f)) = S1 at hP hD
  exact W.vret hx hb hret (fun t9 ht9 hW9 => ⟨⟨_, rfl, ⟨⟨T, hr.1, by rw [eS1]; exact pd_sa_rf _⟩, by rw [← eS1, pd_bk _ (by decide), hr.2.1]⟩, by rw [ht9]; exact hP, va_K.moved hW9.alike hK, hD⟩, hS.F ht9⟩) hS.2.2 d_MO_settle_26
set_option maxHeartbeats 4000000 in
set_option maxRecDepth 100000 in
/-- present() -/
theorem c_MO_present (l : Launch) (dC : Nat → ClassId) (dI : Nat → Nat → Nat) (cI cB cE cL cZ : ClassId) (n : Nat) (am : Nat → Nat) (S : pdS) (h5 : ∀ d, d < 32 → S 5 d ≤ 1) (sz : Nat) : CMi l (dC, dI) (pw_ty cI cB cE cL cZ) y_MO_present w_MO_present ({ frames := 0, cells := 0, slots := 0, locals := 0 }) [.ref (am 0)] (mw n am cI cL cZ S) (fun _ : Unit => mw n am cI cL cZ S) sz (fun r _ => r = nI (pd_th S)) := by
  refine Met.ofW (cc := b_MO_present) (maxL := 3) (ret := (some .int)) (by decide) rfl ?_
  intro p e s m args below meth c s₁ B hml hv
  obtain ⟨rfl, hsz, hP, hK, hD0⟩ := hv
  have hx := B.exec
  have hb := B.bytes
  have hret := B.returns
  have hts := atoms_spec (ws := w_MO_present) B.pre
  have hg : ∀ w ∈ wsG, w.before _ s = true := fun w h => hts w (List.mem_cons_of_mem _ h)
  have hown : s.vm.findClass "PageDriveModel" = some m.cls := findClass_of_methodNamed B.named
  have hlocks := B.notSynchronized
  subst hsz
  have hD := hD0.self (sz := s.heap.size)
  generalize hAe : va_A (mw n am cI cL cZ S) s.heap.size = A at hD ⊢
  have hA : ∀ q : Nat, s.heap.size ≤ q → A q := fun q h => by rw [← hAe]; exact Or.inr h
  have hS : va_S A s.heap s.heap [] := va_S.rf
  have hl := lv_entry ([.ref (am 0)]) (n := 3) (Nat.le_of_ble_eq_true rfl)
  rw [lg_entry_eq]
  generalize (lg_sl ([.ref (am 0)]) ++ List.replicate (3 - (lg_sl ([.ref (am 0)])).length) Slot.unset).toArray = ls at hl ⊢
  have hl : lv_has ls 3 [(0, .ref (am 0))] := hl
  refine lv_iconst (v := nI 0) hx hb d_MO_present_0 (by decide) ?_
  refine lv_istore_n (lv' := [(1, .int (nI 0)), (0, .ref (am 0))]) hx hb d_MO_present_1 rfl hl (by decide) rfl (fun ls hl => ?_)
  refine lv_iconst (v := nI 0) hx hb d_MO_present_2 (by decide) ?_
  refine lv_istore_n (lv' := [(2, .int (nI 0)), (1, .int (nI 0)), (0, .ref (am 0))]) hx hb d_MO_present_3 rfl hl (by decide) rfl (fun ls hl => ?_)
  refine pw_loop (fun mm H locs ls => ∃ k : Nat, mm = 16 - k ∧ k ≤ 16 ∧ va_P (dC, dI) pwCl (mw n am cI cL cZ S) H ∧ va_D A (mw n am cI cL cZ S) ∧ va_S A s.heap H locs ∧ lv_has ls 3 [(2, .int (nI k)), (1, .int (nI (pd_sm (fun i => S 5 (2 * i)) k))), (0, .ref (am 0))]) ?_ _ _ _ _ ⟨0, rfl, by omega, hP, hD, hS, hl⟩
  rintro mm H locs ls ⟨k, hmm, hk, hP, hD, hS, hl⟩ ih
  refine lv_iload_n hx hb d_MO_present_4 rfl (lv_at hl 0 rfl) ?_
  refine lv_bipush (v := nI 16) hx hb d_MO_present_5 (by decide) ?_
  refine pq_icmp_ge (tgt := 35) hx hb (by omega) (by omega) d_MO_present_7 (by decide) (fun h1 => ?_) (fun h1 => ?_)
  · have hk16 : k = 16 := by omega
    subst hk16
    refine lv_iload_n hx hb d_MO_present_35 rfl (lv_at hl 1 rfl) ?_
    exact W.iret (v := (nI (pd_sm (fun i => S 5 (2 * i)) 16))) hx hb hret (fun t9 ht9 hW9 => ⟨⟨_, (), rfl, rfl, by rw [ht9]; exact hP, va_K.moved hW9.alike hK, hD⟩, hS.F ht9⟩) hS.2.2 d_MO_present_36
  · have h50 := h5 (2 * k) (by omega)
    refine lv_iload_n hx hb d_MO_present_10 rfl (lv_at hl 1 rfl) ?_
    refine lv_aload_n hx hb d_MO_present_11 rfl (lv_at hl 2 rfl) ?_
    refine va_get (C := "PageDriveModel") (T := F_MO) (N := 11) hx hb hg iw_MO hown hK hP (0) mw_g0 rfl 7 (by decide) (hg (Cond.fieldLink "PageDriveModel" 23 "PageDriveModel" "there" "[Z") (wG_m10 (List.mem_of_getElem? (i := 30) rfl))) (fun _ h9 => h9) rfl d_MO_present_12 ?_
    refine lv_iconst (v := nI 2) hx hb d_MO_present_15 (by decide) ?_
    refine lv_iload_n hx hb d_MO_present_16 rfl (lv_at hl 0 rfl) ?_
    refine pq_imul hx hb d_MO_present_17 ?_
    refine pq_zald hx hb hK hP 5 4 mw_g5 rfl (by omega) (by omega) d_MO_present_18 ?_
    refine pq_if_eq (tgt := 26) hx hb (by omega) d_MO_present_19 (by decide) (fun h2 => ?_) (fun h2 => ?_)
    · refine lv_iconst (v := nI 0) hx hb d_MO_present_26 (by decide) ?_
      refine pq_iadd hx hb d_MO_present_27 ?_
      refine lv_istore_n (lv' := [(1, .int (nI ((pd_sm (fun i => S 5 (2 * i)) k) + 0))), (2, .int (nI k)), (0, .ref (am 0))]) hx hb d_MO_present_28 rfl hl (by decide) rfl (fun ls hl => ?_)
      refine lv_iinc (v := (nI (k + 1))) (lv' := [(2, .int (nI (k + 1))), (1, .int (nI ((pd_sm (fun i => S 5 (2 * i)) k) + 0))), (0, .ref (am 0))]) hx hb d_MO_present_29 hl (k := 1) rfl (pq_inc _) (by decide) rfl (fun ls hl => ?_)
      refine lv_goto (tgt := 4) hx hb d_MO_present_32 (by decide) ?_
      exact ih _ _ _ _ (by omega) ⟨k + 1, rfl, by omega, hP, hD, hS, by simp only [pd_sm]; rw [h2]; exact hl⟩
    · refine lv_iconst (v := nI 1) hx hb d_MO_present_22 (by decide) ?_
      refine lv_goto (tgt := 27) hx hb d_MO_present_23 (by decide) ?_
      refine pq_iadd hx hb d_MO_present_27 ?_
      refine lv_istore_n (lv' := [(1, .int (nI ((pd_sm (fun i => S 5 (2 * i)) k) + 1))), (2, .int (nI k)), (0, .ref (am 0))]) hx hb d_MO_present_28 rfl hl (by decide) rfl (fun ls hl => ?_)
      refine lv_iinc (v := (nI (k + 1))) (lv' := [(2, .int (nI (k + 1))), (1, .int (nI ((pd_sm (fun i => S 5 (2 * i)) k) + 1))), (0, .ref (am 0))]) hx hb d_MO_present_29 hl (k := 1) rfl (pq_inc _) (by decide) rfl (fun ls hl => ?_)
      refine lv_goto (tgt := 4) hx hb d_MO_present_32 (by decide) ?_
      exact ih _ _ _ _ (by omega) ⟨k + 1, rfl, by omega, hP, hD, hS, by simp only [pd_sm]; rw [show S 5 (2 * k) = 1 by omega]; exact hl⟩
set_option maxHeartbeats 4000000 in
set_option maxRecDepth 100000 in
/-- sharedPages(f) -/
theorem c_MO_sharedPages (l : Launch) (dC : Nat → ClassId) (dI : Nat → Nat → Nat) (cI cB cE cL cZ : ClassId) (n : Nat) (am : Nat → Nat) (S : pdS) (f : Nat) (hf : f < 16) (hv : pd_v 1024 S) (sz : Nat) : CMi l (dC, dI) (pw_ty cI cB cE cL cZ) y_MO_sharedPages w_MO_sharedPages ({ frames := 2, cells := 0, slots := 0, locals := 42 }) [.ref (am 0), .int (nI f)] (mw n am cI cL cZ S) (mw n am cI cL cZ) sz (fun r S2 => r = nI (pd_shd S (2 * f)) ∧ ∀ b, b ≠ 1 → S2 b = S b) := by
  refine Met.ofW (cc := b_MO_sharedPages) (maxL := 4) (ret := (some .int)) (by decide) rfl ?_
  intro p e s m args below meth c s₁ B hml hv
  obtain ⟨rfl, hsz, hP, hK, hD0⟩ := hv
  have hx := B.exec
  have hb := B.bytes
  have hret := B.returns
  have hts := atoms_spec (ws := w_MO_sharedPages) B.pre
  have hg : ∀ w ∈ wsG, w.before _ s = true := fun w h => hts w (List.mem_cons_of_mem _ h)
  have hown : s.vm.findClass "PageDriveModel" = some m.cls := findClass_of_methodNamed B.named
  have hlocks := B.notSynchronized
  subst hsz
  have hD := hD0.self (sz := s.heap.size)
  generalize hAe : va_A (mw n am cI cL cZ S) s.heap.size = A at hD ⊢
  have hA : ∀ q : Nat, s.heap.size ≤ q → A q := fun q h => by rw [← hAe]; exact Or.inr h
  have hS : va_S A s.heap s.heap [] := va_S.rf
  have hl := lv_entry ([.ref (am 0), .int (nI f)]) (n := 4) (Nat.le_of_ble_eq_true rfl)
  rw [lg_entry_eq]
  generalize (lg_sl ([.ref (am 0), .int (nI f)]) ++ List.replicate (4 - (lg_sl ([.ref (am 0), .int (nI f)])).length) Slot.unset).toArray = ls at hl ⊢
  have hl : lv_has ls 4 [(0, .ref (am 0)), (1, .int (nI f))] := hl
  have hs4 := (hv.1 (2 * f) (by omega)).1
  have h400 : pd_pf (S 4 (2 * f)) ≤ 400 := by unfold pd_pf; omega
  refine lv_aload_n hx hb d_MO_sharedPages_0 rfl (lv_at hl 0 rfl) ?_
  refine pw_calli (va_runV (As := []) (rest := []) ⟨hx, hb, hml, hown, hg⟩ (c_MO_look l dC dI cI cB cE cL cZ n am S hv s.heap.size) (cwV 0 hg (gi_V (fun _ h => h) (wG_m12 (List.mem_of_getElem? (i := 1) rfl)) (wG_m12 (List.mem_of_getElem? (i := 2) rfl)) (wG_m14 (List.mem_of_getElem? (i := 12) rfl)) (wG_m1 (List.mem_of_getElem? (i := 6) rfl)) (wG_m12 (List.mem_of_getElem? (i := 3) rfl))) rfl rfl rfl (by decide +kernel) ⟨Nat.le_of_ble_eq_true rfl, Nat.le_of_ble_eq_true rfl⟩) (pw_pv hK hP hD (va_recv hK hP (ci := 4) (q0 := 0) rfl mw_g0) []) rfl rfl hl.1 rfl (lv_room (Nat.le_of_ble_eq_true rfl)) d_MO_sharedPages_1 ⟨Nat.le_of_ble_eq_true rfl, Nat.le_of_ble_eq_true rfl⟩) hD hS hA (fun r0 T H locs hr hP hD hS => ?_)
  obtain ⟨-, hc, hT⟩ := hr
  have hT4 : T 4 (2 * f) = S 4 (2 * f) := by rw [hT 4 (by decide)]
  have hTr : T (8 + 2 * f) = S (8 + 2 * f) := hT _ (by omega)
  refine lv_pop hx hb d_MO_sharedPages_4 rfl ?_
  refine lv_iconst (v := nI 0) hx hb d_MO_sharedPages_5 (by decide) ?_
  refine lv_istore_n (lv' := [(2, .int (nI 0)), (0, .ref (am 0)), (1, .int (nI f))]) hx hb d_MO_sharedPages_6 rfl hl (by decide) rfl (fun ls hl => ?_)
  refine lv_iconst (v := nI 0) hx hb d_MO_sharedPages_7 (by decide) ?_
  refine lv_istore_n (lv' := [(3, .int (nI 0)), (2, .int (nI 0)), (0, .ref (am 0)), (1, .int (nI f))]) hx hb d_MO_sharedPages_8 rfl hl (by decide) rfl (fun ls hl => ?_)
  refine pw_loop (fun mm H locs ls => ∃ k : Nat, mm = pd_pf (S 4 (2 * f)) - k ∧ k ≤ pd_pf (S 4 (2 * f)) ∧ va_P (dC, dI) pwCl (mw n am cI cL cZ T) H ∧ va_D A (mw n am cI cL cZ T) ∧ va_S A s.heap H locs ∧ lv_has ls 4 [(3, .int (nI k)), (2, .int (nI (pd_sm (fun k => if 1 < pd_ct S (S (8 + 2 * f) k) then 1 else 0) k))), (0, .ref (am 0)), (1, .int (nI f))]) ?_ _ _ _ _ ⟨0, rfl, by omega, hP, hD, hS, hl⟩
  rintro mm H locs ls ⟨k, hmm, hk, hP, hD, hS, hl⟩ ih
  refine lv_iload_n hx hb d_MO_sharedPages_9 rfl (lv_at hl 0 rfl) ?_
  refine lv_aload_n hx hb d_MO_sharedPages_10 rfl (lv_at hl 2 rfl) ?_
  refine va_get (C := "PageDriveModel") (T := F_MO) (N := 11) hx hb hg iw_MO hown hK hP (0) mw_g0 rfl 6 (by decide) (hg (Cond.fieldLink "PageDriveModel" 20 "PageDriveModel" "sizes" "[I") (wG_m10 (List.mem_of_getElem? (i := 29) rfl))) (fun _ h9 => h9) rfl d_MO_sharedPages_11 ?_
  refine lv_iconst (v := nI 2) hx hb d_MO_sharedPages_14 (by decide) ?_
  refine lv_iload_n hx hb d_MO_sharedPages_15 rfl (lv_at hl 3 rfl) ?_
  refine pq_imul hx hb d_MO_sharedPages_16 ?_
  refine pq_iald hx hb hK hP 4 0 mw_g4 rfl (by omega) (by omega) d_MO_sharedPages_17 ?_
  refine pq_top (y := nI (S 4 (2 * f))) (by rw [hT4]) ?_
  refine pw_callip (va_runS (As := [.int (nI (S 4 (2 * f)))]) (rest := [.int (nI k)]) ⟨hx, hb, hml, hown, hg⟩ (c_MO_needed l dC dI cI cB cE cL cZ (mw n am cI cL cZ T) (S 4 (2 * f)) (by omega) H.size) (cwS 1 hg (gi_S (fun _ h => h) (wG_m12 (List.mem_of_getElem? (i := 4) rfl)) (wG_m12 (List.mem_of_getElem? (i := 5) rfl)) (wG_m1 (List.mem_of_getElem? (i := 6) rfl)) (wG_m12 (List.mem_of_getElem? (i := 6) rfl))) rfl rfl rfl (by decide +kernel) ⟨Nat.le_of_ble_eq_true rfl, Nat.le_of_ble_eq_true rfl⟩) (pw_ps hK hP hD [.int (nI (S 4 (2 * f)))]) rfl rfl hl.1 rfl (lv_room (Nat.le_of_ble_eq_true rfl)) d_MO_sharedPages_18 ⟨Nat.le_of_ble_eq_true rfl, Nat.le_of_ble_eq_true rfl⟩) hD hS hA (fun r1 H locs hr hP hD hS => ?_)
  subst hr
  refine pq_icmp_ge (tgt := 59) hx hb (by omega) (by omega) d_MO_sharedPages_21 (by decide) (fun h1 => ?_) (fun h1 => ?_)
  · have hkk : k = pd_pf (S 4 (2 * f)) := by omega
    subst hkk
    refine lv_iload_n hx hb d_MO_sharedPages_59 rfl (lv_at hl 1 rfl) ?_
    exact W.iret (v := (nI (pd_sm (fun k => if 1 < pd_ct S (S (8 + 2 * f) k) then 1 else 0) (pd_pf (S 4 (2 * f)))))) hx hb hret (fun t9 ht9 hW9 => ⟨⟨_, T, rfl, ⟨rfl, hT⟩, by rw [ht9]; exact hP, va_K.moved hW9.alike hK, hD⟩, hS.F ht9⟩) hS.2.2 d_MO_sharedPages_60
  · have hpg := hv.2.1 (2 * f) k (by omega) h1
    have hs1 := hc _ hpg
    have hbd := pd_ct_bd hv (S (8 + 2 * f) k)
    refine lv_iload_n hx hb d_MO_sharedPages_24 rfl (lv_at hl 1 rfl) ?_
    refine lv_aload_n hx hb d_MO_sharedPages_25 rfl (lv_at hl 2 rfl) ?_
    refine va_get (C := "PageDriveModel") (T := F_MO) (N := 11) hx hb hg iw_MO hown hK hP (0) mw_g0 rfl 10 (by decide) (hg (Cond.fieldLink "PageDriveModel" 30 "PageDriveModel" "seen" "[I") (wG_m10 (List.mem_of_getElem? (i := 33) rfl))) (fun _ h9 => h9) rfl d_MO_sharedPages_26 ?_
    refine lv_aload_n hx hb d_MO_sharedPages_29 rfl (lv_at hl 2 rfl) ?_
    refine va_get (C := "PageDriveModel") (T := F_MO) (N := 11) hx hb hg iw_MO hown hK hP (0) mw_g0 rfl 5 (by decide) (hg (Cond.fieldLink "PageDriveModel" 17 "PageDriveModel" "rows" "[I") (wG_m10 (List.mem_of_getElem? (i := 28) rfl))) (fun _ h9 => h9) rfl d_MO_sharedPages_30 ?_
    refine lv_sipush (v := nI 800) hx hb d_MO_sharedPages_33 (by decide) ?_
    refine lv_iload_n hx hb d_MO_sharedPages_36 rfl (lv_at hl 3 rfl) ?_
    refine pq_imul hx hb d_MO_sharedPages_37 ?_
    refine lv_iload_n hx hb d_MO_sharedPages_38 rfl (lv_at hl 0 rfl) ?_
    refine pq_iadd hx hb d_MO_sharedPages_39 ?_
    refine pm_rowld (d := 2 * f) (k := k) hx hb hK hP (by omega) (by omega) (by omega) rfl d_MO_sharedPages_40 ?_
    refine pq_top (y := nI (S (8 + 2 * f) k)) (by rw [hTr]) ?_
    refine pq_iald hx hb hK hP 7 0 mw_g7 rfl (by omega) (by omega) d_MO_sharedPages_41 ?_
    refine lv_iconst (v := nI 1) hx hb d_MO_sharedPages_42 (by decide) ?_
    refine pq_icmp_le (tgt := 50) hx hb (by omega) (by omega) d_MO_sharedPages_43 (by decide) (fun h2 => ?_) (fun h2 => ?_)
    · refine lv_iconst (v := nI 0) hx hb d_MO_sharedPages_50 (by decide) ?_
      refine pq_iadd hx hb d_MO_sharedPages_51 ?_
      refine lv_istore_n (lv' := [(2, .int (nI ((pd_sm (fun k => if 1 < pd_ct S (S (8 + 2 * f) k) then 1 else 0) k) + 0))), (3, .int (nI k)), (0, .ref (am 0)), (1, .int (nI f))]) hx hb d_MO_sharedPages_52 rfl hl (by decide) rfl (fun ls hl => ?_)
      refine lv_iinc (v := (nI (k + 1))) (lv' := [(3, .int (nI (k + 1))), (2, .int (nI ((pd_sm (fun k => if 1 < pd_ct S (S (8 + 2 * f) k) then 1 else 0) k) + 0))), (0, .ref (am 0)), (1, .int (nI f))]) hx hb d_MO_sharedPages_53 hl (k := 1) rfl (pq_inc _) (by decide) rfl (fun ls hl => ?_)
      refine lv_goto (tgt := 9) hx hb d_MO_sharedPages_56 (by decide) ?_
      exact ih _ _ _ _ (by omega) ⟨k + 1, rfl, by omega, hP, hD, hS, by simp only [pd_sm]; rw [if_neg (by omega)]; exact hl⟩
    · refine lv_iconst (v := nI 1) hx hb d_MO_sharedPages_46 (by decide) ?_
      refine lv_goto (tgt := 51) hx hb d_MO_sharedPages_47 (by decide) ?_
      refine pq_iadd hx hb d_MO_sharedPages_51 ?_
      refine lv_istore_n (lv' := [(2, .int (nI ((pd_sm (fun k => if 1 < pd_ct S (S (8 + 2 * f) k) then 1 else 0) k) + 1))), (3, .int (nI k)), (0, .ref (am 0)), (1, .int (nI f))]) hx hb d_MO_sharedPages_52 rfl hl (by decide) rfl (fun ls hl => ?_)
      refine lv_iinc (v := (nI (k + 1))) (lv' := [(3, .int (nI (k + 1))), (2, .int (nI ((pd_sm (fun k => if 1 < pd_ct S (S (8 + 2 * f) k) then 1 else 0) k) + 1))), (0, .ref (am 0)), (1, .int (nI f))]) hx hb d_MO_sharedPages_53 hl (k := 1) rfl (pq_inc _) (by decide) rfl (fun ls hl => ?_)
      refine lv_goto (tgt := 9) hx hb d_MO_sharedPages_56 (by decide) ?_
      exact ih _ _ _ _ (by omega) ⟨k + 1, rfl, by omega, hP, hD, hS, by simp only [pd_sm]; rw [if_pos (by omega)]; exact hl⟩
set_option maxHeartbeats 4000000 in
set_option maxRecDepth 100000 in
/-- breaks(f, keep) -/
theorem c_MO_breaks (l : Launch) (dC : Nat → ClassId) (dI : Nat → Nat → Nat) (cI cB cE cL cZ : ClassId) (n : Nat) (am : Nat → Nat) (S : pdS) (f keep : Nat) (hf : f < 16) (hv : pd_v 1024 S) (hlo : S 6 f ≤ S 4 (2 * f)) (hkp : keep < 2 ^ 31) (sz : Nat) : CMv l (dC, dI) (pw_ty cI cB cE cL cZ) y_MO_breaks w_MO_breaks ({ frames := 2, cells := 0, slots := 0, locals := 44 }) [.ref (am 0), .int (nI f), .int (nI keep)] (mw n am cI cL cZ S) (mw n am cI cL cZ) sz (fun S2 => pd_fal S S2 f keep ∧ S2 7 = S 7) := by
  refine Met.ofW (cc := b_MO_breaks) (maxL := 3) (ret := none) (by decide) rfl ?_
  intro p e s m args below meth c s₁ B hml hv
  obtain ⟨rfl, hsz, hP, hK, hD0⟩ := hv
  have hx := B.exec
  have hb := B.bytes
  have hret := B.returns
  have hts := atoms_spec (ws := w_MO_breaks) B.pre
  have hg : ∀ w ∈ wsG, w.before _ s = true := fun w h => hts w (List.mem_cons_of_mem _ h)
  have hown : s.vm.findClass "PageDriveModel" = some m.cls := findClass_of_methodNamed B.named
  have hlocks := B.notSynchronized
  subst hsz
  have hD := hD0.self (sz := s.heap.size)
  generalize hAe : va_A (mw n am cI cL cZ S) s.heap.size = A at hD ⊢
  have hA : ∀ q : Nat, s.heap.size ≤ q → A q := fun q h => by rw [← hAe]; exact Or.inr h
  have hS : va_S A s.heap s.heap [] := va_S.rf
  have hl := lv_entry ([.ref (am 0), .int (nI f), .int (nI keep)]) (n := 3) (Nat.le_of_ble_eq_true rfl)
  rw [lg_entry_eq]
  generalize (lg_sl ([.ref (am 0), .int (nI f), .int (nI keep)]) ++ List.replicate (3 - (lg_sl ([.ref (am 0), .int (nI f), .int (nI keep)])).length) Slot.unset).toArray = ls at hl ⊢
  have hl : lv_has ls 3 [(0, .ref (am 0)), (1, .int (nI f)), (2, .int (nI keep))] := hl
  have hs4 := (hv.1 (2 * f) (by omega)).1
  have hs4s := (hv.1 (2 * f + 1) (by omega)).1
  have hs5s := (hv.1 (2 * f + 1) (by omega)).2.1
  refine lv_iload_n hx hb d_MO_breaks_0 rfl (lv_at hl 2 rfl) ?_
  refine pq_if_ne (tgt := 19) hx hb (by omega) d_MO_breaks_1 (by decide) (fun h1 => ?_) (fun h1 => ?_)
  · refine lv_aload_n hx hb d_MO_breaks_19 rfl (lv_at hl 0 rfl) ?_
    refine va_get (C := "PageDriveModel") (T := F_MO) (N := 11) hx hb hg iw_MO hown hK hP (0) mw_g0 rfl 6 (by decide) (hg (Cond.fieldLink "PageDriveModel" 20 "PageDriveModel" "sizes" "[I") (wG_m10 (List.mem_of_getElem? (i := 29) rfl))) (fun _ h9 => h9) rfl d_MO_breaks_20 ?_
    refine lv_iconst (v := nI 2) hx hb d_MO_breaks_23 (by decide) ?_
    refine lv_iload_n hx hb d_MO_breaks_24 rfl (lv_at hl 1 rfl) ?_
    refine pq_imul hx hb d_MO_breaks_25 ?_
    refine pq_iald hx hb hK hP 4 0 mw_g4 rfl (by omega) (by omega) d_MO_breaks_26 ?_
    refine lv_i2l hx hb d_MO_breaks_27 rfl ?_
    refine pq_topl (y := lN (S 4 (2 * f))) (nI_l (by omega)) ?_
    refine lv_aload_n hx hb d_MO_breaks_28 rfl (lv_at hl 0 rfl) ?_
    refine va_get (C := "PageDriveModel") (T := F_MO) (N := 11) hx hb hg iw_MO hown hK hP (0) mw_g0 rfl 8 (by decide) (hg (Cond.fieldLink "PageDriveModel" 27 "PageDriveModel" "lows" "[I") (wG_m10 (List.mem_of_getElem? (i := 31) rfl))) (fun _ h9 => h9) rfl d_MO_breaks_29 ?_
    refine lv_iload_n hx hb d_MO_breaks_32 rfl (lv_at hl 1 rfl) ?_
    refine pq_iald hx hb hK hP 6 0 mw_g6 rfl (by omega) (by omega) d_MO_breaks_33 ?_
    refine lv_i2l hx hb d_MO_breaks_34 rfl ?_
    refine pq_topl (y := lN (S 6 f)) (nI_l (by omega)) ?_
    refine lv_iload_n hx hb d_MO_breaks_35 rfl (lv_at hl 2 rfl) ?_
    refine lv_i2l hx hb d_MO_breaks_36 rfl ?_
    refine pq_topl (y := lN keep) (nI_l hkp) ?_
    refine lv_lconst (v := 1) hx hb d_MO_breaks_37 (by decide) ?_
    refine lv_lsub hx hb d_MO_breaks_38 ?_
    refine pq_topl (y := lN (keep - 1)) (by rw [show (1 : Int64) = lN 1 from rfl, lN_sub (by omega)]) ?_
    refine lv_ladd hx hb d_MO_breaks_39 ?_
    refine pq_topl (y := lN (S 6 f + (keep - 1))) (lN_add ..) ?_
    refine W.lcmp hx hb d_MO_breaks_40 ?_
    refine lv_if_le (tgt := 62) hx hb d_MO_breaks_41 (by decide) (fun h2 => ?_) (fun h2 => ?_)
    · have h3 := (pd_lgle (by omega) (by omega)).mp h2
      refine lv_aload_n hx hb d_MO_breaks_62 rfl (lv_at hl 0 rfl) ?_
      refine lv_iload_n hx hb d_MO_breaks_63 rfl (lv_at hl 1 rfl) ?_
      refine pw_callv (va_runV (As := [.int (nI f)]) (rest := []) ⟨hx, hb, hml, hown, hg⟩ (c_MO_settle l dC dI cI cB cE cL cZ n am S f hf hv s.heap.size) (cwV 1 hg (gi_V (fun _ h => h) (wG_m12 (List.mem_of_getElem? (i := 39) rfl)) (wG_m13 (List.mem_of_getElem? (i := 0) rfl)) (wG_m14 (List.mem_of_getElem? (i := 18) rfl)) (wG_m1 (List.mem_of_getElem? (i := 6) rfl)) (wG_m13 (List.mem_of_getElem? (i := 1) rfl))) rfl rfl rfl (by decide +kernel) ⟨Nat.le_of_ble_eq_true rfl, Nat.le_of_ble_eq_true rfl⟩) (pw_pv hK hP hD (va_recv hK hP (ci := 4) (q0 := 0) rfl mw_g0) [.int (nI f)]) rfl rfl hl.1 rfl (lv_room (Nat.le_of_ble_eq_true rfl)) d_MO_breaks_64 ⟨Nat.le_of_ble_eq_true rfl, Nat.le_of_ble_eq_true rfl⟩) hD hS hA (fun S2 H locs hr hP hD hS => ?_)
      exact W.vret hx hb hret (fun t9 ht9 hW9 => ⟨⟨_, rfl, ⟨⟨S, Or.inr (Or.inr ⟨by omega, by omega, pd_sa_rf S⟩), hr.1⟩, hr.2⟩, by rw [ht9]; exact hP, va_K.moved hW9.alike hK, hD⟩, hS.F ht9⟩) hS.2.2 d_MO_breaks_67
    · have h3 : S 6 f + (keep - 1) < S 4 (2 * f) := Nat.not_le.mp fun q => h2 ((pd_lgle (by omega) (by omega)).mpr q)
      refine lv_aload_n hx hb d_MO_breaks_44 rfl (lv_at hl 0 rfl) ?_
      refine va_get (C := "PageDriveModel") (T := F_MO) (N := 11) hx hb hg iw_MO hown hK hP (0) mw_g0 rfl 6 (by decide) (hg (Cond.fieldLink "PageDriveModel" 20 "PageDriveModel" "sizes" "[I") (wG_m10 (List.mem_of_getElem? (i := 29) rfl))) (fun _ h9 => h9) rfl d_MO_breaks_45 ?_
      refine lv_iconst (v := nI 2) hx hb d_MO_breaks_48 (by decide) ?_
      refine lv_iload_n hx hb d_MO_breaks_49 rfl (lv_at hl 1 rfl) ?_
      refine pq_imul hx hb d_MO_breaks_50 ?_
      refine lv_aload_n hx hb d_MO_breaks_51 rfl (lv_at hl 0 rfl) ?_
      refine va_get (C := "PageDriveModel") (T := F_MO) (N := 11) hx hb hg iw_MO hown hK hP (0) mw_g0 rfl 8 (by decide) (hg (Cond.fieldLink "PageDriveModel" 27 "PageDriveModel" "lows" "[I") (wG_m10 (List.mem_of_getElem? (i := 31) rfl))) (fun _ h9 => h9) rfl d_MO_breaks_52 ?_
      refine lv_iload_n hx hb d_MO_breaks_55 rfl (lv_at hl 1 rfl) ?_
      refine pq_iald hx hb hK hP 6 0 mw_g6 rfl (by omega) (by omega) d_MO_breaks_56 ?_
      refine lv_iload_n hx hb d_MO_breaks_57 rfl (lv_at hl 2 rfl) ?_
      refine pq_iadd hx hb d_MO_breaks_58 ?_
      refine lv_iconst (v := nI 1) hx hb d_MO_breaks_59 (by decide) ?_
      refine pq_isub hx hb (by omega) d_MO_breaks_60 ?_
      refine pm_size hx hb hK hP hD hS (by omega) rfl d_MO_breaks_61 (fun H locs hP hD hS => ?_)
      generalize eS1 : pd_st S 4 (2 * f) (((S 6 f) + keep) - 1) = S1 at hP hD
      have hsh : pd_sh S S1 (2 * f) (S 6 f + keep - 1) := by rw [← eS1]; exact pd_sh_m
      refine lv_aload_n hx hb d_MO_breaks_62 rfl (lv_at hl 0 rfl) ?_
      refine lv_iload_n hx hb d_MO_breaks_63 rfl (lv_at hl 1 rfl) ?_
      refine pw_callv (va_runV (As := [.int (nI f)]) (rest := []) ⟨hx, hb, hml, hown, hg⟩ (c_MO_settle l dC dI cI cB cE cL cZ n am S1 f hf (pd_sh_v hsh (by omega) hv) H.size) (cwV 1 hg (gi_V (fun _ h => h) (wG_m12 (List.mem_of_getElem? (i := 39) rfl)) (wG_m13 (List.mem_of_getElem? (i := 0) rfl)) (wG_m14 (List.mem_of_getElem? (i := 18) rfl)) (wG_m1 (List.mem_of_getElem? (i := 6) rfl)) (wG_m13 (List.mem_of_getElem? (i := 1) rfl))) rfl rfl rfl (by decide +kernel) ⟨Nat.le_of_ble_eq_true rfl, Nat.le_of_ble_eq_true rfl⟩) (pw_pv hK hP hD (va_recv hK hP (ci := 4) (q0 := 0) rfl mw_g0) [.int (nI f)]) rfl rfl hl.1 rfl (lv_room (Nat.le_of_ble_eq_true rfl)) d_MO_breaks_64 ⟨Nat.le_of_ble_eq_true rfl, Nat.le_of_ble_eq_true rfl⟩) hD hS hA (fun S9 H locs hr hP hD hS => ?_)
      exact W.vret hx hb hret (fun t9 ht9 hW9 => ⟨⟨_, rfl, ⟨⟨S1, Or.inr (Or.inl ⟨by omega, by omega, hsh⟩), hr.1⟩, by rw [hr.2, ← eS1, pd_bk _ (by decide)]⟩, by rw [ht9]; exact hP, va_K.moved hW9.alike hK, hD⟩, hS.F ht9⟩) hS.2.2 d_MO_breaks_67
  · refine lv_aload_n hx hb d_MO_breaks_4 rfl (lv_at hl 0 rfl) ?_
    refine lv_iconst (v := nI 2) hx hb d_MO_breaks_5 (by decide) ?_
    refine lv_iload_n hx hb d_MO_breaks_6 rfl (lv_at hl 1 rfl) ?_
    refine pq_imul hx hb d_MO_breaks_7 ?_
    refine lv_iconst (v := nI 2) hx hb d_MO_breaks_8 (by decide) ?_
    refine lv_iload_n hx hb d_MO_breaks_9 rfl (lv_at hl 1 rfl) ?_
    refine pq_imul hx hb d_MO_breaks_10 ?_
    refine lv_iconst (v := nI 1) hx hb d_MO_breaks_11 (by decide) ?_
    refine pq_iadd hx hb d_MO_breaks_12 ?_
    refine pw_callv (va_runV (As := [.int (nI (2 * f)), .int (nI ((2 * f) + 1))]) (rest := []) ⟨hx, hb, hml, hown, hg⟩ (c_MO_become l dC dI cI cB cE cL cZ n am S (2 * f) (2 * f + 1) (by omega) (by omega) (by omega) hs4s hs5s s.heap.size) (cwV 2 hg (gi_V (fun _ h => h) (wG_m12 (List.mem_of_getElem? (i := 29) rfl)) (wG_m12 (List.mem_of_getElem? (i := 30) rfl)) (wG_m14 (List.mem_of_getElem? (i := 16) rfl)) (wG_m1 (List.mem_of_getElem? (i := 6) rfl)) (wG_m12 (List.mem_of_getElem? (i := 31) rfl))) rfl rfl rfl (by decide +kernel) ⟨Nat.le_of_ble_eq_true rfl, Nat.le_of_ble_eq_true rfl⟩) (pw_pv hK hP hD (va_recv hK hP (ci := 4) (q0 := 0) rfl mw_g0) [.int (nI (2 * f)), .int (nI ((2 * f) + 1))]) rfl rfl hl.1 rfl (lv_room (Nat.le_of_ble_eq_true rfl)) d_MO_breaks_13 ⟨Nat.le_of_ble_eq_true rfl, Nat.le_of_ble_eq_true rfl⟩) hD hS hA (fun T H locs hrT hP hD hS => ?_)
    refine lv_goto (tgt := 62) hx hb d_MO_breaks_16 (by decide) ?_
    refine lv_aload_n hx hb d_MO_breaks_62 rfl (lv_at hl 0 rfl) ?_
    refine lv_iload_n hx hb d_MO_breaks_63 rfl (lv_at hl 1 rfl) ?_
    refine pw_callv (va_runV (As := [.int (nI f)]) (rest := []) ⟨hx, hb, hml, hown, hg⟩ (c_MO_settle l dC dI cI cB cE cL cZ n am T f hf (pd_be_v hrT.1 (by omega) hv) H.size) (cwV 1 hg (gi_V (fun _ h => h) (wG_m12 (List.mem_of_getElem? (i := 39) rfl)) (wG_m13 (List.mem_of_getElem? (i := 0) rfl)) (wG_m14 (List.mem_of_getElem? (i := 18) rfl)) (wG_m1 (List.mem_of_getElem? (i := 6) rfl)) (wG_m13 (List.mem_of_getElem? (i := 1) rfl))) rfl rfl rfl (by decide +kernel) ⟨Nat.le_of_ble_eq_true rfl, Nat.le_of_ble_eq_true rfl⟩) (pw_pv hK hP hD (va_recv hK hP (ci := 4) (q0 := 0) rfl mw_g0) [.int (nI f)]) rfl rfl hl.1 rfl (lv_room (Nat.le_of_ble_eq_true rfl)) d_MO_breaks_64 ⟨Nat.le_of_ble_eq_true rfl, Nat.le_of_ble_eq_true rfl⟩) hD hS hA (fun S2 H locs hr hP hD hS => ?_)
    exact W.vret hx hb hret (fun t9 ht9 hW9 => ⟨⟨_, rfl, ⟨⟨T, Or.inl ⟨h1, hrT.1⟩, hr.1⟩, by rw [hr.2, hrT.2.1]⟩, by rw [ht9]; exact hP, va_K.moved hW9.alike hK, hD⟩, hS.F ht9⟩) hS.2.2 d_MO_breaks_67
set_option maxHeartbeats 4000000 in
set_option maxRecDepth 100000 in
/-- feed -/
theorem c_MO_feed (l : Launch) (dC : Nat → ClassId) (dI : Nat → Nat → Nat) (cI cB cE cL cZ : ClassId) (n : Nat) (am : Nat → Nat) (S : pdS) (x : Int64) (k : Int32) (h72 : S 7 2 ≤ 4096) (sz : Nat) : CMi l (dC, dI) (pw_ty cI cB cE cL cZ) y_MO_feed w_MO_feed ({ frames := 1, cells := 0, slots := 0, locals := 22 }) [.ref (am 0), .long x, .int k] (mw n am cI cL cZ S) (mw n am cI cL cZ) sz (fun r S2 => (S2 7 3 = 1 ∧ (∀ j, 1 ≤ j → j ≤ 8 → k ≠ nI j) ∧ pd_sa S S2) ∨ (S2 7 3 = 2 ∧ (∃ j, 1 ≤ j ∧ j ≤ 8 ∧ k = nI j ∧ 4096 < S 7 2 + j) ∧ pd_sa S S2) ∨ (S2 7 3 = 0 ∧ ∃ j, 1 ≤ j ∧ j ≤ 8 ∧ k = nI j ∧ S 7 2 + j ≤ 4096 ∧ r = nI (S 7 2 + j) ∧ pd_sa (pd_fd S x j) S2)) := by
  refine Met.ofW (cc := b_MO_feed) (maxL := 5) (ret := (some .int)) (by decide) rfl ?_
  intro p e s m args below meth c s₁ B hml hv
  obtain ⟨rfl, hsz, hP, hK, hD0⟩ := hv
  have hx := B.exec
  have hb := B.bytes
  have hret := B.returns
  have hts := atoms_spec (ws := w_MO_feed) B.pre
  have hg : ∀ w ∈ wsG, w.before _ s = true := fun w h => hts w (List.mem_cons_of_mem _ h)
  have hown : s.vm.findClass "PageDriveModel" = some m.cls := findClass_of_methodNamed B.named
  have hlocks := B.notSynchronized
  subst hsz
  have hD := hD0.self (sz := s.heap.size)
  generalize hAe : va_A (mw n am cI cL cZ S) s.heap.size = A at hD ⊢
  have hA : ∀ q : Nat, s.heap.size ≤ q → A q := fun q h => by rw [← hAe]; exact Or.inr h
  have hS : va_S A s.heap s.heap [] := va_S.rf
  have hl := lv_entry ([.ref (am 0), .long x, .int k]) (n := 5) (Nat.le_of_ble_eq_true rfl)
  rw [lg_entry_eq]
  generalize (lg_sl ([.ref (am 0), .long x, .int k]) ++ List.replicate (5 - (lg_sl ([.ref (am 0), .long x, .int k])).length) Slot.unset).toArray = ls at hl ⊢
  have hl : lv_has ls 5 [(0, .ref (am 0)), (1, .long x), (3, .int k)] := hl
  refine lv_aload_n hx hb d_MO_feed_0 rfl (lv_at hl 0 rfl) ?_
  refine lv_iconst (v := nI 0) hx hb d_MO_feed_1 (by decide) ?_
  refine pm_thr hx hb hg hown hK hP hD hS (hg (Cond.fieldLink "PageDriveModel" 37 "PageDriveModel" "thrown" "I") (wG_m10 (List.mem_of_getElem? (i := 23) rfl))) d_MO_feed_2 (fun H locs hP hD hS => ?_)
  generalize eS1 : pd_st S 7 3 0 = S1 at hP hD
  have hsa : ∀ v, pd_sa S (pd_st S1 7 3 v) := fun v => by rw [← eS1]; exact pd_sa_tr (pd_sa_st (Or.inr (Or.inr ⟨rfl, by decide, by decide⟩))) (pd_sa_st (Or.inr (Or.inr ⟨rfl, by decide, by decide⟩)))
  have h172 : S1 7 2 = S 7 2 := by rw [← eS1, pd_ne _ (by decide)]
  have h173 : S1 7 3 = 0 := by rw [← eS1, pd_self]
  refine lv_iload_n hx hb d_MO_feed_5 rfl (lv_at hl 2 rfl) ?_
  refine lv_iconst (v := nI 1) hx hb d_MO_feed_6 (by decide) ?_
  refine lv_bipush (v := nI 8) hx hb d_MO_feed_7 (by decide) ?_
  refine pw_callip (va_runS (As := [.int k, .int (nI 1), .int (nI 8)]) (rest := []) ⟨hx, hb, hml, hown, hg⟩ (c_MO_within l dC dI cI cB cE cL cZ (mw n am cI cL cZ S1) k (nI 1) (nI 8) H.size) (cwS 3 hg (gi_S (fun _ h => h) (wG_m11 (List.mem_of_getElem? (i := 27) rfl)) (wG_m11 (List.mem_of_getElem? (i := 28) rfl)) (wG_m1 (List.mem_of_getElem? (i := 6) rfl)) (wG_m11 (List.mem_of_getElem? (i := 29) rfl))) rfl rfl rfl (by decide +kernel) ⟨Nat.le_of_ble_eq_true rfl, Nat.le_of_ble_eq_true rfl⟩) (pw_ps hK hP hD [.int k, .int (nI 1), .int (nI 8)]) rfl rfl hl.1 rfl (lv_room (Nat.le_of_ble_eq_true rfl)) d_MO_feed_9 ⟨Nat.le_of_ble_eq_true rfl, Nat.le_of_ble_eq_true rfl⟩) hD hS hA (fun r1 H locs hr hP hD hS => ?_)
  rcases hr with ⟨h1, h2, rfl⟩ | ⟨h1, rfl⟩
  · obtain ⟨j, hj1, hj2, rfl⟩ := pd_rng (a := 1) (b := 8) (by decide) (by decide) h1 h2
    refine pq_if_ne (tgt := 21) hx hb (by omega) d_MO_feed_12 (by decide) (fun _ => ?_) (fun h9 => absurd h9 (by omega))
    refine lv_aload_n hx hb d_MO_feed_21 rfl (lv_at hl 0 rfl) ?_
    refine va_get (C := "PageDriveModel") (T := F_MO) (N := 11) hx hb hg iw_MO hown hK hP (0) mw_g0 rfl 2 (by decide) (hg (Cond.fieldLink "PageDriveModel" 48 "PageDriveModel" "fed" "I") (wG_m10 (List.mem_of_getElem? (i := 25) rfl))) (fun _ h9 => h9) rfl d_MO_feed_22 ?_
    refine lv_iload_n hx hb d_MO_feed_25 rfl (lv_at hl 2 rfl) ?_
    refine pq_iadd hx hb d_MO_feed_26 ?_
    refine lv_sipush (v := nI 4096) hx hb d_MO_feed_27 (by decide) ?_
    refine pq_icmp_le (tgt := 39) hx hb (by omega) (by omega) d_MO_feed_30 (by decide) (fun h3 => ?_) (fun h3 => ?_)
    · refine lv_iconst (v := nI 0) hx hb d_MO_feed_39 (by decide) ?_
      refine lv_istore (lv' := [(4, .int (nI 0)), (0, .ref (am 0)), (1, .long x), (3, .int (nI j))]) hx hb d_MO_feed_40 hl (by decide) rfl (fun ls hl => ?_)
      refine pw_loop (fun mm H locs ls => ∃ (T : pdS) (i : Nat), mm = j - i ∧ i ≤ j ∧ T = pd_tp S1 x (S 7 2) i ∧ va_P (dC, dI) pwCl (mw n am cI cL cZ T) H ∧ va_D A (mw n am cI cL cZ T) ∧ va_S A s.heap H locs ∧ lv_has ls 5 [(4, .int (nI i)), (0, .ref (am 0)), (1, .long x), (3, .int (nI j))]) ?_ _ _ _ _ ⟨S1, 0, rfl, by omega, rfl, hP, hD, hS, hl⟩
      rintro mm H locs ls ⟨T, i, hmm, hi, hT, hP, hD, hS, hl⟩ ih
      have hT7 : T 7 = S1 7 := by rw [hT, pd_tp_bk (by decide)]
      have hT72 : T 7 2 = S 7 2 := by rw [hT7, h172]
      refine lv_iload hx hb d_MO_feed_42 (lv_at hl 0 rfl) ?_
      refine lv_iload_n hx hb d_MO_feed_44 rfl (lv_at hl 3 rfl) ?_
      refine pq_icmp_ge (tgt := 78) hx hb (by omega) (by omega) d_MO_feed_45 (by decide) (fun h4 => ?_) (fun h4 => ?_)
      · have hij : i = j := by omega
        subst hij
        refine lv_aload_n hx hb d_MO_feed_78 rfl (lv_at hl 1 rfl) ?_
        refine lv_dup hx hb d_MO_feed_79 rfl ?_
        refine va_get (C := "PageDriveModel") (T := F_MO) (N := 11) hx hb hg iw_MO hown hK hP (0) mw_g0 rfl 2 (by decide) (hg (Cond.fieldLink "PageDriveModel" 48 "PageDriveModel" "fed" "I") (wG_m10 (List.mem_of_getElem? (i := 25) rfl))) (fun _ h9 => h9) rfl d_MO_feed_80 ?_
        refine lv_iload_n hx hb d_MO_feed_83 rfl (lv_at hl 3 rfl) ?_
        refine pq_iadd hx hb d_MO_feed_84 ?_
        refine pm_fed hx hb hg hown hK hP hD hS (hg (Cond.fieldLink "PageDriveModel" 48 "PageDriveModel" "fed" "I") (wG_m10 (List.mem_of_getElem? (i := 25) rfl))) d_MO_feed_85 (fun H locs hP hD hS => ?_)
        generalize eS2 : pd_st T 7 2 ((T 7 2) + i) = S2 at hP hD
        have h1v : S2 7 2 = S 7 2 + i := by rw [← eS2, pd_self, hT72]
        refine lv_aload_n hx hb d_MO_feed_88 rfl (lv_at hl 1 rfl) ?_
        refine va_get (C := "PageDriveModel") (T := F_MO) (N := 11) hx hb hg iw_MO hown hK hP (0) mw_g0 rfl 2 (by decide) (hg (Cond.fieldLink "PageDriveModel" 48 "PageDriveModel" "fed" "I") (wG_m10 (List.mem_of_getElem? (i := 25) rfl))) (fun _ h9 => h9) rfl d_MO_feed_89 ?_
        refine pq_top (y := nI (S 7 2 + i)) (by rw [h1v]) ?_
        have hfd : pd_sa (pd_fd S x i) S2 := by
          have e9 : S2 = pd_fd S1 x i := by rw [← eS2, hT72, hT]; unfold pd_fd; rw [h172]
          rw [e9]
          have hb : ∀ b, b ≠ 7 → S1 b = S b := fun b hb => by rw [← eS1, pd_bk _ hb]
          have hfb : ∀ b, b ≠ 3 → b ≠ 7 → pd_fd S1 x i b = pd_fd S x i b := fun b h3 h7 => by
            unfold pd_fd
            rw [pd_bk _ h7, pd_bk _ h7, pd_tp_bk h3, pd_tp_bk h3, hb b h7]
          refine ⟨hfb 0 (by decide) (by decide), ?_, hfb 4 (by decide) (by decide), hfb 5 (by decide) (by decide), hfb 6 (by decide) (by decide), ?_, ?_, fun d _ => hfb (8 + d) (by omega) (by omega)⟩
          · funext q
            unfold pd_fd
            rw [pd_bk _ (by decide), pd_bk _ (by decide), pd_tp_at, pd_tp_at, h172, hb 3 (by decide)]
          · unfold pd_fd
            rw [pd_ne _ (by decide), pd_ne _ (by decide), pd_tp_bk (by decide), pd_tp_bk (by decide), ← eS1, pd_ne _ (by decide)]
          · unfold pd_fd
            rw [pd_self, pd_self, h172]
        exact W.iret (v := (nI (S 7 2 + i))) hx hb hret (fun t9 ht9 hW9 => ⟨⟨_, _, rfl, Or.inr (Or.inr ⟨by rw [← eS2, pd_ne _ (by decide), hT7, h173], i, hj1, hj2, rfl, by omega, rfl, hfd⟩), by rw [ht9]; exact hP, va_K.moved hW9.alike hK, hD⟩, hS.F ht9⟩) hS.2.2 d_MO_feed_92
      · refine lv_aload_n hx hb d_MO_feed_48 rfl (lv_at hl 1 rfl) ?_
        refine va_get (C := "PageDriveModel") (T := F_MO) (N := 11) hx hb hg iw_MO hown hK hP (0) mw_g0 rfl 3 (by decide) (hg (Cond.fieldLink "PageDriveModel" 7 "PageDriveModel" "tape" "[I") (wG_m10 (List.mem_of_getElem? (i := 26) rfl))) (fun _ h9 => h9) rfl d_MO_feed_49 ?_
        refine lv_aload_n hx hb d_MO_feed_52 rfl (lv_at hl 1 rfl) ?_
        refine va_get (C := "PageDriveModel") (T := F_MO) (N := 11) hx hb hg iw_MO hown hK hP (0) mw_g0 rfl 2 (by decide) (hg (Cond.fieldLink "PageDriveModel" 48 "PageDriveModel" "fed" "I") (wG_m10 (List.mem_of_getElem? (i := 25) rfl))) (fun _ h9 => h9) rfl d_MO_feed_53 ?_
        refine lv_iload hx hb d_MO_feed_56 (lv_at hl 0 rfl) ?_
        refine pq_iadd hx hb d_MO_feed_58 ?_
        refine lv_lload_n hx hb d_MO_feed_59 rfl (lv_at hl 2 rfl) ?_
        refine lv_bipush (v := nI 8) hx hb d_MO_feed_60 (by decide) ?_
        refine lv_iload hx hb d_MO_feed_62 (lv_at hl 0 rfl) ?_
        refine pq_imul hx hb d_MO_feed_64 ?_
        refine lv_lshr hx hb d_MO_feed_65 rfl ?_
        refine lv_ldc2 hx hb hown (hg (Cond.constantLong "PageDriveModel" 51 (255)) (wG_m11 (List.mem_of_getElem? (i := 33) rfl))) d_MO_feed_66 ?_
        refine lv_land hx hb d_MO_feed_69 ?_
        refine lv_l2i hx hb d_MO_feed_70 rfl ?_
        refine pq_top (y := nI (pd_bv x i)) (pd_rd x (by omega)) ?_
        refine pm_tape hx hb hK hP hD hS (by omega) rfl d_MO_feed_71 (fun H locs hP hD hS => ?_)
        generalize eS3 : pd_st T 3 ((T 7 2) + i) (pd_bv x i) = S3 at hP hD
        refine lv_iinc (v := (nI (i + 1))) (lv' := [(4, .int (nI (i + 1))), (0, .ref (am 0)), (1, .long x), (3, .int (nI j))]) hx hb d_MO_feed_72 hl (k := 0) rfl (pq_inc _) (by decide) rfl (fun ls hl => ?_)
        refine lv_goto (tgt := 42) hx hb d_MO_feed_75 (by decide) ?_
        exact ih _ _ _ _ (by omega) ⟨_, i + 1, rfl, by omega, by rw [← eS3, hT72, hT]; rfl, hP, hD, hS, hl⟩
    · refine lv_aload_n hx hb d_MO_feed_33 rfl (lv_at hl 0 rfl) ?_
      refine lv_iconst (v := nI 2) hx hb d_MO_feed_34 (by decide) ?_
      refine pw_calli (va_runV (As := [.int (nI 2)]) (rest := []) ⟨hx, hb, hml, hown, hg⟩ (c_MO_fail l dC dI cI cB cE cL cZ n am S1 2 H.size) (cwV 1 hg (gi_V (fun _ h => h) (wG_m11 (List.mem_of_getElem? (i := 30) rfl)) (wG_m11 (List.mem_of_getElem? (i := 31) rfl)) (wG_m14 (List.mem_of_getElem? (i := 11) rfl)) (wG_m1 (List.mem_of_getElem? (i := 6) rfl)) (wG_m11 (List.mem_of_getElem? (i := 32) rfl))) rfl rfl rfl (by decide +kernel) ⟨Nat.le_of_ble_eq_true rfl, Nat.le_of_ble_eq_true rfl⟩) (pw_pv hK hP hD (va_recv hK hP (ci := 4) (q0 := 0) rfl mw_g0) [.int (nI 2)]) rfl rfl hl.1 rfl (lv_room (Nat.le_of_ble_eq_true rfl)) d_MO_feed_35 ⟨Nat.le_of_ble_eq_true rfl, Nat.le_of_ble_eq_true rfl⟩) hD hS hA (fun r2 S2 H locs hr hP hD hS => ?_)
      obtain ⟨rfl, eS2⟩ := hr
      exact W.iret (v := (nI 0)) hx hb hret (fun t9 ht9 hW9 => ⟨⟨_, S2, rfl, Or.inr (Or.inl ⟨by rw [eS2, pd_self], ⟨j, hj1, hj2, rfl, by omega⟩, by rw [eS2]; exact hsa 2⟩), by rw [ht9]; exact hP, va_K.moved hW9.alike hK, hD⟩, hS.F ht9⟩) hS.2.2 d_MO_feed_38
  · refine pq_if_ne (tgt := 21) hx hb (by omega) d_MO_feed_12 (by decide) (fun h9 => absurd h9 (by omega)) (fun _ => ?_)
    refine lv_aload_n hx hb d_MO_feed_15 rfl (lv_at hl 0 rfl) ?_
    refine lv_iconst (v := nI 1) hx hb d_MO_feed_16 (by decide) ?_
    refine pw_calli (va_runV (As := [.int (nI 1)]) (rest := []) ⟨hx, hb, hml, hown, hg⟩ (c_MO_fail l dC dI cI cB cE cL cZ n am S1 1 H.size) (cwV 1 hg (gi_V (fun _ h => h) (wG_m11 (List.mem_of_getElem? (i := 30) rfl)) (wG_m11 (List.mem_of_getElem? (i := 31) rfl)) (wG_m14 (List.mem_of_getElem? (i := 11) rfl)) (wG_m1 (List.mem_of_getElem? (i := 6) rfl)) (wG_m11 (List.mem_of_getElem? (i := 32) rfl))) rfl rfl rfl (by decide +kernel) ⟨Nat.le_of_ble_eq_true rfl, Nat.le_of_ble_eq_true rfl⟩) (pw_pv hK hP hD (va_recv hK hP (ci := 4) (q0 := 0) rfl mw_g0) [.int (nI 1)]) rfl rfl hl.1 rfl (lv_room (Nat.le_of_ble_eq_true rfl)) d_MO_feed_17 ⟨Nat.le_of_ble_eq_true rfl, Nat.le_of_ble_eq_true rfl⟩) hD hS hA (fun r2 S2 H locs hr hP hD hS => ?_)
    obtain ⟨rfl, eS2⟩ := hr
    exact W.iret (v := (nI 0)) hx hb hret (fun t9 ht9 hW9 => ⟨⟨_, S2, rfl, Or.inl ⟨by rw [eS2, pd_self], fun j h1j h2j => h1.elim (fun q => pd_below q j h1j (by omega)) (fun q => pd_above (b := 8) (by decide) q j h2j), by rw [eS2]; exact hsa 1⟩, by rw [ht9]; exact hP, va_K.moved hW9.alike hK, hD⟩, hS.F ht9⟩) hS.2.2 d_MO_feed_20
