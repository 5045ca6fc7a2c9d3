/-! THE CLASS, 2: exchangeForCopy, shorten -/
set_option maxHeartbeats 4000000 in
set_option maxRecDepth 100000 in
/-- exchangeForCopy(pg) -/
theorem c_PO_exchangeForCopy (l : Launch) (dC : Nat → ClassId) (dI : Nat → Nat → Nat) (cI cB cE cL cZ : ClassId) (n : Nat) (ad : Nat → Nat) (S : pdS) (f : Nat → Nat) (pg : Nat) (hpg : pg < n) (hn : n ≤ 1024) (ho : pd_ok n S f) (hu : 0 < S 7 0) (h2 : 1 < f pg) (h2b : f pg < 1000000) (sz : Nat) : CMi l (dC, dI) (pw_ty cI cB cE cL cZ) y_PO_exchangeForCopy w_PO_exchangeForCopy ({ frames := 1, cells := 0, slots := 0, locals := 60 }) [.ref (ad 1), .int (nI pg)] (pw n ad cI cB cE S) (pw n ad cI cB cE) sz (fun r S2 => r = nI (S 2 (S 7 0 - 1)) ∧ S2 = pd_st (pd_leave (va_up (pd_take S) 0 (va_cpy (S 0) (S 0) (64 * pg) (64 * S 2 (S 7 0 - 1)) 64)) pg) 7 1 (S 7 1 + 1)) := by
  refine Met.ofW (cc := b_PO_exchangeForCopy) (maxL := 3) (ret := (some .int)) (by decide) rfl ?_
  intro p e s m args below meth c s₁ B hml hv
  obtain ⟨rfl, hsz, hP, hK, hD0⟩ := hv
  have hx := B.exec
  have hb := B.bytes
  have hret := B.returns
  have hts := atoms_spec (ws := w_PO_exchangeForCopy) B.pre
  have hg : ∀ w ∈ wsG, w.before _ s = true := fun w h => hts w (List.mem_cons_of_mem _ h)
  have hown : s.vm.findClass "PageDrive$Pool" = some m.cls := findClass_of_methodNamed B.named
  have hlocks := B.notSynchronized
  subst hsz
  have hD := hD0.self (sz := s.heap.size)
  generalize hAe : va_A (pw n ad cI cB cE S) s.heap.size = A at hD ⊢
  have hA : ∀ q : Nat, s.heap.size ≤ q → A q := fun q h => by rw [← hAe]; exact Or.inr h
  have hS : va_S A s.heap s.heap [] := va_S.rf
  have hl := lv_entry ([.ref (ad 1), .int (nI pg)]) (n := 3) (Nat.le_of_ble_eq_true rfl)
  rw [lg_entry_eq]
  generalize (lg_sl ([.ref (ad 1), .int (nI pg)]) ++ List.replicate (3 - (lg_sl ([.ref (ad 1), .int (nI pg)])).length) Slot.unset).toArray = ls at hl ⊢
  have hl : lv_has ls 3 [(0, .ref (ad 1)), (1, .int (nI pg))] := hl
  obtain ⟨hnw, hf0, hne, ht1, ht7, hok⟩ := pd_xch_ok (h := va_cpy (S 0) (S 0) (64 * pg) (64 * S 2 (S 7 0 - 1)) 64) ho hu hpg h2
  have hun : S 7 0 ≤ n := by have := ho.2.2.2; omega
  refine lv_aload_n hx hb d_PO_exchangeForCopy_0 rfl (lv_at hl 0 rfl) ?_
  refine pw_calli (va_runV (As := []) (rest := []) ⟨hx, hb, hml, hown, hg⟩ (c_PO_take l dC dI cI cB cE cL cZ n ad S hu hun hn hnw s.heap.size) (cwV 0 hg (gi_V (fun _ h => h) (wG_m8 (List.mem_of_getElem? (i := 13) rfl)) (wG_m8 (List.mem_of_getElem? (i := 14) rfl)) (wG_m8 (List.mem_of_getElem? (i := 15) rfl)) (wG_m1 (List.mem_of_getElem? (i := 2) rfl)) (wG_m8 (List.mem_of_getElem? (i := 16) rfl))) rfl rfl rfl (by decide +kernel) ⟨Nat.le_of_ble_eq_true rfl, Nat.le_of_ble_eq_true rfl⟩) (pw_pv hK hP hD (va_recv hK hP (ci := 1) (q0 := 1) rfl pw_g1) []) rfl rfl hl.1 rfl (lv_room (Nat.le_of_ble_eq_true rfl)) d_PO_exchangeForCopy_1 ⟨Nat.le_of_ble_eq_true rfl, Nat.le_of_ble_eq_true rfl⟩) hD hS hA (fun r1 S1 H locs hr hP hD hS => ?_)
  obtain ⟨rfl, eS1⟩ := hr
  generalize hnwe : S 2 (S 7 0 - 1) = nw at *
  refine lv_istore_n (lv' := [(2, .int (nI nw)), (0, .ref (ad 1)), (1, .int (nI pg))]) hx hb d_PO_exchangeForCopy_4 rfl hl (by decide) rfl (fun ls hl => ?_)
  refine lv_aload_n hx hb d_PO_exchangeForCopy_5 rfl (lv_at hl 1 rfl) ?_
  refine va_get (C := "PageDrive$Pool") (T := F_PO) (N := 6) hx hb hg iw_PO hown hK hP (1) pw_g1 rfl 1 (by decide) (hg (Cond.fieldLink "PageDrive$Pool" 15 "PageDrive$Pool" "bytes" "[B") (wG_m1 (List.mem_of_getElem? (i := 38) rfl))) (fun _ h9 => h9) rfl d_PO_exchangeForCopy_6 ?_
  refine lv_iload_n hx hb d_PO_exchangeForCopy_9 rfl (lv_at hl 2 rfl) ?_
  refine lv_bipush (v := nI 64) hx hb d_PO_exchangeForCopy_10 (by decide) ?_
  refine pq_imul hx hb d_PO_exchangeForCopy_12 ?_
  refine lv_aload_n hx hb d_PO_exchangeForCopy_13 rfl (lv_at hl 1 rfl) ?_
  refine va_get (C := "PageDrive$Pool") (T := F_PO) (N := 6) hx hb hg iw_PO hown hK hP (1) pw_g1 rfl 1 (by decide) (hg (Cond.fieldLink "PageDrive$Pool" 15 "PageDrive$Pool" "bytes" "[B") (wG_m1 (List.mem_of_getElem? (i := 38) rfl))) (fun _ h9 => h9) rfl d_PO_exchangeForCopy_14 ?_
  refine lv_iload_n hx hb d_PO_exchangeForCopy_17 rfl (lv_at hl 0 rfl) ?_
  refine lv_bipush (v := nI 64) hx hb d_PO_exchangeForCopy_18 (by decide) ?_
  refine pq_imul hx hb d_PO_exchangeForCopy_20 ?_
  refine lv_bipush (v := nI 64) hx hb d_PO_exchangeForCopy_21 (by decide) ?_
  refine pr_cpB hx hb (hml.trans hl.1.symm) hown (hg (Cond.methodLink "PageDrive$Pool" 36 ⟨"java/lang/System", "arraycopy", "(Ljava/lang/Object;ILjava/lang/Object;II)V"⟩) (wG_m8 (List.mem_of_getElem? (i := 17) rfl))) (hg (Cond.native ⟨"java/lang/System", "arraycopy", "(Ljava/lang/Object;ILjava/lang/Object;II)V"⟩) (wG_m4 (List.mem_of_getElem? (i := 22) rfl))) (hg (Cond.static ⟨"java/lang/System", "arraycopy", "(Ljava/lang/Object;ILjava/lang/Object;II)V"⟩) (wG_m4 (List.mem_of_getElem? (i := 21) rfl))) (hg (Cond.initialized "java/lang/System") (wG_m1 (List.mem_of_getElem? (i := 14) rfl))) hK hP hD hS hn (by omega) (by omega) rfl (Nat.le_of_ble_eq_true rfl) (Nat.le_of_ble_eq_true rfl) d_PO_exchangeForCopy_23 (fun H locs hP hD hS => ?_)
  generalize eS2 : va_up S1 0 (va_cpy (S1 0) (S1 0) (pg * 64) (nw * 64) 64) = S2 at hP hD
  have e10 : S1 0 = S 0 := by rw [eS1]; exact (pd_fr_take S).1 0 (by decide) (by decide) (by decide)
  have eS2b : S2 = va_up (pd_take S) 0 (va_cpy (S 0) (S 0) (64 * pg) (64 * nw) 64) := by rw [← eS2, e10, eS1, Nat.mul_comm pg, Nat.mul_comm nw]
  have h21 : S2 1 pg = f pg := by rw [eS2b, va_up_ne _ _ (by decide)]; exact ht1
  have h27 : S2 7 0 < n := by rw [eS2b, va_up_ne _ _ (by decide)]; exact ht7
  refine lv_aload_n hx hb d_PO_exchangeForCopy_26 rfl (lv_at hl 1 rfl) ?_
  refine lv_iload_n hx hb d_PO_exchangeForCopy_27 rfl (lv_at hl 2 rfl) ?_
  refine pw_callv (va_runV (As := [.int (nI pg)]) (rest := []) ⟨hx, hb, hml, hown, hg⟩ (c_PO_leave l dC dI cI cB cE cL cZ n ad S2 pg hpg hn (by omega) (by omega) h27 H.size) (cwV 1 hg (gi_V (fun _ h => h) (wG_m8 (List.mem_of_getElem? (i := 18) rfl)) (wG_m4 (List.mem_of_getElem? (i := 17) rfl)) (wG_m4 (List.mem_of_getElem? (i := 18) rfl)) (wG_m1 (List.mem_of_getElem? (i := 2) rfl)) (wG_m4 (List.mem_of_getElem? (i := 19) rfl))) rfl rfl rfl (by decide +kernel) ⟨Nat.le_of_ble_eq_true rfl, Nat.le_of_ble_eq_true rfl⟩) (pw_pv hK hP hD (va_recv hK hP (ci := 1) (q0 := 1) rfl pw_g1) [.int (nI pg)]) rfl rfl hl.1 rfl (lv_room (Nat.le_of_ble_eq_true rfl)) d_PO_exchangeForCopy_28 ⟨Nat.le_of_ble_eq_true rfl, Nat.le_of_ble_eq_true rfl⟩) hD hS hA (fun S3 H locs hr hP hD hS => ?_)
  have h371 : S3 7 1 = S 7 1 := by rw [hr, (pd_fr_leave S2 pg).2 1 (by decide), eS2b, va_up_ne _ _ (by decide), (pd_fr_take S).2 1 (by decide)]
  refine lv_aload_n hx hb d_PO_exchangeForCopy_31 rfl (lv_at hl 1 rfl) ?_
  refine lv_dup hx hb d_PO_exchangeForCopy_32 rfl ?_
  refine va_get (C := "PageDrive$Pool") (T := F_PO) (N := 6) hx hb hg iw_PO hown hK hP (1) pw_g1 rfl 5 (by decide) (hg (Cond.fieldLink "PageDrive$Pool" 29 "PageDrive$Pool" "copied" "I") (wG_m2 (List.mem_of_getElem? (i := 4) rfl))) (fun _ h9 => h9) rfl d_PO_exchangeForCopy_33 ?_
  refine lv_iconst (v := nI 1) hx hb d_PO_exchangeForCopy_36 (by decide) ?_
  refine pq_iadd hx hb d_PO_exchangeForCopy_37 ?_
  refine pr_cop hx hb hg hown hK hP hD hS (hg (Cond.fieldLink "PageDrive$Pool" 29 "PageDrive$Pool" "copied" "I") (wG_m2 (List.mem_of_getElem? (i := 4) rfl))) d_PO_exchangeForCopy_38 (fun H locs hP hD hS => ?_)
  generalize eS4 : pd_st S3 7 1 ((S3 7 1) + 1) = S4 at hP hD
  refine lv_iload_n hx hb d_PO_exchangeForCopy_41 rfl (lv_at hl 0 rfl) ?_
  exact W.iret (v := (nI nw)) hx hb hret (fun t9 ht9 hW9 => ⟨⟨_, _, rfl, ⟨rfl, by rw [← eS4, h371, hr, eS2b]⟩, by rw [ht9]; exact hP, va_K.moved hW9.alike hK, hD⟩, hS.F ht9⟩) hS.2.2 d_PO_exchangeForCopy_42
set_option maxHeartbeats 4000000 in
set_option maxRecDepth 100000 in
/-- shorten(content, x): the pages behind leave -/
theorem c_PD_shorten (l : Launch) (dC : Nat → ClassId) (dI : Nat → Nat → Nat) (cI cB cE cL cZ : ClassId) (n : Nat) (ad : Nat → Nat) (S : pdS) (cc x : Nat) (g : Nat → Nat) (hn : n ≤ 1024) (hc : cc < 32) (hxs : x ≤ S 4 cc) (hs4 : S 4 cc ≤ 25600) (hrow : ∀ k, k < pd_pf (S 4 cc) → S (8 + cc) k < n) (hgb : ∀ q, g q < 100000) (hok : pd_ok n S (fun q => g q + pd_rc (fun j => S (8 + cc) (pd_pf x + j)) q (pd_pf (S 4 cc) - pd_pf x))) (sz : Nat) : CMv l (dC, dI) (pw_ty cI cB cE cL cZ) y_PD_shorten w_PD_shorten ({ frames := 1, cells := 0, slots := 0, locals := 21 }) [.ref (ad 0), .ref (ad (23 + cc)), .int (nI x)] (pw n ad cI cB cE S) (pw n ad cI cB cE) sz (fun S2 => ∃ T, pd_fr S T ∧ pd_ok n T g ∧ S2 = pd_st T 4 cc x) := by
  refine Met.ofW (cc := b_PD_shorten) (maxL := 4) (ret := none) (by decide) rfl ?_
  intro p e s m args below meth c s₁ B hml hv
  obtain ⟨rfl, hsz, hP, hK, hD0⟩ := hv
  have hx := B.exec
  have hb := B.bytes
  have hret := B.returns
  have hts := atoms_spec (ws := w_PD_shorten) B.pre
  have hg : ∀ w ∈ wsG, w.before _ s = true := fun w h => hts w (List.mem_cons_of_mem _ h)
  have hown : s.vm.findClass "PageDrive" = some m.cls := findClass_of_methodNamed B.named
  have hlocks := B.notSynchronized
  subst hsz
  have hD := hD0.self (sz := s.heap.size)
  generalize hAe : va_A (pw n ad cI cB cE S) s.heap.size = A at hD ⊢
  have hA : ∀ q : Nat, s.heap.size ≤ q → A q := fun q h => by rw [← hAe]; exact Or.inr h
  have hS : va_S A s.heap s.heap [] := va_S.rf
  have hl := lv_entry ([.ref (ad 0), .ref (ad (23 + cc)), .int (nI x)]) (n := 4) (Nat.le_of_ble_eq_true rfl)
  rw [lg_entry_eq]
  generalize (lg_sl ([.ref (ad 0), .ref (ad (23 + cc)), .int (nI x)]) ++ List.replicate (4 - (lg_sl ([.ref (ad 0), .ref (ad (23 + cc)), .int (nI x)])).length) Slot.unset).toArray = ls at hl ⊢
  have hl : lv_has ls 4 [(0, .ref (ad 0)), (1, .ref (ad (23 + cc))), (2, .int (nI x))] := hl
  have hm := pd_pf_mono hxs
  have h400 : pd_pf (S 4 cc) ≤ 400 := by unfold pd_pf; omega
  refine lv_iload_n hx hb d_PD_shorten_0 rfl (lv_at hl 2 rfl) ?_
  refine pw_callip (va_runS (As := [.int (nI x)]) (rest := []) ⟨hx, hb, hml, hown, hg⟩ (c_PD_pagesFor l dC dI cI cB cE cL cZ (pw n ad cI cB cE S) x (by omega) s.heap.size) (cwS 1 hg (gi_S (fun _ h => h) (wG_m4 (List.mem_of_getElem? (i := 6) rfl)) (wG_m4 (List.mem_of_getElem? (i := 7) rfl)) (wG_m1 (List.mem_of_getElem? (i := 1) rfl)) (wG_m4 (List.mem_of_getElem? (i := 8) rfl))) rfl rfl rfl (by decide +kernel) ⟨Nat.le_of_ble_eq_true rfl, Nat.le_of_ble_eq_true rfl⟩) (pw_ps hK hP hD [.int (nI x)]) rfl rfl hl.1 rfl (lv_room (Nat.le_of_ble_eq_true rfl)) d_PD_shorten_1 ⟨Nat.le_of_ble_eq_true rfl, Nat.le_of_ble_eq_true rfl⟩) hD hS hA (fun r1 H locs hr hP hD hS => ?_)
  subst hr
  refine lv_istore_n (lv' := [(3, .int (nI (pd_pf x))), (0, .ref (ad 0)), (1, .ref (ad (23 + cc))), (2, .int (nI x))]) hx hb d_PD_shorten_4 rfl hl (by decide) rfl (fun ls hl => ?_)
  refine pw_loop (fun mm H locs ls => ∃ (T : pdS) (k : Nat), mm = pd_pf (S 4 cc) - k ∧ pd_pf x ≤ k ∧ k ≤ pd_pf (S 4 cc) ∧ pd_fr S T ∧ pd_ok n T (fun q => g q + pd_rc (fun j => S (8 + cc) (k + j)) q (pd_pf (S 4 cc) - k)) ∧ va_P (dC, dI) pwCl (pw n ad cI cB cE T) H ∧ va_D A (pw n ad cI cB cE T) ∧ va_S A s.heap H locs ∧ lv_has ls 4 [(3, .int (nI k)), (0, .ref (ad 0)), (1, .ref (ad (23 + cc))), (2, .int (nI x))]) ?_ _ _ _ _ ⟨S, pd_pf x, rfl, Nat.le_refl _, hm, pd_fr_rf S, hok, hP, hD, hS, hl⟩
  rintro mm H locs ls ⟨T, k, hmm, hk1, hk2, hfr, hok, hP, hD, hS, hl⟩ ih
  have hT4 : T 4 = S 4 := hfr.1 4 (by decide) (by decide) (by decide)
  have hTr : T (8 + cc) = S (8 + cc) := hfr.1 (8 + cc) (by omega) (by omega) (by omega)
  have hT4c : T 4 cc = S 4 cc := by rw [hT4]
  refine lv_iload_n hx hb d_PD_shorten_5 rfl (lv_at hl 0 rfl) ?_
  refine lv_aload_n hx hb d_PD_shorten_6 rfl (lv_at hl 2 rfl) ?_
  refine va_get (C := "PageDrive$Content") (T := F_CO) (N := 3) hx hb hg iw_CO hown hK hP (23 + cc) (pw_gC (i := cc) (by omega)) rfl 1 (by decide) (hg (Cond.fieldLink "PageDrive" 67 "PageDrive$Content" "size" "I") (wG_m2 (List.mem_of_getElem? (i := 34) rfl))) (fun _ h9 => h9) rfl d_PD_shorten_7 ?_
  refine pw_callip (va_runS (As := [.int (nI (T 4 cc))]) (rest := [.int (nI k)]) ⟨hx, hb, hml, hown, hg⟩ (c_PD_pagesFor l dC dI cI cB cE cL cZ (pw n ad cI cB cE T) (T 4 cc) (by omega) H.size) (cwS 1 hg (gi_S (fun _ h => h) (wG_m4 (List.mem_of_getElem? (i := 6) rfl)) (wG_m4 (List.mem_of_getElem? (i := 7) rfl)) (wG_m1 (List.mem_of_getElem? (i := 1) rfl)) (wG_m4 (List.mem_of_getElem? (i := 8) rfl))) rfl rfl rfl (by decide +kernel) ⟨Nat.le_of_ble_eq_true rfl, Nat.le_of_ble_eq_true rfl⟩) (pw_ps hK hP hD [.int (nI (T 4 cc))]) rfl rfl hl.1 rfl (lv_room (Nat.le_of_ble_eq_true rfl)) d_PD_shorten_10 ⟨Nat.le_of_ble_eq_true rfl, Nat.le_of_ble_eq_true rfl⟩) hD hS hA (fun r2 H locs hr hP hD hS => ?_)
  subst hr
  refine pq_top (y := nI (pd_pf (S 4 cc))) (by rw [hT4]) ?_
  refine pq_icmp_ge (tgt := 35) hx hb (by omega) (by omega) d_PD_shorten_13 (by decide) (fun h1 => ?_) (fun h1 => ?_)
  · have hkk : k = pd_pf (S 4 cc) := by omega
    refine lv_aload_n hx hb d_PD_shorten_35 rfl (lv_at hl 2 rfl) ?_
    refine lv_iload_n hx hb d_PD_shorten_36 rfl (lv_at hl 3 rfl) ?_
    refine pr_size hx hb hg hown hK hP hD hS (i := cc) (by omega) (hg (Cond.fieldLink "PageDrive" 67 "PageDrive$Content" "size" "I") (wG_m2 (List.mem_of_getElem? (i := 34) rfl))) d_PD_shorten_37 (fun H locs hP hD hS => ?_)
    generalize eS3 : pd_st T 4 cc x = S3 at hP hD
    have hokT : pd_ok n T g := pd_ok_congr hok (fun q _ => by rw [hkk, Nat.sub_self]; rfl)
    exact W.vret hx hb hret (fun t9 ht9 hW9 => ⟨⟨_, rfl, ⟨T, hfr, hokT, by rw [← eS3]⟩, by rw [ht9]; exact hP, va_K.moved hW9.alike hK, hD⟩, hS.F ht9⟩) hS.2.2 d_PD_shorten_40
  · obtain ⟨g1, g2, g3⟩ := pd_leave_step h1 (hrow k h1) hok
    have hle := pd_rc_le (fun j => S (8 + cc) (k + j)) (S (8 + cc) k) (pd_pf (S 4 cc) - k)
    have h1b : T 1 (S (8 + cc) k) < 1000000 := by have h9 : T 1 (S (8 + cc) k) = g (S (8 + cc) k) + pd_rc (fun j => S (8 + cc) (k + j)) (S (8 + cc) k) (pd_pf (S 4 cc) - k) := hok.1 _ (hrow k h1); have := hgb (S (8 + cc) k); omega
    refine lv_aload_n hx hb d_PD_shorten_16 rfl (lv_at hl 1 rfl) ?_
    refine va_get (C := "PageDrive") (T := F_PD) (N := 4) hx hb hg iw_PD hown hK hP (0) pw_g0 rfl 0 (by decide) (hg (Cond.fieldLink "PageDrive" 23 "PageDrive" "pool" "LPageDrive$Pool;") (wG_m3 (List.mem_of_getElem? (i := 17) rfl))) (fun _ h9 => h9) rfl d_PD_shorten_17 ?_
    refine lv_aload_n hx hb d_PD_shorten_20 rfl (lv_at hl 2 rfl) ?_
    refine va_get (C := "PageDrive$Content") (T := F_CO) (N := 3) hx hb hg iw_CO hown hK hP (23 + cc) (pw_gC (i := cc) (by omega)) rfl 0 (by decide) (hg (Cond.fieldLink "PageDrive" 171 "PageDrive$Content" "row" "[I") (wG_m2 (List.mem_of_getElem? (i := 32) rfl))) (fun _ h9 => h9) rfl d_PD_shorten_21 ?_
    refine lv_iload_n hx hb d_PD_shorten_24 rfl (lv_at hl 0 rfl) ?_
    refine pq_iald hx hb hK hP (55 + cc) 0 (pw_gR (i := cc) (by omega)) rfl (by omega) (by omega) d_PD_shorten_25 ?_
    refine pq_top (y := nI (S (8 + cc) k)) (by rw [hTr]) ?_
    refine pw_callv (va_runV (As := [.int (nI (S (8 + cc) k))]) (rest := []) ⟨hx, hb, hml, hown, hg⟩ (c_PO_leave l dC dI cI cB cE cL cZ n ad T (S (8 + cc) k) (hrow k h1) hn g2 h1b g1 H.size) (cwV 1 hg (gi_V (fun _ h => h) (wG_m4 (List.mem_of_getElem? (i := 16) rfl)) (wG_m4 (List.mem_of_getElem? (i := 17) rfl)) (wG_m4 (List.mem_of_getElem? (i := 18) rfl)) (wG_m1 (List.mem_of_getElem? (i := 2) rfl)) (wG_m4 (List.mem_of_getElem? (i := 19) rfl))) rfl rfl rfl (by decide +kernel) ⟨Nat.le_of_ble_eq_true rfl, Nat.le_of_ble_eq_true rfl⟩) (pw_pv hK hP hD (va_recv hK hP (ci := 1) (q0 := 1) rfl pw_g1) [.int (nI (S (8 + cc) k))]) rfl rfl hl.1 rfl (lv_room (Nat.le_of_ble_eq_true rfl)) d_PD_shorten_26 ⟨Nat.le_of_ble_eq_true rfl, Nat.le_of_ble_eq_true rfl⟩) hD hS hA (fun T2 H locs hr hP hD hS => ?_)
    refine lv_iinc (v := (nI (k + 1))) (lv' := [(3, .int (nI (k + 1))), (0, .ref (ad 0)), (1, .ref (ad (23 + cc))), (2, .int (nI x))]) hx hb d_PD_shorten_29 hl (k := 0) rfl (pq_inc _) (by decide) rfl (fun ls hl => ?_)
    refine lv_goto (tgt := 5) hx hb d_PD_shorten_32 (by decide) ?_
    subst hr
    exact ih (pd_pf (S 4 cc) - (k + 1)) _ _ _ (by omega) ⟨_, k + 1, rfl, by omega, by omega, pd_fr_tr hfr (pd_fr_leave T _), g3, hP, hD, hS, hl⟩
