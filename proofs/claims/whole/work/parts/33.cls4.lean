/-! THE CLASS, 4: keepOf, become, settle, fall -/
set_option maxHeartbeats 4000000 in
set_option maxRecDepth 100000 in
/-- keepOf(drawn, entry) -/
theorem c_PD_keepOf (l : Launch) (dC : Nat → ClassId) (dI : Nat → Nat → Nat) (cI cB cE cL cZ : ClassId) (n : Nat) (ad : Nat → Nat) (S : pdS) (x : Int64) (i : Nat) (hi : i < 16) (hlo : S 6 i ≤ S 4 (2 * i)) (hs4 : S 4 (2 * i) ≤ 25600) (sz : Nat) : CMi l (dC, dI) (pw_ty cI cB cE cL cZ) y_PD_keepOf w_PD_keepOf ({ frames := 1, cells := 0, slots := 0, locals := 21 }) [.long x, .ref (ad (7 + i))] (pw n ad cI cB cE S) (fun _ : Unit => pw n ad cI cB cE S) sz (fun r _ => r = nI (pd_kp x (S 4 (2 * i)) (S 6 i))) := by
  refine Met.ofW (cc := b_PD_keepOf) (maxL := 5) (ret := (some .int)) (by decide) rfl ?_
  intro p e s m args below meth c s₁ B hml hv
  obtain ⟨rfl, hsz, hP, hK, hD0⟩ := hv
  have hx := B.exec
  have hb := B.bytes
  have hret := B.returns
  have hts := atoms_spec (ws := w_PD_keepOf) B.pre
  have hg : ∀ w ∈ wsG, w.before _ s = true := fun w h => hts w (List.mem_cons_of_mem _ h)
  have hown : s.vm.findClass "PageDrive" = some m.cls := findClass_of_methodNamed B.named
  have hlocks := B.notSynchronized
  subst hsz
  have hD := hD0.self (sz := s.heap.size)
  generalize hAe : va_A (pw n ad cI cB cE S) s.heap.size = A at hD ⊢
  have hA : ∀ q : Nat, s.heap.size ≤ q → A q := fun q h => by rw [← hAe]; exact Or.inr h
  have hS : va_S A s.heap s.heap [] := va_S.rf
  have hl := lv_entry ([.long x, .ref (ad (7 + i))]) (n := 5) (Nat.le_of_ble_eq_true rfl)
  rw [lg_entry_eq]
  generalize (lg_sl ([.long x, .ref (ad (7 + i))]) ++ List.replicate (5 - (lg_sl ([.long x, .ref (ad (7 + i))])).length) Slot.unset).toArray = ls at hl ⊢
  have hl : lv_has ls 5 [(0, .long x), (2, .ref (ad (7 + i)))] := hl
  refine lv_lload_n hx hb d_PD_keepOf_0 rfl (lv_at hl 0 rfl) ?_
  refine lv_bipush (v := nI 61) hx hb d_PD_keepOf_1 (by decide) ?_
  refine lv_lushr hx hb d_PD_keepOf_3 rfl ?_
  refine pq_topl (y := lN (x.toBitVec.toNat / 2 ^ 61)) (pd_ushr x (by decide)) ?_
  refine lv_lconst (v := 0) hx hb d_PD_keepOf_4 (by decide) ?_
  refine W.lcmp hx hb d_PD_keepOf_5 ?_
  refine lv_if_ne (tgt := 11) hx hb d_PD_keepOf_6 (by decide) (fun h1 => ?_) (fun h1 => ?_)
  · refine lv_lload_n hx hb d_PD_keepOf_11 rfl (lv_at hl 0 rfl) ?_
    refine lv_bipush (v := nI 33) hx hb d_PD_keepOf_12 (by decide) ?_
    refine lv_lushr hx hb d_PD_keepOf_14 rfl ?_
    refine pq_topl (y := lN (x.toBitVec.toNat / 2 ^ 33)) (pd_ushr x (by decide)) ?_
    refine lv_ldc2 hx hb hown (hg (Cond.constantLong "PageDrive" 196 (1048575)) (wG_m3 (List.mem_of_getElem? (i := 39) rfl))) d_PD_keepOf_15 ?_
    refine lv_land hx hb d_PD_keepOf_18 ?_
    refine lv_l2i hx hb d_PD_keepOf_19 rfl ?_
    refine pq_top (y := nI (x.toBitVec.toNat / 2 ^ 33 % 2 ^ 20)) (pd_lo20 (pd_d33 x)) ?_
    refine lv_istore_n (lv' := [(3, .int (nI (x.toBitVec.toNat / 2 ^ 33 % 2 ^ 20))), (0, .long x), (2, .ref (ad (7 + i)))]) hx hb d_PD_keepOf_20 rfl hl (by decide) rfl (fun ls hl => ?_)
    refine lv_iconst (v := nI 1) hx hb d_PD_keepOf_21 (by decide) ?_
    refine lv_iconst (v := nI 2) hx hb d_PD_keepOf_22 (by decide) ?_
    refine lv_aload_n hx hb d_PD_keepOf_23 rfl (lv_at hl 2 rfl) ?_
    refine va_get (C := "PageDrive$Entry") (T := F_EN) (N := 3) hx hb hg iw_EN hown hK hP (7 + i) (pw_gE (i := i) (by omega)) rfl 0 (by decide) (hg (Cond.fieldLink "PageDrive" 63 "PageDrive$Entry" "now" "LPageDrive$Content;") (wG_m3 (List.mem_of_getElem? (i := 5) rfl))) (fun _ h9 => h9) rfl d_PD_keepOf_24 ?_
    refine va_get (C := "PageDrive$Content") (T := F_CO) (N := 3) hx hb hg iw_CO hown hK hP (23 + (2 * i)) (pw_gC (i := 2 * i) (by omega)) rfl 1 (by decide) (hg (Cond.fieldLink "PageDrive" 67 "PageDrive$Content" "size" "I") (wG_m2 (List.mem_of_getElem? (i := 34) rfl))) (fun _ h9 => h9) rfl d_PD_keepOf_27 ?_
    refine lv_aload_n hx hb d_PD_keepOf_30 rfl (lv_at hl 2 rfl) ?_
    refine va_get (C := "PageDrive$Entry") (T := F_EN) (N := 3) hx hb hg iw_EN hown hK hP (7 + i) (pw_gE (i := i) (by omega)) rfl 2 (by decide) (hg (Cond.fieldLink "PageDrive" 105 "PageDrive$Entry" "low" "I") (wG_m3 (List.mem_of_getElem? (i := 9) rfl))) (fun _ h9 => h9) rfl d_PD_keepOf_31 ?_
    refine pq_isub hx hb (by omega) d_PD_keepOf_34 ?_
    refine pq_imul hx hb d_PD_keepOf_35 ?_
    refine lv_iconst (v := nI 1) hx hb d_PD_keepOf_36 (by decide) ?_
    refine pq_iadd hx hb d_PD_keepOf_37 ?_
    refine va_mmax hx hb (hml.trans hl.1.symm) hown (hg _ (wG_m1 (List.mem_of_getElem? (i := 29) rfl))) (hg _ (wG_m1 (List.mem_of_getElem? (i := 30) rfl))) (hg (Cond.initialized "java/lang/Math") (wG_m1 (List.mem_of_getElem? (i := 3) rfl))) (hg _ (wG_m1 (List.mem_of_getElem? (i := 31) rfl))) (Nat.le_of_ble_eq_true rfl) (Nat.le_of_ble_eq_true rfl) (Nat.zero_le _) (Nat.zero_le _) d_PD_keepOf_38 ?_
    refine pq_top (y := nI (2 * (S 4 (2 * i) - S 6 i) + 1)) (pd_max1 (by omega) (by omega)) ?_
    refine lv_istore (lv' := [(4, .int (nI (2 * (S 4 (2 * i) - S 6 i) + 1))), (3, .int (nI (x.toBitVec.toNat / 2 ^ 33 % 2 ^ 20))), (0, .long x), (2, .ref (ad (7 + i)))]) hx hb d_PD_keepOf_41 hl (by decide) rfl (fun ls hl => ?_)
    refine lv_iconst (v := nI 1) hx hb d_PD_keepOf_43 (by decide) ?_
    refine lv_iload_n hx hb d_PD_keepOf_44 rfl (lv_at hl 1 rfl) ?_
    refine lv_iload hx hb d_PD_keepOf_45 (lv_at hl 0 rfl) ?_
    refine pq_irem hx hb (by omega) (by omega) (by omega) d_PD_keepOf_47 ?_
    refine pq_iadd hx hb d_PD_keepOf_48 ?_
    exact W.iret (v := (nI (1 + ((x.toBitVec.toNat / 2 ^ 33 % 2 ^ 20) % (2 * (S 4 (2 * i) - S 6 i) + 1))))) hx hb hret (fun t9 ht9 hW9 => ⟨⟨_, (), rfl, by unfold pd_kp; rw [if_neg (fun q => h1 ((pd_lg0 _ (pd_d61 x)).mpr q))], by rw [ht9]; exact hP, va_K.moved hW9.alike hK, hD⟩, hS.F ht9⟩) hS.2.2 d_PD_keepOf_49
  · refine lv_iconst (v := nI 0) hx hb d_PD_keepOf_9 (by decide) ?_
    exact W.iret (v := (nI 0)) hx hb hret (fun t9 ht9 hW9 => ⟨⟨_, (), rfl, by unfold pd_kp; rw [if_pos ((pd_lg0 _ (pd_d61 x)).mp h1)], by rw [ht9]; exact hP, va_K.moved hW9.alike hK, hD⟩, hS.F ht9⟩) hS.2.2 d_PD_keepOf_10
set_option maxHeartbeats 4000000 in
set_option maxRecDepth 100000 in
/-- become(to, fr) -/
theorem c_PD_become (l : Launch) (dC : Nat → ClassId) (dI : Nat → Nat → Nat) (cI cB cE cL cZ : ClassId) (n : Nat) (ad : Nat → Nat) (S : pdS) (to fr : Nat) (hn : n ≤ 1024) (hv : pd_v n S) (ho : pd_ok n S (pd_ct S)) (ht : to < 32) (hf : fr < 32) (sz : Nat) : CMv l (dC, dI) (pw_ty cI cB cE cL cZ) y_PD_become w_PD_become ({ frames := 2, cells := 0, slots := 0, locals := 60 }) [.ref (ad 0), .ref (ad (23 + to)), .ref (ad (23 + fr))] (pw n ad cI cB cE S) (pw n ad cI cB cE) sz (fun S2 => pd_be S S2 to fr ∧ pd_ok n S2 (pd_ct S2)) := by
  refine Met.ofW (cc := b_PD_become) (maxL := 5) (ret := none) (by decide) rfl ?_
  intro p e s m args below meth c s₁ B hml hv
  obtain ⟨rfl, hsz, hP, hK, hD0⟩ := hv
  have hx := B.exec
  have hb := B.bytes
  have hret := B.returns
  have hts := atoms_spec (ws := w_PD_become) B.pre
  have hg : ∀ w ∈ wsG, w.before _ s = true := fun w h => hts w (List.mem_cons_of_mem _ h)
  have hown : s.vm.findClass "PageDrive" = some m.cls := findClass_of_methodNamed B.named
  have hlocks := B.notSynchronized
  subst hsz
  have hD := hD0.self (sz := s.heap.size)
  generalize hAe : va_A (pw n ad cI cB cE S) s.heap.size = A at hD ⊢
  have hA : ∀ q : Nat, s.heap.size ≤ q → A q := fun q h => by rw [← hAe]; exact Or.inr h
  have hS : va_S A s.heap s.heap [] := va_S.rf
  have hl := lv_entry ([.ref (ad 0), .ref (ad (23 + to)), .ref (ad (23 + fr))]) (n := 5) (Nat.le_of_ble_eq_true rfl)
  rw [lg_entry_eq]
  generalize (lg_sl ([.ref (ad 0), .ref (ad (23 + to)), .ref (ad (23 + fr))]) ++ List.replicate (5 - (lg_sl ([.ref (ad 0), .ref (ad (23 + to)), .ref (ad (23 + fr))])).length) Slot.unset).toArray = ls at hl ⊢
  have hl : lv_has ls 5 [(0, .ref (ad 0)), (1, .ref (ad (23 + to))), (2, .ref (ad (23 + fr)))] := hl
  have hs4 := (hv.1 fr hf).1
  have hs4t := (hv.1 to ht).1
  have hs5 := (hv.1 fr hf).2.1
  have h400 : pd_pf (S 4 fr) ≤ 400 := by unfold pd_pf; omega
  refine lv_aload_n hx hb d_PD_become_0 rfl (lv_at hl 1 rfl) ?_
  refine lv_aload_n hx hb d_PD_become_1 rfl (lv_at hl 2 rfl) ?_
  refine lv_acmp_ne (rx := some (ad (23 + to))) (ry := some (ad (23 + fr))) (tgt := 6) hx hb d_PD_become_2 (by decide) (fun h1 => ?_) (fun h1 => ?_)
  · have hne : to ≠ fr := fun q => h1 (by rw [q])
    refine lv_aload_n hx hb d_PD_become_6 rfl (lv_at hl 2 rfl) ?_
    refine va_get (C := "PageDrive$Content") (T := F_CO) (N := 3) hx hb hg iw_CO hown hK hP (23 + fr) (pw_gC (i := fr) (by omega)) rfl 1 (by decide) (hg (Cond.fieldLink "PageDrive" 67 "PageDrive$Content" "size" "I") (wG_m2 (List.mem_of_getElem? (i := 34) rfl))) (fun _ h9 => h9) rfl d_PD_become_7 ?_
    refine pw_callip (va_runS (As := [.int (nI (S 4 fr))]) (rest := []) ⟨hx, hb, hml, hown, hg⟩ (c_PD_pagesFor l dC dI cI cB cE cL cZ (pw n ad cI cB cE S) (S 4 fr) (by omega) s.heap.size) (cwS 1 hg (gi_S (fun _ h => h) (wG_m4 (List.mem_of_getElem? (i := 6) rfl)) (wG_m4 (List.mem_of_getElem? (i := 7) rfl)) (wG_m1 (List.mem_of_getElem? (i := 1) rfl)) (wG_m4 (List.mem_of_getElem? (i := 8) rfl))) rfl rfl rfl (by decide +kernel) ⟨Nat.le_of_ble_eq_true rfl, Nat.le_of_ble_eq_true rfl⟩) (pw_ps hK hP hD [.int (nI (S 4 fr))]) rfl rfl hl.1 rfl (lv_room (Nat.le_of_ble_eq_true rfl)) d_PD_become_10 ⟨Nat.le_of_ble_eq_true rfl, Nat.le_of_ble_eq_true rfl⟩) hD hS hA (fun r1 H locs hr hP hD hS => ?_)
    subst hr
    refine lv_istore_n (lv' := [(3, .int (nI (pd_pf (S 4 fr)))), (0, .ref (ad 0)), (1, .ref (ad (23 + to))), (2, .ref (ad (23 + fr)))]) hx hb d_PD_become_13 rfl hl (by decide) rfl (fun ls hl => ?_)
    refine lv_iconst (v := nI 0) hx hb d_PD_become_14 (by decide) ?_
    refine lv_istore (lv' := [(4, .int (nI 0)), (3, .int (nI (pd_pf (S 4 fr)))), (0, .ref (ad 0)), (1, .ref (ad (23 + to))), (2, .ref (ad (23 + fr)))]) hx hb d_PD_become_15 hl (by decide) rfl (fun ls hl => ?_)
    refine pw_loop (fun mm H locs ls => ∃ (T : pdS) (k : Nat), mm = pd_pf (S 4 fr) - k ∧ k ≤ pd_pf (S 4 fr) ∧ pd_fr S T ∧ pd_ok n T (fun q => pd_ct S q + pd_rc (S (8 + fr)) q k) ∧ va_P (dC, dI) pwCl (pw n ad cI cB cE T) H ∧ va_D A (pw n ad cI cB cE T) ∧ va_S A s.heap H locs ∧ lv_has ls 5 [(4, .int (nI k)), (3, .int (nI (pd_pf (S 4 fr)))), (0, .ref (ad 0)), (1, .ref (ad (23 + to))), (2, .ref (ad (23 + fr)))]) ?_ _ _ _ _ ⟨S, 0, rfl, by omega, pd_fr_rf S, ho, hP, hD, hS, hl⟩
    rintro mm H locs ls ⟨T, k, hmm, hk, hfr, hok, hP, hD, hS, hl⟩ ih
    have hT4 : T 4 = S 4 := hfr.1 4 (by decide) (by decide) (by decide)
    have hTr : ∀ d, T (8 + d) = S (8 + d) := fun d => hfr.1 (8 + d) (by omega) (by omega) (by omega)
    refine lv_iload hx hb d_PD_become_17 (lv_at hl 0 rfl) ?_
    refine lv_iload_n hx hb d_PD_become_19 rfl (lv_at hl 1 rfl) ?_
    refine pq_icmp_ge (tgt := 43) hx hb (by omega) (by omega) d_PD_become_20 (by decide) (fun h2 => ?_) (fun h2 => ?_)
    · have hkk : k = pd_pf (S 4 fr) := by omega
      subst hkk
      have hpre := pd_be_pre (to := to) ht hok hfr
      have hT4t : T 4 to = S 4 to := by rw [hT4]
      refine lv_aload_n hx hb d_PD_become_43 rfl (lv_at hl 2 rfl) ?_
      refine lv_aload_n hx hb d_PD_become_44 rfl (lv_at hl 3 rfl) ?_
      refine lv_iconst (v := nI 0) hx hb d_PD_become_45 (by decide) ?_
      refine pw_callv (va_runV (As := [.ref (ad (23 + to)), .int (nI 0)]) (rest := []) ⟨hx, hb, hml, hown, hg⟩ (c_PD_shorten l dC dI cI cB cE cL cZ n ad T to 0 (fun q => pd_ct S q + pd_rc (S (8 + fr)) q (pd_pf (S 4 fr)) - pd_rc (S (8 + to)) q (pd_pf (S 4 to))) hn ht (Nat.zero_le _) (by omega) (fun k hk => by rw [hTr]; exact hv.2.1 to k ht (by rw [hT4t] at hk; exact hk)) (fun q => by have h7 := pd_ct_bd hv q; have h8 := pd_rc_le (S (8 + fr)) q (pd_pf (S 4 fr)); show _ - _ < _; omega) hpre H.size) (cwV 2 hg (gi_V (fun _ h => h) (wG_m4 (List.mem_of_getElem? (i := 13) rfl)) (wG_m4 (List.mem_of_getElem? (i := 14) rfl)) (wG_m14 (List.mem_of_getElem? (i := 2) rfl)) (wG_m1 (List.mem_of_getElem? (i := 1) rfl)) (wG_m4 (List.mem_of_getElem? (i := 15) rfl))) rfl rfl rfl (by decide +kernel) ⟨Nat.le_of_ble_eq_true rfl, Nat.le_of_ble_eq_true rfl⟩) (pw_pv hK hP hD (va_recv hK hP (ci := 0) (q0 := 0) rfl pw_g0) [.ref (ad (23 + to)), .int (nI 0)]) rfl rfl hl.1 rfl (lv_room (Nat.le_of_ble_eq_true rfl)) d_PD_become_46 ⟨Nat.le_of_ble_eq_true rfl, Nat.le_of_ble_eq_true rfl⟩) hD hS hA (fun U H locs hr hP hD hS => ?_)
      obtain ⟨U0, hu1, hu2, hu3⟩ := hr
      have hsh := pd_sh_of hu1 hu3
      have hU4f : U 4 fr = S 4 fr := by rw [hsh.2.2.1, va_up_ne _ _ (fun q => hne q.symm), hT4]
      have hU5f : U 5 fr = S 5 fr := by rw [hsh.2.2.2.1, hfr.1 5 (by decide) (by decide) (by decide)]
      refine lv_aload_n hx hb d_PD_become_49 rfl (lv_at hl 4 rfl) ?_
      refine va_get (C := "PageDrive$Content") (T := F_CO) (N := 3) hx hb hg iw_CO hown hK hP (23 + fr) (pw_gC (i := fr) (by omega)) rfl 0 (by decide) (hg (Cond.fieldLink "PageDrive" 171 "PageDrive$Content" "row" "[I") (wG_m2 (List.mem_of_getElem? (i := 32) rfl))) (fun _ h9 => h9) rfl d_PD_become_50 ?_
      refine lv_iconst (v := nI 0) hx hb d_PD_become_53 (by decide) ?_
      refine lv_aload_n hx hb d_PD_become_54 rfl (lv_at hl 3 rfl) ?_
      refine va_get (C := "PageDrive$Content") (T := F_CO) (N := 3) hx hb hg iw_CO hown hK hP (23 + to) (pw_gC (i := to) (by omega)) rfl 0 (by decide) (hg (Cond.fieldLink "PageDrive" 171 "PageDrive$Content" "row" "[I") (wG_m2 (List.mem_of_getElem? (i := 32) rfl))) (fun _ h9 => h9) rfl d_PD_become_55 ?_
      refine lv_iconst (v := nI 0) hx hb d_PD_become_58 (by decide) ?_
      refine lv_iload_n hx hb d_PD_become_59 rfl (lv_at hl 1 rfl) ?_
      refine pr_cpR hx hb (hml.trans hl.1.symm) hown (hg (Cond.methodLink "PageDrive" 190 ⟨"java/lang/System", "arraycopy", "(Ljava/lang/Object;ILjava/lang/Object;II)V"⟩) (wG_m4 (List.mem_of_getElem? (i := 20) rfl))) (hg (Cond.native ⟨"java/lang/System", "arraycopy", "(Ljava/lang/Object;ILjava/lang/Object;II)V"⟩) (wG_m4 (List.mem_of_getElem? (i := 22) rfl))) (hg (Cond.static ⟨"java/lang/System", "arraycopy", "(Ljava/lang/Object;ILjava/lang/Object;II)V"⟩) (wG_m4 (List.mem_of_getElem? (i := 21) rfl))) (hg (Cond.initialized "java/lang/System") (wG_m1 (List.mem_of_getElem? (i := 14) rfl))) hK hP hD hS (fr := fr) (to := to) hf ht (by omega) (by omega) rfl (Nat.le_of_ble_eq_true rfl) (Nat.le_of_ble_eq_true rfl) d_PD_become_60 (fun H locs hP hD hS => ?_)
      generalize eS2 : va_up U (8 + to) (va_cpy (U (8 + fr)) (U (8 + to)) 0 0 (pd_pf (S 4 fr))) = S2 at hP hD
      have eb1 : ∀ b, b ≠ 8 + to → S2 b = U b := fun b hb => by rw [← eS2, va_up_ne _ _ hb]
      refine lv_aload_n hx hb d_PD_become_63 rfl (lv_at hl 3 rfl) ?_
      refine lv_aload_n hx hb d_PD_become_64 rfl (lv_at hl 4 rfl) ?_
      refine va_get (C := "PageDrive$Content") (T := F_CO) (N := 3) hx hb hg iw_CO hown hK hP (23 + fr) (pw_gC (i := fr) (by omega)) rfl 1 (by decide) (hg (Cond.fieldLink "PageDrive" 67 "PageDrive$Content" "size" "I") (wG_m2 (List.mem_of_getElem? (i := 34) rfl))) (fun _ h9 => h9) rfl d_PD_become_65 ?_
      refine pr_size hx hb hg hown hK hP hD hS (i := to) (by omega) (hg (Cond.fieldLink "PageDrive" 67 "PageDrive$Content" "size" "I") (wG_m2 (List.mem_of_getElem? (i := 34) rfl))) d_PD_become_68 (fun H locs hP hD hS => ?_)
      generalize eS3 : pd_st S2 4 to (S2 4 fr) = S3 at hP hD
      have e25 : S3 5 fr = U 5 fr := by rw [← eS3, pd_bk _ (by decide), eb1 5 (by omega)]
      refine lv_aload_n hx hb d_PD_become_71 rfl (lv_at hl 3 rfl) ?_
      refine lv_aload_n hx hb d_PD_become_72 rfl (lv_at hl 4 rfl) ?_
      refine va_get (C := "PageDrive$Content") (T := F_CO) (N := 3) hx hb hg iw_CO hown hK hP (23 + fr) (pw_gC (i := fr) (by omega)) rfl 2 (by decide) (hg (Cond.fieldLink "PageDrive" 91 "PageDrive$Content" "there" "Z") (wG_m2 (List.mem_of_getElem? (i := 36) rfl))) (fun _ h9 => h9) rfl d_PD_become_73 ?_
      refine pr_there hx hb hg hown hK hP hD hS (i := to) (by omega) (by omega) (hg (Cond.fieldLink "PageDrive" 91 "PageDrive$Content" "there" "Z") (wG_m2 (List.mem_of_getElem? (i := 36) rfl))) d_PD_become_76 (fun H locs hP hD hS => ?_)
      generalize eS4 : pd_st S3 5 to (S3 5 fr) = S4 at hP hD
      have hbe : pd_be S S4 to fr := by
        refine pd_be_of ht hne hfr hsh ?_ ?_ ?_ ?_ ?_ ?_ ?_ ?_ hf
        · rw [← eS4, pd_bk _ (by decide), ← eS3, pd_bk _ (by decide), eb1 0 (by omega)]
        · rw [← eS4, pd_bk _ (by decide), ← eS3, pd_bk _ (by decide), eb1 3 (by omega)]
        · rw [← eS4, pd_bk _ (by decide), ← eS3, pd_own, eb1 4 (by omega)]
        · rw [← eS4, pd_own, ← eS3, pd_bk _ (by decide), eb1 5 (by omega)]
        · rw [← eS4, pd_bk _ (by decide), ← eS3, pd_bk _ (by decide), eb1 6 (by omega)]
        · rw [← eS4, pd_bk _ (by decide), ← eS3, pd_bk _ (by decide), eb1 7 (by omega)]
        · rw [← eS4, pd_bk _ (by omega), ← eS3, pd_bk _ (by omega), ← eS2, va_up_self]
        · intro d hd hdt
          rw [← eS4, pd_bk _ (by omega), ← eS3, pd_bk _ (by omega), eb1 (8 + d) (by omega)]
      have hU : pd_ok n U (fun q => pd_ct S q + pd_rc (S (8 + fr)) q (pd_pf (S 4 fr)) - pd_rc (S (8 + to)) q (pd_pf (S 4 to))) := by rw [hu3]; exact pd_ok_st hu2 (by decide) (by decide) (Or.inl (by decide))
      have h3 : pd_ok n S4 (fun q => pd_ct S q + pd_rc (S (8 + fr)) q (pd_pf (S 4 fr)) - pd_rc (S (8 + to)) q (pd_pf (S 4 to))) := by rw [← eS4, ← eS3]; exact pd_ok_st (pd_ok_st (pd_ok_eqv hU (eb1 1 (by omega)) (eb1 2 (by omega)) (by rw [eb1 7 (by omega)])) (by decide) (by decide) (Or.inl (by decide))) (by decide) (by decide) (Or.inl (by decide))
      exact W.vret hx hb hret (fun t9 ht9 hW9 => ⟨⟨_, rfl, ⟨hbe, pd_be_post ht hf hbe h3⟩, by rw [ht9]; exact hP, va_K.moved hW9.alike hK, hD⟩, hS.F ht9⟩) hS.2.2 d_PD_become_79
    · have hpg := hv.2.1 fr k hf h2
      have hcp := pd_ct_pos hf h2
      refine lv_aload_n hx hb d_PD_become_23 rfl (lv_at hl 2 rfl) ?_
      refine va_get (C := "PageDrive") (T := F_PD) (N := 4) hx hb hg iw_PD hown hK hP (0) pw_g0 rfl 0 (by decide) (hg (Cond.fieldLink "PageDrive" 23 "PageDrive" "pool" "LPageDrive$Pool;") (wG_m3 (List.mem_of_getElem? (i := 17) rfl))) (fun _ h9 => h9) rfl d_PD_become_24 ?_
      refine lv_aload_n hx hb d_PD_become_27 rfl (lv_at hl 4 rfl) ?_
      refine va_get (C := "PageDrive$Content") (T := F_CO) (N := 3) hx hb hg iw_CO hown hK hP (23 + fr) (pw_gC (i := fr) (by omega)) rfl 0 (by decide) (hg (Cond.fieldLink "PageDrive" 171 "PageDrive$Content" "row" "[I") (wG_m2 (List.mem_of_getElem? (i := 32) rfl))) (fun _ h9 => h9) rfl d_PD_become_28 ?_
      refine lv_iload hx hb d_PD_become_31 (lv_at hl 0 rfl) ?_
      refine pq_iald hx hb hK hP (55 + fr) 0 (pw_gR (i := fr) (by omega)) rfl (by omega) (by omega) d_PD_become_33 ?_
      refine pq_top (y := nI (S (8 + fr) k)) (by rw [hTr]) ?_
      refine pw_callv (va_runV (As := [.int (nI (S (8 + fr) k))]) (rest := []) ⟨hx, hb, hml, hown, hg⟩ (c_PO_join l dC dI cI cB cE cL cZ n ad T (S (8 + fr) k) hpg hn H.size) (cwV 1 hg (gi_V (fun _ h => h) (wG_m4 (List.mem_of_getElem? (i := 9) rfl)) (wG_m4 (List.mem_of_getElem? (i := 10) rfl)) (wG_m4 (List.mem_of_getElem? (i := 11) rfl)) (wG_m1 (List.mem_of_getElem? (i := 2) rfl)) (wG_m4 (List.mem_of_getElem? (i := 12) rfl))) rfl rfl rfl (by decide +kernel) ⟨Nat.le_of_ble_eq_true rfl, Nat.le_of_ble_eq_true rfl⟩) (pw_pv hK hP hD (va_recv hK hP (ci := 1) (q0 := 1) rfl pw_g1) [.int (nI (S (8 + fr) k))]) rfl rfl hl.1 rfl (lv_room (Nat.le_of_ble_eq_true rfl)) d_PD_become_34 ⟨Nat.le_of_ble_eq_true rfl, Nat.le_of_ble_eq_true rfl⟩) hD hS hA (fun T2 H locs hr hP hD hS => ?_)
      refine lv_iinc (v := (nI (k + 1))) (lv' := [(4, .int (nI (k + 1))), (3, .int (nI (pd_pf (S 4 fr)))), (0, .ref (ad 0)), (1, .ref (ad (23 + to))), (2, .ref (ad (23 + fr)))]) hx hb d_PD_become_37 hl (k := 0) rfl (pq_inc _) (by decide) rfl (fun ls hl => ?_)
      refine lv_goto (tgt := 17) hx hb d_PD_become_40 (by decide) ?_
      subst hr
      exact ih _ _ _ _ (by omega) ⟨_, k + 1, rfl, by omega, pd_fr_tr hfr (pd_fr_join T _), pd_join_step hpg hcp hok, hP, hD, hS, hl⟩
  · have hq : to = fr := by have h9 := hD.1 (23 + to) (23 + fr) _ _ (pw_gC ht) (pw_gC hf) (Option.some.inj h1); omega
    subst hq
    exact W.vret hx hb hret (fun t9 ht9 hW9 => ⟨⟨S, rfl, ⟨pd_be_self S to, ho⟩, by rw [ht9]; exact hP, va_K.moved hW9.alike hK, hD⟩, hS.F ht9⟩) hS.2.2 d_PD_become_5
set_option maxHeartbeats 4000000 in
set_option maxRecDepth 100000 in
/-- settle(entry) -/
theorem c_PD_settle (l : Launch) (dC : Nat → ClassId) (dI : Nat → Nat → Nat) (cI cB cE cL cZ : ClassId) (n : Nat) (ad : Nat → Nat) (S : pdS) (i : Nat) (hn : n ≤ 1024) (hv : pd_v n S) (ho : pd_ok n S (pd_ct S)) (hi : i < 16) (sz : Nat) : CMv l (dC, dI) (pw_ty cI cB cE cL cZ) y_PD_settle w_PD_settle ({ frames := 3, cells := 0, slots := 0, locals := 84 }) [.ref (ad 0), .ref (ad (7 + i))] (pw n ad cI cB cE S) (pw n ad cI cB cE) sz (fun S2 => pd_set S S2 i ∧ pd_ok n S2 (pd_ct S2)) := by
  refine Met.ofW (cc := b_PD_settle) (maxL := 2) (ret := none) (by decide) rfl ?_
  intro p e s m args below meth c s₁ B hml hv
  obtain ⟨rfl, hsz, hP, hK, hD0⟩ := hv
  have hx := B.exec
  have hb := B.bytes
  have hret := B.returns
  have hts := atoms_spec (ws := w_PD_settle) B.pre
  have hg : ∀ w ∈ wsG, w.before _ s = true := fun w h => hts w (List.mem_cons_of_mem _ h)
  have hown : s.vm.findClass "PageDrive" = some m.cls := findClass_of_methodNamed B.named
  have hlocks := B.notSynchronized
  subst hsz
  have hD := hD0.self (sz := s.heap.size)
  generalize hAe : va_A (pw n ad cI cB cE S) s.heap.size = A at hD ⊢
  have hA : ∀ q : Nat, s.heap.size ≤ q → A q := fun q h => by rw [← hAe]; exact Or.inr h
  have hS : va_S A s.heap s.heap [] := va_S.rf
  have hl := lv_entry ([.ref (ad 0), .ref (ad (7 + i))]) (n := 2) (Nat.le_of_ble_eq_true rfl)
  rw [lg_entry_eq]
  generalize (lg_sl ([.ref (ad 0), .ref (ad (7 + i))]) ++ List.replicate (2 - (lg_sl ([.ref (ad 0), .ref (ad (7 + i))])).length) Slot.unset).toArray = ls at hl ⊢
  have hl : lv_has ls 2 [(0, .ref (ad 0)), (1, .ref (ad (7 + i)))] := hl
  refine lv_aload_n hx hb d_PD_settle_0 rfl (lv_at hl 0 rfl) ?_
  refine lv_aload_n hx hb d_PD_settle_1 rfl (lv_at hl 1 rfl) ?_
  refine va_get (C := "PageDrive$Entry") (T := F_EN) (N := 3) hx hb hg iw_EN hown hK hP (7 + i) (pw_gE (i := i) (by omega)) rfl 1 (by decide) (hg (Cond.fieldLink "PageDrive" 112 "PageDrive$Entry" "synced" "LPageDrive$Content;") (wG_m3 (List.mem_of_getElem? (i := 7) rfl))) (fun _ h9 => h9) rfl d_PD_settle_2 ?_
  refine lv_aload_n hx hb d_PD_settle_5 rfl (lv_at hl 1 rfl) ?_
  refine va_get (C := "PageDrive$Entry") (T := F_EN) (N := 3) hx hb hg iw_EN hown hK hP (7 + i) (pw_gE (i := i) (by omega)) rfl 0 (by decide) (hg (Cond.fieldLink "PageDrive" 63 "PageDrive$Entry" "now" "LPageDrive$Content;") (wG_m3 (List.mem_of_getElem? (i := 5) rfl))) (fun _ h9 => h9) rfl d_PD_settle_6 ?_
  refine pw_callv (va_runV (As := [.ref (ad (23 + (2 * i + 1))), .ref (ad (23 + 2 * i))]) (rest := []) ⟨hx, hb, hml, hown, hg⟩ (c_PD_become l dC dI cI cB cE cL cZ n ad S (2 * i + 1) (2 * i) hn hv ho (by omega) (by omega) s.heap.size) (cwV 2 hg (gi_V (fun _ h => h) (wG_m4 (List.mem_of_getElem? (i := 3) rfl)) (wG_m4 (List.mem_of_getElem? (i := 4) rfl)) (wG_m14 (List.mem_of_getElem? (i := 1) rfl)) (wG_m1 (List.mem_of_getElem? (i := 1) rfl)) (wG_m4 (List.mem_of_getElem? (i := 5) rfl))) rfl rfl rfl (by decide +kernel) ⟨Nat.le_of_ble_eq_true rfl, Nat.le_of_ble_eq_true rfl⟩) (pw_pv hK hP hD (va_recv hK hP (ci := 0) (q0 := 0) rfl pw_g0) [.ref (ad (23 + (2 * i + 1))), .ref (ad (23 + 2 * i))]) rfl rfl hl.1 rfl (lv_room (Nat.le_of_ble_eq_true rfl)) d_PD_settle_9 ⟨Nat.le_of_ble_eq_true rfl, Nat.le_of_ble_eq_true rfl⟩) hD hS hA (fun T H locs hr hP hD hS => ?_)
  obtain ⟨hbe, hok⟩ := hr
  have hT4 : T 4 (2 * i) = S 4 (2 * i) := by rw [hbe.2.2.1, va_up_ne _ _ (by omega)]
  refine lv_aload_n hx hb d_PD_settle_12 rfl (lv_at hl 1 rfl) ?_
  refine lv_aload_n hx hb d_PD_settle_13 rfl (lv_at hl 1 rfl) ?_
  refine va_get (C := "PageDrive$Entry") (T := F_EN) (N := 3) hx hb hg iw_EN hown hK hP (7 + i) (pw_gE (i := i) (by omega)) rfl 0 (by decide) (hg (Cond.fieldLink "PageDrive" 63 "PageDrive$Entry" "now" "LPageDrive$Content;") (wG_m3 (List.mem_of_getElem? (i := 5) rfl))) (fun _ h9 => h9) rfl d_PD_settle_14 ?_
  refine va_get (C := "PageDrive$Content") (T := F_CO) (N := 3) hx hb hg iw_CO hown hK hP (23 + (2 * i)) (pw_gC (i := 2 * i) (by omega)) rfl 1 (by decide) (hg (Cond.fieldLink "PageDrive" 67 "PageDrive$Content" "size" "I") (wG_m2 (List.mem_of_getElem? (i := 34) rfl))) (fun _ h9 => h9) rfl d_PD_settle_17 ?_
  refine pq_top (y := nI (S 4 (2 * i))) (by rw [hT4]) ?_
  refine pr_low hx hb hg hown hK hP hD hS (i := i) (by omega) (hg (Cond.fieldLink "PageDrive" 105 "PageDrive$Entry" "low" "I") (wG_m3 (List.mem_of_getElem? (i := 9) rfl))) d_PD_settle_20 (fun H locs hP hD hS => ?_)
  generalize eS1 : pd_st T 6 i (S 4 (2 * i)) = S1 at hP hD
  have hct : ∀ q, pd_ct S1 q = pd_ct T q := fun q => by rw [← eS1]; exact pd_ct_congr (pd_bk _ (by decide)) (fun d _ k _ => by rw [pd_bk _ (by omega)]) q
  exact W.vret hx hb hret (fun t9 ht9 hW9 => ⟨⟨_, rfl, ⟨⟨T, hbe, by rw [eS1]; exact pd_sa_rf _⟩, pd_ok_congr (by rw [← eS1]; exact pd_ok_st hok (by decide) (by decide) (Or.inl (by decide))) (fun q _ => (hct q).symm)⟩, by rw [ht9]; exact hP, va_K.moved hW9.alike hK, hD⟩, hS.F ht9⟩) hS.2.2 d_PD_settle_23
set_option maxHeartbeats 4000000 in
set_option maxRecDepth 100000 in
/-- fall(entry, keep) -/
theorem c_PD_fall (l : Launch) (dC : Nat → ClassId) (dI : Nat → Nat → Nat) (cI cB cE cL cZ : ClassId) (n : Nat) (ad : Nat → Nat) (S : pdS) (i keep : Nat) (hn : n ≤ 1024) (hv : pd_v n S) (ho : pd_ok n S (pd_ct S)) (hi : i < 16) (hlo : S 6 i ≤ S 4 (2 * i)) (hkp : keep < 2 ^ 31) (sz : Nat) : CMv l (dC, dI) (pw_ty cI cB cE cL cZ) y_PD_fall w_PD_fall ({ frames := 4, cells := 0, slots := 0, locals := 105 }) [.ref (ad 0), .ref (ad (7 + i)), .int (nI keep)] (pw n ad cI cB cE S) (pw n ad cI cB cE) sz (fun S2 => pd_fal S S2 i keep ∧ pd_ok n S2 (pd_ct S2)) := by
  refine Met.ofW (cc := b_PD_fall) (maxL := 3) (ret := none) (by decide) rfl ?_
  intro p e s m args below meth c s₁ B hml hv
  obtain ⟨rfl, hsz, hP, hK, hD0⟩ := hv
  have hx := B.exec
  have hb := B.bytes
  have hret := B.returns
  have hts := atoms_spec (ws := w_PD_fall) B.pre
  have hg : ∀ w ∈ wsG, w.before _ s = true := fun w h => hts w (List.mem_cons_of_mem _ h)
  have hown : s.vm.findClass "PageDrive" = some m.cls := findClass_of_methodNamed B.named
  have hlocks := B.notSynchronized
  subst hsz
  have hD := hD0.self (sz := s.heap.size)
  generalize hAe : va_A (pw n ad cI cB cE S) s.heap.size = A at hD ⊢
  have hA : ∀ q : Nat, s.heap.size ≤ q → A q := fun q h => by rw [← hAe]; exact Or.inr h
  have hS : va_S A s.heap s.heap [] := va_S.rf
  have hl := lv_entry ([.ref (ad 0), .ref (ad (7 + i)), .int (nI keep)]) (n := 3) (Nat.le_of_ble_eq_true rfl)
  rw [lg_entry_eq]
  generalize (lg_sl ([.ref (ad 0), .ref (ad (7 + i)), .int (nI keep)]) ++ List.replicate (3 - (lg_sl ([.ref (ad 0), .ref (ad (7 + i)), .int (nI keep)])).length) Slot.unset).toArray = ls at hl ⊢
  have hl : lv_has ls 3 [(0, .ref (ad 0)), (1, .ref (ad (7 + i))), (2, .int (nI keep))] := hl
  have hs4 := (hv.1 (2 * i) (by omega)).1
  refine lv_iload_n hx hb d_PD_fall_0 rfl (lv_at hl 2 rfl) ?_
  refine pq_if_ne (tgt := 19) hx hb (by omega) d_PD_fall_1 (by decide) (fun h1 => ?_) (fun h1 => ?_)
  · refine lv_aload_n hx hb d_PD_fall_19 rfl (lv_at hl 1 rfl) ?_
    refine va_get (C := "PageDrive$Entry") (T := F_EN) (N := 3) hx hb hg iw_EN hown hK hP (7 + i) (pw_gE (i := i) (by omega)) rfl 0 (by decide) (hg (Cond.fieldLink "PageDrive" 63 "PageDrive$Entry" "now" "LPageDrive$Content;") (wG_m3 (List.mem_of_getElem? (i := 5) rfl))) (fun _ h9 => h9) rfl d_PD_fall_20 ?_
    refine va_get (C := "PageDrive$Content") (T := F_CO) (N := 3) hx hb hg iw_CO hown hK hP (23 + (2 * i)) (pw_gC (i := 2 * i) (by omega)) rfl 1 (by decide) (hg (Cond.fieldLink "PageDrive" 67 "PageDrive$Content" "size" "I") (wG_m2 (List.mem_of_getElem? (i := 34) rfl))) (fun _ h9 => h9) rfl d_PD_fall_23 ?_
    refine lv_aload_n hx hb d_PD_fall_26 rfl (lv_at hl 1 rfl) ?_
    refine va_get (C := "PageDrive$Entry") (T := F_EN) (N := 3) hx hb hg iw_EN hown hK hP (7 + i) (pw_gE (i := i) (by omega)) rfl 2 (by decide) (hg (Cond.fieldLink "PageDrive" 105 "PageDrive$Entry" "low" "I") (wG_m3 (List.mem_of_getElem? (i := 9) rfl))) (fun _ h9 => h9) rfl d_PD_fall_27 ?_
    refine pq_isub hx hb (by omega) d_PD_fall_30 ?_
    refine lv_iload_n hx hb d_PD_fall_31 rfl (lv_at hl 2 rfl) ?_
    refine lv_iconst (v := nI 1) hx hb d_PD_fall_32 (by decide) ?_
    refine pq_isub hx hb (by omega) d_PD_fall_33 ?_
    refine pq_icmp_le (tgt := 53) hx hb (by omega) (by omega) d_PD_fall_34 (by decide) (fun h2 => ?_) (fun h2 => ?_)
    · refine lv_aload_n hx hb d_PD_fall_53 rfl (lv_at hl 0 rfl) ?_
      refine lv_aload_n hx hb d_PD_fall_54 rfl (lv_at hl 1 rfl) ?_
      refine pw_callv (va_runV (As := [.ref (ad (7 + i))]) (rest := []) ⟨hx, hb, hml, hown, hg⟩ (c_PD_settle l dC dI cI cB cE cL cZ n ad S i hn hv ho hi s.heap.size) (cwV 1 hg (gi_V (fun _ h => h) (wG_m4 (List.mem_of_getElem? (i := 23) rfl)) (wG_m4 (List.mem_of_getElem? (i := 24) rfl)) (wG_m14 (List.mem_of_getElem? (i := 3) rfl)) (wG_m1 (List.mem_of_getElem? (i := 1) rfl)) (wG_m4 (List.mem_of_getElem? (i := 25) rfl))) rfl rfl rfl (by decide +kernel) ⟨Nat.le_of_ble_eq_true rfl, Nat.le_of_ble_eq_true rfl⟩) (pw_pv hK hP hD (va_recv hK hP (ci := 0) (q0 := 0) rfl pw_g0) [.ref (ad (7 + i))]) rfl rfl hl.1 rfl (lv_room (Nat.le_of_ble_eq_true rfl)) d_PD_fall_55 ⟨Nat.le_of_ble_eq_true rfl, Nat.le_of_ble_eq_true rfl⟩) hD hS hA (fun S2 H locs hr hP hD hS => ?_)
      exact W.vret hx hb hret (fun t9 ht9 hW9 => ⟨⟨_, rfl, ⟨⟨S, Or.inr (Or.inr ⟨by omega, by omega, pd_sa_rf S⟩), hr.1⟩, hr.2⟩, by rw [ht9]; exact hP, va_K.moved hW9.alike hK, hD⟩, hS.F ht9⟩) hS.2.2 d_PD_fall_58
    · have hle : S 6 i + keep - 1 ≤ S 4 (2 * i) := by omega
      refine lv_aload_n hx hb d_PD_fall_37 rfl (lv_at hl 0 rfl) ?_
      refine lv_aload_n hx hb d_PD_fall_38 rfl (lv_at hl 1 rfl) ?_
      refine va_get (C := "PageDrive$Entry") (T := F_EN) (N := 3) hx hb hg iw_EN hown hK hP (7 + i) (pw_gE (i := i) (by omega)) rfl 0 (by decide) (hg (Cond.fieldLink "PageDrive" 63 "PageDrive$Entry" "now" "LPageDrive$Content;") (wG_m3 (List.mem_of_getElem? (i := 5) rfl))) (fun _ h9 => h9) rfl d_PD_fall_39 ?_
      refine lv_aload_n hx hb d_PD_fall_42 rfl (lv_at hl 1 rfl) ?_
      refine va_get (C := "PageDrive$Entry") (T := F_EN) (N := 3) hx hb hg iw_EN hown hK hP (7 + i) (pw_gE (i := i) (by omega)) rfl 2 (by decide) (hg (Cond.fieldLink "PageDrive" 105 "PageDrive$Entry" "low" "I") (wG_m3 (List.mem_of_getElem? (i := 9) rfl))) (fun _ h9 => h9) rfl d_PD_fall_43 ?_
      refine lv_iload_n hx hb d_PD_fall_46 rfl (lv_at hl 2 rfl) ?_
      refine pq_iadd hx hb d_PD_fall_47 ?_
      refine lv_iconst (v := nI 1) hx hb d_PD_fall_48 (by decide) ?_
      refine pq_isub hx hb (by omega) d_PD_fall_49 ?_
      refine pw_callv (va_runV (As := [.ref (ad (23 + 2 * i)), .int (nI (((S 6 i) + keep) - 1))]) (rest := []) ⟨hx, hb, hml, hown, hg⟩ (c_PD_shorten l dC dI cI cB cE cL cZ n ad S (2 * i) (S 6 i + keep - 1) (fun q => pd_ct S q - pd_tl S (2 * i) (S 6 i + keep - 1) q) hn (by omega) hle hs4 (fun k hk => hv.2.1 _ k (by omega) hk) (fun q => by have h7 := pd_ct_bd hv q; show _ - _ < _; omega) (pd_sh_pre (by omega) hle ho) s.heap.size) (cwV 2 hg (gi_V (fun _ h => h) (wG_m4 (List.mem_of_getElem? (i := 13) rfl)) (wG_m4 (List.mem_of_getElem? (i := 14) rfl)) (wG_m14 (List.mem_of_getElem? (i := 2) rfl)) (wG_m1 (List.mem_of_getElem? (i := 1) rfl)) (wG_m4 (List.mem_of_getElem? (i := 15) rfl))) rfl rfl rfl (by decide +kernel) ⟨Nat.le_of_ble_eq_true rfl, Nat.le_of_ble_eq_true rfl⟩) (pw_pv hK hP hD (va_recv hK hP (ci := 0) (q0 := 0) rfl pw_g0) [.ref (ad (23 + 2 * i)), .int (nI (((S 6 i) + keep) - 1))]) rfl rfl hl.1 rfl (lv_room (Nat.le_of_ble_eq_true rfl)) d_PD_fall_50 ⟨Nat.le_of_ble_eq_true rfl, Nat.le_of_ble_eq_true rfl⟩) hD hS hA (fun T H locs hr hP hD hS => ?_)
      obtain ⟨T0, ht1, ht2, ht3⟩ := hr
      have hsh := pd_sh_of ht1 ht3
      have hoT : pd_ok n T (pd_ct T) := pd_sh_post (by omega) hle hsh (by rw [ht3]; exact pd_ok_st ht2 (by decide) (by decide) (Or.inl (by decide)))
      refine lv_aload_n hx hb d_PD_fall_53 rfl (lv_at hl 0 rfl) ?_
      refine lv_aload_n hx hb d_PD_fall_54 rfl (lv_at hl 1 rfl) ?_
      refine pw_callv (va_runV (As := [.ref (ad (7 + i))]) (rest := []) ⟨hx, hb, hml, hown, hg⟩ (c_PD_settle l dC dI cI cB cE cL cZ n ad T i hn (pd_sh_v hsh hle hv) hoT hi H.size) (cwV 1 hg (gi_V (fun _ h => h) (wG_m4 (List.mem_of_getElem? (i := 23) rfl)) (wG_m4 (List.mem_of_getElem? (i := 24) rfl)) (wG_m14 (List.mem_of_getElem? (i := 3) rfl)) (wG_m1 (List.mem_of_getElem? (i := 1) rfl)) (wG_m4 (List.mem_of_getElem? (i := 25) rfl))) rfl rfl rfl (by decide +kernel) ⟨Nat.le_of_ble_eq_true rfl, Nat.le_of_ble_eq_true rfl⟩) (pw_pv hK hP hD (va_recv hK hP (ci := 0) (q0 := 0) rfl pw_g0) [.ref (ad (7 + i))]) rfl rfl hl.1 rfl (lv_room (Nat.le_of_ble_eq_true rfl)) d_PD_fall_55 ⟨Nat.le_of_ble_eq_true rfl, Nat.le_of_ble_eq_true rfl⟩) hD hS hA (fun S2 H locs hr hP hD hS => ?_)
      exact W.vret hx hb hret (fun t9 ht9 hW9 => ⟨⟨_, rfl, ⟨⟨T, Or.inr (Or.inl ⟨by omega, by omega, hsh⟩), hr.1⟩, hr.2⟩, by rw [ht9]; exact hP, va_K.moved hW9.alike hK, hD⟩, hS.F ht9⟩) hS.2.2 d_PD_fall_58
  · refine lv_aload_n hx hb d_PD_fall_4 rfl (lv_at hl 0 rfl) ?_
    refine lv_aload_n hx hb d_PD_fall_5 rfl (lv_at hl 1 rfl) ?_
    refine va_get (C := "PageDrive$Entry") (T := F_EN) (N := 3) hx hb hg iw_EN hown hK hP (7 + i) (pw_gE (i := i) (by omega)) rfl 0 (by decide) (hg (Cond.fieldLink "PageDrive" 63 "PageDrive$Entry" "now" "LPageDrive$Content;") (wG_m3 (List.mem_of_getElem? (i := 5) rfl))) (fun _ h9 => h9) rfl d_PD_fall_6 ?_
    refine lv_aload_n hx hb d_PD_fall_9 rfl (lv_at hl 1 rfl) ?_
    refine va_get (C := "PageDrive$Entry") (T := F_EN) (N := 3) hx hb hg iw_EN hown hK hP (7 + i) (pw_gE (i := i) (by omega)) rfl 1 (by decide) (hg (Cond.fieldLink "PageDrive" 112 "PageDrive$Entry" "synced" "LPageDrive$Content;") (wG_m3 (List.mem_of_getElem? (i := 7) rfl))) (fun _ h9 => h9) rfl d_PD_fall_10 ?_
    refine pw_callv (va_runV (As := [.ref (ad (23 + 2 * i)), .ref (ad (23 + (2 * i + 1)))]) (rest := []) ⟨hx, hb, hml, hown, hg⟩ (c_PD_become l dC dI cI cB cE cL cZ n ad S (2 * i) (2 * i + 1) hn hv ho (by omega) (by omega) s.heap.size) (cwV 2 hg (gi_V (fun _ h => h) (wG_m4 (List.mem_of_getElem? (i := 3) rfl)) (wG_m4 (List.mem_of_getElem? (i := 4) rfl)) (wG_m14 (List.mem_of_getElem? (i := 1) rfl)) (wG_m1 (List.mem_of_getElem? (i := 1) rfl)) (wG_m4 (List.mem_of_getElem? (i := 5) rfl))) rfl rfl rfl (by decide +kernel) ⟨Nat.le_of_ble_eq_true rfl, Nat.le_of_ble_eq_true rfl⟩) (pw_pv hK hP hD (va_recv hK hP (ci := 0) (q0 := 0) rfl pw_g0) [.ref (ad (23 + 2 * i)), .ref (ad (23 + (2 * i + 1)))]) rfl rfl hl.1 rfl (lv_room (Nat.le_of_ble_eq_true rfl)) d_PD_fall_13 ⟨Nat.le_of_ble_eq_true rfl, Nat.le_of_ble_eq_true rfl⟩) hD hS hA (fun T H locs hr hP hD hS => ?_)
    obtain ⟨hbe, hoT⟩ := hr
    refine lv_goto (tgt := 53) hx hb d_PD_fall_16 (by decide) ?_
    refine lv_aload_n hx hb d_PD_fall_53 rfl (lv_at hl 0 rfl) ?_
    refine lv_aload_n hx hb d_PD_fall_54 rfl (lv_at hl 1 rfl) ?_
    refine pw_callv (va_runV (As := [.ref (ad (7 + i))]) (rest := []) ⟨hx, hb, hml, hown, hg⟩ (c_PD_settle l dC dI cI cB cE cL cZ n ad T i hn (pd_be_v hbe (by omega) hv) hoT hi H.size) (cwV 1 hg (gi_V (fun _ h => h) (wG_m4 (List.mem_of_getElem? (i := 23) rfl)) (wG_m4 (List.mem_of_getElem? (i := 24) rfl)) (wG_m14 (List.mem_of_getElem? (i := 3) rfl)) (wG_m1 (List.mem_of_getElem? (i := 1) rfl)) (wG_m4 (List.mem_of_getElem? (i := 25) rfl))) rfl rfl rfl (by decide +kernel) ⟨Nat.le_of_ble_eq_true rfl, Nat.le_of_ble_eq_true rfl⟩) (pw_pv hK hP hD (va_recv hK hP (ci := 0) (q0 := 0) rfl pw_g0) [.ref (ad (7 + i))]) rfl rfl hl.1 rfl (lv_room (Nat.le_of_ble_eq_true rfl)) d_PD_fall_55 ⟨Nat.le_of_ble_eq_true rfl, Nat.le_of_ble_eq_true rfl⟩) hD hS hA (fun S2 H locs hr hP hD hS => ?_)
    exact W.vret hx hb hret (fun t9 ht9 hW9 => ⟨⟨_, rfl, ⟨⟨T, Or.inl ⟨h1, hbe⟩, hr.1⟩, hr.2⟩, by rw [ht9]; exact hP, va_K.moved hW9.alike hK, hD⟩, hS.F ht9⟩) hS.2.2 d_PD_fall_58
