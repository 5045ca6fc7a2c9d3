/-! THE CLASS, 5: grow, writeTape -/
set_option maxHeartbeats 4000000 in
set_option maxRecDepth 100000 in
/-- grow(content, after) -/
theorem c_PD_grow (l : Launch) (dC : Nat → ClassId) (dI : Nat → Nat → Nat) (cI cB cE cL cZ : ClassId) (n : Nat) (ad : Nat → Nat) (S : pdS) (cc add : Nat) (hn : n ≤ 1024) (hv : pd_v n S) (ho : pd_ok n S (pd_ct S)) (hc : cc < 32) (hrm : pd_rm S cc add) (sz : Nat) : CMv l (dC, dI) (pw_ty cI cB cE cL cZ) y_PD_grow w_PD_grow ({ frames := 2, cells := 0, slots := 0, locals := 82 }) [.ref (ad 0), .ref (ad (23 + cc)), .int (nI (S 4 cc + add))] (pw n ad cI cB cE S) (pw n ad cI cB cE) sz (fun S2 => pd_gw n S S2 cc add) := by
  refine Met.ofW (cc := b_PD_grow) (maxL := 4) (ret := none) (by decide) rfl ?_
  intro p e s m args below meth c s₁ B hml hv
  obtain ⟨rfl, hsz, hP, hK, hD0⟩ := hv
  have hx := B.exec
  have hb := B.bytes
  have hret := B.returns
  have hts := atoms_spec (ws := w_PD_grow) B.pre
  have hg : ∀ w ∈ wsG, w.before _ s = true := fun w h => hts w (List.mem_cons_of_mem _ h)
  have hown : s.vm.findClass "PageDrive" = some m.cls := findClass_of_methodNamed B.named
  have hlocks := B.notSynchronized
  subst hsz
  have hD := hD0.self (sz := s.heap.size)
  generalize hAe : va_A (pw n ad cI cB cE S) s.heap.size = A at hD ⊢
  have hA : ∀ q : Nat, s.heap.size ≤ q → A q := fun q h => by rw [← hAe]; exact Or.inr h
  have hS : va_S A s.heap s.heap [] := va_S.rf
  have hl := lv_entry ([.ref (ad 0), .ref (ad (23 + cc)), .int (nI (S 4 cc + add))]) (n := 4) (Nat.le_of_ble_eq_true rfl)
  rw [lg_entry_eq]
  generalize (lg_sl ([.ref (ad 0), .ref (ad (23 + cc)), .int (nI (S 4 cc + add))]) ++ List.replicate (4 - (lg_sl ([.ref (ad 0), .ref (ad (23 + cc)), .int (nI (S 4 cc + add))])).length) Slot.unset).toArray = ls at hl ⊢
  have hl : lv_has ls 4 [(0, .ref (ad 0)), (1, .ref (ad (23 + cc))), (2, .int (nI (S 4 cc + add)))] := hl
  have hs4 := (hv.1 cc hc).1
  have hm := pd_pf_mono (show S 4 cc ≤ S 4 cc + add by omega)
  have h400 := hrm.1
  have haf2 : S 4 cc + add < 1000000 := by unfold pd_pf at h400; omega
  have hu : S 7 0 ≤ n := by have := ho.2.2.2; omega
  refine lv_aload_n hx hb d_PD_grow_0 rfl (lv_at hl 0 rfl) ?_
  refine lv_aload_n hx hb d_PD_grow_1 rfl (lv_at hl 1 rfl) ?_
  refine lv_iload_n hx hb d_PD_grow_2 rfl (lv_at hl 2 rfl) ?_
  refine pw_callip (va_runV (As := [.ref (ad (23 + cc)), .int (nI (S 4 cc + add))]) (rest := []) ⟨hx, hb, hml, hown, hg⟩ (c_PD_mustCopyLast l dC dI cI cB cE cL cZ n ad S cc (S 4 cc + add) hn hv ho hc (by omega) haf2 s.heap.size) (cwV 2 hg (gi_V (fun _ h => h) (wG_m7 (List.mem_of_getElem? (i := 25) rfl)) (wG_m7 (List.mem_of_getElem? (i := 26) rfl)) (wG_m14 (List.mem_of_getElem? (i := 7) rfl)) (wG_m1 (List.mem_of_getElem? (i := 1) rfl)) (wG_m7 (List.mem_of_getElem? (i := 27) rfl))) rfl rfl rfl (by decide +kernel) ⟨Nat.le_of_ble_eq_true rfl, Nat.le_of_ble_eq_true rfl⟩) (pw_pv hK hP hD (va_recv hK hP (ci := 0) (q0 := 0) rfl pw_g0) [.ref (ad (23 + cc)), .int (nI (S 4 cc + add))]) rfl rfl hl.1 rfl (lv_room (Nat.le_of_ble_eq_true rfl)) d_PD_grow_3 ⟨Nat.le_of_ble_eq_true rfl, Nat.le_of_ble_eq_true rfl⟩) hD hS hA (fun r1 H locs hr hP hD hS => ?_)
  rw [Nat.add_sub_cancel_left] at hr
  rcases hr with ⟨h3, rfl⟩ | ⟨h3, rfl⟩
  · refine pq_if_eq (tgt := 36) hx hb (by omega) d_PD_grow_6 (by decide) (fun h9 => absurd h9 (by omega)) (fun _ => ?_)
    have hneed : pd_pf (S 4 cc + add) - pd_pf (S 4 cc) + 1 ≤ S 7 0 := by rcases hrm.2 with q | q; exact q.2; exact absurd h3 q.1
    have hl0 : S 4 cc / 64 < pd_pf (S 4 cc) := by have := h3.2.1; unfold pd_pf; omega
    have hl1 : pd_pf (S 4 cc) ≤ 400 := by omega
    have hpg := hv.2.1 cc _ hc hl0
    have hbd := pd_ct_bd hv (S (8 + cc) (S 4 cc / 64))
    have hc2 := h3.2.2
    refine lv_aload_n hx hb d_PD_grow_9 rfl (lv_at hl 1 rfl) ?_
    refine va_get (C := "PageDrive$Content") (T := F_CO) (N := 3) hx hb hg iw_CO hown hK hP (23 + cc) (pw_gC (i := cc) (by omega)) rfl 1 (by decide) (hg (Cond.fieldLink "PageDrive" 67 "PageDrive$Content" "size" "I") (wG_m2 (List.mem_of_getElem? (i := 34) rfl))) (fun _ h9 => h9) rfl d_PD_grow_10 ?_
    refine lv_bipush (v := nI 64) hx hb d_PD_grow_13 (by decide) ?_
    refine pq_idiv hx hb (by omega) (by omega) (by omega) d_PD_grow_15 ?_
    refine lv_istore_n (lv' := [(3, .int (nI ((S 4 cc) / 64))), (0, .ref (ad 0)), (1, .ref (ad (23 + cc))), (2, .int (nI (S 4 cc + add)))]) hx hb d_PD_grow_16 rfl hl (by decide) rfl (fun ls hl => ?_)
    refine lv_aload_n hx hb d_PD_grow_17 rfl (lv_at hl 2 rfl) ?_
    refine va_get (C := "PageDrive$Content") (T := F_CO) (N := 3) hx hb hg iw_CO hown hK hP (23 + cc) (pw_gC (i := cc) (by omega)) rfl 0 (by decide) (hg (Cond.fieldLink "PageDrive" 171 "PageDrive$Content" "row" "[I") (wG_m2 (List.mem_of_getElem? (i := 32) rfl))) (fun _ h9 => h9) rfl d_PD_grow_18 ?_
    refine lv_iload_n hx hb d_PD_grow_21 rfl (lv_at hl 0 rfl) ?_
    refine lv_aload_n hx hb d_PD_grow_22 rfl (lv_at hl 1 rfl) ?_
    refine va_get (C := "PageDrive") (T := F_PD) (N := 4) hx hb hg iw_PD hown hK hP (0) pw_g0 rfl 0 (by decide) (hg (Cond.fieldLink "PageDrive" 23 "PageDrive" "pool" "LPageDrive$Pool;") (wG_m3 (List.mem_of_getElem? (i := 17) rfl))) (fun _ h9 => h9) rfl d_PD_grow_23 ?_
    refine lv_aload_n hx hb d_PD_grow_26 rfl (lv_at hl 2 rfl) ?_
    refine va_get (C := "PageDrive$Content") (T := F_CO) (N := 3) hx hb hg iw_CO hown hK hP (23 + cc) (pw_gC (i := cc) (by omega)) rfl 0 (by decide) (hg (Cond.fieldLink "PageDrive" 171 "PageDrive$Content" "row" "[I") (wG_m2 (List.mem_of_getElem? (i := 32) rfl))) (fun _ h9 => h9) rfl d_PD_grow_27 ?_
    refine lv_iload_n hx hb d_PD_grow_30 rfl (lv_at hl 0 rfl) ?_
    refine pq_iald hx hb hK hP (55 + cc) 0 (pw_gR (i := cc) (by omega)) rfl (by omega) (by omega) d_PD_grow_31 ?_
    refine pw_calli (va_runV (As := [.int (nI (S (8 + cc) ((S 4 cc) / 64)))]) (rest := [.int (nI ((S 4 cc) / 64)), .ref (ad (55 + cc))]) ⟨hx, hb, hml, hown, hg⟩ (c_PO_exchangeForCopy l dC dI cI cB cE cL cZ n ad S (pd_ct S) (S (8 + cc) (S 4 cc / 64)) hpg hn ho (by omega) hc2 (by omega) H.size) (cwV 1 hg (gi_V (fun _ h => h) (wG_m8 (List.mem_of_getElem? (i := 9) rfl)) (wG_m8 (List.mem_of_getElem? (i := 10) rfl)) (wG_m8 (List.mem_of_getElem? (i := 11) rfl)) (wG_m1 (List.mem_of_getElem? (i := 2) rfl)) (wG_m8 (List.mem_of_getElem? (i := 12) rfl))) rfl rfl rfl (by decide +kernel) ⟨Nat.le_of_ble_eq_true rfl, Nat.le_of_ble_eq_true rfl⟩) (pw_pv hK hP hD (va_recv hK hP (ci := 1) (q0 := 1) rfl pw_g1) [.int (nI (S (8 + cc) ((S 4 cc) / 64)))]) rfl rfl hl.1 rfl (lv_room (Nat.le_of_ble_eq_true rfl)) d_PD_grow_32 ⟨Nat.le_of_ble_eq_true rfl, Nat.le_of_ble_eq_true rfl⟩) hD hS hA (fun r2 S2 H locs hr hP hD hS => ?_)
    obtain ⟨rfl, eS2⟩ := hr
    refine pr_row hx hb hK hP hD hS (i := cc) (by omega) (by omega) (by omega) rfl d_PD_grow_35 (fun H locs hP hD hS => ?_)
    generalize eS3 : pd_st S2 (8 + cc) ((S 4 cc) / 64) (S 2 (S 7 0 - 1)) = S3 at hP hD
    obtain ⟨hxc, hx70⟩ := pd_xc_yes hc hv ho (by omega) h3 (T := S3) (by rw [← eS3, eS2])
    have hT70 : pd_pf (S 4 cc + add) - pd_pf (S 4 cc) ≤ S3 7 0 ∧ S3 7 0 ≤ n := ⟨by omega, by omega⟩
    have hT4 : S3 4 = S 4 := hxc.2.1
    have hT4c : S3 4 cc = S 4 cc := by rw [hT4]
    refine lv_aload_n hx hb d_PD_grow_36 rfl (lv_at hl 2 rfl) ?_
    refine va_get (C := "PageDrive$Content") (T := F_CO) (N := 3) hx hb hg iw_CO hown hK hP (23 + cc) (pw_gC (i := cc) (by omega)) rfl 1 (by decide) (hg (Cond.fieldLink "PageDrive" 67 "PageDrive$Content" "size" "I") (wG_m2 (List.mem_of_getElem? (i := 34) rfl))) (fun _ h9 => h9) rfl d_PD_grow_37 ?_
    refine pw_callip (va_runS (As := [.int (nI (S3 4 cc))]) (rest := []) ⟨hx, hb, hml, hown, hg⟩ (c_PD_pagesFor l dC dI cI cB cE cL cZ (pw n ad cI cB cE S3) (S3 4 cc) (by omega) H.size) (cwS 1 hg (gi_S (fun _ h => h) (wG_m4 (List.mem_of_getElem? (i := 6) rfl)) (wG_m4 (List.mem_of_getElem? (i := 7) rfl)) (wG_m1 (List.mem_of_getElem? (i := 1) rfl)) (wG_m4 (List.mem_of_getElem? (i := 8) rfl))) rfl rfl rfl (by decide +kernel) ⟨Nat.le_of_ble_eq_true rfl, Nat.le_of_ble_eq_true rfl⟩) (pw_ps hK hP hD [.int (nI (S3 4 cc))]) rfl rfl hl.1 rfl (lv_room (Nat.le_of_ble_eq_true rfl)) d_PD_grow_40 ⟨Nat.le_of_ble_eq_true rfl, Nat.le_of_ble_eq_true rfl⟩) hD hS hA (fun r4 H locs hr hP hD hS => ?_)
    subst hr
    refine pq_top (y := nI (pd_pf (S 4 cc))) (by rw [hT4c]) ?_
    refine lv_istore_n (lv' := [(3, .int (nI (pd_pf (S 4 cc)))), (0, .ref (ad 0)), (1, .ref (ad (23 + cc))), (2, .int (nI (S 4 cc + add)))]) hx hb d_PD_grow_43 rfl hl (by decide) rfl (fun ls hl => ?_)
    refine pw_loop (fun mm H locs ls => ∃ (X : pdS) (k : Nat), mm = pd_pf (S 4 cc + add) - k ∧ pd_pf (S 4 cc) ≤ k ∧ k ≤ pd_pf (S 4 cc + add) ∧ pd_gl n S3 X cc (pd_pf (S 4 cc)) k ∧ va_P (dC, dI) pwCl (pw n ad cI cB cE X) H ∧ va_D A (pw n ad cI cB cE X) ∧ va_S A s.heap H locs ∧ lv_has ls 4 [(3, .int (nI k)), (0, .ref (ad 0)), (1, .ref (ad (23 + cc))), (2, .int (nI (S 4 cc + add)))]) ?_ _ _ _ _ ⟨S3, pd_pf (S 4 cc), rfl, Nat.le_refl _, hm, pd_gl_0 cc _ hxc.2.2.2.2.2.2.2.1, hP, hD, hS, hl⟩
    rintro mm H locs ls ⟨X, k, hmm, hk1, hk2, hgl, hP, hD, hS, hl⟩ ih
    refine lv_iload_n hx hb d_PD_grow_44 rfl (lv_at hl 0 rfl) ?_
    refine lv_iload_n hx hb d_PD_grow_45 rfl (lv_at hl 3 rfl) ?_
    refine pw_callip (va_runS (As := [.int (nI (S 4 cc + add))]) (rest := [.int (nI k)]) ⟨hx, hb, hml, hown, hg⟩ (c_PD_pagesFor l dC dI cI cB cE cL cZ (pw n ad cI cB cE X) (S 4 cc + add) (by omega) H.size) (cwS 1 hg (gi_S (fun _ h => h) (wG_m4 (List.mem_of_getElem? (i := 6) rfl)) (wG_m4 (List.mem_of_getElem? (i := 7) rfl)) (wG_m1 (List.mem_of_getElem? (i := 1) rfl)) (wG_m4 (List.mem_of_getElem? (i := 8) rfl))) rfl rfl rfl (by decide +kernel) ⟨Nat.le_of_ble_eq_true rfl, Nat.le_of_ble_eq_true rfl⟩) (pw_ps hK hP hD [.int (nI (S 4 cc + add))]) rfl rfl hl.1 rfl (lv_room (Nat.le_of_ble_eq_true rfl)) d_PD_grow_46 ⟨Nat.le_of_ble_eq_true rfl, Nat.le_of_ble_eq_true rfl⟩) hD hS hA (fun r5 H locs hr hP hD hS => ?_)
    subst hr
    refine pq_icmp_ge (tgt := 71) hx hb (by omega) (by omega) d_PD_grow_49 (by decide) (fun h1 => ?_) (fun h1 => ?_)
    · have hkk : k = pd_pf (S 4 cc + add) := by omega
      subst hkk
      refine lv_aload_n hx hb d_PD_grow_71 rfl (lv_at hl 2 rfl) ?_
      refine lv_iload_n hx hb d_PD_grow_72 rfl (lv_at hl 3 rfl) ?_
      refine pr_size hx hb hg hown hK hP hD hS (i := cc) (by omega) (hg (Cond.fieldLink "PageDrive" 67 "PageDrive$Content" "size" "I") (wG_m2 (List.mem_of_getElem? (i := 34) rfl))) d_PD_grow_73 (fun H locs hP hD hS => ?_)
      generalize eS6 : pd_st X 4 cc (S 4 cc + add) = S6 at hP hD
      refine lv_aload_n hx hb d_PD_grow_76 rfl (lv_at hl 2 rfl) ?_
      refine lv_iconst (v := nI 1) hx hb d_PD_grow_77 (by decide) ?_
      refine pr_there hx hb hg hown hK hP hD hS (i := cc) (by omega) (by omega) (hg (Cond.fieldLink "PageDrive" 91 "PageDrive$Content" "there" "Z") (wG_m2 (List.mem_of_getElem? (i := 36) rfl))) d_PD_grow_78 (fun H locs hP hD hS => ?_)
      generalize eS7 : pd_st S6 5 cc 1 = S7 at hP hD
      exact W.vret hx hb hret (fun t9 ht9 hW9 => ⟨⟨_, rfl, pd_gw_of hc hv hxc hgl (by rw [← eS7, ← eS6]), by rw [ht9]; exact hP, va_K.moved hW9.alike hK, hD⟩, hS.F ht9⟩) hS.2.2 d_PD_grow_81
    · have hX70 : 0 < X 7 0 := by have := hgl.2.2.2.1; omega
      have hXn : X 7 0 ≤ n := by have := hgl.2.2.2.1; omega
      obtain ⟨hpn, hgs⟩ := pd_gl_s hgl hk1 hX70
      refine lv_aload_n hx hb d_PD_grow_52 rfl (lv_at hl 2 rfl) ?_
      refine va_get (C := "PageDrive$Content") (T := F_CO) (N := 3) hx hb hg iw_CO hown hK hP (23 + cc) (pw_gC (i := cc) (by omega)) rfl 0 (by decide) (hg (Cond.fieldLink "PageDrive" 171 "PageDrive$Content" "row" "[I") (wG_m2 (List.mem_of_getElem? (i := 32) rfl))) (fun _ h9 => h9) rfl d_PD_grow_53 ?_
      refine lv_iload_n hx hb d_PD_grow_56 rfl (lv_at hl 0 rfl) ?_
      refine lv_aload_n hx hb d_PD_grow_57 rfl (lv_at hl 1 rfl) ?_
      refine va_get (C := "PageDrive") (T := F_PD) (N := 4) hx hb hg iw_PD hown hK hP (0) pw_g0 rfl 0 (by decide) (hg (Cond.fieldLink "PageDrive" 23 "PageDrive" "pool" "LPageDrive$Pool;") (wG_m3 (List.mem_of_getElem? (i := 17) rfl))) (fun _ h9 => h9) rfl d_PD_grow_58 ?_
      refine pw_calli (va_runV (As := []) (rest := [.int (nI k), .ref (ad (55 + cc))]) ⟨hx, hb, hml, hown, hg⟩ (c_PO_take l dC dI cI cB cE cL cZ n ad X hX70 hXn hn hpn H.size) (cwV 0 hg (gi_V (fun _ h => h) (wG_m8 (List.mem_of_getElem? (i := 19) rfl)) (wG_m8 (List.mem_of_getElem? (i := 14) rfl)) (wG_m8 (List.mem_of_getElem? (i := 15) rfl)) (wG_m1 (List.mem_of_getElem? (i := 2) rfl)) (wG_m8 (List.mem_of_getElem? (i := 16) rfl))) rfl rfl rfl (by decide +kernel) ⟨Nat.le_of_ble_eq_true rfl, Nat.le_of_ble_eq_true rfl⟩) (pw_pv hK hP hD (va_recv hK hP (ci := 1) (q0 := 1) rfl pw_g1) []) rfl rfl hl.1 rfl (lv_room (Nat.le_of_ble_eq_true rfl)) d_PD_grow_61 ⟨Nat.le_of_ble_eq_true rfl, Nat.le_of_ble_eq_true rfl⟩) hD hS hA (fun r4 X2 H locs hr hP hD hS => ?_)
      obtain ⟨rfl, eX2⟩ := hr
      refine pr_row hx hb hK hP hD hS (i := cc) (by omega) (by omega) (by omega) rfl d_PD_grow_64 (fun H locs hP hD hS => ?_)
      generalize eS8 : pd_st X2 (8 + cc) k (X 2 (X 7 0 - 1)) = S8 at hP hD
      refine lv_iinc (v := (nI (k + 1))) (lv' := [(3, .int (nI (k + 1))), (0, .ref (ad 0)), (1, .ref (ad (23 + cc))), (2, .int (nI (S 4 cc + add)))]) hx hb d_PD_grow_65 hl (k := 0) rfl (pq_inc _) (by decide) rfl (fun ls hl => ?_)
      refine lv_goto (tgt := 44) hx hb d_PD_grow_68 (by decide) ?_
      exact ih _ _ _ _ (by omega) ⟨_, k + 1, rfl, by omega, by omega, by rw [← eS8, eX2]; exact hgs, hP, hD, hS, hl⟩
  · refine pq_if_eq (tgt := 36) hx hb (by omega) d_PD_grow_6 (by decide) (fun _ => ?_) (fun h9 => absurd h9 (by omega))
    have hneed : pd_pf (S 4 cc + add) - pd_pf (S 4 cc) ≤ S 7 0 := by rcases hrm.2 with q | q; exact absurd q.1 h3; exact q.2
    have hxc := pd_xc_no h3 hv ho
    have hT70 : pd_pf (S 4 cc + add) - pd_pf (S 4 cc) ≤ S 7 0 ∧ S 7 0 ≤ n := ⟨by omega, by omega⟩
    have hT4 : S 4 = S 4 := hxc.2.1
    have hT4c : S 4 cc = S 4 cc := by rw [hT4]
    refine lv_aload_n hx hb d_PD_grow_36 rfl (lv_at hl 1 rfl) ?_
    refine va_get (C := "PageDrive$Content") (T := F_CO) (N := 3) hx hb hg iw_CO hown hK hP (23 + cc) (pw_gC (i := cc) (by omega)) rfl 1 (by decide) (hg (Cond.fieldLink "PageDrive" 67 "PageDrive$Content" "size" "I") (wG_m2 (List.mem_of_getElem? (i := 34) rfl))) (fun _ h9 => h9) rfl d_PD_grow_37 ?_
    refine pw_callip (va_runS (As := [.int (nI (S 4 cc))]) (rest := []) ⟨hx, hb, hml, hown, hg⟩ (c_PD_pagesFor l dC dI cI cB cE cL cZ (pw n ad cI cB cE S) (S 4 cc) (by omega) H.size) (cwS 1 hg (gi_S (fun _ h => h) (wG_m4 (List.mem_of_getElem? (i := 6) rfl)) (wG_m4 (List.mem_of_getElem? (i := 7) rfl)) (wG_m1 (List.mem_of_getElem? (i := 1) rfl)) (wG_m4 (List.mem_of_getElem? (i := 8) rfl))) rfl rfl rfl (by decide +kernel) ⟨Nat.le_of_ble_eq_true rfl, Nat.le_of_ble_eq_true rfl⟩) (pw_ps hK hP hD [.int (nI (S 4 cc))]) rfl rfl hl.1 rfl (lv_room (Nat.le_of_ble_eq_true rfl)) d_PD_grow_40 ⟨Nat.le_of_ble_eq_true rfl, Nat.le_of_ble_eq_true rfl⟩) hD hS hA (fun r9 H locs hr hP hD hS => ?_)
    subst hr
    refine pq_top (y := nI (pd_pf (S 4 cc))) (by rw [hT4c]) ?_
    refine lv_istore_n (lv' := [(3, .int (nI (pd_pf (S 4 cc)))), (0, .ref (ad 0)), (1, .ref (ad (23 + cc))), (2, .int (nI (S 4 cc + add)))]) hx hb d_PD_grow_43 rfl hl (by decide) rfl (fun ls hl => ?_)
    refine pw_loop (fun mm H locs ls => ∃ (X : pdS) (k : Nat), mm = pd_pf (S 4 cc + add) - k ∧ pd_pf (S 4 cc) ≤ k ∧ k ≤ pd_pf (S 4 cc + add) ∧ pd_gl n S X cc (pd_pf (S 4 cc)) k ∧ va_P (dC, dI) pwCl (pw n ad cI cB cE X) H ∧ va_D A (pw n ad cI cB cE X) ∧ va_S A s.heap H locs ∧ lv_has ls 4 [(3, .int (nI k)), (0, .ref (ad 0)), (1, .ref (ad (23 + cc))), (2, .int (nI (S 4 cc + add)))]) ?_ _ _ _ _ ⟨S, pd_pf (S 4 cc), rfl, Nat.le_refl _, hm, pd_gl_0 cc _ hxc.2.2.2.2.2.2.2.1, hP, hD, hS, hl⟩
    rintro mm H locs ls ⟨X, k, hmm, hk1, hk2, hgl, hP, hD, hS, hl⟩ ih
    refine lv_iload_n hx hb d_PD_grow_44 rfl (lv_at hl 0 rfl) ?_
    refine lv_iload_n hx hb d_PD_grow_45 rfl (lv_at hl 3 rfl) ?_
    refine pw_callip (va_runS (As := [.int (nI (S 4 cc + add))]) (rest := [.int (nI k)]) ⟨hx, hb, hml, hown, hg⟩ (c_PD_pagesFor l dC dI cI cB cE cL cZ (pw n ad cI cB cE X) (S 4 cc + add) (by omega) H.size) (cwS 1 hg (gi_S (fun _ h => h) (wG_m4 (List.mem_of_getElem? (i := 6) rfl)) (wG_m4 (List.mem_of_getElem? (i := 7) rfl)) (wG_m1 (List.mem_of_getElem? (i := 1) rfl)) (wG_m4 (List.mem_of_getElem? (i := 8) rfl))) rfl rfl rfl (by decide +kernel) ⟨Nat.le_of_ble_eq_true rfl, Nat.le_of_ble_eq_true rfl⟩) (pw_ps hK hP hD [.int (nI (S 4 cc + add))]) rfl rfl hl.1 rfl (lv_room (Nat.le_of_ble_eq_true rfl)) d_PD_grow_46 ⟨Nat.le_of_ble_eq_true rfl, Nat.le_of_ble_eq_true rfl⟩) hD hS hA (fun r10 H locs hr hP hD hS => ?_)
    subst hr
    refine pq_icmp_ge (tgt := 71) hx hb (by omega) (by omega) d_PD_grow_49 (by decide) (fun h1 => ?_) (fun h1 => ?_)
    · have hkk : k = pd_pf (S 4 cc + add) := by omega
      subst hkk
      refine lv_aload_n hx hb d_PD_grow_71 rfl (lv_at hl 2 rfl) ?_
      refine lv_iload_n hx hb d_PD_grow_72 rfl (lv_at hl 3 rfl) ?_
      refine pr_size hx hb hg hown hK hP hD hS (i := cc) (by omega) (hg (Cond.fieldLink "PageDrive" 67 "PageDrive$Content" "size" "I") (wG_m2 (List.mem_of_getElem? (i := 34) rfl))) d_PD_grow_73 (fun H locs hP hD hS => ?_)
      generalize eS11 : pd_st X 4 cc (S 4 cc + add) = S11 at hP hD
      refine lv_aload_n hx hb d_PD_grow_76 rfl (lv_at hl 2 rfl) ?_
      refine lv_iconst (v := nI 1) hx hb d_PD_grow_77 (by decide) ?_
      refine pr_there hx hb hg hown hK hP hD hS (i := cc) (by omega) (by omega) (hg (Cond.fieldLink "PageDrive" 91 "PageDrive$Content" "there" "Z") (wG_m2 (List.mem_of_getElem? (i := 36) rfl))) d_PD_grow_78 (fun H locs hP hD hS => ?_)
      generalize eS12 : pd_st S11 5 cc 1 = S12 at hP hD
      exact W.vret hx hb hret (fun t9 ht9 hW9 => ⟨⟨_, rfl, pd_gw_of hc hv hxc hgl (by rw [← eS12, ← eS11]), by rw [ht9]; exact hP, va_K.moved hW9.alike hK, hD⟩, hS.F ht9⟩) hS.2.2 d_PD_grow_81
    · have hX70 : 0 < X 7 0 := by have := hgl.2.2.2.1; omega
      have hXn : X 7 0 ≤ n := by have := hgl.2.2.2.1; omega
      obtain ⟨hpn, hgs⟩ := pd_gl_s hgl hk1 hX70
      refine lv_aload_n hx hb d_PD_grow_52 rfl (lv_at hl 2 rfl) ?_
      refine va_get (C := "PageDrive$Content") (T := F_CO) (N := 3) hx hb hg iw_CO hown hK hP (23 + cc) (pw_gC (i := cc) (by omega)) rfl 0 (by decide) (hg (Cond.fieldLink "PageDrive" 171 "PageDrive$Content" "row" "[I") (wG_m2 (List.mem_of_getElem? (i := 32) rfl))) (fun _ h9 => h9) rfl d_PD_grow_53 ?_
      refine lv_iload_n hx hb d_PD_grow_56 rfl (lv_at hl 0 rfl) ?_
      refine lv_aload_n hx hb d_PD_grow_57 rfl (lv_at hl 1 rfl) ?_
      refine va_get (C := "PageDrive") (T := F_PD) (N := 4) hx hb hg iw_PD hown hK hP (0) pw_g0 rfl 0 (by decide) (hg (Cond.fieldLink "PageDrive" 23 "PageDrive" "pool" "LPageDrive$Pool;") (wG_m3 (List.mem_of_getElem? (i := 17) rfl))) (fun _ h9 => h9) rfl d_PD_grow_58 ?_
      refine pw_calli (va_runV (As := []) (rest := [.int (nI k), .ref (ad (55 + cc))]) ⟨hx, hb, hml, hown, hg⟩ (c_PO_take l dC dI cI cB cE cL cZ n ad X hX70 hXn hn hpn H.size) (cwV 0 hg (gi_V (fun _ h => h) (wG_m8 (List.mem_of_getElem? (i := 19) rfl)) (wG_m8 (List.mem_of_getElem? (i := 14) rfl)) (wG_m8 (List.mem_of_getElem? (i := 15) rfl)) (wG_m1 (List.mem_of_getElem? (i := 2) rfl)) (wG_m8 (List.mem_of_getElem? (i := 16) rfl))) rfl rfl rfl (by decide +kernel) ⟨Nat.le_of_ble_eq_true rfl, Nat.le_of_ble_eq_true rfl⟩) (pw_pv hK hP hD (va_recv hK hP (ci := 1) (q0 := 1) rfl pw_g1) []) rfl rfl hl.1 rfl (lv_room (Nat.le_of_ble_eq_true rfl)) d_PD_grow_61 ⟨Nat.le_of_ble_eq_true rfl, Nat.le_of_ble_eq_true rfl⟩) hD hS hA (fun r4 X2 H locs hr hP hD hS => ?_)
      obtain ⟨rfl, eX2⟩ := hr
      refine pr_row hx hb hK hP hD hS (i := cc) (by omega) (by omega) (by omega) rfl d_PD_grow_64 (fun H locs hP hD hS => ?_)
      generalize eS13 : pd_st X2 (8 + cc) k (X 2 (X 7 0 - 1)) = S13 at hP hD
      refine lv_iinc (v := (nI (k + 1))) (lv' := [(3, .int (nI (k + 1))), (0, .ref (ad 0)), (1, .ref (ad (23 + cc))), (2, .int (nI (S 4 cc + add)))]) hx hb d_PD_grow_65 hl (k := 0) rfl (pq_inc _) (by decide) rfl (fun ls hl => ?_)
      refine lv_goto (tgt := 44) hx hb d_PD_grow_68 (by decide) ?_
      exact ih _ _ _ _ (by omega) ⟨_, k + 1, rfl, by omega, by omega, by rw [← eS13, eX2]; exact hgs, hP, hD, hS, hl⟩
set_option maxHeartbeats 4000000 in
set_option maxRecDepth 100000 in
/-- writeTape(content, fr, fed, times) -/
theorem c_PD_writeTape (l : Launch) (dC : Nat → ClassId) (dI : Nat → Nat → Nat) (cI cB cE cL cZ : ClassId) (n : Nat) (ad : Nat → Nat) (S : pdS) (cc fr fed tm : Nat) (hn : n ≤ 1024) (hc : cc < 32) (hfed : fed ≤ 4096) (htm : tm ≤ 16) (hz : fr + fed * tm ≤ 25600) (hrow : ∀ k, k < pd_pf (fr + fed * tm) → S (8 + cc) k < n) (sz : Nat) : CMv l (dC, dI) (pw_ty cI cB cE cL cZ) y_PD_writeTape w_PD_writeTape ({ frames := 1, cells := 0, slots := 0, locals := 21 }) [.ref (ad 0), .ref (ad (23 + cc)), .int (nI fr), .int (nI fed), .int (nI tm)] (pw n ad cI cB cE S) (pw n ad cI cB cE) sz (fun S2 => S2 = va_up S 0 (pd_wt (S 0) (S (8 + cc)) fr (fun i => S 3 (i % fed)) (fed * tm))) := by
  refine Met.ofW (cc := b_PD_writeTape) (maxL := 8) (ret := none) (by decide) rfl ?_
  intro p e s m args below meth c s₁ B hml hv
  obtain ⟨rfl, hsz, hP, hK, hD0⟩ := hv
  have hx := B.exec
  have hb := B.bytes
  have hret := B.returns
  have hts := atoms_spec (ws := w_PD_writeTape) B.pre
  have hg : ∀ w ∈ wsG, w.before _ s = true := fun w h => hts w (List.mem_cons_of_mem _ h)
  have hown : s.vm.findClass "PageDrive" = some m.cls := findClass_of_methodNamed B.named
  have hlocks := B.notSynchronized
  subst hsz
  have hD := hD0.self (sz := s.heap.size)
  generalize hAe : va_A (pw n ad cI cB cE S) s.heap.size = A at hD ⊢
  have hA : ∀ q : Nat, s.heap.size ≤ q → A q := fun q h => by rw [← hAe]; exact Or.inr h
  have hS : va_S A s.heap s.heap [] := va_S.rf
  have hl := lv_entry ([.ref (ad 0), .ref (ad (23 + cc)), .int (nI fr), .int (nI fed), .int (nI tm)]) (n := 8) (Nat.le_of_ble_eq_true rfl)
  rw [lg_entry_eq]
  generalize (lg_sl ([.ref (ad 0), .ref (ad (23 + cc)), .int (nI fr), .int (nI fed), .int (nI tm)]) ++ List.replicate (8 - (lg_sl ([.ref (ad 0), .ref (ad (23 + cc)), .int (nI fr), .int (nI fed), .int (nI tm)])).length) Slot.unset).toArray = ls at hl ⊢
  have hl : lv_has ls 8 [(0, .ref (ad 0)), (1, .ref (ad (23 + cc))), (2, .int (nI fr)), (3, .int (nI fed)), (4, .int (nI tm))] := hl
  refine lv_iload_n hx hb d_PD_writeTape_0 rfl (lv_at hl 2 rfl) ?_
  refine lv_istore (lv' := [(5, .int (nI fr)), (0, .ref (ad 0)), (1, .ref (ad (23 + cc))), (2, .int (nI fr)), (3, .int (nI fed)), (4, .int (nI tm))]) hx hb d_PD_writeTape_1 hl (by decide) rfl (fun ls hl => ?_)
  refine lv_iconst (v := nI 0) hx hb d_PD_writeTape_3 (by decide) ?_
  refine lv_istore (lv' := [(6, .int (nI 0)), (5, .int (nI fr)), (0, .ref (ad 0)), (1, .ref (ad (23 + cc))), (2, .int (nI fr)), (3, .int (nI fed)), (4, .int (nI tm))]) hx hb d_PD_writeTape_4 hl (by decide) rfl (fun ls hl => ?_)
  refine pw_loop (fun mm H locs ls => ∃ (X : pdS) (t d : Nat), mm = tm - t ∧ t ≤ tm ∧ d = fed * t ∧ X = va_up S 0 (pd_wt (S 0) (S (8 + cc)) fr (fun i => S 3 (i % fed)) (d)) ∧ va_P (dC, dI) pwCl (pw n ad cI cB cE X) H ∧ va_D A (pw n ad cI cB cE X) ∧ va_S A s.heap H locs ∧ lv_has ls 8 [(6, .int (nI t)), (5, .int (nI (fr + d))), (0, .ref (ad 0)), (1, .ref (ad (23 + cc))), (2, .int (nI fr)), (3, .int (nI fed)), (4, .int (nI tm))]) ?_ _ _ _ _ ⟨S, 0, 0, rfl, by omega, rfl, by
    funext b
    by_cases q : b = 0
    · subst q
      rw [va_up_self]
      rfl
    · rw [va_up_ne _ _ q], hP, hD, hS, hl⟩
  rintro mm H locs ls ⟨X, t, d, hmm, ht, hd, hX, hP, hD, hS, hl⟩ ih
  refine lv_iload hx hb d_PD_writeTape_6 (lv_at hl 0 rfl) ?_
  refine lv_iload hx hb d_PD_writeTape_8 (lv_at hl 6 rfl) ?_
  refine pq_icmp_ge (tgt := 58) hx hb (by omega) (by omega) d_PD_writeTape_10 (by decide) (fun h1 => ?_) (fun h1 => ?_)
  · have htt : t = tm := by omega
    subst htt
    subst hd
    exact W.vret hx hb hret (fun t9 ht9 hW9 => ⟨⟨_, rfl, hX, by rw [ht9]; exact hP, va_K.moved hW9.alike hK, hD⟩, hS.F ht9⟩) hS.2.2 d_PD_writeTape_58
  · have hstep : d + fed ≤ fed * tm := by rw [hd, ← Nat.mul_succ]; exact Nat.mul_le_mul_left fed h1
    refine lv_iconst (v := nI 0) hx hb d_PD_writeTape_13 (by decide) ?_
    refine lv_istore (lv' := [(7, .int (nI 0)), (6, .int (nI t)), (5, .int (nI (fr + d))), (0, .ref (ad 0)), (1, .ref (ad (23 + cc))), (2, .int (nI fr)), (3, .int (nI fed)), (4, .int (nI tm))]) hx hb d_PD_writeTape_14 hl (by decide) rfl (fun ls hl => ?_)
    refine pw_loop (fun mm H locs ls => ∃ (Y : pdS) (k : Nat), mm = fed - k ∧ k ≤ fed ∧ Y = va_up S 0 (pd_wt (S 0) (S (8 + cc)) fr (fun i => S 3 (i % fed)) (d + k)) ∧ va_P (dC, dI) pwCl (pw n ad cI cB cE Y) H ∧ va_D A (pw n ad cI cB cE Y) ∧ va_S A s.heap H locs ∧ lv_has ls 8 [(7, .int (nI k)), (6, .int (nI t)), (5, .int (nI (fr + (d + k)))), (0, .ref (ad 0)), (1, .ref (ad (23 + cc))), (2, .int (nI fr)), (3, .int (nI fed)), (4, .int (nI tm))]) ?_ _ _ _ _ ⟨X, 0, rfl, by omega, hX, hP, hD, hS, hl⟩
    rintro mm2 H locs ls ⟨Y, k, hmm2, hk, hY, hP, hD, hS, hl⟩ ih2
    have hY3 : Y 3 = S 3 := by rw [hY, va_up_ne _ _ (by decide)]
    have hYr : Y (8 + cc) = S (8 + cc) := by rw [hY, va_up_ne _ _ (by omega)]
    refine lv_iload hx hb d_PD_writeTape_16 (lv_at hl 0 rfl) ?_
    refine lv_iload_n hx hb d_PD_writeTape_18 rfl (lv_at hl 6 rfl) ?_
    refine pq_icmp_ge (tgt := 52) hx hb (by omega) (by omega) d_PD_writeTape_19 (by decide) (fun h2 => ?_) (fun h2 => ?_)
    · have hkk : k = fed := by omega
      subst hkk
      refine lv_iinc (v := (nI (t + 1))) (lv' := [(6, .int (nI (t + 1))), (7, .int (nI k)), (5, .int (nI (fr + (d + k)))), (0, .ref (ad 0)), (1, .ref (ad (23 + cc))), (2, .int (nI fr)), (3, .int (nI k)), (4, .int (nI tm))]) hx hb d_PD_writeTape_52 hl (k := 1) rfl (pq_inc _) (by decide) rfl (fun ls hl => ?_)
      refine lv_goto (tgt := 6) hx hb d_PD_writeTape_55 (by decide) ?_
      exact ih _ _ _ _ (by omega) ⟨Y, t + 1, d + k, rfl, by omega, by rw [Nat.mul_succ, hd], hY, hP, hD, hS, lv_sub hl [0, 2, 3, 4, 5, 6, 7] rfl⟩
    · have hi0 : fr + (d + k) < 25600 := by omega
      have hk0 : (fr + (d + k)) / 64 < pd_pf (fr + fed * tm) := by unfold pd_pf; omega
      have hpg := hrow _ hk0
      have hpgY : Y (8 + cc) ((fr + (d + k)) / 64) < n := by rw [hYr]; exact hpg
      refine lv_aload_n hx hb d_PD_writeTape_22 rfl (lv_at hl 3 rfl) ?_
      refine va_get (C := "PageDrive") (T := F_PD) (N := 4) hx hb hg iw_PD hown hK hP (0) pw_g0 rfl 0 (by decide) (hg (Cond.fieldLink "PageDrive" 23 "PageDrive" "pool" "LPageDrive$Pool;") (wG_m3 (List.mem_of_getElem? (i := 17) rfl))) (fun _ h9 => h9) rfl d_PD_writeTape_23 ?_
      refine va_get (C := "PageDrive$Pool") (T := F_PO) (N := 6) hx hb hg iw_PO hown hK hP (1) pw_g1 rfl 1 (by decide) (hg (Cond.fieldLink "PageDrive" 153 "PageDrive$Pool" "bytes" "[B") (wG_m1 (List.mem_of_getElem? (i := 39) rfl))) (fun _ h9 => h9) rfl d_PD_writeTape_26 ?_
      refine lv_aload_n hx hb d_PD_writeTape_29 rfl (lv_at hl 4 rfl) ?_
      refine lv_iload hx hb d_PD_writeTape_30 (lv_at hl 2 rfl) ?_
      refine pw_callip (va_runV (As := [.int (nI (fr + (d + k)))]) (rest := [.ref (ad 4)]) ⟨hx, hb, hml, hown, hg⟩ (c_CO_placeOf l dC dI cI cB cE cL cZ n ad Y cc (fr + (d + k)) hc hi0 (by omega) H.size) (cwV 1 hg (gi_V (fun _ h => h) (wG_m8 (List.mem_of_getElem? (i := 23) rfl)) (wG_m8 (List.mem_of_getElem? (i := 24) rfl)) (wG_m8 (List.mem_of_getElem? (i := 25) rfl)) (wG_m1 (List.mem_of_getElem? (i := 5) rfl)) (wG_m8 (List.mem_of_getElem? (i := 26) rfl))) rfl rfl rfl (by decide +kernel) ⟨Nat.le_of_ble_eq_true rfl, Nat.le_of_ble_eq_true rfl⟩) (pw_pv hK hP hD (va_recv hK hP (ci := 3) (q0 := 23 + cc) rfl (pw_gC (i := cc) (by omega))) [.int (nI (fr + (d + k)))]) rfl rfl hl.1 rfl (lv_room (Nat.le_of_ble_eq_true rfl)) d_PD_writeTape_32 ⟨Nat.le_of_ble_eq_true rfl, Nat.le_of_ble_eq_true rfl⟩) hD hS hA (fun r4 H locs hr hP hD hS => ?_)
      subst hr
      refine lv_aload_n hx hb d_PD_writeTape_35 rfl (lv_at hl 3 rfl) ?_
      refine va_get (C := "PageDrive") (T := F_PD) (N := 4) hx hb hg iw_PD hown hK hP (0) pw_g0 rfl 2 (by decide) (hg (Cond.fieldLink "PageDrive" 34 "PageDrive" "tape" "[B") (wG_m3 (List.mem_of_getElem? (i := 19) rfl))) (fun _ h9 => h9) rfl d_PD_writeTape_36 ?_
      refine lv_iload hx hb d_PD_writeTape_39 (lv_at hl 0 rfl) ?_
      refine pq_bald hx hb hK hP 3 1 pw_g3 rfl (by omega) (by omega) d_PD_writeTape_41 ?_
      refine pr_byte (v := Y 3 k) hx hb hK hP hD hS (by omega) (by omega) rfl d_PD_writeTape_42 (fun H locs hP hD hS => ?_)
      generalize eS1 : pd_st Y 0 (64 * Y (8 + cc) ((fr + (d + k)) / 64) + (fr + (d + k)) % 64) (Y 3 k) = S1 at hP hD
      have hmod : (d + k) % fed = k := by rw [hd, Nat.mul_add_mod, Nat.mod_eq_of_lt h2]
      have hY2 : S1 = va_up S 0 (pd_wt (S 0) (S (8 + cc)) fr (fun i => S 3 (i % fed)) (d + (k + 1))) := by
        rw [← eS1, hY3, hYr, hY, pd_st_up, show d + (k + 1) = (d + k) + 1 from rfl]
        simp only [pd_wt_s, hmod]
      refine lv_iinc (v := (nI ((fr + (d + k)) + 1))) (lv' := [(5, .int (nI ((fr + (d + k)) + 1))), (7, .int (nI k)), (6, .int (nI t)), (0, .ref (ad 0)), (1, .ref (ad (23 + cc))), (2, .int (nI fr)), (3, .int (nI fed)), (4, .int (nI tm))]) hx hb d_PD_writeTape_43 hl (k := 2) rfl (pq_inc _) (by decide) rfl (fun ls hl => ?_)
      refine lv_iinc (v := (nI (k + 1))) (lv' := [(7, .int (nI (k + 1))), (5, .int (nI ((fr + (d + k)) + 1))), (6, .int (nI t)), (0, .ref (ad 0)), (1, .ref (ad (23 + cc))), (2, .int (nI fr)), (3, .int (nI fed)), (4, .int (nI tm))]) hx hb d_PD_writeTape_46 hl (k := 1) rfl (pq_inc _) (by decide) rfl (fun ls hl => ?_)
      refine lv_goto (tgt := 16) hx hb d_PD_writeTape_49 (by decide) ?_
      exact ih2 _ _ _ _ (by omega) ⟨_, k + 1, rfl, by omega, hY2, hP, hD, hS, lv_sub hl [0, 2, 1, 3, 4, 5, 6, 7] rfl⟩
