/-! THE MODEL, 4: crashAll, file, byteAt, count -/
set_option maxHeartbeats 4000000 in
set_option maxRecDepth 100000 in
/-- crashAll -/
theorem c_MO_crashAll (l : Launch) (dC : Nat → ClassId) (dI : Nat → Nat → Nat) (cI cB cE cL cZ : ClassId) (n : Nat) (am : Nat → Nat) (S : pdS) (x : Int64) (hv : pd_v 1024 S) (hlw : pd_lo S) (sz : Nat) : CMi l (dC, dI) (pw_ty cI cB cE cL cZ) y_MO_crashAll w_MO_crashAll ({ frames := 3, cells := 0, slots := 0, locals := 66 }) [.ref (am 0), .long x] (mw n am cI cL cZ S) (mw n am cI cL cZ) sz (fun r S2 => ∃ y, pd_al S x 16 S2 y ∧ r = nI (pd_th S2) ∧ pd_v 1024 S2 ∧ pd_lo S2) := by
  refine Met.ofW (cc := b_MO_crashAll) (maxL := 10) (ret := (some .int)) (by decide) rfl ?_
  intro p e s m args below meth c s₁ B hml hv
  obtain ⟨rfl, hsz, hP, hK, hD0⟩ := hv
  have hx := B.exec
  have hb := B.bytes
  have hret := B.returns
  have hts := atoms_spec (ws := w_MO_crashAll) B.pre
  have hg : ∀ w ∈ wsG, w.before _ s = true := fun w h => hts w (List.mem_cons_of_mem _ h)
  have hown : s.vm.findClass "PageDriveModel" = some m.cls := findClass_of_methodNamed B.named
  have hlocks := B.notSynchronized
  subst hsz
  have hD := hD0.self (sz := s.heap.size)
  generalize hAe : va_A (mw n am cI cL cZ S) s.heap.size = A at hD ⊢
  have hA : ∀ q : Nat, s.heap.size ≤ q → A q := fun q h => by rw [← hAe]; exact Or.inr h
  have hS : va_S A s.heap s.heap [] := va_S.rf
  have hl := lv_entry ([.ref (am 0), .long x]) (n := 10) (Nat.le_of_ble_eq_true rfl)
  rw [lg_entry_eq]
  generalize (lg_sl ([.ref (am 0), .long x]) ++ List.replicate (10 - (lg_sl ([.ref (am 0), .long x])).length) Slot.unset).toArray = ls at hl ⊢
  have hl : lv_has ls 10 [(0, .ref (am 0)), (1, .long x)] := hl
  refine lv_aload_n hx hb d_MO_crashAll_0 rfl (lv_at hl 0 rfl) ?_
  refine lv_iconst (v := nI 0) hx hb d_MO_crashAll_1 (by decide) ?_
  refine pm_thr hx hb hg hown hK hP hD hS (hg (Cond.fieldLink "PageDriveModel" 37 "PageDriveModel" "thrown" "I") (wG_m10 (List.mem_of_getElem? (i := 23) rfl))) d_MO_crashAll_2 (fun H locs hP hD hS => ?_)
  generalize eS1 : pd_st S 7 3 0 = S1 at hP hD
  have hsa1 : pd_sa S S1 := by rw [← eS1]; exact pd_sa_73 S 0
  have hv1 := pd_sa_v hsa1 hv
  have hlw1 : pd_lo S1 := fun i hi => by rw [show S1 6 = S 6 from hsa1.2.2.2.2.1, show S1 4 = S 4 from hsa1.2.2.1]; exact hlw i hi
  refine lv_lload_n hx hb d_MO_crashAll_5 rfl (lv_at hl 1 rfl) ?_
  refine lv_lstore_n (lv' := [(3, .long x), (0, .ref (am 0)), (1, .long x)]) hx hb d_MO_crashAll_6 rfl hl (by decide) rfl (fun ls hl => ?_)
  refine lv_iconst (v := nI 0) hx hb d_MO_crashAll_7 (by decide) ?_
  refine lv_istore (lv' := [(5, .int (nI 0)), (3, .long x), (0, .ref (am 0)), (1, .long x)]) hx hb d_MO_crashAll_8 hl (by decide) rfl (fun ls hl => ?_)
  refine pw_loop (fun mm H locs ls => ∃ (T : pdS) (z : Int64) (k : Nat), mm = 16 - k ∧ k ≤ 16 ∧ pd_al S x k T z ∧ pd_v 1024 T ∧ pd_lo T ∧ va_P (dC, dI) pwCl (mw n am cI cL cZ T) H ∧ va_D A (mw n am cI cL cZ T) ∧ va_S A s.heap H locs ∧ lv_has ls 10 [(5, .int (nI k)), (3, .long z), (0, .ref (am 0)), (1, .long x)]) ?_ _ _ _ _ ⟨S1, x, 0, rfl, by omega, ⟨hsa1, rfl⟩, hv1, hlw1, hP, hD, hS, hl⟩
  rintro mm H locs ls ⟨T, z, k, hmm, hk, hal, hvT, hlT, hP, hD, hS, hl⟩ ih
  refine lv_iload hx hb d_MO_crashAll_10 (lv_at hl 0 rfl) ?_
  refine lv_bipush (v := nI 16) hx hb d_MO_crashAll_12 (by decide) ?_
  refine pq_icmp_ge (tgt := 96) hx hb (by omega) (by omega) d_MO_crashAll_14 (by decide) (fun h1 => ?_) (fun h1 => ?_)
  · have hk16 : k = 16 := by omega
    subst hk16
    refine lv_aload_n hx hb d_MO_crashAll_96 rfl (lv_at hl 2 rfl) ?_
    refine pw_callip (va_runV (As := []) (rest := []) ⟨hx, hb, hml, hown, hg⟩ (c_MO_present l dC dI cI cB cE cL cZ n am T (fun d hd => (hvT.1 d hd).2.1) H.size) (cwV 0 hg (gi_V (fun _ h => h) (wG_m13 (List.mem_of_getElem? (i := 17) rfl)) (wG_m13 (List.mem_of_getElem? (i := 18) rfl)) (wG_m14 (List.mem_of_getElem? (i := 20) rfl)) (wG_m1 (List.mem_of_getElem? (i := 6) rfl)) (wG_m13 (List.mem_of_getElem? (i := 19) rfl))) rfl rfl rfl (by decide +kernel) ⟨Nat.le_of_ble_eq_true rfl, Nat.le_of_ble_eq_true rfl⟩) (pw_pv hK hP hD (va_recv hK hP (ci := 4) (q0 := 0) rfl mw_g0) []) rfl rfl hl.1 rfl (lv_room (Nat.le_of_ble_eq_true rfl)) d_MO_crashAll_97 ⟨Nat.le_of_ble_eq_true rfl, Nat.le_of_ble_eq_true rfl⟩) hD hS hA (fun r2 H locs hr hP hD hS => ?_)
    subst hr
    exact W.iret (v := (nI (pd_th T))) hx hb hret (fun t9 ht9 hW9 => ⟨⟨_, T, rfl, ⟨z, hal, rfl, hvT, hlT⟩, by rw [ht9]; exact hP, va_K.moved hW9.alike hK, hD⟩, hS.F ht9⟩) hS.2.2 d_MO_crashAll_100
  · have hs4 := (hvT.1 (2 * k) (by omega)).1
    have hlk := hlT k (by omega)
    refine lv_lload_n hx hb d_MO_crashAll_17 rfl (lv_at hl 1 rfl) ?_
    refine lv_ldc2 hx hb hown (hg (Cond.constantLong "PageDriveModel" 94 (6364136223846793005)) (wG_m13 (List.mem_of_getElem? (i := 13) rfl))) d_MO_crashAll_18 ?_
    refine lv_lmul hx hb d_MO_crashAll_21 ?_
    refine lv_ldc2 hx hb hown (hg (Cond.constantLong "PageDriveModel" 96 (1442695040888963407)) (wG_m13 (List.mem_of_getElem? (i := 14) rfl))) d_MO_crashAll_22 ?_
    refine lv_ladd hx hb d_MO_crashAll_25 ?_
    generalize hy : z * 6364136223846793005 + 1442695040888963407 = y
    refine lv_lstore_n (lv' := [(3, .long y), (5, .int (nI k)), (0, .ref (am 0)), (1, .long x)]) hx hb d_MO_crashAll_26 rfl hl (by decide) rfl (fun ls hl => ?_)
    refine lv_lload_n hx hb d_MO_crashAll_27 rfl (lv_at hl 0 rfl) ?_
    refine lv_bipush (v := nI 33) hx hb d_MO_crashAll_28 (by decide) ?_
    refine lv_lushr hx hb d_MO_crashAll_30 rfl ?_
    refine pq_topl (y := lN (y.toBitVec.toNat / 2 ^ 33)) (pd_ushr y (by decide)) ?_
    refine lv_ldc2 hx hb hown (hg (Cond.constantLong "PageDriveModel" 98 (1048576)) (wG_m13 (List.mem_of_getElem? (i := 15) rfl))) d_MO_crashAll_31 ?_
    refine lv_lrem hx hb d_MO_crashAll_34 (by decide) ?_
    refine pq_topl (y := lN (y.toBitVec.toNat / 2 ^ 33 % 2 ^ 20)) (pd_lrem20 (pd_d33b y)) ?_
    refine lv_lstore (lv' := [(6, .long (lN (y.toBitVec.toNat / 2 ^ 33 % 2 ^ 20))), (3, .long y), (5, .int (nI k)), (0, .ref (am 0)), (1, .long x)]) hx hb d_MO_crashAll_35 hl (by decide) rfl (fun ls hl => ?_)
    refine lv_ldc2 hx hb hown (hg (Cond.constantLong "PageDriveModel" 100 (2)) (wG_m13 (List.mem_of_getElem? (i := 16) rfl))) d_MO_crashAll_37 ?_
    refine lv_aload_n hx hb d_MO_crashAll_40 rfl (lv_at hl 3 rfl) ?_
    refine va_get (C := "PageDriveModel") (T := F_MO) (N := 11) hx hb hg iw_MO hown hK hP (0) mw_g0 rfl 6 (by decide) (hg (Cond.fieldLink "PageDriveModel" 20 "PageDriveModel" "sizes" "[I") (wG_m10 (List.mem_of_getElem? (i := 29) rfl))) (fun _ h9 => h9) rfl d_MO_crashAll_41 ?_
    refine lv_iconst (v := nI 2) hx hb d_MO_crashAll_44 (by decide) ?_
    refine lv_iload hx hb d_MO_crashAll_45 (lv_at hl 2 rfl) ?_
    refine pq_imul hx hb d_MO_crashAll_47 ?_
    refine pq_iald hx hb hK hP 4 0 mw_g4 rfl (by omega) (by omega) d_MO_crashAll_48 ?_
    refine lv_aload_n hx hb d_MO_crashAll_49 rfl (lv_at hl 3 rfl) ?_
    refine va_get (C := "PageDriveModel") (T := F_MO) (N := 11) hx hb hg iw_MO hown hK hP (0) mw_g0 rfl 8 (by decide) (hg (Cond.fieldLink "PageDriveModel" 27 "PageDriveModel" "lows" "[I") (wG_m10 (List.mem_of_getElem? (i := 31) rfl))) (fun _ h9 => h9) rfl d_MO_crashAll_50 ?_
    refine lv_iload hx hb d_MO_crashAll_53 (lv_at hl 2 rfl) ?_
    refine pq_iald hx hb hK hP 6 0 mw_g6 rfl (by omega) (by omega) d_MO_crashAll_55 ?_
    refine pq_isub hx hb (by omega) d_MO_crashAll_56 ?_
    refine lv_i2l hx hb d_MO_crashAll_57 rfl ?_
    refine pq_topl (y := lN (T 4 (2 * k) - T 6 k)) (nI_l (by omega)) ?_
    refine lv_lmul hx hb d_MO_crashAll_58 ?_
    refine pq_topl (y := lN (2 * (T 4 (2 * k) - T 6 k))) (lN_mul 2 _) ?_
    refine lv_lconst (v := 1) hx hb d_MO_crashAll_59 (by decide) ?_
    refine lv_ladd hx hb d_MO_crashAll_60 ?_
    refine pq_topl (y := lN (2 * (T 4 (2 * k) - T 6 k) + 1)) (lN_1 _) ?_
    refine lv_lstore (lv' := [(8, .long (lN (2 * (T 4 (2 * k) - T 6 k) + 1))), (6, .long (lN (y.toBitVec.toNat / 2 ^ 33 % 2 ^ 20))), (3, .long y), (5, .int (nI k)), (0, .ref (am 0)), (1, .long x)]) hx hb d_MO_crashAll_61 hl (by decide) rfl (fun ls hl => ?_)
    refine lv_aload_n hx hb d_MO_crashAll_63 rfl (lv_at hl 4 rfl) ?_
    refine lv_iload hx hb d_MO_crashAll_64 (lv_at hl 3 rfl) ?_
    refine lv_lload_n hx hb d_MO_crashAll_66 rfl (lv_at hl 2 rfl) ?_
    refine lv_bipush (v := nI 61) hx hb d_MO_crashAll_67 (by decide) ?_
    refine lv_lushr hx hb d_MO_crashAll_69 rfl ?_
    refine pq_topl (y := lN (y.toBitVec.toNat / 2 ^ 61)) (pd_ushr y (by decide)) ?_
    refine lv_lconst (v := 0) hx hb d_MO_crashAll_70 (by decide) ?_
    refine W.lcmp hx hb d_MO_crashAll_71 ?_
    refine lv_if_ne (tgt := 79) hx hb d_MO_crashAll_72 (by decide) (fun h2 => ?_) (fun h2 => ?_)
    · refine lv_iconst (v := nI 1) hx hb d_MO_crashAll_79 (by decide) ?_
      refine lv_lload hx hb d_MO_crashAll_80 (lv_at hl 1 rfl) ?_
      refine lv_lload hx hb d_MO_crashAll_82 (lv_at hl 0 rfl) ?_
      refine lv_lrem hx hb d_MO_crashAll_84 (fun q => by have h9 := (lN_eq (a := 2 * (T 4 (2 * k) - T 6 k) + 1) (b := 0) (by omega) (by decide)).mp q; omega) ?_
      refine pq_topl (y := lN (y.toBitVec.toNat / 2 ^ 33 % 2 ^ 20 % (2 * (T 4 (2 * k) - T 6 k) + 1))) (pd_lrem (by omega) (by omega) (by omega)) ?_
      refine lv_l2i hx hb d_MO_crashAll_85 rfl ?_
      refine pq_top (y := nI (y.toBitVec.toNat / 2 ^ 33 % 2 ^ 20 % (2 * (T 4 (2 * k) - T 6 k) + 1))) (lN_i _) ?_
      refine pq_iadd hx hb d_MO_crashAll_86 ?_
      refine pq_top (y := nI (pd_kp y (T 4 (2 * k)) (T 6 k))) (by unfold pd_kp; rw [if_neg (fun q => h2 ((pd_lg0 _ (pd_d61 y)).mpr q))]) ?_
      have hkb : pd_kp y (T 4 (2 * k)) (T 6 k) < 2 ^ 31 := by unfold pd_kp; split; omega; have := Nat.mod_lt (y.toBitVec.toNat / 2 ^ 33 % 2 ^ 20) (show 0 < 2 * (T 4 (2 * k) - T 6 k) + 1 by omega); omega
      refine pw_callv (va_runV (As := [.int (nI k), .int (nI (pd_kp y (T 4 (2 * k)) (T 6 k)))]) (rest := []) ⟨hx, hb, hml, hown, hg⟩ (c_MO_breaks l dC dI cI cB cE cL cZ n am T k (pd_kp y (T 4 (2 * k)) (T 6 k)) (by omega) hvT hlk hkb H.size) (cwV 2 hg (gi_V (fun _ h => h) (wG_m13 (List.mem_of_getElem? (i := 6) rfl)) (wG_m13 (List.mem_of_getElem? (i := 7) rfl)) (wG_m14 (List.mem_of_getElem? (i := 19) rfl)) (wG_m1 (List.mem_of_getElem? (i := 6) rfl)) (wG_m13 (List.mem_of_getElem? (i := 8) rfl))) rfl rfl rfl (by decide +kernel) ⟨Nat.le_of_ble_eq_true rfl, Nat.le_of_ble_eq_true rfl⟩) (pw_pv hK hP hD (va_recv hK hP (ci := 4) (q0 := 0) rfl mw_g0) [.int (nI k), .int (nI (pd_kp y (T 4 (2 * k)) (T 6 k)))]) rfl rfl hl.1 rfl (lv_room (Nat.le_of_ble_eq_true rfl)) d_MO_crashAll_87 ⟨Nat.le_of_ble_eq_true rfl, Nat.le_of_ble_eq_true rfl⟩) hD hS hA (fun T2 H locs hr hP hD hS => ?_)
      refine lv_iinc (v := (nI (k + 1))) (lv' := [(5, .int (nI (k + 1))), (8, .long (lN (2 * (T 4 (2 * k) - T 6 k) + 1))), (6, .long (lN (y.toBitVec.toNat / 2 ^ 33 % 2 ^ 20))), (3, .long y), (0, .ref (am 0)), (1, .long x)]) hx hb d_MO_crashAll_90 hl (k := 3) rfl (pq_inc _) (by decide) rfl (fun ls hl => ?_)
      refine lv_goto (tgt := 10) hx hb d_MO_crashAll_93 (by decide) ?_
      exact ih _ _ _ _ (by omega) ⟨T2, y, k + 1, rfl, by omega, ⟨T, z, hal, hy.symm, hr.1⟩, pd_fal_v hr.1 (by omega) hvT, pd_fal_lo hr.1 (by omega) hlT, hP, hD, hS, lv_sub hl [0, 3, 4, 5] rfl⟩
    · refine lv_iconst (v := nI 0) hx hb d_MO_crashAll_75 (by decide) ?_
      refine lv_goto (tgt := 87) hx hb d_MO_crashAll_76 (by decide) ?_
      refine pq_top (y := nI (pd_kp y (T 4 (2 * k)) (T 6 k))) (by unfold pd_kp; rw [if_pos ((pd_lg0 _ (pd_d61 y)).mp h2)]) ?_
      have hkb : pd_kp y (T 4 (2 * k)) (T 6 k) < 2 ^ 31 := by unfold pd_kp; split; omega; have := Nat.mod_lt (y.toBitVec.toNat / 2 ^ 33 % 2 ^ 20) (show 0 < 2 * (T 4 (2 * k) - T 6 k) + 1 by omega); omega
      refine pw_callv (va_runV (As := [.int (nI k), .int (nI (pd_kp y (T 4 (2 * k)) (T 6 k)))]) (rest := []) ⟨hx, hb, hml, hown, hg⟩ (c_MO_breaks l dC dI cI cB cE cL cZ n am T k (pd_kp y (T 4 (2 * k)) (T 6 k)) (by omega) hvT hlk hkb H.size) (cwV 2 hg (gi_V (fun _ h => h) (wG_m13 (List.mem_of_getElem? (i := 6) rfl)) (wG_m13 (List.mem_of_getElem? (i := 7) rfl)) (wG_m14 (List.mem_of_getElem? (i := 19) rfl)) (wG_m1 (List.mem_of_getElem? (i := 6) rfl)) (wG_m13 (List.mem_of_getElem? (i := 8) rfl))) rfl rfl rfl (by decide +kernel) ⟨Nat.le_of_ble_eq_true rfl, Nat.le_of_ble_eq_true rfl⟩) (pw_pv hK hP hD (va_recv hK hP (ci := 4) (q0 := 0) rfl mw_g0) [.int (nI k), .int (nI (pd_kp y (T 4 (2 * k)) (T 6 k)))]) rfl rfl hl.1 rfl (lv_room (Nat.le_of_ble_eq_true rfl)) d_MO_crashAll_87 ⟨Nat.le_of_ble_eq_true rfl, Nat.le_of_ble_eq_true rfl⟩) hD hS hA (fun T2 H locs hr hP hD hS => ?_)
      refine lv_iinc (v := (nI (k + 1))) (lv' := [(5, .int (nI (k + 1))), (8, .long (lN (2 * (T 4 (2 * k) - T 6 k) + 1))), (6, .long (lN (y.toBitVec.toNat / 2 ^ 33 % 2 ^ 20))), (3, .long y), (0, .ref (am 0)), (1, .long x)]) hx hb d_MO_crashAll_90 hl (k := 3) rfl (pq_inc _) (by decide) rfl (fun ls hl => ?_)
      refine lv_goto (tgt := 10) hx hb d_MO_crashAll_93 (by decide) ?_
      exact ih _ _ _ _ (by omega) ⟨T2, y, k + 1, rfl, by omega, ⟨T, z, hal, hy.symm, hr.1⟩, pd_fal_v hr.1 (by omega) hvT, pd_fal_lo hr.1 (by omega) hlT, hP, hD, hS, lv_sub hl [0, 3, 4, 5] rfl⟩
set_option maxHeartbeats 4000000 in
set_option maxRecDepth 100000 in
/-- file -/
theorem c_MO_file (l : Launch) (dC : Nat → ClassId) (dI : Nat → Nat → Nat) (cI cB cE cL cZ : ClassId) (n : Nat) (am : Nat → Nat) (S : pdS) (f z : Int32) (hv : pd_v 1024 S) (sz : Nat) : CMi l (dC, dI) (pw_ty cI cB cE cL cZ) y_MO_file w_MO_file ({ frames := 3, cells := 0, slots := 0, locals := 65 }) [.ref (am 0), .int f, .int z] (mw n am cI cL cZ S) (mw n am cI cL cZ) sz (fun r S2 => pd_sa S S2 ∧ ((S2 7 3 = 1 ∧ (pd_nof f ∨ ∀ w, w ≤ 7 → z ≠ nI w)) ∨ (S2 7 3 = 0 ∧ ∃ i w, i < 16 ∧ f = nI i ∧ w ≤ 7 ∧ z = nI w ∧ r = nI (pd_fi S i w)))) := by
  refine Met.ofW (cc := b_MO_file) (maxL := 3) (ret := (some .int)) (by decide) rfl ?_
  intro p e s m args below meth c s₁ B hml hv
  obtain ⟨rfl, hsz, hP, hK, hD0⟩ := hv
  have hx := B.exec
  have hb := B.bytes
  have hret := B.returns
  have hts := atoms_spec (ws := w_MO_file) B.pre
  have hg : ∀ w ∈ wsG, w.before _ s = true := fun w h => hts w (List.mem_cons_of_mem _ h)
  have hown : s.vm.findClass "PageDriveModel" = some m.cls := findClass_of_methodNamed B.named
  have hlocks := B.notSynchronized
  subst hsz
  have hD := hD0.self (sz := s.heap.size)
  generalize hAe : va_A (mw n am cI cL cZ S) s.heap.size = A at hD ⊢
  have hA : ∀ q : Nat, s.heap.size ≤ q → A q := fun q h => by rw [← hAe]; exact Or.inr h
  have hS : va_S A s.heap s.heap [] := va_S.rf
  have hl := lv_entry ([.ref (am 0), .int f, .int z]) (n := 3) (Nat.le_of_ble_eq_true rfl)
  rw [lg_entry_eq]
  generalize (lg_sl ([.ref (am 0), .int f, .int z]) ++ List.replicate (3 - (lg_sl ([.ref (am 0), .int f, .int z])).length) Slot.unset).toArray = ls at hl ⊢
  have hl : lv_has ls 3 [(0, .ref (am 0)), (1, .int f), (2, .int z)] := hl
  refine lv_aload_n hx hb d_MO_file_0 rfl (lv_at hl 0 rfl) ?_
  refine lv_iconst (v := nI 0) hx hb d_MO_file_1 (by decide) ?_
  refine pm_thr hx hb hg hown hK hP hD hS (hg (Cond.fieldLink "PageDriveModel" 37 "PageDriveModel" "thrown" "I") (wG_m10 (List.mem_of_getElem? (i := 23) rfl))) d_MO_file_2 (fun H locs hP hD hS => ?_)
  generalize eS1 : pd_st S 7 3 0 = S1 at hP hD
  have hsa1 : pd_sa S S1 := by rw [← eS1]; exact pd_sa_73 S 0
  have hsa : ∀ v, pd_sa S (pd_st S1 7 3 v) := fun v => pd_sa_tr hsa1 (pd_sa_73 S1 v)
  have h173 : S1 7 3 = 0 := by rw [← eS1, pd_self]
  have hb1 : ∀ b, b ≠ 7 → S1 b = S b := fun b hb => by rw [← eS1, pd_bk _ hb]
  have hv1 := pd_sa_v hsa1 hv
  refine lv_iload_n hx hb d_MO_file_5 rfl (lv_at hl 1 rfl) ?_
  refine pw_callip (va_runS (As := [.int f]) (rest := []) ⟨hx, hb, hml, hown, hg⟩ (c_MO_noFile l dC dI cI cB cE cL cZ (mw n am cI cL cZ S1) f H.size) (cwS 1 hg (gi_S (fun _ h => h) (wG_m11 (List.mem_of_getElem? (i := 38) rfl)) (wG_m11 (List.mem_of_getElem? (i := 39) rfl)) (wG_m1 (List.mem_of_getElem? (i := 6) rfl)) (wG_m12 (List.mem_of_getElem? (i := 0) rfl))) rfl rfl rfl (by decide +kernel) ⟨Nat.le_of_ble_eq_true rfl, Nat.le_of_ble_eq_true rfl⟩) (pw_ps hK hP hD [.int f]) rfl rfl hl.1 rfl (lv_room (Nat.le_of_ble_eq_true rfl)) d_MO_file_6 ⟨Nat.le_of_ble_eq_true rfl, Nat.le_of_ble_eq_true rfl⟩) hD hS hA (fun r2 H locs hr hP hD hS => ?_)
  rcases hr with ⟨i, hi, rfl, rfl⟩ | ⟨hno, rfl⟩
  · refine pq_if_ne (tgt := 22) hx hb (by omega) d_MO_file_9 (by decide) (fun h9 => absurd h9 (by omega)) (fun _ => ?_)
    refine lv_iload_n hx hb d_MO_file_12 rfl (lv_at hl 2 rfl) ?_
    refine lv_iconst (v := nI 0) hx hb d_MO_file_13 (by decide) ?_
    refine lv_bipush (v := nI 7) hx hb d_MO_file_14 (by decide) ?_
    refine pw_callip (va_runS (As := [.int z, .int (nI 0), .int (nI 7)]) (rest := []) ⟨hx, hb, hml, hown, hg⟩ (c_MO_within l dC dI cI cB cE cL cZ (mw n am cI cL cZ S1) z (nI 0) (nI 7) H.size) (cwS 3 hg (gi_S (fun _ h => h) (wG_m11 (List.mem_of_getElem? (i := 27) rfl)) (wG_m11 (List.mem_of_getElem? (i := 28) rfl)) (wG_m1 (List.mem_of_getElem? (i := 6) rfl)) (wG_m11 (List.mem_of_getElem? (i := 29) rfl))) rfl rfl rfl (by decide +kernel) ⟨Nat.le_of_ble_eq_true rfl, Nat.le_of_ble_eq_true rfl⟩) (pw_ps hK hP hD [.int z, .int (nI 0), .int (nI 7)]) rfl rfl hl.1 rfl (lv_room (Nat.le_of_ble_eq_true rfl)) d_MO_file_16 ⟨Nat.le_of_ble_eq_true rfl, Nat.le_of_ble_eq_true rfl⟩) hD hS hA (fun r3 H locs hr hP hD hS => ?_)
    rcases hr with ⟨hw1, hw2, rfl⟩ | ⟨hw1, rfl⟩
    · refine pq_if_ne (tgt := 28) hx hb (by omega) d_MO_file_19 (by decide) (fun _ => ?_) (fun h9 => absurd h9 (by omega))
      obtain ⟨w0, hwa, hwb, rfl⟩ := pd_rng (a := 0) (b := 7) (by decide) (by decide) hw1 hw2
      have hs4 := (hv1.1 (2 * i) (by omega)).1
      have hs5 := (hv1.1 (2 * i) (by omega)).2.1
      have hs4s := (hv1.1 (2 * i + 1) (by omega)).1
      have hs5s := (hv1.1 (2 * i + 1) (by omega)).2.1
      have hfi := fun w => pd_fi_sa (w := w) hi hsa1
      rcases (show w0 = 0 ∨ w0 = 1 ∨ w0 = 2 ∨ w0 = 3 ∨ w0 = 4 ∨ w0 = 5 ∨ w0 = 6 ∨ w0 = 7 by omega) with rfl | rfl | rfl | rfl | rfl | rfl | rfl | rfl
      · refine lv_iload_n hx hb d_MO_file_28 rfl (lv_at hl 2 rfl) ?_
        refine lv_iconst (v := nI 2) hx hb d_MO_file_29 (by decide) ?_
        refine pq_icmp_ge (tgt := 44) hx hb (by omega) (by omega) d_MO_file_30 (by decide) (fun h9 => absurd h9 (by omega)) (fun _ => ?_)
        refine lv_aload_n hx hb d_MO_file_33 rfl (lv_at hl 0 rfl) ?_
        refine va_get (C := "PageDriveModel") (T := F_MO) (N := 11) hx hb hg iw_MO hown hK hP (0) mw_g0 rfl 6 (by decide) (hg (Cond.fieldLink "PageDriveModel" 20 "PageDriveModel" "sizes" "[I") (wG_m10 (List.mem_of_getElem? (i := 29) rfl))) (fun _ h9 => h9) rfl d_MO_file_34 ?_
        refine lv_iconst (v := nI 2) hx hb d_MO_file_37 (by decide) ?_
        refine lv_iload_n hx hb d_MO_file_38 rfl (lv_at hl 1 rfl) ?_
        refine pq_imul hx hb d_MO_file_39 ?_
        refine lv_iload_n hx hb d_MO_file_40 rfl (lv_at hl 2 rfl) ?_
        refine pq_iadd hx hb d_MO_file_41 ?_
        refine pq_iald hx hb hK hP 4 0 mw_g4 rfl (by omega) (by omega) d_MO_file_42 ?_
        refine pq_top (y := nI (pd_fi S i 0)) (by rw [← hfi]; rfl) ?_
        exact W.iret (v := (nI (pd_fi S i 0))) hx hb hret (fun t9 ht9 hW9 => ⟨⟨_, S1, rfl, ⟨hsa1, Or.inr ⟨h173, i, 0, hi, rfl, by omega, rfl, rfl⟩⟩, by rw [ht9]; exact hP, va_K.moved hW9.alike hK, hD⟩, hS.F ht9⟩) hS.2.2 d_MO_file_43
      · refine lv_iload_n hx hb d_MO_file_28 rfl (lv_at hl 2 rfl) ?_
        refine lv_iconst (v := nI 2) hx hb d_MO_file_29 (by decide) ?_
        refine pq_icmp_ge (tgt := 44) hx hb (by omega) (by omega) d_MO_file_30 (by decide) (fun h9 => absurd h9 (by omega)) (fun _ => ?_)
        refine lv_aload_n hx hb d_MO_file_33 rfl (lv_at hl 0 rfl) ?_
        refine va_get (C := "PageDriveModel") (T := F_MO) (N := 11) hx hb hg iw_MO hown hK hP (0) mw_g0 rfl 6 (by decide) (hg (Cond.fieldLink "PageDriveModel" 20 "PageDriveModel" "sizes" "[I") (wG_m10 (List.mem_of_getElem? (i := 29) rfl))) (fun _ h9 => h9) rfl d_MO_file_34 ?_
        refine lv_iconst (v := nI 2) hx hb d_MO_file_37 (by decide) ?_
        refine lv_iload_n hx hb d_MO_file_38 rfl (lv_at hl 1 rfl) ?_
        refine pq_imul hx hb d_MO_file_39 ?_
        refine lv_iload_n hx hb d_MO_file_40 rfl (lv_at hl 2 rfl) ?_
        refine pq_iadd hx hb d_MO_file_41 ?_
        refine pq_iald hx hb hK hP 4 0 mw_g4 rfl (by omega) (by omega) d_MO_file_42 ?_
        refine pq_top (y := nI (pd_fi S i 1)) (by rw [← hfi]; rfl) ?_
        exact W.iret (v := (nI (pd_fi S i 1))) hx hb hret (fun t9 ht9 hW9 => ⟨⟨_, S1, rfl, ⟨hsa1, Or.inr ⟨h173, i, 1, hi, rfl, by omega, rfl, rfl⟩⟩, by rw [ht9]; exact hP, va_K.moved hW9.alike hK, hD⟩, hS.F ht9⟩) hS.2.2 d_MO_file_43
      · refine lv_iload_n hx hb d_MO_file_28 rfl (lv_at hl 2 rfl) ?_
        refine lv_iconst (v := nI 2) hx hb d_MO_file_29 (by decide) ?_
        refine pq_icmp_ge (tgt := 44) hx hb (by omega) (by omega) d_MO_file_30 (by decide) (fun _ => ?_) (fun h9 => absurd h9 (by omega))
        refine lv_iload_n hx hb d_MO_file_44 rfl (lv_at hl 2 rfl) ?_
        refine lv_iconst (v := nI 2) hx hb d_MO_file_45 (by decide) ?_
        refine pq_icmp_ne (tgt := 56) hx hb (by omega) (by omega) d_MO_file_46 (by decide) (fun h9 => absurd h9 (by omega)) (fun _ => ?_)
        refine lv_aload_n hx hb d_MO_file_49 rfl (lv_at hl 0 rfl) ?_
        refine va_get (C := "PageDriveModel") (T := F_MO) (N := 11) hx hb hg iw_MO hown hK hP (0) mw_g0 rfl 8 (by decide) (hg (Cond.fieldLink "PageDriveModel" 27 "PageDriveModel" "lows" "[I") (wG_m10 (List.mem_of_getElem? (i := 31) rfl))) (fun _ h9 => h9) rfl d_MO_file_50 ?_
        refine lv_iload_n hx hb d_MO_file_53 rfl (lv_at hl 1 rfl) ?_
        refine pq_iald hx hb hK hP 6 0 mw_g6 rfl (by omega) (by omega) d_MO_file_54 ?_
        refine pq_top (y := nI (pd_fi S i 2)) (by rw [← hfi]; rfl) ?_
        exact W.iret (v := (nI (pd_fi S i 2))) hx hb hret (fun t9 ht9 hW9 => ⟨⟨_, S1, rfl, ⟨hsa1, Or.inr ⟨h173, i, 2, hi, rfl, by omega, rfl, rfl⟩⟩, by rw [ht9]; exact hP, va_K.moved hW9.alike hK, hD⟩, hS.F ht9⟩) hS.2.2 d_MO_file_55
      · refine lv_iload_n hx hb d_MO_file_28 rfl (lv_at hl 2 rfl) ?_
        refine lv_iconst (v := nI 2) hx hb d_MO_file_29 (by decide) ?_
        refine pq_icmp_ge (tgt := 44) hx hb (by omega) (by omega) d_MO_file_30 (by decide) (fun _ => ?_) (fun h9 => absurd h9 (by omega))
        refine lv_iload_n hx hb d_MO_file_44 rfl (lv_at hl 2 rfl) ?_
        refine lv_iconst (v := nI 2) hx hb d_MO_file_45 (by decide) ?_
        refine pq_icmp_ne (tgt := 56) hx hb (by omega) (by omega) d_MO_file_46 (by decide) (fun _ => ?_) (fun h9 => absurd h9 (by omega))
        refine lv_iload_n hx hb d_MO_file_56 rfl (lv_at hl 2 rfl) ?_
        refine lv_iconst (v := nI 5) hx hb d_MO_file_57 (by decide) ?_
        refine pq_icmp_ge (tgt := 82) hx hb (by omega) (by omega) d_MO_file_58 (by decide) (fun h9 => absurd h9 (by omega)) (fun _ => ?_)
        refine lv_aload_n hx hb d_MO_file_61 rfl (lv_at hl 0 rfl) ?_
        refine va_get (C := "PageDriveModel") (T := F_MO) (N := 11) hx hb hg iw_MO hown hK hP (0) mw_g0 rfl 7 (by decide) (hg (Cond.fieldLink "PageDriveModel" 23 "PageDriveModel" "there" "[Z") (wG_m10 (List.mem_of_getElem? (i := 30) rfl))) (fun _ h9 => h9) rfl d_MO_file_62 ?_
        refine lv_iconst (v := nI 2) hx hb d_MO_file_65 (by decide) ?_
        refine lv_iload_n hx hb d_MO_file_66 rfl (lv_at hl 1 rfl) ?_
        refine pq_imul hx hb d_MO_file_67 ?_
        refine lv_iload_n hx hb d_MO_file_68 rfl (lv_at hl 2 rfl) ?_
        refine pq_iadd hx hb d_MO_file_69 ?_
        refine lv_iconst (v := nI 3) hx hb d_MO_file_70 (by decide) ?_
        refine pq_isub hx hb (by omega) d_MO_file_71 ?_
        refine pq_top (y := nI (2 * i)) (by rw [show 2 * i + 3 - 3 = 2 * i by omega]) ?_
        refine pq_zald hx hb hK hP 5 4 mw_g5 rfl (by omega) (by omega) d_MO_file_72 ?_
        refine pq_if_eq (tgt := 80) hx hb (by omega) d_MO_file_73 (by decide) (fun h3 => ?_) (fun h3 => ?_)
        · refine lv_iconst (v := nI 0) hx hb d_MO_file_80 (by decide) ?_
          refine pq_top (y := nI (pd_fi S i 3)) (by rw [← hfi]; show nI 0 = nI (S1 5 (2 * i)); rw [h3]) ?_
          exact W.iret (v := (nI (pd_fi S i 3))) hx hb hret (fun t9 ht9 hW9 => ⟨⟨_, S1, rfl, ⟨hsa1, Or.inr ⟨h173, i, 3, hi, rfl, by omega, rfl, rfl⟩⟩, by rw [ht9]; exact hP, va_K.moved hW9.alike hK, hD⟩, hS.F ht9⟩) hS.2.2 d_MO_file_81
        · refine lv_iconst (v := nI 1) hx hb d_MO_file_76 (by decide) ?_
          refine lv_goto (tgt := 81) hx hb d_MO_file_77 (by decide) ?_
          refine pq_top (y := nI (pd_fi S i 3)) (by rw [← hfi]; show nI 1 = nI (S1 5 (2 * i)); rw [show S1 5 (2 * i) = 1 by omega]) ?_
          exact W.iret (v := (nI (pd_fi S i 3))) hx hb hret (fun t9 ht9 hW9 => ⟨⟨_, S1, rfl, ⟨hsa1, Or.inr ⟨h173, i, 3, hi, rfl, by omega, rfl, rfl⟩⟩, by rw [ht9]; exact hP, va_K.moved hW9.alike hK, hD⟩, hS.F ht9⟩) hS.2.2 d_MO_file_81
      · refine lv_iload_n hx hb d_MO_file_28 rfl (lv_at hl 2 rfl) ?_
        refine lv_iconst (v := nI 2) hx hb d_MO_file_29 (by decide) ?_
        refine pq_icmp_ge (tgt := 44) hx hb (by omega) (by omega) d_MO_file_30 (by decide) (fun _ => ?_) (fun h9 => absurd h9 (by omega))
        refine lv_iload_n hx hb d_MO_file_44 rfl (lv_at hl 2 rfl) ?_
        refine lv_iconst (v := nI 2) hx hb d_MO_file_45 (by decide) ?_
        refine pq_icmp_ne (tgt := 56) hx hb (by omega) (by omega) d_MO_file_46 (by decide) (fun _ => ?_) (fun h9 => absurd h9 (by omega))
        refine lv_iload_n hx hb d_MO_file_56 rfl (lv_at hl 2 rfl) ?_
        refine lv_iconst (v := nI 5) hx hb d_MO_file_57 (by decide) ?_
        refine pq_icmp_ge (tgt := 82) hx hb (by omega) (by omega) d_MO_file_58 (by decide) (fun h9 => absurd h9 (by omega)) (fun _ => ?_)
        refine lv_aload_n hx hb d_MO_file_61 rfl (lv_at hl 0 rfl) ?_
        refine va_get (C := "PageDriveModel") (T := F_MO) (N := 11) hx hb hg iw_MO hown hK hP (0) mw_g0 rfl 7 (by decide) (hg (Cond.fieldLink "PageDriveModel" 23 "PageDriveModel" "there" "[Z") (wG_m10 (List.mem_of_getElem? (i := 30) rfl))) (fun _ h9 => h9) rfl d_MO_file_62 ?_
        refine lv_iconst (v := nI 2) hx hb d_MO_file_65 (by decide) ?_
        refine lv_iload_n hx hb d_MO_file_66 rfl (lv_at hl 1 rfl) ?_
        refine pq_imul hx hb d_MO_file_67 ?_
        refine lv_iload_n hx hb d_MO_file_68 rfl (lv_at hl 2 rfl) ?_
        refine pq_iadd hx hb d_MO_file_69 ?_
        refine lv_iconst (v := nI 3) hx hb d_MO_file_70 (by decide) ?_
        refine pq_isub hx hb (by omega) d_MO_file_71 ?_
        refine pq_top (y := nI (2 * i + 1)) (by rw [show 2 * i + 4 - 3 = 2 * i + 1 by omega]) ?_
        refine pq_zald hx hb hK hP 5 4 mw_g5 rfl (by omega) (by omega) d_MO_file_72 ?_
        refine pq_if_eq (tgt := 80) hx hb (by omega) d_MO_file_73 (by decide) (fun h3 => ?_) (fun h3 => ?_)
        · refine lv_iconst (v := nI 0) hx hb d_MO_file_80 (by decide) ?_
          refine pq_top (y := nI (pd_fi S i 4)) (by rw [← hfi]; show nI 0 = nI (S1 5 (2 * i + 1)); rw [h3]) ?_
          exact W.iret (v := (nI (pd_fi S i 4))) hx hb hret (fun t9 ht9 hW9 => ⟨⟨_, S1, rfl, ⟨hsa1, Or.inr ⟨h173, i, 4, hi, rfl, by omega, rfl, rfl⟩⟩, by rw [ht9]; exact hP, va_K.moved hW9.alike hK, hD⟩, hS.F ht9⟩) hS.2.2 d_MO_file_81
        · refine lv_iconst (v := nI 1) hx hb d_MO_file_76 (by decide) ?_
          refine lv_goto (tgt := 81) hx hb d_MO_file_77 (by decide) ?_
          refine pq_top (y := nI (pd_fi S i 4)) (by rw [← hfi]; show nI 1 = nI (S1 5 (2 * i + 1)); rw [show S1 5 (2 * i + 1) = 1 by omega]) ?_
          exact W.iret (v := (nI (pd_fi S i 4))) hx hb hret (fun t9 ht9 hW9 => ⟨⟨_, S1, rfl, ⟨hsa1, Or.inr ⟨h173, i, 4, hi, rfl, by omega, rfl, rfl⟩⟩, by rw [ht9]; exact hP, va_K.moved hW9.alike hK, hD⟩, hS.F ht9⟩) hS.2.2 d_MO_file_81
      · refine lv_iload_n hx hb d_MO_file_28 rfl (lv_at hl 2 rfl) ?_
        refine lv_iconst (v := nI 2) hx hb d_MO_file_29 (by decide) ?_
        refine pq_icmp_ge (tgt := 44) hx hb (by omega) (by omega) d_MO_file_30 (by decide) (fun _ => ?_) (fun h9 => absurd h9 (by omega))
        refine lv_iload_n hx hb d_MO_file_44 rfl (lv_at hl 2 rfl) ?_
        refine lv_iconst (v := nI 2) hx hb d_MO_file_45 (by decide) ?_
        refine pq_icmp_ne (tgt := 56) hx hb (by omega) (by omega) d_MO_file_46 (by decide) (fun _ => ?_) (fun h9 => absurd h9 (by omega))
        refine lv_iload_n hx hb d_MO_file_56 rfl (lv_at hl 2 rfl) ?_
        refine lv_iconst (v := nI 5) hx hb d_MO_file_57 (by decide) ?_
        refine pq_icmp_ge (tgt := 82) hx hb (by omega) (by omega) d_MO_file_58 (by decide) (fun _ => ?_) (fun h9 => absurd h9 (by omega))
        refine lv_iload_n hx hb d_MO_file_82 rfl (lv_at hl 2 rfl) ?_
        refine lv_bipush (v := nI 7) hx hb d_MO_file_83 (by decide) ?_
        refine pq_icmp_ge (tgt := 106) hx hb (by omega) (by omega) d_MO_file_85 (by decide) (fun h9 => absurd h9 (by omega)) (fun _ => ?_)
        refine lv_aload_n hx hb d_MO_file_88 rfl (lv_at hl 0 rfl) ?_
        refine va_get (C := "PageDriveModel") (T := F_MO) (N := 11) hx hb hg iw_MO hown hK hP (0) mw_g0 rfl 6 (by decide) (hg (Cond.fieldLink "PageDriveModel" 20 "PageDriveModel" "sizes" "[I") (wG_m10 (List.mem_of_getElem? (i := 29) rfl))) (fun _ h9 => h9) rfl d_MO_file_89 ?_
        refine lv_iconst (v := nI 2) hx hb d_MO_file_92 (by decide) ?_
        refine lv_iload_n hx hb d_MO_file_93 rfl (lv_at hl 1 rfl) ?_
        refine pq_imul hx hb d_MO_file_94 ?_
        refine lv_iload_n hx hb d_MO_file_95 rfl (lv_at hl 2 rfl) ?_
        refine pq_iadd hx hb d_MO_file_96 ?_
        refine lv_iconst (v := nI 5) hx hb d_MO_file_97 (by decide) ?_
        refine pq_isub hx hb (by omega) d_MO_file_98 ?_
        refine pq_top (y := nI (2 * i)) (by rw [show 2 * i + 5 - 5 = 2 * i by omega]) ?_
        refine pq_iald hx hb hK hP 4 0 mw_g4 rfl (by omega) (by omega) d_MO_file_99 ?_
        refine pw_callip (va_runS (As := [.int (nI (S1 4 (2 * i)))]) (rest := []) ⟨hx, hb, hml, hown, hg⟩ (c_MO_needed l dC dI cI cB cE cL cZ (mw n am cI cL cZ S1) (S1 4 (2 * i)) (by omega) H.size) (cwS 1 hg (gi_S (fun _ h => h) (wG_m12 (List.mem_of_getElem? (i := 4) rfl)) (wG_m12 (List.mem_of_getElem? (i := 5) rfl)) (wG_m1 (List.mem_of_getElem? (i := 6) rfl)) (wG_m12 (List.mem_of_getElem? (i := 6) rfl))) rfl rfl rfl (by decide +kernel) ⟨Nat.le_of_ble_eq_true rfl, Nat.le_of_ble_eq_true rfl⟩) (pw_ps hK hP hD [.int (nI (S1 4 (2 * i)))]) rfl rfl hl.1 rfl (lv_room (Nat.le_of_ble_eq_true rfl)) d_MO_file_100 ⟨Nat.le_of_ble_eq_true rfl, Nat.le_of_ble_eq_true rfl⟩) hD hS hA (fun r4 H locs hr hP hD hS => ?_)
        subst hr
        refine lv_goto (tgt := 111) hx hb d_MO_file_103 (by decide) ?_
        refine pq_top (y := nI (pd_fi S i 5)) (by rw [← hfi]; rfl) ?_
        exact W.iret (v := (nI (pd_fi S i 5))) hx hb hret (fun t9 ht9 hW9 => ⟨⟨_, S1, rfl, ⟨hsa1, Or.inr ⟨h173, i, 5, hi, rfl, by omega, rfl, rfl⟩⟩, by rw [ht9]; exact hP, va_K.moved hW9.alike hK, hD⟩, hS.F ht9⟩) hS.2.2 d_MO_file_111
      · refine lv_iload_n hx hb d_MO_file_28 rfl (lv_at hl 2 rfl) ?_
        refine lv_iconst (v := nI 2) hx hb d_MO_file_29 (by decide) ?_
        refine pq_icmp_ge (tgt := 44) hx hb (by omega) (by omega) d_MO_file_30 (by decide) (fun _ => ?_) (fun h9 => absurd h9 (by omega))
        refine lv_iload_n hx hb d_MO_file_44 rfl (lv_at hl 2 rfl) ?_
        refine lv_iconst (v := nI 2) hx hb d_MO_file_45 (by decide) ?_
        refine pq_icmp_ne (tgt := 56) hx hb (by omega) (by omega) d_MO_file_46 (by decide) (fun _ => ?_) (fun h9 => absurd h9 (by omega))
        refine lv_iload_n hx hb d_MO_file_56 rfl (lv_at hl 2 rfl) ?_
        refine lv_iconst (v := nI 5) hx hb d_MO_file_57 (by decide) ?_
        refine pq_icmp_ge (tgt := 82) hx hb (by omega) (by omega) d_MO_file_58 (by decide) (fun _ => ?_) (fun h9 => absurd h9 (by omega))
        refine lv_iload_n hx hb d_MO_file_82 rfl (lv_at hl 2 rfl) ?_
        refine lv_bipush (v := nI 7) hx hb d_MO_file_83 (by decide) ?_
        refine pq_icmp_ge (tgt := 106) hx hb (by omega) (by omega) d_MO_file_85 (by decide) (fun h9 => absurd h9 (by omega)) (fun _ => ?_)
        refine lv_aload_n hx hb d_MO_file_88 rfl (lv_at hl 0 rfl) ?_
        refine va_get (C := "PageDriveModel") (T := F_MO) (N := 11) hx hb hg iw_MO hown hK hP (0) mw_g0 rfl 6 (by decide) (hg (Cond.fieldLink "PageDriveModel" 20 "PageDriveModel" "sizes" "[I") (wG_m10 (List.mem_of_getElem? (i := 29) rfl))) (fun _ h9 => h9) rfl d_MO_file_89 ?_
        refine lv_iconst (v := nI 2) hx hb d_MO_file_92 (by decide) ?_
        refine lv_iload_n hx hb d_MO_file_93 rfl (lv_at hl 1 rfl) ?_
        refine pq_imul hx hb d_MO_file_94 ?_
        refine lv_iload_n hx hb d_MO_file_95 rfl (lv_at hl 2 rfl) ?_
        refine pq_iadd hx hb d_MO_file_96 ?_
        refine lv_iconst (v := nI 5) hx hb d_MO_file_97 (by decide) ?_
        refine pq_isub hx hb (by omega) d_MO_file_98 ?_
        refine pq_top (y := nI (2 * i + 1)) (by rw [show 2 * i + 6 - 5 = 2 * i + 1 by omega]) ?_
        refine pq_iald hx hb hK hP 4 0 mw_g4 rfl (by omega) (by omega) d_MO_file_99 ?_
        refine pw_callip (va_runS (As := [.int (nI (S1 4 (2 * i + 1)))]) (rest := []) ⟨hx, hb, hml, hown, hg⟩ (c_MO_needed l dC dI cI cB cE cL cZ (mw n am cI cL cZ S1) (S1 4 (2 * i + 1)) (by omega) H.size) (cwS 1 hg (gi_S (fun _ h => h) (wG_m12 (List.mem_of_getElem? (i := 4) rfl)) (wG_m12 (List.mem_of_getElem? (i := 5) rfl)) (wG_m1 (List.mem_of_getElem? (i := 6) rfl)) (wG_m12 (List.mem_of_getElem? (i := 6) rfl))) rfl rfl rfl (by decide +kernel) ⟨Nat.le_of_ble_eq_true rfl, Nat.le_of_ble_eq_true rfl⟩) (pw_ps hK hP hD [.int (nI (S1 4 (2 * i + 1)))]) rfl rfl hl.1 rfl (lv_room (Nat.le_of_ble_eq_true rfl)) d_MO_file_100 ⟨Nat.le_of_ble_eq_true rfl, Nat.le_of_ble_eq_true rfl⟩) hD hS hA (fun r5 H locs hr hP hD hS => ?_)
        subst hr
        refine lv_goto (tgt := 111) hx hb d_MO_file_103 (by decide) ?_
        refine pq_top (y := nI (pd_fi S i 6)) (by rw [← hfi]; rfl) ?_
        exact W.iret (v := (nI (pd_fi S i 6))) hx hb hret (fun t9 ht9 hW9 => ⟨⟨_, S1, rfl, ⟨hsa1, Or.inr ⟨h173, i, 6, hi, rfl, by omega, rfl, rfl⟩⟩, by rw [ht9]; exact hP, va_K.moved hW9.alike hK, hD⟩, hS.F ht9⟩) hS.2.2 d_MO_file_111
      · refine lv_iload_n hx hb d_MO_file_28 rfl (lv_at hl 2 rfl) ?_
        refine lv_iconst (v := nI 2) hx hb d_MO_file_29 (by decide) ?_
        refine pq_icmp_ge (tgt := 44) hx hb (by omega) (by omega) d_MO_file_30 (by decide) (fun _ => ?_) (fun h9 => absurd h9 (by omega))
        refine lv_iload_n hx hb d_MO_file_44 rfl (lv_at hl 2 rfl) ?_
        refine lv_iconst (v := nI 2) hx hb d_MO_file_45 (by decide) ?_
        refine pq_icmp_ne (tgt := 56) hx hb (by omega) (by omega) d_MO_file_46 (by decide) (fun _ => ?_) (fun h9 => absurd h9 (by omega))
        refine lv_iload_n hx hb d_MO_file_56 rfl (lv_at hl 2 rfl) ?_
        refine lv_iconst (v := nI 5) hx hb d_MO_file_57 (by decide) ?_
        refine pq_icmp_ge (tgt := 82) hx hb (by omega) (by omega) d_MO_file_58 (by decide) (fun _ => ?_) (fun h9 => absurd h9 (by omega))
        refine lv_iload_n hx hb d_MO_file_82 rfl (lv_at hl 2 rfl) ?_
        refine lv_bipush (v := nI 7) hx hb d_MO_file_83 (by decide) ?_
        refine pq_icmp_ge (tgt := 106) hx hb (by omega) (by omega) d_MO_file_85 (by decide) (fun _ => ?_) (fun h9 => absurd h9 (by omega))
        refine lv_aload_n hx hb d_MO_file_106 rfl (lv_at hl 0 rfl) ?_
        refine lv_iload_n hx hb d_MO_file_107 rfl (lv_at hl 1 rfl) ?_
        refine pw_calli (va_runV (As := [.int (nI i)]) (rest := []) ⟨hx, hb, hml, hown, hg⟩ (c_MO_sharedPages l dC dI cI cB cE cL cZ n am S1 i hi hv1 H.size) (cwV 1 hg (gi_V (fun _ h => h) (wG_m13 (List.mem_of_getElem? (i := 24) rfl)) (wG_m13 (List.mem_of_getElem? (i := 25) rfl)) (wG_m14 (List.mem_of_getElem? (i := 21) rfl)) (wG_m1 (List.mem_of_getElem? (i := 6) rfl)) (wG_m13 (List.mem_of_getElem? (i := 26) rfl))) rfl rfl rfl (by decide +kernel) ⟨Nat.le_of_ble_eq_true rfl, Nat.le_of_ble_eq_true rfl⟩) (pw_pv hK hP hD (va_recv hK hP (ci := 4) (q0 := 0) rfl mw_g0) [.int (nI i)]) rfl rfl hl.1 rfl (lv_room (Nat.le_of_ble_eq_true rfl)) d_MO_file_108 ⟨Nat.le_of_ble_eq_true rfl, Nat.le_of_ble_eq_true rfl⟩) hD hS hA (fun r7 S7 H locs hr hP hD hS => ?_)
        obtain ⟨rfl, hS7⟩ := hr
        refine pq_top (y := nI (pd_fi S i 7)) (by rw [← hfi]; rfl) ?_
        exact W.iret (v := (nI (pd_fi S i 7))) hx hb hret (fun t9 ht9 hW9 => ⟨⟨_, S7, rfl, ⟨pd_sa_tr hsa1 (pd_sa_1 hS7), Or.inr ⟨by rw [hS7 7 (by decide)]; exact h173, i, 7, hi, rfl, by omega, rfl, rfl⟩⟩, by rw [ht9]; exact hP, va_K.moved hW9.alike hK, hD⟩, hS.F ht9⟩) hS.2.2 d_MO_file_111
    · refine pq_if_ne (tgt := 28) hx hb (by omega) d_MO_file_19 (by decide) (fun h9 => absurd h9 (by omega)) (fun _ => ?_)
      refine lv_aload_n hx hb d_MO_file_22 rfl (lv_at hl 0 rfl) ?_
      refine lv_iconst (v := nI 1) hx hb d_MO_file_23 (by decide) ?_
      refine pw_calli (va_runV (As := [.int (nI 1)]) (rest := []) ⟨hx, hb, hml, hown, hg⟩ (c_MO_fail l dC dI cI cB cE cL cZ n am S1 1 H.size) (cwV 1 hg (gi_V (fun _ h => h) (wG_m11 (List.mem_of_getElem? (i := 30) rfl)) (wG_m11 (List.mem_of_getElem? (i := 31) rfl)) (wG_m14 (List.mem_of_getElem? (i := 11) rfl)) (wG_m1 (List.mem_of_getElem? (i := 6) rfl)) (wG_m11 (List.mem_of_getElem? (i := 32) rfl))) rfl rfl rfl (by decide +kernel) ⟨Nat.le_of_ble_eq_true rfl, Nat.le_of_ble_eq_true rfl⟩) (pw_pv hK hP hD (va_recv hK hP (ci := 4) (q0 := 0) rfl mw_g0) [.int (nI 1)]) rfl rfl hl.1 rfl (lv_room (Nat.le_of_ble_eq_true rfl)) d_MO_file_24 ⟨Nat.le_of_ble_eq_true rfl, Nat.le_of_ble_eq_true rfl⟩) hD hS hA (fun rf S2 H locs hr hP hD hS => ?_)
      obtain ⟨rfl, eS2⟩ := hr
      exact W.iret (v := (nI 0)) hx hb hret (fun t9 ht9 hW9 => ⟨⟨_, S2, rfl, ⟨by rw [eS2]; exact hsa 1, Or.inl ⟨by rw [eS2, pd_self], Or.inr (fun x hx => hw1.elim (fun q => pd_below q x (by omega) (by omega)) (fun q => pd_above (b := 7) (by decide) q x hx))⟩⟩, by rw [ht9]; exact hP, va_K.moved hW9.alike hK, hD⟩, hS.F ht9⟩) hS.2.2 d_MO_file_27
  · refine pq_if_ne (tgt := 22) hx hb (by omega) d_MO_file_9 (by decide) (fun _ => ?_) (fun h9 => absurd h9 (by omega))
    refine lv_aload_n hx hb d_MO_file_22 rfl (lv_at hl 0 rfl) ?_
    refine lv_iconst (v := nI 1) hx hb d_MO_file_23 (by decide) ?_
    refine pw_calli (va_runV (As := [.int (nI 1)]) (rest := []) ⟨hx, hb, hml, hown, hg⟩ (c_MO_fail l dC dI cI cB cE cL cZ n am S1 1 H.size) (cwV 1 hg (gi_V (fun _ h => h) (wG_m11 (List.mem_of_getElem? (i := 30) rfl)) (wG_m11 (List.mem_of_getElem? (i := 31) rfl)) (wG_m14 (List.mem_of_getElem? (i := 11) rfl)) (wG_m1 (List.mem_of_getElem? (i := 6) rfl)) (wG_m11 (List.mem_of_getElem? (i := 32) rfl))) rfl rfl rfl (by decide +kernel) ⟨Nat.le_of_ble_eq_true rfl, Nat.le_of_ble_eq_true rfl⟩) (pw_pv hK hP hD (va_recv hK hP (ci := 4) (q0 := 0) rfl mw_g0) [.int (nI 1)]) rfl rfl hl.1 rfl (lv_room (Nat.le_of_ble_eq_true rfl)) d_MO_file_24 ⟨Nat.le_of_ble_eq_true rfl, Nat.le_of_ble_eq_true rfl⟩) hD hS hA (fun rf S2 H locs hr hP hD hS => ?_)
    obtain ⟨rfl, eS2⟩ := hr
    exact W.iret (v := (nI 0)) hx hb hret (fun t9 ht9 hW9 => ⟨⟨_, S2, rfl, ⟨by rw [eS2]; exact hsa 1, Or.inl ⟨by rw [eS2, pd_self], Or.inl hno⟩⟩, by rw [ht9]; exact hP, va_K.moved hW9.alike hK, hD⟩, hS.F ht9⟩) hS.2.2 d_MO_file_27
set_option maxHeartbeats 4000000 in
set_option maxRecDepth 100000 in
/-- byteAt -/
theorem c_MO_byteAt (l : Launch) (dC : Nat → ClassId) (dI : Nat → Nat → Nat) (cI cB cE cL cZ : ClassId) (n : Nat) (am : Nat → Nat) (S : pdS) (f : Int32) (b : Nat) (z : Int32) (hb01 : b ≤ 1) (hv : pd_v 1024 S) (sz : Nat) : CMi l (dC, dI) (pw_ty cI cB cE cL cZ) y_MO_byteAt w_MO_byteAt ({ frames := 2, cells := 0, slots := 0, locals := 42 }) [.ref (am 0), .int f, .int (nI b), .int z] (mw n am cI cL cZ S) (mw n am cI cL cZ) sz (fun r S2 => pd_sa S S2 ∧ ((S2 7 3 = 1 ∧ (pd_nof f ∨ ∃ i, i < 16 ∧ f = nI i ∧ ∀ j, j < S 4 (2 * i + b) → z ≠ nI j)) ∨ (S2 7 3 = 0 ∧ ∃ i j, i < 16 ∧ f = nI i ∧ j < S 4 (2 * i + b) ∧ z = nI j ∧ r = nI (pd_by S (2 * i + b) j)))) := by
  refine Met.ofW (cc := b_MO_byteAt) (maxL := 5) (ret := (some .int)) (by decide) rfl ?_
  intro p e s m args below meth c s₁ B hml hv
  obtain ⟨rfl, hsz, hP, hK, hD0⟩ := hv
  have hx := B.exec
  have hb := B.bytes
  have hret := B.returns
  have hts := atoms_spec (ws := w_MO_byteAt) B.pre
  have hg : ∀ w ∈ wsG, w.before _ s = true := fun w h => hts w (List.mem_cons_of_mem _ h)
  have hown : s.vm.findClass "PageDriveModel" = some m.cls := findClass_of_methodNamed B.named
  have hlocks := B.notSynchronized
  subst hsz
  have hD := hD0.self (sz := s.heap.size)
  generalize hAe : va_A (mw n am cI cL cZ S) s.heap.size = A at hD ⊢
  have hA : ∀ q : Nat, s.heap.size ≤ q → A q := fun q h => by rw [← hAe]; exact Or.inr h
  have hS : va_S A s.heap s.heap [] := va_S.rf
  have hl := lv_entry ([.ref (am 0), .int f, .int (nI b), .int z]) (n := 5) (Nat.le_of_ble_eq_true rfl)
  rw [lg_entry_eq]
  generalize (lg_sl ([.ref (am 0), .int f, .int (nI b), .int z]) ++ List.replicate (5 - (lg_sl ([.ref (am 0), .int f, .int (nI b), .int z])).length) Slot.unset).toArray = ls at hl ⊢
  have hl : lv_has ls 5 [(0, .ref (am 0)), (1, .int f), (2, .int (nI b)), (3, .int z)] := hl
  refine lv_aload_n hx hb d_MO_byteAt_0 rfl (lv_at hl 0 rfl) ?_
  refine lv_iconst (v := nI 0) hx hb d_MO_byteAt_1 (by decide) ?_
  refine pm_thr hx hb hg hown hK hP hD hS (hg (Cond.fieldLink "PageDriveModel" 37 "PageDriveModel" "thrown" "I") (wG_m10 (List.mem_of_getElem? (i := 23) rfl))) d_MO_byteAt_2 (fun H locs hP hD hS => ?_)
  generalize eS1 : pd_st S 7 3 0 = S1 at hP hD
  have hsa1 : pd_sa S S1 := by rw [← eS1]; exact pd_sa_73 S 0
  have hsa : ∀ v, pd_sa S (pd_st S1 7 3 v) := fun v => pd_sa_tr hsa1 (pd_sa_73 S1 v)
  have h173 : S1 7 3 = 0 := by rw [← eS1, pd_self]
  have hb1 : ∀ b, b ≠ 7 → S1 b = S b := fun b hb => by rw [← eS1, pd_bk _ hb]
  have hv1 := pd_sa_v hsa1 hv
  refine lv_iconst (v := nI 2) hx hb d_MO_byteAt_5 (by decide) ?_
  refine lv_iload_n hx hb d_MO_byteAt_6 rfl (lv_at hl 1 rfl) ?_
  refine lv_imul hx hb d_MO_byteAt_7 ?_
  refine lv_iload_n hx hb d_MO_byteAt_8 rfl (lv_at hl 2 rfl) ?_
  refine pq_if_eq (tgt := 16) hx hb (by omega) d_MO_byteAt_9 (by decide) (fun h1 => ?_) (fun h1 => ?_)
  · have hbv : b = 0 := by omega
    subst hbv
    refine lv_iconst (v := nI 0) hx hb d_MO_byteAt_16 (by decide) ?_
    refine lv_iadd hx hb d_MO_byteAt_17 ?_
    refine lv_istore (lv' := [(4, .int (((nI 2) * f) + (nI 0))), (0, .ref (am 0)), (1, .int f), (2, .int (nI 0)), (3, .int z)]) hx hb d_MO_byteAt_18 hl (by decide) rfl (fun ls hl => ?_)
    refine lv_iload_n hx hb d_MO_byteAt_20 rfl (lv_at hl 2 rfl) ?_
    refine pw_callip (va_runS (As := [.int f]) (rest := []) ⟨hx, hb, hml, hown, hg⟩ (c_MO_noFile l dC dI cI cB cE cL cZ (mw n am cI cL cZ S1) f H.size) (cwS 1 hg (gi_S (fun _ h => h) (wG_m11 (List.mem_of_getElem? (i := 38) rfl)) (wG_m11 (List.mem_of_getElem? (i := 39) rfl)) (wG_m1 (List.mem_of_getElem? (i := 6) rfl)) (wG_m12 (List.mem_of_getElem? (i := 0) rfl))) rfl rfl rfl (by decide +kernel) ⟨Nat.le_of_ble_eq_true rfl, Nat.le_of_ble_eq_true rfl⟩) (pw_ps hK hP hD [.int f]) rfl rfl hl.1 rfl (lv_room (Nat.le_of_ble_eq_true rfl)) d_MO_byteAt_21 ⟨Nat.le_of_ble_eq_true rfl, Nat.le_of_ble_eq_true rfl⟩) hD hS hA (fun r2 H locs hr hP hD hS => ?_)
    rcases hr with ⟨i, hi, rfl, rfl⟩ | ⟨hno, rfl⟩
    · refine pq_if_ne (tgt := 44) hx hb (by omega) d_MO_byteAt_24 (by decide) (fun h9 => absurd h9 (by omega)) (fun _ => ?_)
      have hcv : nI 2 * nI i + nI 0 = nI (2 * i + 0) := by rw [pk_mul, nI_add]
      rw [hcv] at hl
      have hs4 := (hv1.1 (2 * i + 0) (by omega)).1
      have e4 : S1 4 (2 * i + 0) = S 4 (2 * i + 0) := by rw [hb1 4 (by decide)]
      refine lv_iload_n hx hb d_MO_byteAt_27 rfl (lv_at hl 4 rfl) ?_
      refine lv_iconst (v := nI 0) hx hb d_MO_byteAt_28 (by decide) ?_
      refine lv_aload_n hx hb d_MO_byteAt_29 rfl (lv_at hl 1 rfl) ?_
      refine va_get (C := "PageDriveModel") (T := F_MO) (N := 11) hx hb hg iw_MO hown hK hP (0) mw_g0 rfl 6 (by decide) (hg (Cond.fieldLink "PageDriveModel" 20 "PageDriveModel" "sizes" "[I") (wG_m10 (List.mem_of_getElem? (i := 29) rfl))) (fun _ h9 => h9) rfl d_MO_byteAt_30 ?_
      refine lv_iload hx hb d_MO_byteAt_33 (lv_at hl 0 rfl) ?_
      refine pq_iald hx hb hK hP 4 0 mw_g4 rfl (by omega) (by omega) d_MO_byteAt_35 ?_
      refine lv_iconst (v := nI 1) hx hb d_MO_byteAt_36 (by decide) ?_
      refine lv_isub hx hb d_MO_byteAt_37 ?_
      refine pw_callip (va_runS (As := [.int z, .int (nI 0), .int (nI (S1 4 (2 * i + 0)) - nI 1)]) (rest := []) ⟨hx, hb, hml, hown, hg⟩ (c_MO_within l dC dI cI cB cE cL cZ (mw n am cI cL cZ S1) z (nI 0) (nI (S1 4 (2 * i + 0)) - nI 1) H.size) (cwS 3 hg (gi_S (fun _ h => h) (wG_m11 (List.mem_of_getElem? (i := 27) rfl)) (wG_m11 (List.mem_of_getElem? (i := 28) rfl)) (wG_m1 (List.mem_of_getElem? (i := 6) rfl)) (wG_m11 (List.mem_of_getElem? (i := 29) rfl))) rfl rfl rfl (by decide +kernel) ⟨Nat.le_of_ble_eq_true rfl, Nat.le_of_ble_eq_true rfl⟩) (pw_ps hK hP hD [.int z, .int (nI 0), .int (nI (S1 4 (2 * i + 0)) - nI 1)]) rfl rfl hl.1 rfl (lv_room (Nat.le_of_ble_eq_true rfl)) d_MO_byteAt_38 ⟨Nat.le_of_ble_eq_true rfl, Nat.le_of_ble_eq_true rfl⟩) hD hS hA (fun r3 H locs hr hP hD hS => ?_)
      rcases hr with ⟨hw1, hw2, rfl⟩ | ⟨hw1, rfl⟩
      · refine pq_if_ne (tgt := 52) hx hb (by omega) d_MO_byteAt_41 (by decide) (fun _ => ?_) (fun h9 => absurd h9 (by omega))
        obtain ⟨j, hj, rfl⟩ := pd_wi hs4 hw1 hw2
        have hk0 : j / 64 < pd_pf (S1 4 (2 * i + 0)) := by unfold pd_pf; omega
        refine lv_aload_n hx hb d_MO_byteAt_52 rfl (lv_at hl 1 rfl) ?_
        refine lv_iload hx hb d_MO_byteAt_53 (lv_at hl 0 rfl) ?_
        refine lv_iload_n hx hb d_MO_byteAt_55 rfl (lv_at hl 4 rfl) ?_
        refine pw_callip (va_runV (As := [.int (nI (2 * i + 0)), .int (nI j)]) (rest := []) ⟨hx, hb, hml, hown, hg⟩ (c_MO_read l dC dI cI cB cE cL cZ n am S1 (2 * i + 0) j (by omega) (by omega) (hv1.2.1 _ _ (by omega) hk0) hv1.2.2.2.2.2 H.size) (cwV 2 hg (gi_V (fun _ h => h) (wG_m13 (List.mem_of_getElem? (i := 31) rfl)) (wG_m13 (List.mem_of_getElem? (i := 32) rfl)) (wG_m14 (List.mem_of_getElem? (i := 22) rfl)) (wG_m1 (List.mem_of_getElem? (i := 6) rfl)) (wG_m13 (List.mem_of_getElem? (i := 33) rfl))) rfl rfl rfl (by decide +kernel) ⟨Nat.le_of_ble_eq_true rfl, Nat.le_of_ble_eq_true rfl⟩) (pw_pv hK hP hD (va_recv hK hP (ci := 4) (q0 := 0) rfl mw_g0) [.int (nI (2 * i + 0)), .int (nI j)]) rfl rfl hl.1 rfl (lv_room (Nat.le_of_ble_eq_true rfl)) d_MO_byteAt_56 ⟨Nat.le_of_ble_eq_true rfl, Nat.le_of_ble_eq_true rfl⟩) hD hS hA (fun r4 H locs hr hP hD hS => ?_)
        subst hr
        refine pq_top (y := nI (pd_by S (2 * i + 0) j)) (by rw [pd_sa_by hsa1 (by omega)]) ?_
        exact W.iret (v := (nI (pd_by S (2 * i + 0) j))) hx hb hret (fun t9 ht9 hW9 => ⟨⟨_, S1, rfl, ⟨hsa1, Or.inr ⟨h173, i, j, hi, rfl, by rw [← e4]; exact hj, rfl, rfl⟩⟩, by rw [ht9]; exact hP, va_K.moved hW9.alike hK, hD⟩, hS.F ht9⟩) hS.2.2 d_MO_byteAt_59
      · refine pq_if_ne (tgt := 52) hx hb (by omega) d_MO_byteAt_41 (by decide) (fun h9 => absurd h9 (by omega)) (fun _ => ?_)
        refine lv_aload_n hx hb d_MO_byteAt_44 rfl (lv_at hl 1 rfl) ?_
        refine lv_iconst (v := nI 1) hx hb d_MO_byteAt_45 (by decide) ?_
        refine pw_calli (va_runV (As := [.int (nI 1)]) (rest := []) ⟨hx, hb, hml, hown, hg⟩ (c_MO_fail l dC dI cI cB cE cL cZ n am S1 1 H.size) (cwV 1 hg (gi_V (fun _ h => h) (wG_m11 (List.mem_of_getElem? (i := 30) rfl)) (wG_m11 (List.mem_of_getElem? (i := 31) rfl)) (wG_m14 (List.mem_of_getElem? (i := 11) rfl)) (wG_m1 (List.mem_of_getElem? (i := 6) rfl)) (wG_m11 (List.mem_of_getElem? (i := 32) rfl))) rfl rfl rfl (by decide +kernel) ⟨Nat.le_of_ble_eq_true rfl, Nat.le_of_ble_eq_true rfl⟩) (pw_pv hK hP hD (va_recv hK hP (ci := 4) (q0 := 0) rfl mw_g0) [.int (nI 1)]) rfl rfl hl.1 rfl (lv_room (Nat.le_of_ble_eq_true rfl)) d_MO_byteAt_46 ⟨Nat.le_of_ble_eq_true rfl, Nat.le_of_ble_eq_true rfl⟩) hD hS hA (fun rf S2 H locs hr hP hD hS => ?_)
        obtain ⟨rfl, eS2⟩ := hr
        refine lv_goto (tgt := 59) hx hb d_MO_byteAt_49 (by decide) ?_
        exact W.iret (v := (nI 0)) hx hb hret (fun t9 ht9 hW9 => ⟨⟨_, S2, rfl, ⟨by rw [eS2]; exact hsa 1, Or.inl ⟨by rw [eS2, pd_self], Or.inr ⟨i, hi, rfl, fun j hj => pd_wn hs4 hw1 j (by rw [e4]; exact hj)⟩⟩⟩, by rw [ht9]; exact hP, va_K.moved hW9.alike hK, hD⟩, hS.F ht9⟩) hS.2.2 d_MO_byteAt_59
    · refine pq_if_ne (tgt := 44) hx hb (by omega) d_MO_byteAt_24 (by decide) (fun _ => ?_) (fun h9 => absurd h9 (by omega))
      refine lv_aload_n hx hb d_MO_byteAt_44 rfl (lv_at hl 1 rfl) ?_
      refine lv_iconst (v := nI 1) hx hb d_MO_byteAt_45 (by decide) ?_
      refine pw_calli (va_runV (As := [.int (nI 1)]) (rest := []) ⟨hx, hb, hml, hown, hg⟩ (c_MO_fail l dC dI cI cB cE cL cZ n am S1 1 H.size) (cwV 1 hg (gi_V (fun _ h => h) (wG_m11 (List.mem_of_getElem? (i := 30) rfl)) (wG_m11 (List.mem_of_getElem? (i := 31) rfl)) (wG_m14 (List.mem_of_getElem? (i := 11) rfl)) (wG_m1 (List.mem_of_getElem? (i := 6) rfl)) (wG_m11 (List.mem_of_getElem? (i := 32) rfl))) rfl rfl rfl (by decide +kernel) ⟨Nat.le_of_ble_eq_true rfl, Nat.le_of_ble_eq_true rfl⟩) (pw_pv hK hP hD (va_recv hK hP (ci := 4) (q0 := 0) rfl mw_g0) [.int (nI 1)]) rfl rfl hl.1 rfl (lv_room (Nat.le_of_ble_eq_true rfl)) d_MO_byteAt_46 ⟨Nat.le_of_ble_eq_true rfl, Nat.le_of_ble_eq_true rfl⟩) hD hS hA (fun rf S2 H locs hr hP hD hS => ?_)
      obtain ⟨rfl, eS2⟩ := hr
      refine lv_goto (tgt := 59) hx hb d_MO_byteAt_49 (by decide) ?_
      exact W.iret (v := (nI 0)) hx hb hret (fun t9 ht9 hW9 => ⟨⟨_, S2, rfl, ⟨by rw [eS2]; exact hsa 1, Or.inl ⟨by rw [eS2, pd_self], Or.inl hno⟩⟩, by rw [ht9]; exact hP, va_K.moved hW9.alike hK, hD⟩, hS.F ht9⟩) hS.2.2 d_MO_byteAt_59
  · have hbv : b = 1 := by omega
    subst hbv
    refine lv_iconst (v := nI 1) hx hb d_MO_byteAt_12 (by decide) ?_
    refine lv_goto (tgt := 17) hx hb d_MO_byteAt_13 (by decide) ?_
    refine lv_iadd hx hb d_MO_byteAt_17 ?_
    refine lv_istore (lv' := [(4, .int (((nI 2) * f) + (nI 1))), (0, .ref (am 0)), (1, .int f), (2, .int (nI 1)), (3, .int z)]) hx hb d_MO_byteAt_18 hl (by decide) rfl (fun ls hl => ?_)
    refine lv_iload_n hx hb d_MO_byteAt_20 rfl (lv_at hl 2 rfl) ?_
    refine pw_callip (va_runS (As := [.int f]) (rest := []) ⟨hx, hb, hml, hown, hg⟩ (c_MO_noFile l dC dI cI cB cE cL cZ (mw n am cI cL cZ S1) f H.size) (cwS 1 hg (gi_S (fun _ h => h) (wG_m11 (List.mem_of_getElem? (i := 38) rfl)) (wG_m11 (List.mem_of_getElem? (i := 39) rfl)) (wG_m1 (List.mem_of_getElem? (i := 6) rfl)) (wG_m12 (List.mem_of_getElem? (i := 0) rfl))) rfl rfl rfl (by decide +kernel) ⟨Nat.le_of_ble_eq_true rfl, Nat.le_of_ble_eq_true rfl⟩) (pw_ps hK hP hD [.int f]) rfl rfl hl.1 rfl (lv_room (Nat.le_of_ble_eq_true rfl)) d_MO_byteAt_21 ⟨Nat.le_of_ble_eq_true rfl, Nat.le_of_ble_eq_true rfl⟩) hD hS hA (fun r5 H locs hr hP hD hS => ?_)
    rcases hr with ⟨i, hi, rfl, rfl⟩ | ⟨hno, rfl⟩
    · refine pq_if_ne (tgt := 44) hx hb (by omega) d_MO_byteAt_24 (by decide) (fun h9 => absurd h9 (by omega)) (fun _ => ?_)
      have hcv : nI 2 * nI i + nI 1 = nI (2 * i + 1) := by rw [pk_mul, nI_add]
      rw [hcv] at hl
      have hs4 := (hv1.1 (2 * i + 1) (by omega)).1
      have e4 : S1 4 (2 * i + 1) = S 4 (2 * i + 1) := by rw [hb1 4 (by decide)]
      refine lv_iload_n hx hb d_MO_byteAt_27 rfl (lv_at hl 4 rfl) ?_
      refine lv_iconst (v := nI 0) hx hb d_MO_byteAt_28 (by decide) ?_
      refine lv_aload_n hx hb d_MO_byteAt_29 rfl (lv_at hl 1 rfl) ?_
      refine va_get (C := "PageDriveModel") (T := F_MO) (N := 11) hx hb hg iw_MO hown hK hP (0) mw_g0 rfl 6 (by decide) (hg (Cond.fieldLink "PageDriveModel" 20 "PageDriveModel" "sizes" "[I") (wG_m10 (List.mem_of_getElem? (i := 29) rfl))) (fun _ h9 => h9) rfl d_MO_byteAt_30 ?_
      refine lv_iload hx hb d_MO_byteAt_33 (lv_at hl 0 rfl) ?_
      refine pq_iald hx hb hK hP 4 0 mw_g4 rfl (by omega) (by omega) d_MO_byteAt_35 ?_
      refine lv_iconst (v := nI 1) hx hb d_MO_byteAt_36 (by decide) ?_
      refine lv_isub hx hb d_MO_byteAt_37 ?_
      refine pw_callip (va_runS (As := [.int z, .int (nI 0), .int (nI (S1 4 (2 * i + 1)) - nI 1)]) (rest := []) ⟨hx, hb, hml, hown, hg⟩ (c_MO_within l dC dI cI cB cE cL cZ (mw n am cI cL cZ S1) z (nI 0) (nI (S1 4 (2 * i + 1)) - nI 1) H.size) (cwS 3 hg (gi_S (fun _ h => h) (wG_m11 (List.mem_of_getElem? (i := 27) rfl)) (wG_m11 (List.mem_of_getElem? (i := 28) rfl)) (wG_m1 (List.mem_of_getElem? (i := 6) rfl)) (wG_m11 (List.mem_of_getElem? (i := 29) rfl))) rfl rfl rfl (by decide +kernel) ⟨Nat.le_of_ble_eq_true rfl, Nat.le_of_ble_eq_true rfl⟩) (pw_ps hK hP hD [.int z, .int (nI 0), .int (nI (S1 4 (2 * i + 1)) - nI 1)]) rfl rfl hl.1 rfl (lv_room (Nat.le_of_ble_eq_true rfl)) d_MO_byteAt_38 ⟨Nat.le_of_ble_eq_true rfl, Nat.le_of_ble_eq_true rfl⟩) hD hS hA (fun r6 H locs hr hP hD hS => ?_)
      rcases hr with ⟨hw1, hw2, rfl⟩ | ⟨hw1, rfl⟩
      · refine pq_if_ne (tgt := 52) hx hb (by omega) d_MO_byteAt_41 (by decide) (fun _ => ?_) (fun h9 => absurd h9 (by omega))
        obtain ⟨j, hj, rfl⟩ := pd_wi hs4 hw1 hw2
        have hk0 : j / 64 < pd_pf (S1 4 (2 * i + 1)) := by unfold pd_pf; omega
        refine lv_aload_n hx hb d_MO_byteAt_52 rfl (lv_at hl 1 rfl) ?_
        refine lv_iload hx hb d_MO_byteAt_53 (lv_at hl 0 rfl) ?_
        refine lv_iload_n hx hb d_MO_byteAt_55 rfl (lv_at hl 4 rfl) ?_
        refine pw_callip (va_runV (As := [.int (nI (2 * i + 1)), .int (nI j)]) (rest := []) ⟨hx, hb, hml, hown, hg⟩ (c_MO_read l dC dI cI cB cE cL cZ n am S1 (2 * i + 1) j (by omega) (by omega) (hv1.2.1 _ _ (by omega) hk0) hv1.2.2.2.2.2 H.size) (cwV 2 hg (gi_V (fun _ h => h) (wG_m13 (List.mem_of_getElem? (i := 31) rfl)) (wG_m13 (List.mem_of_getElem? (i := 32) rfl)) (wG_m14 (List.mem_of_getElem? (i := 22) rfl)) (wG_m1 (List.mem_of_getElem? (i := 6) rfl)) (wG_m13 (List.mem_of_getElem? (i := 33) rfl))) rfl rfl rfl (by decide +kernel) ⟨Nat.le_of_ble_eq_true rfl, Nat.le_of_ble_eq_true rfl⟩) (pw_pv hK hP hD (va_recv hK hP (ci := 4) (q0 := 0) rfl mw_g0) [.int (nI (2 * i + 1)), .int (nI j)]) rfl rfl hl.1 rfl (lv_room (Nat.le_of_ble_eq_true rfl)) d_MO_byteAt_56 ⟨Nat.le_of_ble_eq_true rfl, Nat.le_of_ble_eq_true rfl⟩) hD hS hA (fun r7 H locs hr hP hD hS => ?_)
        subst hr
        refine pq_top (y := nI (pd_by S (2 * i + 1) j)) (by rw [pd_sa_by hsa1 (by omega)]) ?_
        exact W.iret (v := (nI (pd_by S (2 * i + 1) j))) hx hb hret (fun t9 ht9 hW9 => ⟨⟨_, S1, rfl, ⟨hsa1, Or.inr ⟨h173, i, j, hi, rfl, by rw [← e4]; exact hj, rfl, rfl⟩⟩, by rw [ht9]; exact hP, va_K.moved hW9.alike hK, hD⟩, hS.F ht9⟩) hS.2.2 d_MO_byteAt_59
      · refine pq_if_ne (tgt := 52) hx hb (by omega) d_MO_byteAt_41 (by decide) (fun h9 => absurd h9 (by omega)) (fun _ => ?_)
        refine lv_aload_n hx hb d_MO_byteAt_44 rfl (lv_at hl 1 rfl) ?_
        refine lv_iconst (v := nI 1) hx hb d_MO_byteAt_45 (by decide) ?_
        refine pw_calli (va_runV (As := [.int (nI 1)]) (rest := []) ⟨hx, hb, hml, hown, hg⟩ (c_MO_fail l dC dI cI cB cE cL cZ n am S1 1 H.size) (cwV 1 hg (gi_V (fun _ h => h) (wG_m11 (List.mem_of_getElem? (i := 30) rfl)) (wG_m11 (List.mem_of_getElem? (i := 31) rfl)) (wG_m14 (List.mem_of_getElem? (i := 11) rfl)) (wG_m1 (List.mem_of_getElem? (i := 6) rfl)) (wG_m11 (List.mem_of_getElem? (i := 32) rfl))) rfl rfl rfl (by decide +kernel) ⟨Nat.le_of_ble_eq_true rfl, Nat.le_of_ble_eq_true rfl⟩) (pw_pv hK hP hD (va_recv hK hP (ci := 4) (q0 := 0) rfl mw_g0) [.int (nI 1)]) rfl rfl hl.1 rfl (lv_room (Nat.le_of_ble_eq_true rfl)) d_MO_byteAt_46 ⟨Nat.le_of_ble_eq_true rfl, Nat.le_of_ble_eq_true rfl⟩) hD hS hA (fun rf S2 H locs hr hP hD hS => ?_)
        obtain ⟨rfl, eS2⟩ := hr
        refine lv_goto (tgt := 59) hx hb d_MO_byteAt_49 (by decide) ?_
        exact W.iret (v := (nI 0)) hx hb hret (fun t9 ht9 hW9 => ⟨⟨_, S2, rfl, ⟨by rw [eS2]; exact hsa 1, Or.inl ⟨by rw [eS2, pd_self], Or.inr ⟨i, hi, rfl, fun j hj => pd_wn hs4 hw1 j (by rw [e4]; exact hj)⟩⟩⟩, by rw [ht9]; exact hP, va_K.moved hW9.alike hK, hD⟩, hS.F ht9⟩) hS.2.2 d_MO_byteAt_59
    · refine pq_if_ne (tgt := 44) hx hb (by omega) d_MO_byteAt_24 (by decide) (fun _ => ?_) (fun h9 => absurd h9 (by omega))
      refine lv_aload_n hx hb d_MO_byteAt_44 rfl (lv_at hl 1 rfl) ?_
      refine lv_iconst (v := nI 1) hx hb d_MO_byteAt_45 (by decide) ?_
      refine pw_calli (va_runV (As := [.int (nI 1)]) (rest := []) ⟨hx, hb, hml, hown, hg⟩ (c_MO_fail l dC dI cI cB cE cL cZ n am S1 1 H.size) (cwV 1 hg (gi_V (fun _ h => h) (wG_m11 (List.mem_of_getElem? (i := 30) rfl)) (wG_m11 (List.mem_of_getElem? (i := 31) rfl)) (wG_m14 (List.mem_of_getElem? (i := 11) rfl)) (wG_m1 (List.mem_of_getElem? (i := 6) rfl)) (wG_m11 (List.mem_of_getElem? (i := 32) rfl))) rfl rfl rfl (by decide +kernel) ⟨Nat.le_of_ble_eq_true rfl, Nat.le_of_ble_eq_true rfl⟩) (pw_pv hK hP hD (va_recv hK hP (ci := 4) (q0 := 0) rfl mw_g0) [.int (nI 1)]) rfl rfl hl.1 rfl (lv_room (Nat.le_of_ble_eq_true rfl)) d_MO_byteAt_46 ⟨Nat.le_of_ble_eq_true rfl, Nat.le_of_ble_eq_true rfl⟩) hD hS hA (fun rf S2 H locs hr hP hD hS => ?_)
      obtain ⟨rfl, eS2⟩ := hr
      refine lv_goto (tgt := 59) hx hb d_MO_byteAt_49 (by decide) ?_
      exact W.iret (v := (nI 0)) hx hb hret (fun t9 ht9 hW9 => ⟨⟨_, S2, rfl, ⟨by rw [eS2]; exact hsa 1, Or.inl ⟨by rw [eS2, pd_self], Or.inl hno⟩⟩, by rw [ht9]; exact hP, va_K.moved hW9.alike hK, hD⟩, hS.F ht9⟩) hS.2.2 d_MO_byteAt_59
set_option maxHeartbeats 4000000 in
set_option maxRecDepth 100000 in
/-- count -/
theorem c_MO_count (l : Launch) (dC : Nat → ClassId) (dI : Nat → Nat → Nat) (cI cB cE cL cZ : ClassId) (n : Nat) (am : Nat → Nat) (S : pdS) (z : Int32) (hv : pd_v 1024 S) (sz : Nat) : CMi l (dC, dI) (pw_ty cI cB cE cL cZ) y_MO_count w_MO_count ({ frames := 2, cells := 0, slots := 0, locals := 42 }) [.ref (am 0), .int z] (mw n am cI cL cZ S) (mw n am cI cL cZ) sz (fun r S2 => pd_sa S S2 ∧ ((∃ w, w ≤ 4 ∧ z = nI w ∧ r = nI (pd_co n (pd_nz (pd_ct S) 1024) S w)) ∨ ((∀ w, w ≤ 4 → z ≠ nI w) ∧ r = -1))) := by
  refine Met.ofW (cc := b_MO_count) (maxL := 2) (ret := (some .int)) (by decide) rfl ?_
  intro p e s m args below meth c s₁ B hml hv
  obtain ⟨rfl, hsz, hP, hK, hD0⟩ := hv
  have hx := B.exec
  have hb := B.bytes
  have hret := B.returns
  have hts := atoms_spec (ws := w_MO_count) B.pre
  have hg : ∀ w ∈ wsG, w.before _ s = true := fun w h => hts w (List.mem_cons_of_mem _ h)
  have hown : s.vm.findClass "PageDriveModel" = some m.cls := findClass_of_methodNamed B.named
  have hlocks := B.notSynchronized
  subst hsz
  have hD := hD0.self (sz := s.heap.size)
  generalize hAe : va_A (mw n am cI cL cZ S) s.heap.size = A at hD ⊢
  have hA : ∀ q : Nat, s.heap.size ≤ q → A q := fun q h => by rw [← hAe]; exact Or.inr h
  have hS : va_S A s.heap s.heap [] := va_S.rf
  have hl := lv_entry ([.ref (am 0), .int z]) (n := 2) (Nat.le_of_ble_eq_true rfl)
  rw [lg_entry_eq]
  generalize (lg_sl ([.ref (am 0), .int z]) ++ List.replicate (2 - (lg_sl ([.ref (am 0), .int z])).length) Slot.unset).toArray = ls at hl ⊢
  have hl : lv_has ls 2 [(0, .ref (am 0)), (1, .int z)] := hl
  refine lv_aload_n hx hb d_MO_count_0 rfl (lv_at hl 0 rfl) ?_
  refine lv_iconst (v := nI 0) hx hb d_MO_count_1 (by decide) ?_
  refine pm_thr hx hb hg hown hK hP hD hS (hg (Cond.fieldLink "PageDriveModel" 37 "PageDriveModel" "thrown" "I") (wG_m10 (List.mem_of_getElem? (i := 23) rfl))) d_MO_count_2 (fun H locs hP hD hS => ?_)
  generalize eS1 : pd_st S 7 3 0 = S1 at hP hD
  have hsa1 : pd_sa S S1 := by rw [← eS1]; exact pd_sa_73 S 0
  have hsa : ∀ v, pd_sa S (pd_st S1 7 3 v) := fun v => pd_sa_tr hsa1 (pd_sa_73 S1 v)
  have h173 : S1 7 3 = 0 := by rw [← eS1, pd_self]
  have hb1 : ∀ b, b ≠ 7 → S1 b = S b := fun b hb => by rw [← eS1, pd_bk _ hb]
  have hv1 := pd_sa_v hsa1 hv
  refine lv_iload_n hx hb d_MO_count_5 rfl (lv_at hl 1 rfl) ?_
  refine lv_if_lt (tgt := 14) hx hb d_MO_count_6 (by decide) (fun h1 => ?_) (fun h1 => ?_)
  · refine lv_iconst (v := (-1)) hx hb d_MO_count_14 (by decide) ?_
    exact W.iret (v := (-1)) hx hb hret (fun t9 ht9 hW9 => ⟨⟨_, S1, rfl, ⟨hsa1, Or.inr ⟨fun x hx => pd_below (a := 0) h1 x (by omega) (by omega), rfl⟩⟩, by rw [ht9]; exact hP, va_K.moved hW9.alike hK, hD⟩, hS.F ht9⟩) hS.2.2 d_MO_count_15
  · refine lv_iload_n hx hb d_MO_count_9 rfl (lv_at hl 1 rfl) ?_
    refine lv_iconst (v := nI 4) hx hb d_MO_count_10 (by decide) ?_
    refine lv_icmp_le (tgt := 16) hx hb d_MO_count_11 (by decide) (fun h2 => ?_) (fun h2 => ?_)
    · obtain ⟨w0, hwa, hwb, rfl⟩ := pd_rng (a := 0) (b := 4) (by decide) (by decide) h1 (fun q => Int32.lt_irrefl (Int32.lt_of_le_of_lt h2 q))
      rcases (show w0 = 0 ∨ w0 = 1 ∨ w0 = 2 ∨ w0 = 3 ∨ w0 = 4 by omega) with rfl | rfl | rfl | rfl | rfl
      · refine lv_iload_n hx hb d_MO_count_16 rfl (lv_at hl 1 rfl) ?_
        refine lv_iconst (v := nI 2) hx hb d_MO_count_17 (by decide) ?_
        refine pq_icmp_ge (tgt := 37) hx hb (by omega) (by omega) d_MO_count_18 (by decide) (fun h9 => absurd h9 (by omega)) (fun _ => ?_)
        refine lv_iload_n hx hb d_MO_count_21 rfl (lv_at hl 1 rfl) ?_
        refine pq_if_ne (tgt := 32) hx hb (by omega) d_MO_count_22 (by decide) (fun h9 => absurd h9 (by omega)) (fun _ => ?_)
        refine lv_aload_n hx hb d_MO_count_25 rfl (lv_at hl 0 rfl) ?_
        refine pw_calli (va_runV (As := []) (rest := []) ⟨hx, hb, hml, hown, hg⟩ (c_MO_look l dC dI cI cB cE cL cZ n am S1 hv1 H.size) (cwV 0 hg (gi_V (fun _ h => h) (wG_m12 (List.mem_of_getElem? (i := 1) rfl)) (wG_m12 (List.mem_of_getElem? (i := 2) rfl)) (wG_m14 (List.mem_of_getElem? (i := 12) rfl)) (wG_m1 (List.mem_of_getElem? (i := 6) rfl)) (wG_m12 (List.mem_of_getElem? (i := 3) rfl))) rfl rfl rfl (by decide +kernel) ⟨Nat.le_of_ble_eq_true rfl, Nat.le_of_ble_eq_true rfl⟩) (pw_pv hK hP hD (va_recv hK hP (ci := 4) (q0 := 0) rfl mw_g0) []) rfl rfl hl.1 rfl (lv_room (Nat.le_of_ble_eq_true rfl)) d_MO_count_26 ⟨Nat.le_of_ble_eq_true rfl, Nat.le_of_ble_eq_true rfl⟩) hD hS hA (fun r7 S7 H locs hr hP hD hS => ?_)
        obtain ⟨rfl, -, hS7⟩ := hr
        refine pq_top (y := nI (pd_co n (pd_nz (pd_ct S) 1024) S 0)) (by rw [show pd_ct S1 = pd_ct S from funext fun p => pd_sa_ct hsa1 p]; rfl) ?_
        refine lv_goto (tgt := 36) hx hb d_MO_count_29 (by decide) ?_
        exact W.iret (v := (nI (pd_co n (pd_nz (pd_ct S) 1024) S 0))) hx hb hret (fun t9 ht9 hW9 => ⟨⟨_, S7, rfl, ⟨pd_sa_tr hsa1 (pd_sa_1 hS7), Or.inl ⟨0, by omega, rfl, rfl⟩⟩, by rw [ht9]; exact hP, va_K.moved hW9.alike hK, hD⟩, hS.F ht9⟩) hS.2.2 d_MO_count_36
      · refine lv_iload_n hx hb d_MO_count_16 rfl (lv_at hl 1 rfl) ?_
        refine lv_iconst (v := nI 2) hx hb d_MO_count_17 (by decide) ?_
        refine pq_icmp_ge (tgt := 37) hx hb (by omega) (by omega) d_MO_count_18 (by decide) (fun h9 => absurd h9 (by omega)) (fun _ => ?_)
        refine lv_iload_n hx hb d_MO_count_21 rfl (lv_at hl 1 rfl) ?_
        refine pq_if_ne (tgt := 32) hx hb (by omega) d_MO_count_22 (by decide) (fun _ => ?_) (fun h9 => absurd h9 (by omega))
        refine lv_aload_n hx hb d_MO_count_32 rfl (lv_at hl 0 rfl) ?_
        refine va_get (C := "PageDriveModel") (T := F_MO) (N := 11) hx hb hg iw_MO hown hK hP (0) mw_g0 rfl 1 (by decide) (hg (Cond.fieldLink "PageDriveModel" 33 "PageDriveModel" "limit" "I") (wG_m10 (List.mem_of_getElem? (i := 24) rfl))) (fun _ h9 => h9) rfl d_MO_count_33 ?_
        refine pq_top (y := nI (pd_co n (pd_nz (pd_ct S) 1024) S 1)) (rfl) ?_
        exact W.iret (v := (nI (pd_co n (pd_nz (pd_ct S) 1024) S 1))) hx hb hret (fun t9 ht9 hW9 => ⟨⟨_, S1, rfl, ⟨hsa1, Or.inl ⟨1, by omega, rfl, rfl⟩⟩, by rw [ht9]; exact hP, va_K.moved hW9.alike hK, hD⟩, hS.F ht9⟩) hS.2.2 d_MO_count_36
      · refine lv_iload_n hx hb d_MO_count_16 rfl (lv_at hl 1 rfl) ?_
        refine lv_iconst (v := nI 2) hx hb d_MO_count_17 (by decide) ?_
        refine pq_icmp_ge (tgt := 37) hx hb (by omega) (by omega) d_MO_count_18 (by decide) (fun _ => ?_) (fun h9 => absurd h9 (by omega))
        refine lv_iload_n hx hb d_MO_count_37 rfl (lv_at hl 1 rfl) ?_
        refine lv_iconst (v := nI 2) hx hb d_MO_count_38 (by decide) ?_
        refine pq_icmp_ne (tgt := 49) hx hb (by omega) (by omega) d_MO_count_39 (by decide) (fun h9 => absurd h9 (by omega)) (fun _ => ?_)
        refine lv_aload_n hx hb d_MO_count_42 rfl (lv_at hl 0 rfl) ?_
        refine va_get (C := "PageDriveModel") (T := F_MO) (N := 11) hx hb hg iw_MO hown hK hP (0) mw_g0 rfl 9 (by decide) (hg (Cond.fieldLink "PageDriveModel" 69 "PageDriveModel" "copied" "I") (wG_m10 (List.mem_of_getElem? (i := 32) rfl))) (fun _ h9 => h9) rfl d_MO_count_43 ?_
        refine lv_goto (tgt := 65) hx hb d_MO_count_46 (by decide) ?_
        refine pq_top (y := nI (pd_co n (pd_nz (pd_ct S) 1024) S 2)) (by rw [show S1 7 1 = S 7 1 from hsa1.2.2.2.2.2.1]; rfl) ?_
        exact W.iret (v := (nI (pd_co n (pd_nz (pd_ct S) 1024) S 2))) hx hb hret (fun t9 ht9 hW9 => ⟨⟨_, S1, rfl, ⟨hsa1, Or.inl ⟨2, by omega, rfl, rfl⟩⟩, by rw [ht9]; exact hP, va_K.moved hW9.alike hK, hD⟩, hS.F ht9⟩) hS.2.2 d_MO_count_65
      · refine lv_iload_n hx hb d_MO_count_16 rfl (lv_at hl 1 rfl) ?_
        refine lv_iconst (v := nI 2) hx hb d_MO_count_17 (by decide) ?_
        refine pq_icmp_ge (tgt := 37) hx hb (by omega) (by omega) d_MO_count_18 (by decide) (fun _ => ?_) (fun h9 => absurd h9 (by omega))
        refine lv_iload_n hx hb d_MO_count_37 rfl (lv_at hl 1 rfl) ?_
        refine lv_iconst (v := nI 2) hx hb d_MO_count_38 (by decide) ?_
        refine pq_icmp_ne (tgt := 49) hx hb (by omega) (by omega) d_MO_count_39 (by decide) (fun _ => ?_) (fun h9 => absurd h9 (by omega))
        refine lv_iload_n hx hb d_MO_count_49 rfl (lv_at hl 1 rfl) ?_
        refine lv_iconst (v := nI 3) hx hb d_MO_count_50 (by decide) ?_
        refine pq_icmp_ne (tgt := 61) hx hb (by omega) (by omega) d_MO_count_51 (by decide) (fun h9 => absurd h9 (by omega)) (fun _ => ?_)
        refine lv_aload_n hx hb d_MO_count_54 rfl (lv_at hl 0 rfl) ?_
        refine va_get (C := "PageDriveModel") (T := F_MO) (N := 11) hx hb hg iw_MO hown hK hP (0) mw_g0 rfl 2 (by decide) (hg (Cond.fieldLink "PageDriveModel" 48 "PageDriveModel" "fed" "I") (wG_m10 (List.mem_of_getElem? (i := 25) rfl))) (fun _ h9 => h9) rfl d_MO_count_55 ?_
        refine lv_goto (tgt := 65) hx hb d_MO_count_58 (by decide) ?_
        refine pq_top (y := nI (pd_co n (pd_nz (pd_ct S) 1024) S 3)) (by rw [show S1 7 2 = S 7 2 from hsa1.2.2.2.2.2.2.1]; rfl) ?_
        exact W.iret (v := (nI (pd_co n (pd_nz (pd_ct S) 1024) S 3))) hx hb hret (fun t9 ht9 hW9 => ⟨⟨_, S1, rfl, ⟨hsa1, Or.inl ⟨3, by omega, rfl, rfl⟩⟩, by rw [ht9]; exact hP, va_K.moved hW9.alike hK, hD⟩, hS.F ht9⟩) hS.2.2 d_MO_count_65
      · refine lv_iload_n hx hb d_MO_count_16 rfl (lv_at hl 1 rfl) ?_
        refine lv_iconst (v := nI 2) hx hb d_MO_count_17 (by decide) ?_
        refine pq_icmp_ge (tgt := 37) hx hb (by omega) (by omega) d_MO_count_18 (by decide) (fun _ => ?_) (fun h9 => absurd h9 (by omega))
        refine lv_iload_n hx hb d_MO_count_37 rfl (lv_at hl 1 rfl) ?_
        refine lv_iconst (v := nI 2) hx hb d_MO_count_38 (by decide) ?_
        refine pq_icmp_ne (tgt := 49) hx hb (by omega) (by omega) d_MO_count_39 (by decide) (fun _ => ?_) (fun h9 => absurd h9 (by omega))
        refine lv_iload_n hx hb d_MO_count_49 rfl (lv_at hl 1 rfl) ?_
        refine lv_iconst (v := nI 3) hx hb d_MO_count_50 (by decide) ?_
        refine pq_icmp_ne (tgt := 61) hx hb (by omega) (by omega) d_MO_count_51 (by decide) (fun _ => ?_) (fun h9 => absurd h9 (by omega))
        refine lv_aload_n hx hb d_MO_count_61 rfl (lv_at hl 0 rfl) ?_
        refine pw_callip (va_runV (As := []) (rest := []) ⟨hx, hb, hml, hown, hg⟩ (c_MO_present l dC dI cI cB cE cL cZ n am S1 (fun d hd => (hv1.1 d hd).2.1) H.size) (cwV 0 hg (gi_V (fun _ h => h) (wG_m13 (List.mem_of_getElem? (i := 17) rfl)) (wG_m13 (List.mem_of_getElem? (i := 18) rfl)) (wG_m14 (List.mem_of_getElem? (i := 20) rfl)) (wG_m1 (List.mem_of_getElem? (i := 6) rfl)) (wG_m13 (List.mem_of_getElem? (i := 19) rfl))) rfl rfl rfl (by decide +kernel) ⟨Nat.le_of_ble_eq_true rfl, Nat.le_of_ble_eq_true rfl⟩) (pw_pv hK hP hD (va_recv hK hP (ci := 4) (q0 := 0) rfl mw_g0) []) rfl rfl hl.1 rfl (lv_room (Nat.le_of_ble_eq_true rfl)) d_MO_count_62 ⟨Nat.le_of_ble_eq_true rfl, Nat.le_of_ble_eq_true rfl⟩) hD hS hA (fun r2 H locs hr hP hD hS => ?_)
        subst hr
        refine pq_top (y := nI (pd_co n (pd_nz (pd_ct S) 1024) S 4)) (by rw [pd_th_sa hsa1]; rfl) ?_
        exact W.iret (v := (nI (pd_co n (pd_nz (pd_ct S) 1024) S 4))) hx hb hret (fun t9 ht9 hW9 => ⟨⟨_, S1, rfl, ⟨hsa1, Or.inl ⟨4, by omega, rfl, rfl⟩⟩, by rw [ht9]; exact hP, va_K.moved hW9.alike hK, hD⟩, hS.F ht9⟩) hS.2.2 d_MO_count_65
    · refine lv_iconst (v := (-1)) hx hb d_MO_count_14 (by decide) ?_
      exact W.iret (v := (-1)) hx hb hret (fun t9 ht9 hW9 => ⟨⟨_, S1, rfl, ⟨hsa1, Or.inr ⟨fun x hx => pd_above (b := 4) (by decide) (Int32.not_le.mp h2) x hx, rfl⟩⟩, by rw [ht9]; exact hP, va_K.moved hW9.alike hK, hD⟩, hS.F ht9⟩) hS.2.2 d_MO_count_15
