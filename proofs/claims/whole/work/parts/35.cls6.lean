/-! THE CLASS, 6: feed, count, byteAt .. -/
set_option maxHeartbeats 4000000 in
set_option maxRecDepth 100000 in
/-- feed -/
theorem c_PD_feed (l : Launch) (dC : Nat → ClassId) (dI : Nat → Nat → Nat) (cI cB cE cL cZ : ClassId) (hst : l.stackTraces = false) (n : Nat) (ad : Nat → Nat) (S : pdS) (x : Int64) (k : Int32) (h72 : S 7 2 ≤ 4096) (sz : Nat) : CXi l (dC, dI) (pw_ty cI cB cE cL cZ) y_PD_feed w_PD_feed ({ frames := 6, cells := 1, slots := 6, locals := 82 }) [.ref (ad 0), .long x, .int k] (pw n ad cI cB cE S) (pw n ad cI cB cE) sz (fun r S2 => ∃ j, 1 ≤ j ∧ j ≤ 8 ∧ k = nI j ∧ S 7 2 + j ≤ 4096 ∧ r = nI (S 7 2 + j) ∧ S2 = pd_fd S x j) (fun E S2 => (E = "java/lang/IllegalArgumentException" ∧ (∀ j, 1 ≤ j → j ≤ 8 → k ≠ nI j) ∧ S2 = S) ∨ (E = "java/lang/IllegalStateException" ∧ ∃ j, 1 ≤ j ∧ j ≤ 8 ∧ k = nI j ∧ 4096 < S 7 2 + j ∧ S2 = S)) := by
  refine vx_ofW (cc := b_PD_feed) (maxL := 5) (ret := (some .int)) (by decide) rfl ?_
  intro p e s m args below meth c s₁ B hml htab hv
  obtain ⟨rfl, ⟨hsz, hP, hK, hD0⟩, hKK, hZ⟩ := hv
  have hx := B.exec
  have hb := B.bytes
  have hret := B.returns
  have hts := atoms_spec (ws := w_PD_feed) B.pre
  have hg : ∀ w ∈ wsG, w.before _ s = true := fun w h => hts w (List.mem_cons_of_mem _ h)
  have hown : s.vm.findClass "PageDrive" = some m.cls := findClass_of_methodNamed B.named
  have hlocks := B.notSynchronized
  subst hsz
  have hD := hD0.self (sz := s.heap.size)
  generalize hAe : va_A (pw n ad cI cB cE S) s.heap.size = A at hD hZ ⊢
  have hA : ∀ q : Nat, s.heap.size ≤ q → A q := fun q h => by rw [← hAe]; exact Or.inr h
  have hS : va_S A s.heap s.heap [] := va_S.rf
  have hl := lv_entry ([.ref (ad 0), .long x, .int k]) (n := 5) (Nat.le_of_ble_eq_true rfl)
  rw [lg_entry_eq]
  generalize (lg_sl ([.ref (ad 0), .long x, .int k]) ++ List.replicate (5 - (lg_sl ([.ref (ad 0), .long x, .int k])).length) Slot.unset).toArray = ls at hl ⊢
  have hl : lv_has ls 5 [(0, .ref (ad 0)), (1, .long x), (3, .int k)] := hl
  refine lv_iload_n hx hb d_PD_feed_0 rfl (lv_at hl 2 rfl) ?_
  refine lv_iconst (v := nI 1) hx hb d_PD_feed_1 (by decide) ?_
  refine lv_icmp_lt (tgt := 11) hx hb d_PD_feed_2 (by decide) (fun h1 => ?_) (fun h1 => ?_)
  · obtain ⟨sa, hstr⟩ := hKK.2.1 (44, "not 1 to 8 bytes") (by decide +kernel)
    exact vx_throwS hx hb hst hown (cls := "java/lang/IllegalArgumentException") (names := pgNm) xf_46 xn_nm (hg (Cond.classLink "PageDrive" 42 "java/lang/IllegalArgumentException") (wG_m5 (List.mem_of_getElem? (i := 5) rfl))) (hg (Cond.initialized "java/lang/IllegalArgumentException") (wG_m1 (List.mem_of_getElem? (i := 10) rfl))) hstr (pg_hat xa_46 hg hKK.1) xo_46 hZ.1 hZ.2 hS (hl.1.trans hml.symm) d_PD_feed_11 d_PD_feed_14 d_PD_feed_15 d_PD_feed_17 d_PD_feed_20 (fun x h => (htab x h).elim) (Nat.le_of_ble_eq_true rfl) (Nat.le_of_ble_eq_true rfl) (Nat.le_of_ble_eq_true rfl) (Nat.le_of_ble_eq_true rfl) hlocks (fun t9 hy1 hy2 hy3 => ⟨("java/lang/IllegalArgumentException", S), Or.inl ⟨rfl, fun j h1j h2j => pd_below h1 j h1j (by omega), rfl⟩, ⟨rfl, (px_end (Wf := fun S => pw n ad cI cB cE S) hK hP hD hS t9 hy1 hy2 hy3).1⟩, (px_end (Wf := fun S => pw n ad cI cB cE S) hK hP hD hS t9 hy1 hy2 hy3).2⟩) hS.2.2 (Nat.le_of_ble_eq_true rfl) (Nat.le_of_ble_eq_true rfl)
  · refine lv_iload_n hx hb d_PD_feed_5 rfl (lv_at hl 2 rfl) ?_
    refine lv_bipush (v := nI 8) hx hb d_PD_feed_6 (by decide) ?_
    refine lv_icmp_le (tgt := 21) hx hb d_PD_feed_8 (by decide) (fun h2 => ?_) (fun h2 => ?_)
    · obtain ⟨j, hj1, hj2, rfl⟩ := pd_rng (a := 1) (b := 8) (by decide) (by decide) h1 (fun q => Int32.lt_irrefl (Int32.lt_of_le_of_lt h2 q))
      refine lv_aload_n hx hb d_PD_feed_21 rfl (lv_at hl 0 rfl) ?_
      refine va_get (C := "PageDrive") (T := F_PD) (N := 4) hx hb hg iw_PD hown hK hP (0) pw_g0 rfl 3 (by decide) (hg (Cond.fieldLink "PageDrive" 38 "PageDrive" "taped" "I") (wG_m3 (List.mem_of_getElem? (i := 20) rfl))) (fun _ h9 => h9) rfl d_PD_feed_22 ?_
      refine lv_iload_n hx hb d_PD_feed_25 rfl (lv_at hl 2 rfl) ?_
      refine pq_iadd hx hb d_PD_feed_26 ?_
      refine lv_sipush (v := nI 4096) hx hb d_PD_feed_27 (by decide) ?_
      refine pq_icmp_le (tgt := 43) hx hb (by omega) (by omega) d_PD_feed_30 (by decide) (fun h3 => ?_) (fun h3 => ?_)
      · refine lv_iconst (v := nI 0) hx hb d_PD_feed_43 (by decide) ?_
        refine lv_istore (lv' := [(4, .int (nI 0)), (0, .ref (ad 0)), (1, .long x), (3, .int (nI j))]) hx hb d_PD_feed_44 hl (by decide) rfl (fun ls hl => ?_)
        refine pw_loop (fun mm H locs ls => ∃ (T : pdS) (i : Nat), mm = j - i ∧ i ≤ j ∧ T = pd_tp S x (S 7 2) i ∧ va_P (dC, dI) pwCl (pw n ad cI cB cE T) H ∧ va_D A (pw n ad cI cB cE T) ∧ va_S A s.heap H locs ∧ lv_has ls 5 [(4, .int (nI i)), (0, .ref (ad 0)), (1, .long x), (3, .int (nI j))]) ?_ _ _ _ _ ⟨S, 0, rfl, by omega, rfl, hP, hD, hS, hl⟩
        rintro mm H locs ls ⟨T, i, hmm, hi, hT, hP, hD, hS, hl⟩ ih
        have hT7 : T 7 = S 7 := by rw [hT, pd_tp_bk (by decide)]
        have hT72 : T 7 2 = S 7 2 := by rw [hT7]
        refine lv_iload hx hb d_PD_feed_46 (lv_at hl 0 rfl) ?_
        refine lv_iload_n hx hb d_PD_feed_48 rfl (lv_at hl 3 rfl) ?_
        refine pq_icmp_ge (tgt := 79) hx hb (by omega) (by omega) d_PD_feed_49 (by decide) (fun h4 => ?_) (fun h4 => ?_)
        · have hij : i = j := by omega
          subst hij
          refine lv_aload_n hx hb d_PD_feed_79 rfl (lv_at hl 1 rfl) ?_
          refine lv_dup hx hb d_PD_feed_80 rfl ?_
          refine va_get (C := "PageDrive") (T := F_PD) (N := 4) hx hb hg iw_PD hown hK hP (0) pw_g0 rfl 3 (by decide) (hg (Cond.fieldLink "PageDrive" 38 "PageDrive" "taped" "I") (wG_m3 (List.mem_of_getElem? (i := 20) rfl))) (fun _ h9 => h9) rfl d_PD_feed_81 ?_
          refine lv_iload_n hx hb d_PD_feed_84 rfl (lv_at hl 3 rfl) ?_
          refine pq_iadd hx hb d_PD_feed_85 ?_
          refine pr_taped hx hb hg hown hK hP hD hS (hg (Cond.fieldLink "PageDrive" 38 "PageDrive" "taped" "I") (wG_m3 (List.mem_of_getElem? (i := 20) rfl))) d_PD_feed_86 (fun H locs hP hD hS => ?_)
          generalize eS1 : pd_st T 7 2 ((T 7 2) + i) = S1 at hP hD
          have h1v : S1 7 2 = S 7 2 + i := by rw [← eS1, pd_self, hT72]
          refine lv_aload_n hx hb d_PD_feed_89 rfl (lv_at hl 1 rfl) ?_
          refine va_get (C := "PageDrive") (T := F_PD) (N := 4) hx hb hg iw_PD hown hK hP (0) pw_g0 rfl 3 (by decide) (hg (Cond.fieldLink "PageDrive" 38 "PageDrive" "taped" "I") (wG_m3 (List.mem_of_getElem? (i := 20) rfl))) (fun _ h9 => h9) rfl d_PD_feed_90 ?_
          refine pq_top (y := nI (S 7 2 + i)) (by rw [h1v]) ?_
          refine W.widen (k := 1) (n := 6) (by omega) (by omega) ?_
          exact vx_ret (W.iret (v := (nI (S 7 2 + i))) hx hb hret (fun t9 ht9 hW9 => ⟨⟨_, _, rfl, ⟨i, hj1, hj2, rfl, h3, rfl, by rw [← eS1, hT72, hT]; rfl⟩, by rw [ht9]; exact hP, va_K.moved hW9.alike hK, hD⟩, hS.F ht9⟩) hS.2.2 d_PD_feed_93)
        · refine lv_aload_n hx hb d_PD_feed_52 rfl (lv_at hl 1 rfl) ?_
          refine va_get (C := "PageDrive") (T := F_PD) (N := 4) hx hb hg iw_PD hown hK hP (0) pw_g0 rfl 2 (by decide) (hg (Cond.fieldLink "PageDrive" 34 "PageDrive" "tape" "[B") (wG_m3 (List.mem_of_getElem? (i := 19) rfl))) (fun _ h9 => h9) rfl d_PD_feed_53 ?_
          refine lv_aload_n hx hb d_PD_feed_56 rfl (lv_at hl 1 rfl) ?_
          refine va_get (C := "PageDrive") (T := F_PD) (N := 4) hx hb hg iw_PD hown hK hP (0) pw_g0 rfl 3 (by decide) (hg (Cond.fieldLink "PageDrive" 38 "PageDrive" "taped" "I") (wG_m3 (List.mem_of_getElem? (i := 20) rfl))) (fun _ h9 => h9) rfl d_PD_feed_57 ?_
          refine lv_iload hx hb d_PD_feed_60 (lv_at hl 0 rfl) ?_
          refine pq_iadd hx hb d_PD_feed_62 ?_
          refine lv_lload_n hx hb d_PD_feed_63 rfl (lv_at hl 2 rfl) ?_
          refine lv_bipush (v := nI 8) hx hb d_PD_feed_64 (by decide) ?_
          refine lv_iload hx hb d_PD_feed_66 (lv_at hl 0 rfl) ?_
          refine pq_imul hx hb d_PD_feed_68 ?_
          refine lv_lushr hx hb d_PD_feed_69 rfl ?_
          refine lv_l2i hx hb d_PD_feed_70 rfl ?_
          refine lv_i2b hx hb d_PD_feed_71 rfl ?_
          refine pq_top (y := sb_b (pd_bv x i)) (pd_rb x (by omega)) ?_
          refine pr_tape (v := pd_bv x i) hx hb hK hP hD hS (by omega) (by omega) rfl d_PD_feed_72 (fun H locs hP hD hS => ?_)
          generalize eS2 : pd_st T 3 ((T 7 2) + i) (pd_bv x i) = S2 at hP hD
          refine lv_iinc (v := (nI (i + 1))) (lv' := [(4, .int (nI (i + 1))), (0, .ref (ad 0)), (1, .long x), (3, .int (nI j))]) hx hb d_PD_feed_73 hl (k := 0) rfl (pq_inc _) (by decide) rfl (fun ls hl => ?_)
          refine lv_goto (tgt := 46) hx hb d_PD_feed_76 (by decide) ?_
          exact ih _ _ _ _ (by omega) ⟨_, i + 1, rfl, by omega, by rw [← eS2, hT72, hT]; rfl, hP, hD, hS, hl⟩
      · obtain ⟨sa, hstr⟩ := hKK.2.1 (51, "the tape has no place for these bytes") (by decide +kernel)
        exact vx_throwS hx hb hst hown (cls := "java/lang/IllegalStateException") (names := pgNm) xf_53 xn_nm (hg (Cond.classLink "PageDrive" 49 "java/lang/IllegalStateException") (wG_m6 (List.mem_of_getElem? (i := 22) rfl))) (hg (Cond.initialized "java/lang/IllegalStateException") (wG_m1 (List.mem_of_getElem? (i := 11) rfl))) hstr (pg_hat xa_53 hg hKK.1) xo_53 hZ.1 hZ.2 hS (hl.1.trans hml.symm) d_PD_feed_33 d_PD_feed_36 d_PD_feed_37 d_PD_feed_39 d_PD_feed_42 (fun x h => (htab x h).elim) (Nat.le_of_ble_eq_true rfl) (Nat.le_of_ble_eq_true rfl) (Nat.le_of_ble_eq_true rfl) (Nat.le_of_ble_eq_true rfl) hlocks (fun t9 hy1 hy2 hy3 => ⟨("java/lang/IllegalStateException", S), Or.inr ⟨rfl, j, hj1, hj2, rfl, by omega, rfl⟩, ⟨rfl, (px_end (Wf := fun S => pw n ad cI cB cE S) hK hP hD hS t9 hy1 hy2 hy3).1⟩, (px_end (Wf := fun S => pw n ad cI cB cE S) hK hP hD hS t9 hy1 hy2 hy3).2⟩) hS.2.2 (Nat.le_of_ble_eq_true rfl) (Nat.le_of_ble_eq_true rfl)
    · obtain ⟨sa, hstr⟩ := hKK.2.1 (44, "not 1 to 8 bytes") (by decide +kernel)
      exact vx_throwS hx hb hst hown (cls := "java/lang/IllegalArgumentException") (names := pgNm) xf_46 xn_nm (hg (Cond.classLink "PageDrive" 42 "java/lang/IllegalArgumentException") (wG_m5 (List.mem_of_getElem? (i := 5) rfl))) (hg (Cond.initialized "java/lang/IllegalArgumentException") (wG_m1 (List.mem_of_getElem? (i := 10) rfl))) hstr (pg_hat xa_46 hg hKK.1) xo_46 hZ.1 hZ.2 hS (hl.1.trans hml.symm) d_PD_feed_11 d_PD_feed_14 d_PD_feed_15 d_PD_feed_17 d_PD_feed_20 (fun x h => (htab x h).elim) (Nat.le_of_ble_eq_true rfl) (Nat.le_of_ble_eq_true rfl) (Nat.le_of_ble_eq_true rfl) (Nat.le_of_ble_eq_true rfl) hlocks (fun t9 hy1 hy2 hy3 => ⟨("java/lang/IllegalArgumentException", S), Or.inl ⟨rfl, fun j h1j h2j => pd_above (b := 8) (by decide) (Int32.not_le.mp h2) j h2j, rfl⟩, ⟨rfl, (px_end (Wf := fun S => pw n ad cI cB cE S) hK hP hD hS t9 hy1 hy2 hy3).1⟩, (px_end (Wf := fun S => pw n ad cI cB cE S) hK hP hD hS t9 hy1 hy2 hy3).2⟩) hS.2.2 (Nat.le_of_ble_eq_true rfl) (Nat.le_of_ble_eq_true rfl)
