/-! THE CLASS, 8: file, byteAt, count, crashAll -/
set_option maxHeartbeats 4000000 in
set_option maxRecDepth 100000 in
/-- file -/
theorem c_PD_file (l : Launch) (dC : Nat → ClassId) (dI : Nat → Nat → Nat) (cI cB cE cL cZ : ClassId) (hst : l.stackTraces = false) (n : Nat) (ad : Nat → Nat) (S : pdS) (f z : Int32) (hn : n ≤ 1024) (hv : pd_v n S) (ho : pd_ok n S (pd_ct S)) (sz : Nat) : CXi l (dC, dI) (pw_ty cI cB cE cL cZ) y_PD_file w_PD_file ({ frames := 6, cells := 1, slots := 6, locals := 82 }) [.ref (ad 0), .int f, .int z] (pw n ad cI cB cE S) (pw n ad cI cB cE) sz (fun r S2 => S2 = S ∧ ∃ i w, i < 16 ∧ f = nI i ∧ w ≤ 7 ∧ z = nI w ∧ r = nI (pd_fi S i w)) (fun E S2 => S2 = S ∧ E = "java/lang/IndexOutOfBoundsException" ∧ (pd_nof f ∨ ∀ w, w ≤ 7 → z ≠ nI w)) := by
  refine vx_ofW (cc := b_PD_file) (maxL := 4) (ret := (some .int)) (by decide) rfl ?_
  intro p e s m args below meth c s₁ B hml htab hv
  obtain ⟨rfl, ⟨hsz, hP, hK, hD0⟩, hKK, hZ⟩ := hv
  have hx := B.exec
  have hb := B.bytes
  have hret := B.returns
  have hts := atoms_spec (ws := w_PD_file) B.pre
  have hg : ∀ w ∈ wsG, w.before _ s = true := fun w h => hts w (List.mem_cons_of_mem _ h)
  have hown : s.vm.findClass "PageDrive" = some m.cls := findClass_of_methodNamed B.named
  have hlocks := B.notSynchronized
  subst hsz
  have hD := hD0.self (sz := s.heap.size)
  generalize hAe : va_A (pw n ad cI cB cE S) s.heap.size = A at hD hZ ⊢
  have hA : ∀ q : Nat, s.heap.size ≤ q → A q := fun q h => by rw [← hAe]; exact Or.inr h
  have hS : va_S A s.heap s.heap [] := va_S.rf
  have hl := lv_entry ([.ref (ad 0), .int f, .int z]) (n := 4) (Nat.le_of_ble_eq_true rfl)
  rw [lg_entry_eq]
  generalize (lg_sl ([.ref (ad 0), .int f, .int z]) ++ List.replicate (4 - (lg_sl ([.ref (ad 0), .int f, .int z])).length) Slot.unset).toArray = ls at hl ⊢
  have hl : lv_has ls 4 [(0, .ref (ad 0)), (1, .int f), (2, .int z)] := hl
  refine lv_iload_n hx hb d_PD_file_0 rfl (lv_at hl 1 rfl) ?_
  refine pw_callip (va_runS (As := [.int f]) (rest := []) ⟨hx, hb, hml, hown, hg⟩ (c_PD_isFile l dC dI cI cB cE cL cZ (pw n ad cI cB cE S) f s.heap.size) (cwS 1 hg (gi_S (fun _ h => h) (wG_m7 (List.mem_of_getElem? (i := 5) rfl)) (wG_m7 (List.mem_of_getElem? (i := 6) rfl)) (wG_m1 (List.mem_of_getElem? (i := 1) rfl)) (wG_m7 (List.mem_of_getElem? (i := 7) rfl))) rfl rfl rfl (by decide +kernel) ⟨Nat.le_of_ble_eq_true rfl, Nat.le_of_ble_eq_true rfl⟩) (pw_ps hK hP hD [.int f]) rfl rfl hl.1 rfl (lv_room (Nat.le_of_ble_eq_true rfl)) d_PD_file_1 ⟨Nat.le_of_ble_eq_true rfl, Nat.le_of_ble_eq_true rfl⟩) hD hS hA (fun r1 H locs hr hP hD hS => ?_)
  rcases hr with ⟨i, hi, rfl, rfl⟩ | ⟨hno, rfl⟩
  · refine pq_if_eq (tgt := 17) hx hb (by omega) d_PD_file_4 (by decide) (fun h9 => absurd h9 (by omega)) (fun _ => ?_)
    refine lv_iload_n hx hb d_PD_file_7 rfl (lv_at hl 2 rfl) ?_
    refine lv_if_lt (tgt := 17) hx hb d_PD_file_8 (by decide) (fun h1 => ?_) (fun h1 => ?_)
    · obtain ⟨sa, hstr⟩ := hKK.2.1 (141, "no such file number, or nothing to be asked of it") (by decide +kernel)
      exact vx_throwS hx hb hst hown (cls := "java/lang/IndexOutOfBoundsException") (names := pgNm) xf_62 xn_nm (hg (Cond.classLink "PageDrive" 58 "java/lang/IndexOutOfBoundsException") (wG_m7 (List.mem_of_getElem? (i := 8) rfl))) (hg (Cond.initialized "java/lang/IndexOutOfBoundsException") (wG_m1 (List.mem_of_getElem? (i := 12) rfl))) hstr (pg_hat xa_62 hg hKK.1) xo_62 hZ.1 hZ.2 hS (hl.1.trans hml.symm) d_PD_file_17 d_PD_file_20 d_PD_file_21 d_PD_file_23 d_PD_file_26 (fun x h => (htab x h).elim) (Nat.le_of_ble_eq_true rfl) (Nat.le_of_ble_eq_true rfl) (Nat.le_of_ble_eq_true rfl) (Nat.le_of_ble_eq_true rfl) hlocks (fun t9 hy1 hy2 hy3 => ⟨("java/lang/IndexOutOfBoundsException", S), ⟨rfl, rfl, Or.inr (fun w hw => pd_below (a := 0) h1 w (by omega) (by omega))⟩, ⟨rfl, (px_end (Wf := fun S => pw n ad cI cB cE S) hK hP hD hS t9 hy1 hy2 hy3).1⟩, (px_end (Wf := fun S => pw n ad cI cB cE S) hK hP hD hS t9 hy1 hy2 hy3).2⟩) hS.2.2 (Nat.le_of_ble_eq_true rfl) (Nat.le_of_ble_eq_true rfl)
    · refine lv_iload_n hx hb d_PD_file_11 rfl (lv_at hl 2 rfl) ?_
      refine lv_bipush (v := nI 7) hx hb d_PD_file_12 (by decide) ?_
      refine lv_icmp_le (tgt := 27) hx hb d_PD_file_14 (by decide) (fun h2 => ?_) (fun h2 => ?_)
      · obtain ⟨w0, hw1, hw2, rfl⟩ := pd_rng (a := 0) (b := 7) (by decide) (by decide) h1 (fun q => Int32.lt_irrefl (Int32.lt_of_le_of_lt h2 q))
        have hs4 := (hv.1 (2 * i) (by omega)).1
        have hs5 := (hv.1 (2 * i) (by omega)).2.1
        have hs4s := (hv.1 (2 * i + 1) (by omega)).1
        have hs5s := (hv.1 (2 * i + 1) (by omega)).2.1
        refine lv_aload_n hx hb d_PD_file_27 rfl (lv_at hl 0 rfl) ?_
        refine va_get (C := "PageDrive") (T := F_PD) (N := 4) hx hb hg iw_PD hown hK hP (0) pw_g0 rfl 1 (by decide) (hg (Cond.fieldLink "PageDrive" 29 "PageDrive" "entries" "[LPageDrive$Entry;") (wG_m3 (List.mem_of_getElem? (i := 18) rfl))) (fun _ h9 => h9) rfl d_PD_file_28 ?_
        refine lv_iload_n hx hb d_PD_file_31 rfl (lv_at hl 1 rfl) ?_
        refine pr_ent hx hb hK hP (i := i) (by omega) rfl d_PD_file_32 ?_
        refine lv_astore_n (lv' := [(3, .ref (ad (7 + i))), (0, .ref (ad 0)), (1, .int (nI i)), (2, .int (nI w0))]) hx hb d_PD_file_33 rfl hl (by decide) rfl (fun ls hl => ?_)
        refine lv_iload_n hx hb d_PD_file_34 rfl (lv_at hl 3 rfl) ?_
        rcases (show w0 = 0 ∨ w0 = 1 ∨ w0 = 2 ∨ w0 = 3 ∨ w0 = 4 ∨ w0 = 5 ∨ w0 = 6 ∨ w0 = 7 by omega) with rfl | rfl | rfl | rfl | rfl | rfl | rfl | rfl
        · refine lv_tableIn (tgt := 76) hx hb d_PD_file_35 (by decide) (by decide) rfl (by decide) ?_
          refine lv_aload_n hx hb d_PD_file_76 rfl (lv_at hl 0 rfl) ?_
          refine va_get (C := "PageDrive$Entry") (T := F_EN) (N := 3) hx hb hg iw_EN hown hK hP (7 + i) (pw_gE (i := i) (by omega)) rfl 0 (by decide) (hg (Cond.fieldLink "PageDrive" 63 "PageDrive$Entry" "now" "LPageDrive$Content;") (wG_m3 (List.mem_of_getElem? (i := 5) rfl))) (fun _ h9 => h9) rfl d_PD_file_77 ?_
          refine va_get (C := "PageDrive$Content") (T := F_CO) (N := 3) hx hb hg iw_CO hown hK hP (23 + (2 * i)) (pw_gC (i := 2 * i) (by omega)) rfl 1 (by decide) (hg (Cond.fieldLink "PageDrive" 67 "PageDrive$Content" "size" "I") (wG_m2 (List.mem_of_getElem? (i := 34) rfl))) (fun _ h9 => h9) rfl d_PD_file_80 ?_
          refine W.widen (k := 1) (n := 6) (by omega) (by omega) ?_
          exact vx_ret (W.iret (v := (nI (S 4 (2 * i)))) hx hb hret (fun t9 ht9 hW9 => ⟨⟨_, _, rfl, ⟨rfl, i, 0, hi, rfl, by omega, rfl, rfl⟩, by rw [ht9]; exact hP, va_K.moved hW9.alike hK, hD⟩, hS.F ht9⟩) hS.2.2 d_PD_file_83)
        · refine lv_tableIn (tgt := 84) hx hb d_PD_file_35 (by decide) (by decide) rfl (by decide) ?_
          refine lv_aload_n hx hb d_PD_file_84 rfl (lv_at hl 0 rfl) ?_
          refine va_get (C := "PageDrive$Entry") (T := F_EN) (N := 3) hx hb hg iw_EN hown hK hP (7 + i) (pw_gE (i := i) (by omega)) rfl 1 (by decide) (hg (Cond.fieldLink "PageDrive" 112 "PageDrive$Entry" "synced" "LPageDrive$Content;") (wG_m3 (List.mem_of_getElem? (i := 7) rfl))) (fun _ h9 => h9) rfl d_PD_file_85 ?_
          refine va_get (C := "PageDrive$Content") (T := F_CO) (N := 3) hx hb hg iw_CO hown hK hP (23 + (2 * i + 1)) (pw_gC (i := 2 * i + 1) (by omega)) rfl 1 (by decide) (hg (Cond.fieldLink "PageDrive" 67 "PageDrive$Content" "size" "I") (wG_m2 (List.mem_of_getElem? (i := 34) rfl))) (fun _ h9 => h9) rfl d_PD_file_88 ?_
          refine W.widen (k := 1) (n := 6) (by omega) (by omega) ?_
          exact vx_ret (W.iret (v := (nI (S 4 (2 * i + 1)))) hx hb hret (fun t9 ht9 hW9 => ⟨⟨_, _, rfl, ⟨rfl, i, 1, hi, rfl, by omega, rfl, rfl⟩, by rw [ht9]; exact hP, va_K.moved hW9.alike hK, hD⟩, hS.F ht9⟩) hS.2.2 d_PD_file_91)
        · refine lv_tableIn (tgt := 92) hx hb d_PD_file_35 (by decide) (by decide) rfl (by decide) ?_
          refine lv_aload_n hx hb d_PD_file_92 rfl (lv_at hl 0 rfl) ?_
          refine va_get (C := "PageDrive$Entry") (T := F_EN) (N := 3) hx hb hg iw_EN hown hK hP (7 + i) (pw_gE (i := i) (by omega)) rfl 2 (by decide) (hg (Cond.fieldLink "PageDrive" 105 "PageDrive$Entry" "low" "I") (wG_m3 (List.mem_of_getElem? (i := 9) rfl))) (fun _ h9 => h9) rfl d_PD_file_93 ?_
          refine W.widen (k := 1) (n := 6) (by omega) (by omega) ?_
          exact vx_ret (W.iret (v := (nI (S 6 i))) hx hb hret (fun t9 ht9 hW9 => ⟨⟨_, _, rfl, ⟨rfl, i, 2, hi, rfl, by omega, rfl, rfl⟩, by rw [ht9]; exact hP, va_K.moved hW9.alike hK, hD⟩, hS.F ht9⟩) hS.2.2 d_PD_file_96)
        · refine lv_tableIn (tgt := 97) hx hb d_PD_file_35 (by decide) (by decide) rfl (by decide) ?_
          refine lv_aload_n hx hb d_PD_file_97 rfl (lv_at hl 0 rfl) ?_
          refine va_get (C := "PageDrive$Entry") (T := F_EN) (N := 3) hx hb hg iw_EN hown hK hP (7 + i) (pw_gE (i := i) (by omega)) rfl 0 (by decide) (hg (Cond.fieldLink "PageDrive" 63 "PageDrive$Entry" "now" "LPageDrive$Content;") (wG_m3 (List.mem_of_getElem? (i := 5) rfl))) (fun _ h9 => h9) rfl d_PD_file_98 ?_
          refine va_get (C := "PageDrive$Content") (T := F_CO) (N := 3) hx hb hg iw_CO hown hK hP (23 + (2 * i)) (pw_gC (i := 2 * i) (by omega)) rfl 2 (by decide) (hg (Cond.fieldLink "PageDrive" 91 "PageDrive$Content" "there" "Z") (wG_m2 (List.mem_of_getElem? (i := 36) rfl))) (fun _ h9 => h9) rfl d_PD_file_101 ?_
          refine pq_if_eq (tgt := 111) hx hb (by omega) d_PD_file_104 (by decide) (fun h3 => ?_) (fun h3 => ?_)
          · refine lv_iconst (v := nI 0) hx hb d_PD_file_111 (by decide) ?_
            refine W.widen (k := 1) (n := 6) (by omega) (by omega) ?_
            exact vx_ret (W.iret (v := (nI 0)) hx hb hret (fun t9 ht9 hW9 => ⟨⟨_, _, rfl, ⟨rfl, i, 3, hi, rfl, by omega, rfl, by show nI 0 = nI (S 5 (2 * i)); rw [h3]⟩, by rw [ht9]; exact hP, va_K.moved hW9.alike hK, hD⟩, hS.F ht9⟩) hS.2.2 d_PD_file_112)
          · refine lv_iconst (v := nI 1) hx hb d_PD_file_107 (by decide) ?_
            refine lv_goto (tgt := 112) hx hb d_PD_file_108 (by decide) ?_
            refine W.widen (k := 1) (n := 6) (by omega) (by omega) ?_
            exact vx_ret (W.iret (v := (nI 1)) hx hb hret (fun t9 ht9 hW9 => ⟨⟨_, _, rfl, ⟨rfl, i, 3, hi, rfl, by omega, rfl, by show nI 1 = nI (S 5 (2 * i)); rw [show S 5 (2 * i) = 1 by omega]⟩, by rw [ht9]; exact hP, va_K.moved hW9.alike hK, hD⟩, hS.F ht9⟩) hS.2.2 d_PD_file_112)
        · refine lv_tableIn (tgt := 113) hx hb d_PD_file_35 (by decide) (by decide) rfl (by decide) ?_
          refine lv_aload_n hx hb d_PD_file_113 rfl (lv_at hl 0 rfl) ?_
          refine va_get (C := "PageDrive$Entry") (T := F_EN) (N := 3) hx hb hg iw_EN hown hK hP (7 + i) (pw_gE (i := i) (by omega)) rfl 1 (by decide) (hg (Cond.fieldLink "PageDrive" 112 "PageDrive$Entry" "synced" "LPageDrive$Content;") (wG_m3 (List.mem_of_getElem? (i := 7) rfl))) (fun _ h9 => h9) rfl d_PD_file_114 ?_
          refine va_get (C := "PageDrive$Content") (T := F_CO) (N := 3) hx hb hg iw_CO hown hK hP (23 + (2 * i + 1)) (pw_gC (i := 2 * i + 1) (by omega)) rfl 2 (by decide) (hg (Cond.fieldLink "PageDrive" 91 "PageDrive$Content" "there" "Z") (wG_m2 (List.mem_of_getElem? (i := 36) rfl))) (fun _ h9 => h9) rfl d_PD_file_117 ?_
          refine pq_if_eq (tgt := 127) hx hb (by omega) d_PD_file_120 (by decide) (fun h3 => ?_) (fun h3 => ?_)
          · refine lv_iconst (v := nI 0) hx hb d_PD_file_127 (by decide) ?_
            refine W.widen (k := 1) (n := 6) (by omega) (by omega) ?_
            exact vx_ret (W.iret (v := (nI 0)) hx hb hret (fun t9 ht9 hW9 => ⟨⟨_, _, rfl, ⟨rfl, i, 4, hi, rfl, by omega, rfl, by show nI 0 = nI (S 5 (2 * i + 1)); rw [h3]⟩, by rw [ht9]; exact hP, va_K.moved hW9.alike hK, hD⟩, hS.F ht9⟩) hS.2.2 d_PD_file_128)
          · refine lv_iconst (v := nI 1) hx hb d_PD_file_123 (by decide) ?_
            refine lv_goto (tgt := 128) hx hb d_PD_file_124 (by decide) ?_
            refine W.widen (k := 1) (n := 6) (by omega) (by omega) ?_
            exact vx_ret (W.iret (v := (nI 1)) hx hb hret (fun t9 ht9 hW9 => ⟨⟨_, _, rfl, ⟨rfl, i, 4, hi, rfl, by omega, rfl, by show nI 1 = nI (S 5 (2 * i + 1)); rw [show S 5 (2 * i + 1) = 1 by omega]⟩, by rw [ht9]; exact hP, va_K.moved hW9.alike hK, hD⟩, hS.F ht9⟩) hS.2.2 d_PD_file_128)
        · refine lv_tableIn (tgt := 129) hx hb d_PD_file_35 (by decide) (by decide) rfl (by decide) ?_
          refine lv_aload_n hx hb d_PD_file_129 rfl (lv_at hl 0 rfl) ?_
          refine va_get (C := "PageDrive$Entry") (T := F_EN) (N := 3) hx hb hg iw_EN hown hK hP (7 + i) (pw_gE (i := i) (by omega)) rfl 0 (by decide) (hg (Cond.fieldLink "PageDrive" 63 "PageDrive$Entry" "now" "LPageDrive$Content;") (wG_m3 (List.mem_of_getElem? (i := 5) rfl))) (fun _ h9 => h9) rfl d_PD_file_130 ?_
          refine va_get (C := "PageDrive$Content") (T := F_CO) (N := 3) hx hb hg iw_CO hown hK hP (23 + (2 * i)) (pw_gC (i := 2 * i) (by omega)) rfl 1 (by decide) (hg (Cond.fieldLink "PageDrive" 67 "PageDrive$Content" "size" "I") (wG_m2 (List.mem_of_getElem? (i := 34) rfl))) (fun _ h9 => h9) rfl d_PD_file_133 ?_
          refine pw_callip (va_runS (As := [.int (nI (S 4 (2 * i)))]) (rest := []) ⟨hx, hb, hml, hown, hg⟩ (c_PD_pagesFor l dC dI cI cB cE cL cZ (pw n ad cI cB cE S) (S 4 (2 * i)) (by omega) H.size) (cwS 1 hg (gi_S (fun _ h => h) (wG_m4 (List.mem_of_getElem? (i := 6) rfl)) (wG_m4 (List.mem_of_getElem? (i := 7) rfl)) (wG_m1 (List.mem_of_getElem? (i := 1) rfl)) (wG_m4 (List.mem_of_getElem? (i := 8) rfl))) rfl rfl rfl (by decide +kernel) ⟨Nat.le_of_ble_eq_true rfl, Nat.le_of_ble_eq_true rfl⟩) (pw_ps hK hP hD [.int (nI (S 4 (2 * i)))]) rfl rfl hl.1 rfl (lv_room (Nat.le_of_ble_eq_true rfl)) d_PD_file_136 ⟨Nat.le_of_ble_eq_true rfl, Nat.le_of_ble_eq_true rfl⟩) hD hS hA (fun r2 H locs hr hP hD hS => ?_)
          subst hr
          refine W.widen (k := 1) (n := 6) (by omega) (by omega) ?_
          exact vx_ret (W.iret (v := (nI (pd_pf (S 4 (2 * i))))) hx hb hret (fun t9 ht9 hW9 => ⟨⟨_, _, rfl, ⟨rfl, i, 5, hi, rfl, by omega, rfl, rfl⟩, by rw [ht9]; exact hP, va_K.moved hW9.alike hK, hD⟩, hS.F ht9⟩) hS.2.2 d_PD_file_139)
        · refine lv_tableIn (tgt := 140) hx hb d_PD_file_35 (by decide) (by decide) rfl (by decide) ?_
          refine lv_aload_n hx hb d_PD_file_140 rfl (lv_at hl 0 rfl) ?_
          refine va_get (C := "PageDrive$Entry") (T := F_EN) (N := 3) hx hb hg iw_EN hown hK hP (7 + i) (pw_gE (i := i) (by omega)) rfl 1 (by decide) (hg (Cond.fieldLink "PageDrive" 112 "PageDrive$Entry" "synced" "LPageDrive$Content;") (wG_m3 (List.mem_of_getElem? (i := 7) rfl))) (fun _ h9 => h9) rfl d_PD_file_141 ?_
          refine va_get (C := "PageDrive$Content") (T := F_CO) (N := 3) hx hb hg iw_CO hown hK hP (23 + (2 * i + 1)) (pw_gC (i := 2 * i + 1) (by omega)) rfl 1 (by decide) (hg (Cond.fieldLink "PageDrive" 67 "PageDrive$Content" "size" "I") (wG_m2 (List.mem_of_getElem? (i := 34) rfl))) (fun _ h9 => h9) rfl d_PD_file_144 ?_
          refine pw_callip (va_runS (As := [.int (nI (S 4 (2 * i + 1)))]) (rest := []) ⟨hx, hb, hml, hown, hg⟩ (c_PD_pagesFor l dC dI cI cB cE cL cZ (pw n ad cI cB cE S) (S 4 (2 * i + 1)) (by omega) H.size) (cwS 1 hg (gi_S (fun _ h => h) (wG_m4 (List.mem_of_getElem? (i := 6) rfl)) (wG_m4 (List.mem_of_getElem? (i := 7) rfl)) (wG_m1 (List.mem_of_getElem? (i := 1) rfl)) (wG_m4 (List.mem_of_getElem? (i := 8) rfl))) rfl rfl rfl (by decide +kernel) ⟨Nat.le_of_ble_eq_true rfl, Nat.le_of_ble_eq_true rfl⟩) (pw_ps hK hP hD [.int (nI (S 4 (2 * i + 1)))]) rfl rfl hl.1 rfl (lv_room (Nat.le_of_ble_eq_true rfl)) d_PD_file_147 ⟨Nat.le_of_ble_eq_true rfl, Nat.le_of_ble_eq_true rfl⟩) hD hS hA (fun r3 H locs hr hP hD hS => ?_)
          subst hr
          refine W.widen (k := 1) (n := 6) (by omega) (by omega) ?_
          exact vx_ret (W.iret (v := (nI (pd_pf (S 4 (2 * i + 1))))) hx hb hret (fun t9 ht9 hW9 => ⟨⟨_, _, rfl, ⟨rfl, i, 6, hi, rfl, by omega, rfl, rfl⟩, by rw [ht9]; exact hP, va_K.moved hW9.alike hK, hD⟩, hS.F ht9⟩) hS.2.2 d_PD_file_150)
        · refine lv_tableOut (tgt := 151) hx hb d_PD_file_35 (Or.inr (by decide)) (by decide) ?_
          refine lv_aload_n hx hb d_PD_file_151 rfl (lv_at hl 1 rfl) ?_
          refine lv_aload_n hx hb d_PD_file_152 rfl (lv_at hl 0 rfl) ?_
          refine va_get (C := "PageDrive$Entry") (T := F_EN) (N := 3) hx hb hg iw_EN hown hK hP (7 + i) (pw_gE (i := i) (by omega)) rfl 0 (by decide) (hg (Cond.fieldLink "PageDrive" 63 "PageDrive$Entry" "now" "LPageDrive$Content;") (wG_m3 (List.mem_of_getElem? (i := 5) rfl))) (fun _ h9 => h9) rfl d_PD_file_153 ?_
          refine pw_callip (va_runV (As := [.ref (ad (23 + 2 * i))]) (rest := []) ⟨hx, hb, hml, hown, hg⟩ (c_PD_sharedPages l dC dI cI cB cE cL cZ n ad S (2 * i) hn hv ho (by omega) H.size) (cwV 1 hg (gi_V (fun _ h => h) (wG_m10 (List.mem_of_getElem? (i := 7) rfl)) (wG_m10 (List.mem_of_getElem? (i := 8) rfl)) (wG_m14 (List.mem_of_getElem? (i := 10) rfl)) (wG_m1 (List.mem_of_getElem? (i := 1) rfl)) (wG_m10 (List.mem_of_getElem? (i := 9) rfl))) rfl rfl rfl (by decide +kernel) ⟨Nat.le_of_ble_eq_true rfl, Nat.le_of_ble_eq_true rfl⟩) (pw_pv hK hP hD (va_recv hK hP (ci := 0) (q0 := 0) rfl pw_g0) [.ref (ad (23 + 2 * i))]) rfl rfl hl.1 rfl (lv_room (Nat.le_of_ble_eq_true rfl)) d_PD_file_156 ⟨Nat.le_of_ble_eq_true rfl, Nat.le_of_ble_eq_true rfl⟩) hD hS hA (fun r4 H locs hr hP hD hS => ?_)
          subst hr
          refine W.widen (k := 1) (n := 6) (by omega) (by omega) ?_
          exact vx_ret (W.iret (v := (nI (pd_shd S (2 * i)))) hx hb hret (fun t9 ht9 hW9 => ⟨⟨_, _, rfl, ⟨rfl, i, 7, hi, rfl, by omega, rfl, rfl⟩, by rw [ht9]; exact hP, va_K.moved hW9.alike hK, hD⟩, hS.F ht9⟩) hS.2.2 d_PD_file_159)
      · obtain ⟨sa, hstr⟩ := hKK.2.1 (141, "no such file number, or nothing to be asked of it") (by decide +kernel)
        exact vx_throwS hx hb hst hown (cls := "java/lang/IndexOutOfBoundsException") (names := pgNm) xf_62 xn_nm (hg (Cond.classLink "PageDrive" 58 "java/lang/IndexOutOfBoundsException") (wG_m7 (List.mem_of_getElem? (i := 8) rfl))) (hg (Cond.initialized "java/lang/IndexOutOfBoundsException") (wG_m1 (List.mem_of_getElem? (i := 12) rfl))) hstr (pg_hat xa_62 hg hKK.1) xo_62 hZ.1 hZ.2 hS (hl.1.trans hml.symm) d_PD_file_17 d_PD_file_20 d_PD_file_21 d_PD_file_23 d_PD_file_26 (fun x h => (htab x h).elim) (Nat.le_of_ble_eq_true rfl) (Nat.le_of_ble_eq_true rfl) (Nat.le_of_ble_eq_true rfl) (Nat.le_of_ble_eq_true rfl) hlocks (fun t9 hy1 hy2 hy3 => ⟨("java/lang/IndexOutOfBoundsException", S), ⟨rfl, rfl, Or.inr (fun w hw => pd_above (b := 7) (by decide) (Int32.not_le.mp h2) w hw)⟩, ⟨rfl, (px_end (Wf := fun S => pw n ad cI cB cE S) hK hP hD hS t9 hy1 hy2 hy3).1⟩, (px_end (Wf := fun S => pw n ad cI cB cE S) hK hP hD hS t9 hy1 hy2 hy3).2⟩) hS.2.2 (Nat.le_of_ble_eq_true rfl) (Nat.le_of_ble_eq_true rfl)
  · refine pq_if_eq (tgt := 17) hx hb (by omega) d_PD_file_4 (by decide) (fun _ => ?_) (fun h9 => absurd h9 (by omega))
    obtain ⟨sa, hstr⟩ := hKK.2.1 (141, "no such file number, or nothing to be asked of it") (by decide +kernel)
    exact vx_throwS hx hb hst hown (cls := "java/lang/IndexOutOfBoundsException") (names := pgNm) xf_62 xn_nm (hg (Cond.classLink "PageDrive" 58 "java/lang/IndexOutOfBoundsException") (wG_m7 (List.mem_of_getElem? (i := 8) rfl))) (hg (Cond.initialized "java/lang/IndexOutOfBoundsException") (wG_m1 (List.mem_of_getElem? (i := 12) rfl))) hstr (pg_hat xa_62 hg hKK.1) xo_62 hZ.1 hZ.2 hS (hl.1.trans hml.symm) d_PD_file_17 d_PD_file_20 d_PD_file_21 d_PD_file_23 d_PD_file_26 (fun x h => (htab x h).elim) (Nat.le_of_ble_eq_true rfl) (Nat.le_of_ble_eq_true rfl) (Nat.le_of_ble_eq_true rfl) (Nat.le_of_ble_eq_true rfl) hlocks (fun t9 hy1 hy2 hy3 => ⟨("java/lang/IndexOutOfBoundsException", S), ⟨rfl, rfl, Or.inl hno⟩, ⟨rfl, (px_end (Wf := fun S => pw n ad cI cB cE S) hK hP hD hS t9 hy1 hy2 hy3).1⟩, (px_end (Wf := fun S => pw n ad cI cB cE S) hK hP hD hS t9 hy1 hy2 hy3).2⟩) hS.2.2 (Nat.le_of_ble_eq_true rfl) (Nat.le_of_ble_eq_true rfl)
set_option maxHeartbeats 4000000 in
set_option maxRecDepth 100000 in
/-- byteAt -/
theorem c_PD_byteAt (l : Launch) (dC : Nat → ClassId) (dI : Nat → Nat → Nat) (cI cB cE cL cZ : ClassId) (hst : l.stackTraces = false) (n : Nat) (ad : Nat → Nat) (S : pdS) (f : Int32) (b : Nat) (z : Int32) (hb1 : b ≤ 1) (hn : n ≤ 1024) (hv : pd_v n S) (ho : pd_ok n S (pd_ct S)) (sz : Nat) : CXi l (dC, dI) (pw_ty cI cB cE cL cZ) y_PD_byteAt w_PD_byteAt ({ frames := 6, cells := 1, slots := 6, locals := 82 }) [.ref (ad 0), .int f, .int (nI b), .int z] (pw n ad cI cB cE S) (pw n ad cI cB cE) sz (fun r S2 => S2 = S ∧ ∃ i j, i < 16 ∧ f = nI i ∧ j < S 4 (2 * i + b) ∧ z = nI j ∧ r = nI (pd_by S (2 * i + b) j)) (fun E S2 => S2 = S ∧ E = "java/lang/IndexOutOfBoundsException" ∧ (pd_nof f ∨ ∃ i, i < 16 ∧ f = nI i ∧ ∀ j, j < S 4 (2 * i + b) → z ≠ nI j)) := by
  refine vx_ofW (cc := b_PD_byteAt) (maxL := 5) (ret := (some .int)) (by decide) rfl ?_
  intro p e s m args below meth c s₁ B hml htab hv
  obtain ⟨rfl, ⟨hsz, hP, hK, hD0⟩, hKK, hZ⟩ := hv
  have hx := B.exec
  have hb := B.bytes
  have hret := B.returns
  have hts := atoms_spec (ws := w_PD_byteAt) B.pre
  have hg : ∀ w ∈ wsG, w.before _ s = true := fun w h => hts w (List.mem_cons_of_mem _ h)
  have hown : s.vm.findClass "PageDrive" = some m.cls := findClass_of_methodNamed B.named
  have hlocks := B.notSynchronized
  subst hsz
  have hD := hD0.self (sz := s.heap.size)
  generalize hAe : va_A (pw n ad cI cB cE S) s.heap.size = A at hD hZ ⊢
  have hA : ∀ q : Nat, s.heap.size ≤ q → A q := fun q h => by rw [← hAe]; exact Or.inr h
  have hS : va_S A s.heap s.heap [] := va_S.rf
  have hl := lv_entry ([.ref (ad 0), .int f, .int (nI b), .int z]) (n := 5) (Nat.le_of_ble_eq_true rfl)
  rw [lg_entry_eq]
  generalize (lg_sl ([.ref (ad 0), .int f, .int (nI b), .int z]) ++ List.replicate (5 - (lg_sl ([.ref (ad 0), .int f, .int (nI b), .int z])).length) Slot.unset).toArray = ls at hl ⊢
  have hl : lv_has ls 5 [(0, .ref (ad 0)), (1, .int f), (2, .int (nI b)), (3, .int z)] := hl
  refine lv_iload_n hx hb d_PD_byteAt_0 rfl (lv_at hl 1 rfl) ?_
  refine pw_callip (va_runS (As := [.int f]) (rest := []) ⟨hx, hb, hml, hown, hg⟩ (c_PD_isFile l dC dI cI cB cE cL cZ (pw n ad cI cB cE S) f s.heap.size) (cwS 1 hg (gi_S (fun _ h => h) (wG_m7 (List.mem_of_getElem? (i := 5) rfl)) (wG_m7 (List.mem_of_getElem? (i := 6) rfl)) (wG_m1 (List.mem_of_getElem? (i := 1) rfl)) (wG_m7 (List.mem_of_getElem? (i := 7) rfl))) rfl rfl rfl (by decide +kernel) ⟨Nat.le_of_ble_eq_true rfl, Nat.le_of_ble_eq_true rfl⟩) (pw_ps hK hP hD [.int f]) rfl rfl hl.1 rfl (lv_room (Nat.le_of_ble_eq_true rfl)) d_PD_byteAt_1 ⟨Nat.le_of_ble_eq_true rfl, Nat.le_of_ble_eq_true rfl⟩) hD hS hA (fun r1 H locs hr hP hD hS => ?_)
  rcases hr with ⟨i, hi, rfl, rfl⟩ | ⟨hno, rfl⟩
  · refine pq_if_ne (tgt := 17) hx hb (by omega) d_PD_byteAt_4 (by decide) (fun _ => ?_) (fun h9 => absurd h9 (by omega))
    refine lv_iload_n hx hb d_PD_byteAt_17 rfl (lv_at hl 2 rfl) ?_
    refine pq_if_eq (tgt := 33) hx hb (by omega) d_PD_byteAt_18 (by decide) (fun h1 => ?_) (fun h1 => ?_)
    · have hbv : b = 0 := by omega
      subst hbv
      have hs4 := (hv.1 (2 * i) (by omega)).1
      refine lv_aload_n hx hb d_PD_byteAt_33 rfl (lv_at hl 0 rfl) ?_
      refine va_get (C := "PageDrive") (T := F_PD) (N := 4) hx hb hg iw_PD hown hK hP (0) pw_g0 rfl 1 (by decide) (hg (Cond.fieldLink "PageDrive" 29 "PageDrive" "entries" "[LPageDrive$Entry;") (wG_m3 (List.mem_of_getElem? (i := 18) rfl))) (fun _ h9 => h9) rfl d_PD_byteAt_34 ?_
      refine lv_iload_n hx hb d_PD_byteAt_37 rfl (lv_at hl 1 rfl) ?_
      refine pr_ent hx hb hK hP (i := i) (by omega) rfl d_PD_byteAt_38 ?_
      refine va_get (C := "PageDrive$Entry") (T := F_EN) (N := 3) hx hb hg iw_EN hown hK hP (7 + i) (pw_gE (i := i) (by omega)) rfl 0 (by decide) (hg (Cond.fieldLink "PageDrive" 63 "PageDrive$Entry" "now" "LPageDrive$Content;") (wG_m3 (List.mem_of_getElem? (i := 5) rfl))) (fun _ h9 => h9) rfl d_PD_byteAt_39 ?_
      refine lv_astore (lv' := [(4, .ref (ad (23 + 2 * i))), (0, .ref (ad 0)), (1, .int (nI i)), (2, .int (nI 0)), (3, .int z)]) hx hb d_PD_byteAt_42 hl (by decide) rfl (fun ls hl => ?_)
      refine lv_iload_n hx hb d_PD_byteAt_44 rfl (lv_at hl 4 rfl) ?_
      refine lv_if_lt (tgt := 57) hx hb d_PD_byteAt_45 (by decide) (fun h2 => ?_) (fun h2 => ?_)
      · obtain ⟨sa, hstr⟩ := hKK.2.1 (151, "no such byte") (by decide +kernel)
        exact vx_throwS hx hb hst hown (cls := "java/lang/IndexOutOfBoundsException") (names := pgNm) xf_62 xn_nm (hg (Cond.classLink "PageDrive" 58 "java/lang/IndexOutOfBoundsException") (wG_m7 (List.mem_of_getElem? (i := 8) rfl))) (hg (Cond.initialized "java/lang/IndexOutOfBoundsException") (wG_m1 (List.mem_of_getElem? (i := 12) rfl))) hstr (pg_hat xa_62 hg hKK.1) xo_62 hZ.1 hZ.2 hS (hl.1.trans hml.symm) d_PD_byteAt_57 d_PD_byteAt_60 d_PD_byteAt_61 d_PD_byteAt_63 d_PD_byteAt_66 (fun x h => (htab x h).elim) (Nat.le_of_ble_eq_true rfl) (Nat.le_of_ble_eq_true rfl) (Nat.le_of_ble_eq_true rfl) (Nat.le_of_ble_eq_true rfl) hlocks (fun t9 hy1 hy2 hy3 => ⟨("java/lang/IndexOutOfBoundsException", S), ⟨rfl, rfl, Or.inr ⟨i, hi, rfl, fun j hj => pd_below (a := 0) h2 j (by omega) (by have h8 : j < S 4 (2 * i) := hj; omega)⟩⟩, ⟨rfl, (px_end (Wf := fun S => pw n ad cI cB cE S) hK hP hD hS t9 hy1 hy2 hy3).1⟩, (px_end (Wf := fun S => pw n ad cI cB cE S) hK hP hD hS t9 hy1 hy2 hy3).2⟩) hS.2.2 (Nat.le_of_ble_eq_true rfl) (Nat.le_of_ble_eq_true rfl)
      · refine lv_iload_n hx hb d_PD_byteAt_48 rfl (lv_at hl 4 rfl) ?_
        refine lv_aload hx hb d_PD_byteAt_49 (lv_at hl 0 rfl) ?_
        refine va_get (C := "PageDrive$Content") (T := F_CO) (N := 3) hx hb hg iw_CO hown hK hP (23 + (2 * i)) (pw_gC (i := 2 * i) (by omega)) rfl 1 (by decide) (hg (Cond.fieldLink "PageDrive" 67 "PageDrive$Content" "size" "I") (wG_m2 (List.mem_of_getElem? (i := 34) rfl))) (fun _ h9 => h9) rfl d_PD_byteAt_51 ?_
        refine lv_icmp_lt (tgt := 67) hx hb d_PD_byteAt_54 (by decide) (fun h3 => ?_) (fun h3 => ?_)
        · obtain ⟨j, hj0, rfl⟩ := nI_of h2
          have hj : j < S 4 (2 * i) := (nI_ltI hj0 (by omega)).mp h3
          have hk0 : j / 64 < pd_pf (S 4 (2 * i)) := by unfold pd_pf; omega
          have hpg := hv.2.1 (2 * i) (j / 64) (by omega) hk0
          refine lv_aload_n hx hb d_PD_byteAt_67 rfl (lv_at hl 1 rfl) ?_
          refine va_get (C := "PageDrive") (T := F_PD) (N := 4) hx hb hg iw_PD hown hK hP (0) pw_g0 rfl 0 (by decide) (hg (Cond.fieldLink "PageDrive" 23 "PageDrive" "pool" "LPageDrive$Pool;") (wG_m3 (List.mem_of_getElem? (i := 17) rfl))) (fun _ h9 => h9) rfl d_PD_byteAt_68 ?_
          refine va_get (C := "PageDrive$Pool") (T := F_PO) (N := 6) hx hb hg iw_PO hown hK hP (1) pw_g1 rfl 1 (by decide) (hg (Cond.fieldLink "PageDrive" 153 "PageDrive$Pool" "bytes" "[B") (wG_m1 (List.mem_of_getElem? (i := 39) rfl))) (fun _ h9 => h9) rfl d_PD_byteAt_71 ?_
          refine lv_aload hx hb d_PD_byteAt_74 (lv_at hl 0 rfl) ?_
          refine lv_iload_n hx hb d_PD_byteAt_76 rfl (lv_at hl 4 rfl) ?_
          refine pw_callip (va_runV (As := [.int (nI j)]) (rest := [.ref (ad 4)]) ⟨hx, hb, hml, hown, hg⟩ (c_CO_placeOf l dC dI cI cB cE cL cZ n ad S (2 * i) j (by omega) (by omega) (by omega) H.size) (cwV 1 hg (gi_V (fun _ h => h) (wG_m8 (List.mem_of_getElem? (i := 23) rfl)) (wG_m8 (List.mem_of_getElem? (i := 24) rfl)) (wG_m8 (List.mem_of_getElem? (i := 25) rfl)) (wG_m1 (List.mem_of_getElem? (i := 5) rfl)) (wG_m8 (List.mem_of_getElem? (i := 26) rfl))) rfl rfl rfl (by decide +kernel) ⟨Nat.le_of_ble_eq_true rfl, Nat.le_of_ble_eq_true rfl⟩) (pw_pv hK hP hD (va_recv hK hP (ci := 3) (q0 := 23 + (2 * i)) rfl (pw_gC (i := 2 * i) (by omega))) [.int (nI j)]) rfl rfl hl.1 rfl (lv_room (Nat.le_of_ble_eq_true rfl)) d_PD_byteAt_77 ⟨Nat.le_of_ble_eq_true rfl, Nat.le_of_ble_eq_true rfl⟩) hD hS hA (fun r2 H locs hr hP hD hS => ?_)
          subst hr
          refine pq_bald hx hb hK hP 4 1 pw_g4 rfl (by omega) (by omega) d_PD_byteAt_80 ?_
          refine lv_sipush (v := nI 255) hx hb d_PD_byteAt_81 (by decide) ?_
          refine lv_iand hx hb d_PD_byteAt_84 ?_
          refine pq_top (y := nI (pd_by S (2 * i) j)) ((sb_byte _ (hv.2.2.2.2.2 _)).1) ?_
          refine W.widen (k := 1) (n := 6) (by omega) (by omega) ?_
          exact vx_ret (W.iret (v := (nI (pd_by S (2 * i) j))) hx hb hret (fun t9 ht9 hW9 => ⟨⟨_, _, rfl, ⟨rfl, i, j, hi, rfl, hj, rfl, rfl⟩, by rw [ht9]; exact hP, va_K.moved hW9.alike hK, hD⟩, hS.F ht9⟩) hS.2.2 d_PD_byteAt_85)
        · obtain ⟨sa, hstr⟩ := hKK.2.1 (151, "no such byte") (by decide +kernel)
          exact vx_throwS hx hb hst hown (cls := "java/lang/IndexOutOfBoundsException") (names := pgNm) xf_62 xn_nm (hg (Cond.classLink "PageDrive" 58 "java/lang/IndexOutOfBoundsException") (wG_m7 (List.mem_of_getElem? (i := 8) rfl))) (hg (Cond.initialized "java/lang/IndexOutOfBoundsException") (wG_m1 (List.mem_of_getElem? (i := 12) rfl))) hstr (pg_hat xa_62 hg hKK.1) xo_62 hZ.1 hZ.2 hS (hl.1.trans hml.symm) d_PD_byteAt_57 d_PD_byteAt_60 d_PD_byteAt_61 d_PD_byteAt_63 d_PD_byteAt_66 (fun x h => (htab x h).elim) (Nat.le_of_ble_eq_true rfl) (Nat.le_of_ble_eq_true rfl) (Nat.le_of_ble_eq_true rfl) (Nat.le_of_ble_eq_true rfl) hlocks (fun t9 hy1 hy2 hy3 => ⟨("java/lang/IndexOutOfBoundsException", S), ⟨rfl, rfl, Or.inr ⟨i, hi, rfl, fun j hj q => h3 (by subst q; exact (nI_ltI (by have h8 : j < S 4 (2 * i) := hj; omega) (by omega)).mpr hj)⟩⟩, ⟨rfl, (px_end (Wf := fun S => pw n ad cI cB cE S) hK hP hD hS t9 hy1 hy2 hy3).1⟩, (px_end (Wf := fun S => pw n ad cI cB cE S) hK hP hD hS t9 hy1 hy2 hy3).2⟩) hS.2.2 (Nat.le_of_ble_eq_true rfl) (Nat.le_of_ble_eq_true rfl)
    · have hbv : b = 1 := by omega
      subst hbv
      have hs4 := (hv.1 (2 * i + 1) (by omega)).1
      refine lv_aload_n hx hb d_PD_byteAt_21 rfl (lv_at hl 0 rfl) ?_
      refine va_get (C := "PageDrive") (T := F_PD) (N := 4) hx hb hg iw_PD hown hK hP (0) pw_g0 rfl 1 (by decide) (hg (Cond.fieldLink "PageDrive" 29 "PageDrive" "entries" "[LPageDrive$Entry;") (wG_m3 (List.mem_of_getElem? (i := 18) rfl))) (fun _ h9 => h9) rfl d_PD_byteAt_22 ?_
      refine lv_iload_n hx hb d_PD_byteAt_25 rfl (lv_at hl 1 rfl) ?_
      refine pr_ent hx hb hK hP (i := i) (by omega) rfl d_PD_byteAt_26 ?_
      refine va_get (C := "PageDrive$Entry") (T := F_EN) (N := 3) hx hb hg iw_EN hown hK hP (7 + i) (pw_gE (i := i) (by omega)) rfl 1 (by decide) (hg (Cond.fieldLink "PageDrive" 112 "PageDrive$Entry" "synced" "LPageDrive$Content;") (wG_m3 (List.mem_of_getElem? (i := 7) rfl))) (fun _ h9 => h9) rfl d_PD_byteAt_27 ?_
      refine lv_goto (tgt := 42) hx hb d_PD_byteAt_30 (by decide) ?_
      refine lv_astore (lv' := [(4, .ref (ad (23 + (2 * i + 1)))), (0, .ref (ad 0)), (1, .int (nI i)), (2, .int (nI 1)), (3, .int z)]) hx hb d_PD_byteAt_42 hl (by decide) rfl (fun ls hl => ?_)
      refine lv_iload_n hx hb d_PD_byteAt_44 rfl (lv_at hl 4 rfl) ?_
      refine lv_if_lt (tgt := 57) hx hb d_PD_byteAt_45 (by decide) (fun h2 => ?_) (fun h2 => ?_)
      · obtain ⟨sa, hstr⟩ := hKK.2.1 (151, "no such byte") (by decide +kernel)
        exact vx_throwS hx hb hst hown (cls := "java/lang/IndexOutOfBoundsException") (names := pgNm) xf_62 xn_nm (hg (Cond.classLink "PageDrive" 58 "java/lang/IndexOutOfBoundsException") (wG_m7 (List.mem_of_getElem? (i := 8) rfl))) (hg (Cond.initialized "java/lang/IndexOutOfBoundsException") (wG_m1 (List.mem_of_getElem? (i := 12) rfl))) hstr (pg_hat xa_62 hg hKK.1) xo_62 hZ.1 hZ.2 hS (hl.1.trans hml.symm) d_PD_byteAt_57 d_PD_byteAt_60 d_PD_byteAt_61 d_PD_byteAt_63 d_PD_byteAt_66 (fun x h => (htab x h).elim) (Nat.le_of_ble_eq_true rfl) (Nat.le_of_ble_eq_true rfl) (Nat.le_of_ble_eq_true rfl) (Nat.le_of_ble_eq_true rfl) hlocks (fun t9 hy1 hy2 hy3 => ⟨("java/lang/IndexOutOfBoundsException", S), ⟨rfl, rfl, Or.inr ⟨i, hi, rfl, fun j hj => pd_below (a := 0) h2 j (by omega) (by have h8 : j < S 4 (2 * i + 1) := hj; omega)⟩⟩, ⟨rfl, (px_end (Wf := fun S => pw n ad cI cB cE S) hK hP hD hS t9 hy1 hy2 hy3).1⟩, (px_end (Wf := fun S => pw n ad cI cB cE S) hK hP hD hS t9 hy1 hy2 hy3).2⟩) hS.2.2 (Nat.le_of_ble_eq_true rfl) (Nat.le_of_ble_eq_true rfl)
      · refine lv_iload_n hx hb d_PD_byteAt_48 rfl (lv_at hl 4 rfl) ?_
        refine lv_aload hx hb d_PD_byteAt_49 (lv_at hl 0 rfl) ?_
        refine va_get (C := "PageDrive$Content") (T := F_CO) (N := 3) hx hb hg iw_CO hown hK hP (23 + (2 * i + 1)) (pw_gC (i := 2 * i + 1) (by omega)) rfl 1 (by decide) (hg (Cond.fieldLink "PageDrive" 67 "PageDrive$Content" "size" "I") (wG_m2 (List.mem_of_getElem? (i := 34) rfl))) (fun _ h9 => h9) rfl d_PD_byteAt_51 ?_
        refine lv_icmp_lt (tgt := 67) hx hb d_PD_byteAt_54 (by decide) (fun h3 => ?_) (fun h3 => ?_)
        · obtain ⟨j, hj0, rfl⟩ := nI_of h2
          have hj : j < S 4 (2 * i + 1) := (nI_ltI hj0 (by omega)).mp h3
          have hk0 : j / 64 < pd_pf (S 4 (2 * i + 1)) := by unfold pd_pf; omega
          have hpg := hv.2.1 (2 * i + 1) (j / 64) (by omega) hk0
          refine lv_aload_n hx hb d_PD_byteAt_67 rfl (lv_at hl 1 rfl) ?_
          refine va_get (C := "PageDrive") (T := F_PD) (N := 4) hx hb hg iw_PD hown hK hP (0) pw_g0 rfl 0 (by decide) (hg (Cond.fieldLink "PageDrive" 23 "PageDrive" "pool" "LPageDrive$Pool;") (wG_m3 (List.mem_of_getElem? (i := 17) rfl))) (fun _ h9 => h9) rfl d_PD_byteAt_68 ?_
          refine va_get (C := "PageDrive$Pool") (T := F_PO) (N := 6) hx hb hg iw_PO hown hK hP (1) pw_g1 rfl 1 (by decide) (hg (Cond.fieldLink "PageDrive" 153 "PageDrive$Pool" "bytes" "[B") (wG_m1 (List.mem_of_getElem? (i := 39) rfl))) (fun _ h9 => h9) rfl d_PD_byteAt_71 ?_
          refine lv_aload hx hb d_PD_byteAt_74 (lv_at hl 0 rfl) ?_
          refine lv_iload_n hx hb d_PD_byteAt_76 rfl (lv_at hl 4 rfl) ?_
          refine pw_callip (va_runV (As := [.int (nI j)]) (rest := [.ref (ad 4)]) ⟨hx, hb, hml, hown, hg⟩ (c_CO_placeOf l dC dI cI cB cE cL cZ n ad S (2 * i + 1) j (by omega) (by omega) (by omega) H.size) (cwV 1 hg (gi_V (fun _ h => h) (wG_m8 (List.mem_of_getElem? (i := 23) rfl)) (wG_m8 (List.mem_of_getElem? (i := 24) rfl)) (wG_m8 (List.mem_of_getElem? (i := 25) rfl)) (wG_m1 (List.mem_of_getElem? (i := 5) rfl)) (wG_m8 (List.mem_of_getElem? (i := 26) rfl))) rfl rfl rfl (by decide +kernel) ⟨Nat.le_of_ble_eq_true rfl, Nat.le_of_ble_eq_true rfl⟩) (pw_pv hK hP hD (va_recv hK hP (ci := 3) (q0 := 23 + (2 * i + 1)) rfl (pw_gC (i := 2 * i + 1) (by omega))) [.int (nI j)]) rfl rfl hl.1 rfl (lv_room (Nat.le_of_ble_eq_true rfl)) d_PD_byteAt_77 ⟨Nat.le_of_ble_eq_true rfl, Nat.le_of_ble_eq_true rfl⟩) hD hS hA (fun r3 H locs hr hP hD hS => ?_)
          subst hr
          refine pq_bald hx hb hK hP 4 1 pw_g4 rfl (by omega) (by omega) d_PD_byteAt_80 ?_
          refine lv_sipush (v := nI 255) hx hb d_PD_byteAt_81 (by decide) ?_
          refine lv_iand hx hb d_PD_byteAt_84 ?_
          refine pq_top (y := nI (pd_by S (2 * i + 1) j)) ((sb_byte _ (hv.2.2.2.2.2 _)).1) ?_
          refine W.widen (k := 1) (n := 6) (by omega) (by omega) ?_
          exact vx_ret (W.iret (v := (nI (pd_by S (2 * i + 1) j))) hx hb hret (fun t9 ht9 hW9 => ⟨⟨_, _, rfl, ⟨rfl, i, j, hi, rfl, hj, rfl, rfl⟩, by rw [ht9]; exact hP, va_K.moved hW9.alike hK, hD⟩, hS.F ht9⟩) hS.2.2 d_PD_byteAt_85)
        · obtain ⟨sa, hstr⟩ := hKK.2.1 (151, "no such byte") (by decide +kernel)
          exact vx_throwS hx hb hst hown (cls := "java/lang/IndexOutOfBoundsException") (names := pgNm) xf_62 xn_nm (hg (Cond.classLink "PageDrive" 58 "java/lang/IndexOutOfBoundsException") (wG_m7 (List.mem_of_getElem? (i := 8) rfl))) (hg (Cond.initialized "java/lang/IndexOutOfBoundsException") (wG_m1 (List.mem_of_getElem? (i := 12) rfl))) hstr (pg_hat xa_62 hg hKK.1) xo_62 hZ.1 hZ.2 hS (hl.1.trans hml.symm) d_PD_byteAt_57 d_PD_byteAt_60 d_PD_byteAt_61 d_PD_byteAt_63 d_PD_byteAt_66 (fun x h => (htab x h).elim) (Nat.le_of_ble_eq_true rfl) (Nat.le_of_ble_eq_true rfl) (Nat.le_of_ble_eq_true rfl) (Nat.le_of_ble_eq_true rfl) hlocks (fun t9 hy1 hy2 hy3 => ⟨("java/lang/IndexOutOfBoundsException", S), ⟨rfl, rfl, Or.inr ⟨i, hi, rfl, fun j hj q => h3 (by subst q; exact (nI_ltI (by have h8 : j < S 4 (2 * i + 1) := hj; omega) (by omega)).mpr hj)⟩⟩, ⟨rfl, (px_end (Wf := fun S => pw n ad cI cB cE S) hK hP hD hS t9 hy1 hy2 hy3).1⟩, (px_end (Wf := fun S => pw n ad cI cB cE S) hK hP hD hS t9 hy1 hy2 hy3).2⟩) hS.2.2 (Nat.le_of_ble_eq_true rfl) (Nat.le_of_ble_eq_true rfl)
  · refine pq_if_ne (tgt := 17) hx hb (by omega) d_PD_byteAt_4 (by decide) (fun h9 => absurd h9 (by omega)) (fun _ => ?_)
    obtain ⟨sa, hstr⟩ := hKK.2.1 (89, "no such file number") (by decide +kernel)
    exact vx_throwS hx hb hst hown (cls := "java/lang/IndexOutOfBoundsException") (names := pgNm) xf_62 xn_nm (hg (Cond.classLink "PageDrive" 58 "java/lang/IndexOutOfBoundsException") (wG_m7 (List.mem_of_getElem? (i := 8) rfl))) (hg (Cond.initialized "java/lang/IndexOutOfBoundsException") (wG_m1 (List.mem_of_getElem? (i := 12) rfl))) hstr (pg_hat xa_62 hg hKK.1) xo_62 hZ.1 hZ.2 hS (hl.1.trans hml.symm) d_PD_byteAt_7 d_PD_byteAt_10 d_PD_byteAt_11 d_PD_byteAt_13 d_PD_byteAt_16 (fun x h => (htab x h).elim) (Nat.le_of_ble_eq_true rfl) (Nat.le_of_ble_eq_true rfl) (Nat.le_of_ble_eq_true rfl) (Nat.le_of_ble_eq_true rfl) hlocks (fun t9 hy1 hy2 hy3 => ⟨("java/lang/IndexOutOfBoundsException", S), ⟨rfl, rfl, Or.inl hno⟩, ⟨rfl, (px_end (Wf := fun S => pw n ad cI cB cE S) hK hP hD hS t9 hy1 hy2 hy3).1⟩, (px_end (Wf := fun S => pw n ad cI cB cE S) hK hP hD hS t9 hy1 hy2 hy3).2⟩) hS.2.2 (Nat.le_of_ble_eq_true rfl) (Nat.le_of_ble_eq_true rfl)
set_option maxHeartbeats 4000000 in
set_option maxRecDepth 100000 in
/-- count -/
theorem c_PD_count (l : Launch) (dC : Nat → ClassId) (dI : Nat → Nat → Nat) (cI cB cE cL cZ : ClassId) (n : Nat) (ad : Nat → Nat) (S : pdS) (z : Int32) (hu : S 7 0 ≤ n) (h5 : ∀ d, d < 32 → S 5 d ≤ 1) (sz : Nat) : CMi l (dC, dI) (pw_ty cI cB cE cL cZ) y_PD_count w_PD_count ({ frames := 1, cells := 0, slots := 0, locals := 22 }) [.ref (ad 0), .int z] (pw n ad cI cB cE S) (fun _ : Unit => pw n ad cI cB cE S) sz (fun r _ => (∃ w, w ≤ 4 ∧ z = nI w ∧ r = nI (pd_co n (n - S 7 0) S w)) ∨ ((∀ w, w ≤ 4 → z ≠ nI w) ∧ r = -1)) := by
  refine Met.ofW (cc := b_PD_count) (maxL := 2) (ret := (some .int)) (by decide) rfl ?_
  intro p e s m args below meth c s₁ B hml hv
  obtain ⟨rfl, hsz, hP, hK, hD0⟩ := hv
  have hx := B.exec
  have hb := B.bytes
  have hret := B.returns
  have hts := atoms_spec (ws := w_PD_count) B.pre
  have hg : ∀ w ∈ wsG, w.before _ s = true := fun w h => hts w (List.mem_cons_of_mem _ h)
  have hown : s.vm.findClass "PageDrive" = some m.cls := findClass_of_methodNamed B.named
  have hlocks := B.notSynchronized
  subst hsz
  have hD := hD0.self (sz := s.heap.size)
  generalize hAe : va_A (pw n ad cI cB cE S) s.heap.size = A at hD ⊢
  have hA : ∀ q : Nat, s.heap.size ≤ q → A q := fun q h => by rw [← hAe]; exact Or.inr h
  have hS : va_S A s.heap s.heap [] := va_S.rf
  have hl := lv_entry ([.ref (ad 0), .int z]) (n := 2) (Nat.le_of_ble_eq_true rfl)
  rw [lg_entry_eq]
  generalize (lg_sl ([.ref (ad 0), .int z]) ++ List.replicate (2 - (lg_sl ([.ref (ad 0), .int z])).length) Slot.unset).toArray = ls at hl ⊢
  have hl : lv_has ls 2 [(0, .ref (ad 0)), (1, .int z)] := hl
  refine lv_iload_n hx hb d_PD_count_0 rfl (lv_at hl 1 rfl) ?_
  by_cases hz : ∃ w, w ≤ 4 ∧ z = nI w
  · obtain ⟨w0, hw, rfl⟩ := hz
    rcases (show w0 = 0 ∨ w0 = 1 ∨ w0 = 2 ∨ w0 = 3 ∨ w0 = 4 by omega) with rfl | rfl | rfl | rfl | rfl
    · refine lv_tableIn (tgt := 36) hx hb d_PD_count_1 (by decide) (by decide) rfl (by decide) ?_
      refine lv_aload_n hx hb d_PD_count_36 rfl (lv_at hl 0 rfl) ?_
      refine va_get (C := "PageDrive") (T := F_PD) (N := 4) hx hb hg iw_PD hown hK hP (0) pw_g0 rfl 0 (by decide) (hg (Cond.fieldLink "PageDrive" 23 "PageDrive" "pool" "LPageDrive$Pool;") (wG_m3 (List.mem_of_getElem? (i := 17) rfl))) (fun _ h9 => h9) rfl d_PD_count_37 ?_
      refine va_get (C := "PageDrive$Pool") (T := F_PO) (N := 6) hx hb hg iw_PO hown hK hP (1) pw_g1 rfl 0 (by decide) (hg (Cond.fieldLink "PageDrive" 159 "PageDrive$Pool" "pages" "I") (wG_m1 (List.mem_of_getElem? (i := 37) rfl))) (fun _ h9 => h9) rfl d_PD_count_40 ?_
      refine lv_aload_n hx hb d_PD_count_43 rfl (lv_at hl 0 rfl) ?_
      refine va_get (C := "PageDrive") (T := F_PD) (N := 4) hx hb hg iw_PD hown hK hP (0) pw_g0 rfl 0 (by decide) (hg (Cond.fieldLink "PageDrive" 23 "PageDrive" "pool" "LPageDrive$Pool;") (wG_m3 (List.mem_of_getElem? (i := 17) rfl))) (fun _ h9 => h9) rfl d_PD_count_44 ?_
      refine va_get (C := "PageDrive$Pool") (T := F_PO) (N := 6) hx hb hg iw_PO hown hK hP (1) pw_g1 rfl 4 (by decide) (hg (Cond.fieldLink "PageDrive" 162 "PageDrive$Pool" "unusedCount" "I") (wG_m2 (List.mem_of_getElem? (i := 3) rfl))) (fun _ h9 => h9) rfl d_PD_count_47 ?_
      refine pq_isub hx hb (by omega) d_PD_count_50 ?_
      exact W.iret (v := (nI (n - (S 7 0)))) hx hb hret (fun t9 ht9 hW9 => ⟨⟨_, (), rfl, Or.inl ⟨0, by omega, rfl, rfl⟩, by rw [ht9]; exact hP, va_K.moved hW9.alike hK, hD⟩, hS.F ht9⟩) hS.2.2 d_PD_count_51
    · refine lv_tableIn (tgt := 52) hx hb d_PD_count_1 (by decide) (by decide) rfl (by decide) ?_
      refine lv_aload_n hx hb d_PD_count_52 rfl (lv_at hl 0 rfl) ?_
      refine va_get (C := "PageDrive") (T := F_PD) (N := 4) hx hb hg iw_PD hown hK hP (0) pw_g0 rfl 0 (by decide) (hg (Cond.fieldLink "PageDrive" 23 "PageDrive" "pool" "LPageDrive$Pool;") (wG_m3 (List.mem_of_getElem? (i := 17) rfl))) (fun _ h9 => h9) rfl d_PD_count_53 ?_
      refine va_get (C := "PageDrive$Pool") (T := F_PO) (N := 6) hx hb hg iw_PO hown hK hP (1) pw_g1 rfl 0 (by decide) (hg (Cond.fieldLink "PageDrive" 159 "PageDrive$Pool" "pages" "I") (wG_m1 (List.mem_of_getElem? (i := 37) rfl))) (fun _ h9 => h9) rfl d_PD_count_56 ?_
      exact W.iret (v := (nI n)) hx hb hret (fun t9 ht9 hW9 => ⟨⟨_, (), rfl, Or.inl ⟨1, by omega, rfl, rfl⟩, by rw [ht9]; exact hP, va_K.moved hW9.alike hK, hD⟩, hS.F ht9⟩) hS.2.2 d_PD_count_59
    · refine lv_tableIn (tgt := 60) hx hb d_PD_count_1 (by decide) (by decide) rfl (by decide) ?_
      refine lv_aload_n hx hb d_PD_count_60 rfl (lv_at hl 0 rfl) ?_
      refine va_get (C := "PageDrive") (T := F_PD) (N := 4) hx hb hg iw_PD hown hK hP (0) pw_g0 rfl 0 (by decide) (hg (Cond.fieldLink "PageDrive" 23 "PageDrive" "pool" "LPageDrive$Pool;") (wG_m3 (List.mem_of_getElem? (i := 17) rfl))) (fun _ h9 => h9) rfl d_PD_count_61 ?_
      refine va_get (C := "PageDrive$Pool") (T := F_PO) (N := 6) hx hb hg iw_PO hown hK hP (1) pw_g1 rfl 5 (by decide) (hg (Cond.fieldLink "PageDrive" 165 "PageDrive$Pool" "copied" "I") (wG_m2 (List.mem_of_getElem? (i := 5) rfl))) (fun _ h9 => h9) rfl d_PD_count_64 ?_
      exact W.iret (v := (nI (S 7 1))) hx hb hret (fun t9 ht9 hW9 => ⟨⟨_, (), rfl, Or.inl ⟨2, by omega, rfl, rfl⟩, by rw [ht9]; exact hP, va_K.moved hW9.alike hK, hD⟩, hS.F ht9⟩) hS.2.2 d_PD_count_67
    · refine lv_tableIn (tgt := 68) hx hb d_PD_count_1 (by decide) (by decide) rfl (by decide) ?_
      refine lv_aload_n hx hb d_PD_count_68 rfl (lv_at hl 0 rfl) ?_
      refine va_get (C := "PageDrive") (T := F_PD) (N := 4) hx hb hg iw_PD hown hK hP (0) pw_g0 rfl 3 (by decide) (hg (Cond.fieldLink "PageDrive" 38 "PageDrive" "taped" "I") (wG_m3 (List.mem_of_getElem? (i := 20) rfl))) (fun _ h9 => h9) rfl d_PD_count_69 ?_
      exact W.iret (v := (nI (S 7 2))) hx hb hret (fun t9 ht9 hW9 => ⟨⟨_, (), rfl, Or.inl ⟨3, by omega, rfl, rfl⟩, by rw [ht9]; exact hP, va_K.moved hW9.alike hK, hD⟩, hS.F ht9⟩) hS.2.2 d_PD_count_72
    · refine lv_tableIn (tgt := 73) hx hb d_PD_count_1 (by decide) (by decide) rfl (by decide) ?_
      refine lv_aload_n hx hb d_PD_count_73 rfl (lv_at hl 0 rfl) ?_
      refine pw_callip (va_runV (As := []) (rest := []) ⟨hx, hb, hml, hown, hg⟩ (c_PD_filesThere l dC dI cI cB cE cL cZ n ad S h5 s.heap.size) (cwV 0 hg (gi_V (fun _ h => h) (wG_m4 (List.mem_of_getElem? (i := 26) rfl)) (wG_m4 (List.mem_of_getElem? (i := 27) rfl)) (wG_m14 (List.mem_of_getElem? (i := 4) rfl)) (wG_m1 (List.mem_of_getElem? (i := 1) rfl)) (wG_m4 (List.mem_of_getElem? (i := 28) rfl))) rfl rfl rfl (by decide +kernel) ⟨Nat.le_of_ble_eq_true rfl, Nat.le_of_ble_eq_true rfl⟩) (pw_pv hK hP hD (va_recv hK hP (ci := 0) (q0 := 0) rfl pw_g0) []) rfl rfl hl.1 rfl (lv_room (Nat.le_of_ble_eq_true rfl)) d_PD_count_74 ⟨Nat.le_of_ble_eq_true rfl, Nat.le_of_ble_eq_true rfl⟩) hD hS hA (fun r1 H locs hr hP hD hS => ?_)
      subst hr
      exact W.iret (v := (nI (pd_th S))) hx hb hret (fun t9 ht9 hW9 => ⟨⟨_, (), rfl, Or.inl ⟨4, by omega, rfl, rfl⟩, by rw [ht9]; exact hP, va_K.moved hW9.alike hK, hD⟩, hS.F ht9⟩) hS.2.2 d_PD_count_77
  · have hz2 : ∀ w, w ≤ 4 → z ≠ nI w := fun w h q => hz ⟨w, h, q⟩
    refine lv_tableOut (tgt := 78) hx hb d_PD_count_1 (pd_sw (b := 4) (by decide) hz2) (by decide) ?_
    refine lv_iconst (v := (-1)) hx hb d_PD_count_78 (by decide) ?_
    exact W.iret (v := (-1)) hx hb hret (fun t9 ht9 hW9 => ⟨⟨_, (), rfl, Or.inr ⟨hz2, rfl⟩, by rw [ht9]; exact hP, va_K.moved hW9.alike hK, hD⟩, hS.F ht9⟩) hS.2.2 d_PD_count_79
set_option maxHeartbeats 4000000 in
set_option maxRecDepth 100000 in
/-- crashAll -/
theorem c_PD_crashAll (l : Launch) (dC : Nat → ClassId) (dI : Nat → Nat → Nat) (cI cB cE cL cZ : ClassId) (n : Nat) (ad : Nat → Nat) (S : pdS) (x : Int64) (hn : n ≤ 1024) (hv : pd_v n S) (ho : pd_ok n S (pd_ct S)) (hlw : pd_lo S) (sz : Nat) : CMi l (dC, dI) (pw_ty cI cB cE cL cZ) y_PD_crashAll w_PD_crashAll ({ frames := 5, cells := 0, slots := 0, locals := 127 }) [.ref (ad 0), .long x] (pw n ad cI cB cE S) (pw n ad cI cB cE) sz (fun r S2 => ∃ y, pd_al S x 16 S2 y ∧ r = nI (pd_th S2) ∧ pd_v n S2 ∧ pd_ok n S2 (pd_ct S2) ∧ pd_lo S2) := by
  refine Met.ofW (cc := b_PD_crashAll) (maxL := 6) (ret := (some .int)) (by decide) rfl ?_
  intro p e s m args below meth c s₁ B hml hv
  obtain ⟨rfl, hsz, hP, hK, hD0⟩ := hv
  have hx := B.exec
  have hb := B.bytes
  have hret := B.returns
  have hts := atoms_spec (ws := w_PD_crashAll) B.pre
  have hg : ∀ w ∈ wsG, w.before _ s = true := fun w h => hts w (List.mem_cons_of_mem _ h)
  have hown : s.vm.findClass "PageDrive" = some m.cls := findClass_of_methodNamed B.named
  have hlocks := B.notSynchronized
  subst hsz
  have hD := hD0.self (sz := s.heap.size)
  generalize hAe : va_A (pw n ad cI cB cE S) s.heap.size = A at hD ⊢
  have hA : ∀ q : Nat, s.heap.size ≤ q → A q := fun q h => by rw [← hAe]; exact Or.inr h
  have hS : va_S A s.heap s.heap [] := va_S.rf
  have hl := lv_entry ([.ref (ad 0), .long x]) (n := 6) (Nat.le_of_ble_eq_true rfl)
  rw [lg_entry_eq]
  generalize (lg_sl ([.ref (ad 0), .long x]) ++ List.replicate (6 - (lg_sl ([.ref (ad 0), .long x])).length) Slot.unset).toArray = ls at hl ⊢
  have hl : lv_has ls 6 [(0, .ref (ad 0)), (1, .long x)] := hl
  refine lv_lload_n hx hb d_PD_crashAll_0 rfl (lv_at hl 1 rfl) ?_
  refine lv_lstore_n (lv' := [(3, .long x), (0, .ref (ad 0)), (1, .long x)]) hx hb d_PD_crashAll_1 rfl hl (by decide) rfl (fun ls hl => ?_)
  refine lv_iconst (v := nI 0) hx hb d_PD_crashAll_2 (by decide) ?_
  refine lv_istore (lv' := [(5, .int (nI 0)), (3, .long x), (0, .ref (ad 0)), (1, .long x)]) hx hb d_PD_crashAll_3 hl (by decide) rfl (fun ls hl => ?_)
  refine pw_loop (fun mm H locs ls => ∃ (T : pdS) (z : Int64) (k : Nat), mm = 16 - k ∧ k ≤ 16 ∧ pd_al S x k T z ∧ pd_v n T ∧ pd_ok n T (pd_ct T) ∧ pd_lo T ∧ va_P (dC, dI) pwCl (pw n ad cI cB cE T) H ∧ va_D A (pw n ad cI cB cE T) ∧ va_S A s.heap H locs ∧ lv_has ls 6 [(5, .int (nI k)), (3, .long z), (0, .ref (ad 0)), (1, .long x)]) ?_ _ _ _ _ ⟨S, x, 0, rfl, by omega, ⟨pd_sa_rf S, rfl⟩, hv, ho, hlw, hP, hD, hS, hl⟩
  rintro mm H locs ls ⟨T, z, k, hmm, hk, hal, hvT, hoT, hlT, hP, hD, hS, hl⟩ ih
  refine lv_iload hx hb d_PD_crashAll_5 (lv_at hl 0 rfl) ?_
  refine lv_bipush (v := nI 16) hx hb d_PD_crashAll_7 (by decide) ?_
  refine pq_icmp_ge (tgt := 50) hx hb (by omega) (by omega) d_PD_crashAll_9 (by decide) (fun h1 => ?_) (fun h1 => ?_)
  · have hk16 : k = 16 := by omega
    subst hk16
    refine lv_aload_n hx hb d_PD_crashAll_50 rfl (lv_at hl 2 rfl) ?_
    refine pw_callip (va_runV (As := []) (rest := []) ⟨hx, hb, hml, hown, hg⟩ (c_PD_filesThere l dC dI cI cB cE cL cZ n ad T (fun d hd => (hvT.1 d hd).2.1) H.size) (cwV 0 hg (gi_V (fun _ h => h) (wG_m4 (List.mem_of_getElem? (i := 26) rfl)) (wG_m4 (List.mem_of_getElem? (i := 27) rfl)) (wG_m14 (List.mem_of_getElem? (i := 4) rfl)) (wG_m1 (List.mem_of_getElem? (i := 1) rfl)) (wG_m4 (List.mem_of_getElem? (i := 28) rfl))) rfl rfl rfl (by decide +kernel) ⟨Nat.le_of_ble_eq_true rfl, Nat.le_of_ble_eq_true rfl⟩) (pw_pv hK hP hD (va_recv hK hP (ci := 0) (q0 := 0) rfl pw_g0) []) rfl rfl hl.1 rfl (lv_room (Nat.le_of_ble_eq_true rfl)) d_PD_crashAll_51 ⟨Nat.le_of_ble_eq_true rfl, Nat.le_of_ble_eq_true rfl⟩) hD hS hA (fun r1 H locs hr hP hD hS => ?_)
    subst hr
    exact W.iret (v := (nI (pd_th T))) hx hb hret (fun t9 ht9 hW9 => ⟨⟨_, T, rfl, ⟨z, hal, rfl, hvT, hoT, hlT⟩, by rw [ht9]; exact hP, va_K.moved hW9.alike hK, hD⟩, hS.F ht9⟩) hS.2.2 d_PD_crashAll_54
  · have hs4 := (hvT.1 (2 * k) (by omega)).1
    have hlk := hlT k (by omega)
    refine lv_lload_n hx hb d_PD_crashAll_12 rfl (lv_at hl 1 rfl) ?_
    refine lv_ldc2 hx hb hown (hg (Cond.constantLong "PageDrive" 129 (6364136223846793005)) (wG_m3 (List.mem_of_getElem? (i := 34) rfl))) d_PD_crashAll_13 ?_
    refine lv_lmul hx hb d_PD_crashAll_16 ?_
    refine lv_ldc2 hx hb hown (hg (Cond.constantLong "PageDrive" 131 (1442695040888963407)) (wG_m3 (List.mem_of_getElem? (i := 35) rfl))) d_PD_crashAll_17 ?_
    refine lv_ladd hx hb d_PD_crashAll_20 ?_
    generalize hy : z * 6364136223846793005 + 1442695040888963407 = y
    refine lv_lstore_n (lv' := [(3, .long y), (5, .int (nI k)), (0, .ref (ad 0)), (1, .long x)]) hx hb d_PD_crashAll_21 rfl hl (by decide) rfl (fun ls hl => ?_)
    refine lv_aload_n hx hb d_PD_crashAll_22 rfl (lv_at hl 2 rfl) ?_
    refine lv_aload_n hx hb d_PD_crashAll_23 rfl (lv_at hl 2 rfl) ?_
    refine va_get (C := "PageDrive") (T := F_PD) (N := 4) hx hb hg iw_PD hown hK hP (0) pw_g0 rfl 1 (by decide) (hg (Cond.fieldLink "PageDrive" 29 "PageDrive" "entries" "[LPageDrive$Entry;") (wG_m3 (List.mem_of_getElem? (i := 18) rfl))) (fun _ h9 => h9) rfl d_PD_crashAll_24 ?_
    refine lv_iload hx hb d_PD_crashAll_27 (lv_at hl 1 rfl) ?_
    refine pr_ent hx hb hK hP (i := k) (by omega) rfl d_PD_crashAll_29 ?_
    refine lv_lload_n hx hb d_PD_crashAll_30 rfl (lv_at hl 0 rfl) ?_
    refine lv_aload_n hx hb d_PD_crashAll_31 rfl (lv_at hl 2 rfl) ?_
    refine va_get (C := "PageDrive") (T := F_PD) (N := 4) hx hb hg iw_PD hown hK hP (0) pw_g0 rfl 1 (by decide) (hg (Cond.fieldLink "PageDrive" 29 "PageDrive" "entries" "[LPageDrive$Entry;") (wG_m3 (List.mem_of_getElem? (i := 18) rfl))) (fun _ h9 => h9) rfl d_PD_crashAll_32 ?_
    refine lv_iload hx hb d_PD_crashAll_35 (lv_at hl 1 rfl) ?_
    refine pr_ent hx hb hK hP (i := k) (by omega) rfl d_PD_crashAll_37 ?_
    refine pw_callip (va_runS (As := [.long y, .ref (ad (7 + k))]) (rest := [.ref (ad (7 + k)), .ref (ad 0)]) ⟨hx, hb, hml, hown, hg⟩ (c_PD_keepOf l dC dI cI cB cE cL cZ n ad T y k (by omega) hlk hs4 H.size) (cwS 2 hg (gi_S (fun _ h => h) (wG_m3 (List.mem_of_getElem? (i := 36) rfl)) (wG_m3 (List.mem_of_getElem? (i := 37) rfl)) (wG_m1 (List.mem_of_getElem? (i := 1) rfl)) (wG_m3 (List.mem_of_getElem? (i := 38) rfl))) rfl rfl rfl (by decide +kernel) ⟨Nat.le_of_ble_eq_true rfl, Nat.le_of_ble_eq_true rfl⟩) (pw_ps hK hP hD [.long y, .ref (ad (7 + k))]) rfl rfl hl.1 rfl (lv_room (Nat.le_of_ble_eq_true rfl)) d_PD_crashAll_38 ⟨Nat.le_of_ble_eq_true rfl, Nat.le_of_ble_eq_true rfl⟩) hD hS hA (fun r3 H locs hr hP hD hS => ?_)
    subst hr
    have hkb : pd_kp y (T 4 (2 * k)) (T 6 k) < 2 ^ 31 := by unfold pd_kp; split; omega; have := Nat.mod_lt (y.toBitVec.toNat / 2 ^ 33 % 2 ^ 20) (show 0 < 2 * (T 4 (2 * k) - T 6 k) + 1 by omega); omega
    refine pw_callv (va_runV (As := [.ref (ad (7 + k)), .int (nI (pd_kp y (T 4 (2 * k)) (T 6 k)))]) (rest := []) ⟨hx, hb, hml, hown, hg⟩ (c_PD_fall l dC dI cI cB cE cL cZ n ad T k (pd_kp y (T 4 (2 * k)) (T 6 k)) hn hvT hoT (by omega) hlk hkb H.size) (cwV 2 hg (gi_V (fun _ h => h) (wG_m4 (List.mem_of_getElem? (i := 0) rfl)) (wG_m4 (List.mem_of_getElem? (i := 1) rfl)) (wG_m14 (List.mem_of_getElem? (i := 0) rfl)) (wG_m1 (List.mem_of_getElem? (i := 1) rfl)) (wG_m4 (List.mem_of_getElem? (i := 2) rfl))) rfl rfl rfl (by decide +kernel) ⟨Nat.le_of_ble_eq_true rfl, Nat.le_of_ble_eq_true rfl⟩) (pw_pv hK hP hD (va_recv hK hP (ci := 0) (q0 := 0) rfl pw_g0) [.ref (ad (7 + k)), .int (nI (pd_kp y (T 4 (2 * k)) (T 6 k)))]) rfl rfl hl.1 rfl (lv_room (Nat.le_of_ble_eq_true rfl)) d_PD_crashAll_41 ⟨Nat.le_of_ble_eq_true rfl, Nat.le_of_ble_eq_true rfl⟩) hD hS hA (fun T2 H locs hr hP hD hS => ?_)
    refine lv_iinc (v := (nI (k + 1))) (lv' := [(5, .int (nI (k + 1))), (3, .long y), (0, .ref (ad 0)), (1, .long x)]) hx hb d_PD_crashAll_44 hl (k := 1) rfl (pq_inc _) (by decide) rfl (fun ls hl => ?_)
    refine lv_goto (tgt := 5) hx hb d_PD_crashAll_47 (by decide) ?_
    exact ih _ _ _ _ (by omega) ⟨T2, y, k + 1, rfl, by omega, ⟨T, z, hal, hy.symm, hr.1⟩, pd_fal_v hr.1 (by omega) hvT, hr.2, pd_fal_lo hr.1 (by omega) hlT, hP, hD, hS, hl⟩
