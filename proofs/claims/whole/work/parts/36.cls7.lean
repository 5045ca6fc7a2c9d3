/-! THE CLASS, 7: append, cut, remove, twin, sync, crash -/
set_option maxHeartbeats 4000000 in
set_option maxRecDepth 100000 in
/-- append -/
theorem c_PD_append (l : Launch) (dC : Nat → ClassId) (dI : Nat → Nat → Nat) (cI cB cE cL cZ : ClassId) (hst : l.stackTraces = false) (n : Nat) (ad : Nat → Nat) (S : pdS) (f t : Int32) (hn : n ≤ 1024) (hv : pd_v n S) (ho : pd_ok n S (pd_ct S)) (sz : Nat) : CXi l (dC, dI) (pw_ty cI cB cE cL cZ) y_PD_append w_PD_append ({ frames := 6, cells := 1, slots := 6, locals := 105 }) [.ref (ad 0), .int f, .int t] (pw n ad cI cB cE S) (pw n ad cI cB cE) sz (fun r S2 => ∃ i j, i < 16 ∧ f = nI i ∧ 1 ≤ j ∧ j ≤ 16 ∧ t = nI j ∧ pd_rm S (2 * i) (S 7 2 * j) ∧ r = nI (S 4 (2 * i) + S 7 2 * j) ∧ pd_ap n S S2 (2 * i) (S 7 2 * j) (fun q => S 3 (q % S 7 2)) ∧ pd_ok n S2 (pd_ct S2)) (fun E S2 => (E = "java/lang/IndexOutOfBoundsException" ∧ (pd_nof f ∨ ∀ j, 1 ≤ j → j ≤ 16 → t ≠ nI j) ∧ S2 = S) ∨ (E = "java/lang/UnsupportedOperationException" ∧ ∃ i j, i < 16 ∧ f = nI i ∧ 1 ≤ j ∧ j ≤ 16 ∧ t = nI j ∧ ¬ pd_rm S (2 * i) (S 7 2 * j) ∧ S2 = pd_st S 7 2 0)) := by
  refine vx_ofW (cc := b_PD_append) (maxL := 7) (ret := (some .int)) (by decide) rfl ?_
  intro p e s m args below meth c s₁ B hml htab hv
  obtain ⟨rfl, ⟨hsz, hP, hK, hD0⟩, hKK, hZ⟩ := hv
  have hx := B.exec
  have hb := B.bytes
  have hret := B.returns
  have hts := atoms_spec (ws := w_PD_append) B.pre
  have hg : ∀ w ∈ wsG, w.before _ s = true := fun w h => hts w (List.mem_cons_of_mem _ h)
  have hown : s.vm.findClass "PageDrive" = some m.cls := findClass_of_methodNamed B.named
  have hlocks := B.notSynchronized
  subst hsz
  have hD := hD0.self (sz := s.heap.size)
  generalize hAe : va_A (pw n ad cI cB cE S) s.heap.size = A at hD hZ ⊢
  have hA : ∀ q : Nat, s.heap.size ≤ q → A q := fun q h => by rw [← hAe]; exact Or.inr h
  have hS : va_S A s.heap s.heap [] := va_S.rf
  have hl := lv_entry ([.ref (ad 0), .int f, .int t]) (n := 7) (Nat.le_of_ble_eq_true rfl)
  rw [lg_entry_eq]
  generalize (lg_sl ([.ref (ad 0), .int f, .int t]) ++ List.replicate (7 - (lg_sl ([.ref (ad 0), .int f, .int t])).length) Slot.unset).toArray = ls at hl ⊢
  have hl : lv_has ls 7 [(0, .ref (ad 0)), (1, .int f), (2, .int t)] := hl
  have h72 := hv.2.2.2.1
  refine lv_iload_n hx hb d_PD_append_0 rfl (lv_at hl 1 rfl) ?_
  refine pw_callip (va_runS (As := [.int f]) (rest := []) ⟨hx, hb, hml, hown, hg⟩ (c_PD_isFile l dC dI cI cB cE cL cZ (pw n ad cI cB cE S) f s.heap.size) (cwS 1 hg (gi_S (fun _ h => h) (wG_m7 (List.mem_of_getElem? (i := 5) rfl)) (wG_m7 (List.mem_of_getElem? (i := 6) rfl)) (wG_m1 (List.mem_of_getElem? (i := 1) rfl)) (wG_m7 (List.mem_of_getElem? (i := 7) rfl))) rfl rfl rfl (by decide +kernel) ⟨Nat.le_of_ble_eq_true rfl, Nat.le_of_ble_eq_true rfl⟩) (pw_ps hK hP hD [.int f]) rfl rfl hl.1 rfl (lv_room (Nat.le_of_ble_eq_true rfl)) d_PD_append_1 ⟨Nat.le_of_ble_eq_true rfl, Nat.le_of_ble_eq_true rfl⟩) hD hS hA (fun r1 H locs hr hP hD hS => ?_)
  rcases hr with ⟨i, hi, rfl, rfl⟩ | ⟨hno, rfl⟩
  · refine pq_if_eq (tgt := 18) hx hb (by omega) d_PD_append_4 (by decide) (fun h9 => absurd h9 (by omega)) (fun _ => ?_)
    refine lv_iload_n hx hb d_PD_append_7 rfl (lv_at hl 2 rfl) ?_
    refine lv_iconst (v := nI 1) hx hb d_PD_append_8 (by decide) ?_
    refine lv_icmp_lt (tgt := 18) hx hb d_PD_append_9 (by decide) (fun h1 => ?_) (fun h1 => ?_)
    · obtain ⟨sa, hstr⟩ := hKK.2.1 (60, "no such file, or not 1 to 16 times") (by decide +kernel)
      exact vx_throwS hx hb hst hown (cls := "java/lang/IndexOutOfBoundsException") (names := pgNm) xf_62 xn_nm (hg (Cond.classLink "PageDrive" 58 "java/lang/IndexOutOfBoundsException") (wG_m7 (List.mem_of_getElem? (i := 8) rfl))) (hg (Cond.initialized "java/lang/IndexOutOfBoundsException") (wG_m1 (List.mem_of_getElem? (i := 12) rfl))) hstr (pg_hat xa_62 hg hKK.1) xo_62 hZ.1 hZ.2 hS (hl.1.trans hml.symm) d_PD_append_18 d_PD_append_21 d_PD_append_22 d_PD_append_24 d_PD_append_27 (fun x h => (htab x h).elim) (Nat.le_of_ble_eq_true rfl) (Nat.le_of_ble_eq_true rfl) (Nat.le_of_ble_eq_true rfl) (Nat.le_of_ble_eq_true rfl) hlocks (fun t9 hy1 hy2 hy3 => ⟨("java/lang/IndexOutOfBoundsException", S), Or.inl ⟨rfl, Or.inr (fun j h1j h2j => pd_below h1 j h1j (by omega)), rfl⟩, ⟨rfl, (px_end (Wf := fun S => pw n ad cI cB cE S) hK hP hD hS t9 hy1 hy2 hy3).1⟩, (px_end (Wf := fun S => pw n ad cI cB cE S) hK hP hD hS t9 hy1 hy2 hy3).2⟩) hS.2.2 (Nat.le_of_ble_eq_true rfl) (Nat.le_of_ble_eq_true rfl)
    · refine lv_iload_n hx hb d_PD_append_12 rfl (lv_at hl 2 rfl) ?_
      refine lv_bipush (v := nI 16) hx hb d_PD_append_13 (by decide) ?_
      refine lv_icmp_le (tgt := 28) hx hb d_PD_append_15 (by decide) (fun h2 => ?_) (fun h2 => ?_)
      · obtain ⟨j, hj1, hj2, rfl⟩ := pd_rng (a := 1) (b := 16) (by decide) (by decide) h1 (fun q => Int32.lt_irrefl (Int32.lt_of_le_of_lt h2 q))
        have hs4 := (hv.1 (2 * i) (by omega)).1
        have hmul : S 7 2 * j ≤ 4096 * 16 := Nat.mul_le_mul h72 hj2
        refine lv_aload_n hx hb d_PD_append_28 rfl (lv_at hl 0 rfl) ?_
        refine va_get (C := "PageDrive") (T := F_PD) (N := 4) hx hb hg iw_PD hown hK hP (0) pw_g0 rfl 3 (by decide) (hg (Cond.fieldLink "PageDrive" 38 "PageDrive" "taped" "I") (wG_m3 (List.mem_of_getElem? (i := 20) rfl))) (fun _ h9 => h9) rfl d_PD_append_29 ?_
        refine lv_istore_n (lv' := [(3, .int (nI (S 7 2))), (0, .ref (ad 0)), (1, .int (nI i)), (2, .int (nI j))]) hx hb d_PD_append_32 rfl hl (by decide) rfl (fun ls hl => ?_)
        refine lv_aload_n hx hb d_PD_append_33 rfl (lv_at hl 1 rfl) ?_
        refine lv_iconst (v := nI 0) hx hb d_PD_append_34 (by decide) ?_
        refine pr_taped hx hb hg hown hK hP hD hS (hg (Cond.fieldLink "PageDrive" 38 "PageDrive" "taped" "I") (wG_m3 (List.mem_of_getElem? (i := 20) rfl))) d_PD_append_35 (fun H locs hP hD hS => ?_)
        generalize eS2 : pd_st S 7 2 0 = S2 at hP hD
        have hb1 : ∀ b, b ≠ 7 → S2 b = S b := fun b hb => by rw [← eS2, pd_bk _ hb]
        have h171 : S2 7 1 = S 7 1 := by rw [← eS2, pd_ne _ (by decide)]
        have h170 : S2 7 0 = S 7 0 := by rw [← eS2, pd_ne _ (by decide)]
        have h172 : S2 7 2 = 0 := by rw [← eS2, pd_self]
        have h14 : S2 4 (2 * i) = S 4 (2 * i) := by rw [hb1 4 (by decide)]
        have hct1 : ∀ q, pd_ct S2 q = pd_ct S q := fun q => pd_ct_congr (hb1 4 (by decide)) (fun d _ k _ => by rw [hb1 (8 + d) (by omega)]) q
        have hv1 : pd_v n S2 := by
          obtain ⟨v1, v2, v3, v4, v5, v6⟩ := hv
          refine ⟨fun d hd => by rw [hb1 4 (by decide), hb1 5 (by decide)]; exact v1 d hd, fun d k hd hk => ?_, fun a d k z ha hd hk hz => ?_, by omega, by rw [hb1 3 (by decide)]; exact v5, by rw [hb1 0 (by decide)]; exact v6⟩
          · rw [hb1 4 (by decide)] at hk
            rw [hb1 (8 + d) (by omega)]
            exact v2 d k hd hk
          · rw [hb1 4 (by decide)] at hk hz
            rw [hb1 (8 + a) (by omega), hb1 (8 + d) (by omega)]
            exact v3 a d k z ha hd hk hz
        have ho1 : pd_ok n S2 (pd_ct S2) := pd_ok_congr (pd_ok_eqv ho (hb1 1 (by decide)) (hb1 2 (by decide)) h170) (fun q _ => (hct1 q).symm)
        have hcp1 : pd_cp S2 (2 * i) (S 7 2 * j) ↔ pd_cp S (2 * i) (S 7 2 * j) := by
          unfold pd_cp
          rw [hb1 4 (by decide), hb1 (8 + 2 * i) (by omega), hct1]
        have hrm1 : pd_rm S2 (2 * i) (S 7 2 * j) ↔ pd_rm S (2 * i) (S 7 2 * j) := by
          unfold pd_rm
          rw [hcp1, h14, h170]
        refine lv_aload_n hx hb d_PD_append_38 rfl (lv_at hl 1 rfl) ?_
        refine va_get (C := "PageDrive") (T := F_PD) (N := 4) hx hb hg iw_PD hown hK hP (0) pw_g0 rfl 1 (by decide) (hg (Cond.fieldLink "PageDrive" 29 "PageDrive" "entries" "[LPageDrive$Entry;") (wG_m3 (List.mem_of_getElem? (i := 18) rfl))) (fun _ h9 => h9) rfl d_PD_append_39 ?_
        refine lv_iload_n hx hb d_PD_append_42 rfl (lv_at hl 2 rfl) ?_
        refine pr_ent hx hb hK hP (i := i) (by omega) rfl d_PD_append_43 ?_
        refine va_get (C := "PageDrive$Entry") (T := F_EN) (N := 3) hx hb hg iw_EN hown hK hP (7 + i) (pw_gE (i := i) (by omega)) rfl 0 (by decide) (hg (Cond.fieldLink "PageDrive" 63 "PageDrive$Entry" "now" "LPageDrive$Content;") (wG_m3 (List.mem_of_getElem? (i := 5) rfl))) (fun _ h9 => h9) rfl d_PD_append_44 ?_
        refine lv_astore (lv' := [(4, .ref (ad (23 + 2 * i))), (3, .int (nI (S 7 2))), (0, .ref (ad 0)), (1, .int (nI i)), (2, .int (nI j))]) hx hb d_PD_append_47 hl (by decide) rfl (fun ls hl => ?_)
        refine lv_aload hx hb d_PD_append_49 (lv_at hl 0 rfl) ?_
        refine va_get (C := "PageDrive$Content") (T := F_CO) (N := 3) hx hb hg iw_CO hown hK hP (23 + (2 * i)) (pw_gC (i := 2 * i) (by omega)) rfl 1 (by decide) (hg (Cond.fieldLink "PageDrive" 67 "PageDrive$Content" "size" "I") (wG_m2 (List.mem_of_getElem? (i := 34) rfl))) (fun _ h9 => h9) rfl d_PD_append_51 ?_
        refine lv_istore (lv' := [(5, .int (nI (S2 4 (2 * i)))), (4, .ref (ad (23 + 2 * i))), (3, .int (nI (S 7 2))), (0, .ref (ad 0)), (1, .int (nI i)), (2, .int (nI j))]) hx hb d_PD_append_54 hl (by decide) rfl (fun ls hl => ?_)
        refine lv_iload hx hb d_PD_append_56 (lv_at hl 0 rfl) ?_
        refine lv_iload_n hx hb d_PD_append_58 rfl (lv_at hl 2 rfl) ?_
        refine lv_iload_n hx hb d_PD_append_59 rfl (lv_at hl 5 rfl) ?_
        refine pq_imul hx hb d_PD_append_60 ?_
        refine pq_iadd hx hb d_PD_append_61 ?_
        refine lv_istore (lv' := [(6, .int (nI ((S2 4 (2 * i)) + ((S 7 2) * j)))), (5, .int (nI (S2 4 (2 * i)))), (4, .ref (ad (23 + 2 * i))), (3, .int (nI (S 7 2))), (0, .ref (ad 0)), (1, .int (nI i)), (2, .int (nI j))]) hx hb d_PD_append_62 hl (by decide) rfl (fun ls hl => ?_)
        refine lv_aload_n hx hb d_PD_append_64 rfl (lv_at hl 4 rfl) ?_
        refine lv_aload hx hb d_PD_append_65 (lv_at hl 2 rfl) ?_
        refine lv_iload hx hb d_PD_append_67 (lv_at hl 0 rfl) ?_
        refine pw_callip (va_runV (As := [.ref (ad (23 + 2 * i)), .int (nI ((S2 4 (2 * i)) + ((S 7 2) * j)))]) (rest := []) ⟨hx, hb, hml, hown, hg⟩ (c_PD_hasRoom l dC dI cI cB cE cL cZ n ad S2 (2 * i) (S 7 2 * j) hn hv1 ho1 (by omega) (by omega) H.size) (cwV 2 hg (gi_V (fun _ h => h) (wG_m7 (List.mem_of_getElem? (i := 22) rfl)) (wG_m7 (List.mem_of_getElem? (i := 23) rfl)) (wG_m14 (List.mem_of_getElem? (i := 6) rfl)) (wG_m1 (List.mem_of_getElem? (i := 1) rfl)) (wG_m7 (List.mem_of_getElem? (i := 24) rfl))) rfl rfl rfl (by decide +kernel) ⟨Nat.le_of_ble_eq_true rfl, Nat.le_of_ble_eq_true rfl⟩) (pw_pv hK hP hD (va_recv hK hP (ci := 0) (q0 := 0) rfl pw_g0) [.ref (ad (23 + 2 * i)), .int (nI ((S2 4 (2 * i)) + ((S 7 2) * j)))]) rfl rfl hl.1 rfl (lv_room (Nat.le_of_ble_eq_true rfl)) d_PD_append_69 ⟨Nat.le_of_ble_eq_true rfl, Nat.le_of_ble_eq_true rfl⟩) hD hS hA (fun r2 H locs hr hP hD hS => ?_)
        rcases hr with ⟨h3, rfl⟩ | ⟨h3, rfl⟩
        · refine pq_if_ne (tgt := 85) hx hb (by omega) d_PD_append_72 (by decide) (fun _ => ?_) (fun h9 => absurd h9 (by omega))
          have h400 := h3.1
          have hz : S 4 (2 * i) + S 7 2 * j ≤ 25600 := by unfold pd_pf at h400; omega
          refine lv_aload_n hx hb d_PD_append_85 rfl (lv_at hl 4 rfl) ?_
          refine lv_aload hx hb d_PD_append_86 (lv_at hl 2 rfl) ?_
          refine lv_iload hx hb d_PD_append_88 (lv_at hl 0 rfl) ?_
          refine pw_callv (va_runV (As := [.ref (ad (23 + 2 * i)), .int (nI ((S2 4 (2 * i)) + ((S 7 2) * j)))]) (rest := []) ⟨hx, hb, hml, hown, hg⟩ (c_PD_grow l dC dI cI cB cE cL cZ n ad S2 (2 * i) (S 7 2 * j) hn hv1 ho1 (by omega) h3 H.size) (cwV 2 hg (gi_V (fun _ h => h) (wG_m8 (List.mem_of_getElem? (i := 6) rfl)) (wG_m8 (List.mem_of_getElem? (i := 7) rfl)) (wG_m14 (List.mem_of_getElem? (i := 8) rfl)) (wG_m1 (List.mem_of_getElem? (i := 1) rfl)) (wG_m8 (List.mem_of_getElem? (i := 8) rfl))) rfl rfl rfl (by decide +kernel) ⟨Nat.le_of_ble_eq_true rfl, Nat.le_of_ble_eq_true rfl⟩) (pw_pv hK hP hD (va_recv hK hP (ci := 0) (q0 := 0) rfl pw_g0) [.ref (ad (23 + 2 * i)), .int (nI ((S2 4 (2 * i)) + ((S 7 2) * j)))]) rfl rfl hl.1 rfl (lv_room (Nat.le_of_ble_eq_true rfl)) d_PD_append_90 ⟨Nat.le_of_ble_eq_true rfl, Nat.le_of_ble_eq_true rfl⟩) hD hS hA (fun X H locs hr hP hD hS => ?_)
          have hX3 : X 3 = S 3 := by rw [hr.2.2.2.1, hb1 3 (by decide)]
          have hX72 : X 7 2 = 0 := by rw [hr.2.2.2.2.2.1, h172]
          refine lv_aload_n hx hb d_PD_append_93 rfl (lv_at hl 4 rfl) ?_
          refine lv_aload hx hb d_PD_append_94 (lv_at hl 2 rfl) ?_
          refine lv_iload hx hb d_PD_append_96 (lv_at hl 1 rfl) ?_
          refine lv_iload_n hx hb d_PD_append_98 rfl (lv_at hl 3 rfl) ?_
          refine lv_iload_n hx hb d_PD_append_99 rfl (lv_at hl 6 rfl) ?_
          refine pw_callv (va_runV (As := [.ref (ad (23 + 2 * i)), .int (nI (S2 4 (2 * i))), .int (nI (S 7 2)), .int (nI j)]) (rest := []) ⟨hx, hb, hml, hown, hg⟩ (c_PD_writeTape l dC dI cI cB cE cL cZ n ad X (2 * i) (S2 4 (2 * i)) (S 7 2) j hn (by omega) h72 hj2 (by omega) (fun k hk => pd_gw_row (by omega) hv1 hr hk) H.size) (cwV 4 hg (gi_V (fun _ h => h) (wG_m8 (List.mem_of_getElem? (i := 20) rfl)) (wG_m8 (List.mem_of_getElem? (i := 21) rfl)) (wG_m14 (List.mem_of_getElem? (i := 9) rfl)) (wG_m1 (List.mem_of_getElem? (i := 1) rfl)) (wG_m8 (List.mem_of_getElem? (i := 22) rfl))) rfl rfl rfl (by decide +kernel) ⟨Nat.le_of_ble_eq_true rfl, Nat.le_of_ble_eq_true rfl⟩) (pw_pv hK hP hD (va_recv hK hP (ci := 0) (q0 := 0) rfl pw_g0) [.ref (ad (23 + 2 * i)), .int (nI (S2 4 (2 * i))), .int (nI (S 7 2)), .int (nI j)]) rfl rfl hl.1 rfl (lv_room (Nat.le_of_ble_eq_true rfl)) d_PD_append_100 ⟨Nat.le_of_ble_eq_true rfl, Nat.le_of_ble_eq_true rfl⟩) hD hS hA (fun Y H locs hrY hP hD hS => ?_)
          obtain ⟨hap, hokY⟩ := pd_ap_of (S' := Y) (tp := fun q => S 3 (q % S 7 2)) (by omega) hv1 hr (by rw [hrY, hX3]) (fun q => hv.2.2.2.2.1 _) hX72
          refine lv_iload hx hb d_PD_append_103 (lv_at hl 0 rfl) ?_
          refine pq_top (y := nI (S 4 (2 * i) + S 7 2 * j)) (by rw [h14]) ?_
          refine W.widen (k := 1) (n := 6) (by omega) (by omega) ?_
          exact vx_ret (W.iret (v := (nI (S 4 (2 * i) + S 7 2 * j))) hx hb hret (fun t9 ht9 hW9 => ⟨⟨_, _, rfl, ⟨i, j, hi, rfl, hj1, hj2, rfl, hrm1.mp h3, rfl, pd_ap_0 hb1 h171 hap, hokY⟩, by rw [ht9]; exact hP, va_K.moved hW9.alike hK, hD⟩, hS.F ht9⟩) hS.2.2 d_PD_append_105)
        · refine pq_if_ne (tgt := 85) hx hb (by omega) d_PD_append_72 (by decide) (fun h9 => absurd h9 (by omega)) (fun _ => ?_)
          obtain ⟨sa, hstr⟩ := hKK.2.1 (78, "not enough pages for these bytes") (by decide +kernel)
          exact vx_throwS hx hb hst hown (cls := "java/lang/UnsupportedOperationException") (names := pgNm) xf_80 xn_nm (hg (Cond.classLink "PageDrive" 76 "java/lang/UnsupportedOperationException") (wG_m7 (List.mem_of_getElem? (i := 32) rfl))) (hg (Cond.initialized "java/lang/UnsupportedOperationException") (wG_m1 (List.mem_of_getElem? (i := 13) rfl))) hstr (pg_hat xa_80 hg hKK.1) xo_80 hZ.1 hZ.2 hS (hl.1.trans hml.symm) d_PD_append_75 d_PD_append_78 d_PD_append_79 d_PD_append_81 d_PD_append_84 (fun x h => (htab x h).elim) (Nat.le_of_ble_eq_true rfl) (Nat.le_of_ble_eq_true rfl) (Nat.le_of_ble_eq_true rfl) (Nat.le_of_ble_eq_true rfl) hlocks (fun t9 hy1 hy2 hy3 => ⟨("java/lang/UnsupportedOperationException", S2), Or.inr ⟨rfl, i, j, hi, rfl, hj1, hj2, rfl, fun q => h3 (hrm1.mpr q), by first | rfl | exact eS2.symm⟩, ⟨rfl, (px_end (Wf := fun S => pw n ad cI cB cE S) hK hP hD hS t9 hy1 hy2 hy3).1⟩, (px_end (Wf := fun S => pw n ad cI cB cE S) hK hP hD hS t9 hy1 hy2 hy3).2⟩) hS.2.2 (Nat.le_of_ble_eq_true rfl) (Nat.le_of_ble_eq_true rfl)
      · obtain ⟨sa, hstr⟩ := hKK.2.1 (60, "no such file, or not 1 to 16 times") (by decide +kernel)
        exact vx_throwS hx hb hst hown (cls := "java/lang/IndexOutOfBoundsException") (names := pgNm) xf_62 xn_nm (hg (Cond.classLink "PageDrive" 58 "java/lang/IndexOutOfBoundsException") (wG_m7 (List.mem_of_getElem? (i := 8) rfl))) (hg (Cond.initialized "java/lang/IndexOutOfBoundsException") (wG_m1 (List.mem_of_getElem? (i := 12) rfl))) hstr (pg_hat xa_62 hg hKK.1) xo_62 hZ.1 hZ.2 hS (hl.1.trans hml.symm) d_PD_append_18 d_PD_append_21 d_PD_append_22 d_PD_append_24 d_PD_append_27 (fun x h => (htab x h).elim) (Nat.le_of_ble_eq_true rfl) (Nat.le_of_ble_eq_true rfl) (Nat.le_of_ble_eq_true rfl) (Nat.le_of_ble_eq_true rfl) hlocks (fun t9 hy1 hy2 hy3 => ⟨("java/lang/IndexOutOfBoundsException", S), Or.inl ⟨rfl, Or.inr (fun j h1j h2j => pd_above (b := 16) (by decide) (Int32.not_le.mp h2) j h2j), rfl⟩, ⟨rfl, (px_end (Wf := fun S => pw n ad cI cB cE S) hK hP hD hS t9 hy1 hy2 hy3).1⟩, (px_end (Wf := fun S => pw n ad cI cB cE S) hK hP hD hS t9 hy1 hy2 hy3).2⟩) hS.2.2 (Nat.le_of_ble_eq_true rfl) (Nat.le_of_ble_eq_true rfl)
  · refine pq_if_eq (tgt := 18) hx hb (by omega) d_PD_append_4 (by decide) (fun _ => ?_) (fun h9 => absurd h9 (by omega))
    obtain ⟨sa, hstr⟩ := hKK.2.1 (60, "no such file, or not 1 to 16 times") (by decide +kernel)
    exact vx_throwS hx hb hst hown (cls := "java/lang/IndexOutOfBoundsException") (names := pgNm) xf_62 xn_nm (hg (Cond.classLink "PageDrive" 58 "java/lang/IndexOutOfBoundsException") (wG_m7 (List.mem_of_getElem? (i := 8) rfl))) (hg (Cond.initialized "java/lang/IndexOutOfBoundsException") (wG_m1 (List.mem_of_getElem? (i := 12) rfl))) hstr (pg_hat xa_62 hg hKK.1) xo_62 hZ.1 hZ.2 hS (hl.1.trans hml.symm) d_PD_append_18 d_PD_append_21 d_PD_append_22 d_PD_append_24 d_PD_append_27 (fun x h => (htab x h).elim) (Nat.le_of_ble_eq_true rfl) (Nat.le_of_ble_eq_true rfl) (Nat.le_of_ble_eq_true rfl) (Nat.le_of_ble_eq_true rfl) hlocks (fun t9 hy1 hy2 hy3 => ⟨("java/lang/IndexOutOfBoundsException", S), Or.inl ⟨rfl, Or.inl hno, rfl⟩, ⟨rfl, (px_end (Wf := fun S => pw n ad cI cB cE S) hK hP hD hS t9 hy1 hy2 hy3).1⟩, (px_end (Wf := fun S => pw n ad cI cB cE S) hK hP hD hS t9 hy1 hy2 hy3).2⟩) hS.2.2 (Nat.le_of_ble_eq_true rfl) (Nat.le_of_ble_eq_true rfl)
set_option maxHeartbeats 4000000 in
set_option maxRecDepth 100000 in
/-- cut -/
theorem c_PD_cut (l : Launch) (dC : Nat → ClassId) (dI : Nat → Nat → Nat) (cI cB cE cL cZ : ClassId) (hst : l.stackTraces = false) (n : Nat) (ad : Nat → Nat) (S : pdS) (f z : Int32) (hn : n ≤ 1024) (hv : pd_v n S) (ho : pd_ok n S (pd_ct S)) (hlw : pd_lo S) (sz : Nat) : CXi l (dC, dI) (pw_ty cI cB cE cL cZ) y_PD_cut w_PD_cut ({ frames := 6, cells := 1, slots := 6, locals := 82 }) [.ref (ad 0), .int f, .int z] (pw n ad cI cB cE S) (pw n ad cI cB cE) sz (fun r S2 => ∃ i x, i < 16 ∧ f = nI i ∧ S 5 (2 * i) ≠ 0 ∧ x ≤ S 4 (2 * i) ∧ z = nI x ∧ r = nI (S 4 (2 * i)) ∧ pd_cut S S2 i x ∧ pd_ok n S2 (pd_ct S2)) (fun E S2 => S2 = S ∧ ((E = "java/lang/IndexOutOfBoundsException" ∧ pd_nof f) ∨ (E = "java/util/NoSuchElementException" ∧ ∃ i, i < 16 ∧ f = nI i ∧ S 5 (2 * i) = 0) ∨ (E = "java/lang/IllegalArgumentException" ∧ ∃ i, i < 16 ∧ f = nI i ∧ S 5 (2 * i) ≠ 0 ∧ ∀ x, x ≤ S 4 (2 * i) → z ≠ nI x))) := by
  refine vx_ofW (cc := b_PD_cut) (maxL := 5) (ret := (some .int)) (by decide) rfl ?_
  intro p e s m args below meth c s₁ B hml htab hv
  obtain ⟨rfl, ⟨hsz, hP, hK, hD0⟩, hKK, hZ⟩ := hv
  have hx := B.exec
  have hb := B.bytes
  have hret := B.returns
  have hts := atoms_spec (ws := w_PD_cut) B.pre
  have hg : ∀ w ∈ wsG, w.before _ s = true := fun w h => hts w (List.mem_cons_of_mem _ h)
  have hown : s.vm.findClass "PageDrive" = some m.cls := findClass_of_methodNamed B.named
  have hlocks := B.notSynchronized
  subst hsz
  have hD := hD0.self (sz := s.heap.size)
  generalize hAe : va_A (pw n ad cI cB cE S) s.heap.size = A at hD hZ ⊢
  have hA : ∀ q : Nat, s.heap.size ≤ q → A q := fun q h => by rw [← hAe]; exact Or.inr h
  have hS : va_S A s.heap s.heap [] := va_S.rf
  have hl := lv_entry ([.ref (ad 0), .int f, .int z]) (n := 5) (Nat.le_of_ble_eq_true rfl)
  rw [lg_entry_eq]
  generalize (lg_sl ([.ref (ad 0), .int f, .int z]) ++ List.replicate (5 - (lg_sl ([.ref (ad 0), .int f, .int z])).length) Slot.unset).toArray = ls at hl ⊢
  have hl : lv_has ls 5 [(0, .ref (ad 0)), (1, .int f), (2, .int z)] := hl
  refine lv_iload_n hx hb d_PD_cut_0 rfl (lv_at hl 1 rfl) ?_
  refine pw_callip (va_runS (As := [.int f]) (rest := []) ⟨hx, hb, hml, hown, hg⟩ (c_PD_isFile l dC dI cI cB cE cL cZ (pw n ad cI cB cE S) f s.heap.size) (cwS 1 hg (gi_S (fun _ h => h) (wG_m7 (List.mem_of_getElem? (i := 5) rfl)) (wG_m7 (List.mem_of_getElem? (i := 6) rfl)) (wG_m1 (List.mem_of_getElem? (i := 1) rfl)) (wG_m7 (List.mem_of_getElem? (i := 7) rfl))) rfl rfl rfl (by decide +kernel) ⟨Nat.le_of_ble_eq_true rfl, Nat.le_of_ble_eq_true rfl⟩) (pw_ps hK hP hD [.int f]) rfl rfl hl.1 rfl (lv_room (Nat.le_of_ble_eq_true rfl)) d_PD_cut_1 ⟨Nat.le_of_ble_eq_true rfl, Nat.le_of_ble_eq_true rfl⟩) hD hS hA (fun r1 H locs hr hP hD hS => ?_)
  rcases hr with ⟨i, hi, rfl, rfl⟩ | ⟨hno, rfl⟩
  · refine pq_if_ne (tgt := 17) hx hb (by omega) d_PD_cut_4 (by decide) (fun _ => ?_) (fun h9 => absurd h9 (by omega))
    have hs4 := (hv.1 (2 * i) (by omega)).1
    have hs5 := (hv.1 (2 * i) (by omega)).2.1
    have hlwi := hlw i hi
    refine lv_aload_n hx hb d_PD_cut_17 rfl (lv_at hl 0 rfl) ?_
    refine va_get (C := "PageDrive") (T := F_PD) (N := 4) hx hb hg iw_PD hown hK hP (0) pw_g0 rfl 1 (by decide) (hg (Cond.fieldLink "PageDrive" 29 "PageDrive" "entries" "[LPageDrive$Entry;") (wG_m3 (List.mem_of_getElem? (i := 18) rfl))) (fun _ h9 => h9) rfl d_PD_cut_18 ?_
    refine lv_iload_n hx hb d_PD_cut_21 rfl (lv_at hl 1 rfl) ?_
    refine pr_ent hx hb hK hP (i := i) (by omega) rfl d_PD_cut_22 ?_
    refine lv_astore_n (lv' := [(3, .ref (ad (7 + i))), (0, .ref (ad 0)), (1, .int (nI i)), (2, .int z)]) hx hb d_PD_cut_23 rfl hl (by decide) rfl (fun ls hl => ?_)
    refine lv_aload_n hx hb d_PD_cut_24 rfl (lv_at hl 0 rfl) ?_
    refine va_get (C := "PageDrive$Entry") (T := F_EN) (N := 3) hx hb hg iw_EN hown hK hP (7 + i) (pw_gE (i := i) (by omega)) rfl 0 (by decide) (hg (Cond.fieldLink "PageDrive" 63 "PageDrive$Entry" "now" "LPageDrive$Content;") (wG_m3 (List.mem_of_getElem? (i := 5) rfl))) (fun _ h9 => h9) rfl d_PD_cut_25 ?_
    refine va_get (C := "PageDrive$Content") (T := F_CO) (N := 3) hx hb hg iw_CO hown hK hP (23 + (2 * i)) (pw_gC (i := 2 * i) (by omega)) rfl 2 (by decide) (hg (Cond.fieldLink "PageDrive" 91 "PageDrive$Content" "there" "Z") (wG_m2 (List.mem_of_getElem? (i := 36) rfl))) (fun _ h9 => h9) rfl d_PD_cut_28 ?_
    refine pq_if_ne (tgt := 44) hx hb (by omega) d_PD_cut_31 (by decide) (fun h1 => ?_) (fun h1 => ?_)
    · refine lv_aload_n hx hb d_PD_cut_44 rfl (lv_at hl 0 rfl) ?_
      refine va_get (C := "PageDrive$Entry") (T := F_EN) (N := 3) hx hb hg iw_EN hown hK hP (7 + i) (pw_gE (i := i) (by omega)) rfl 0 (by decide) (hg (Cond.fieldLink "PageDrive" 63 "PageDrive$Entry" "now" "LPageDrive$Content;") (wG_m3 (List.mem_of_getElem? (i := 5) rfl))) (fun _ h9 => h9) rfl d_PD_cut_45 ?_
      refine va_get (C := "PageDrive$Content") (T := F_CO) (N := 3) hx hb hg iw_CO hown hK hP (23 + (2 * i)) (pw_gC (i := 2 * i) (by omega)) rfl 1 (by decide) (hg (Cond.fieldLink "PageDrive" 67 "PageDrive$Content" "size" "I") (wG_m2 (List.mem_of_getElem? (i := 34) rfl))) (fun _ h9 => h9) rfl d_PD_cut_48 ?_
      refine lv_istore (lv' := [(4, .int (nI (S 4 (2 * i)))), (3, .ref (ad (7 + i))), (0, .ref (ad 0)), (1, .int (nI i)), (2, .int z)]) hx hb d_PD_cut_51 hl (by decide) rfl (fun ls hl => ?_)
      refine lv_iload_n hx hb d_PD_cut_53 rfl (lv_at hl 4 rfl) ?_
      refine lv_if_lt (tgt := 63) hx hb d_PD_cut_54 (by decide) (fun h2 => ?_) (fun h2 => ?_)
      · obtain ⟨sa, hstr⟩ := hKK.2.1 (100, "not 0 to the file's size") (by decide +kernel)
        exact vx_throwS hx hb hst hown (cls := "java/lang/IllegalArgumentException") (names := pgNm) xf_46 xn_nm (hg (Cond.classLink "PageDrive" 42 "java/lang/IllegalArgumentException") (wG_m5 (List.mem_of_getElem? (i := 5) rfl))) (hg (Cond.initialized "java/lang/IllegalArgumentException") (wG_m1 (List.mem_of_getElem? (i := 10) rfl))) hstr (pg_hat xa_46 hg hKK.1) xo_46 hZ.1 hZ.2 hS (hl.1.trans hml.symm) d_PD_cut_63 d_PD_cut_66 d_PD_cut_67 d_PD_cut_69 d_PD_cut_72 (fun x h => (htab x h).elim) (Nat.le_of_ble_eq_true rfl) (Nat.le_of_ble_eq_true rfl) (Nat.le_of_ble_eq_true rfl) (Nat.le_of_ble_eq_true rfl) hlocks (fun t9 hy1 hy2 hy3 => ⟨("java/lang/IllegalArgumentException", S), ⟨rfl, Or.inr (Or.inr ⟨rfl, i, hi, rfl, h1, fun x hx => pd_below (a := 0) h2 x (by omega) (by omega)⟩)⟩, ⟨rfl, (px_end (Wf := fun S => pw n ad cI cB cE S) hK hP hD hS t9 hy1 hy2 hy3).1⟩, (px_end (Wf := fun S => pw n ad cI cB cE S) hK hP hD hS t9 hy1 hy2 hy3).2⟩) hS.2.2 (Nat.le_of_ble_eq_true rfl) (Nat.le_of_ble_eq_true rfl)
      · refine lv_iload_n hx hb d_PD_cut_57 rfl (lv_at hl 4 rfl) ?_
        refine lv_iload hx hb d_PD_cut_58 (lv_at hl 0 rfl) ?_
        refine lv_icmp_le (tgt := 73) hx hb d_PD_cut_60 (by decide) (fun h3 => ?_) (fun h3 => ?_)
        · obtain ⟨x, hx1, hx2, rfl⟩ := pd_rng (a := 0) (b := S 4 (2 * i)) (by decide) (by omega) h2 (fun q => Int32.lt_irrefl (Int32.lt_of_le_of_lt h3 q))
          refine lv_aload_n hx hb d_PD_cut_73 rfl (lv_at hl 2 rfl) ?_
          refine lv_aload_n hx hb d_PD_cut_74 rfl (lv_at hl 1 rfl) ?_
          refine va_get (C := "PageDrive$Entry") (T := F_EN) (N := 3) hx hb hg iw_EN hown hK hP (7 + i) (pw_gE (i := i) (by omega)) rfl 0 (by decide) (hg (Cond.fieldLink "PageDrive" 63 "PageDrive$Entry" "now" "LPageDrive$Content;") (wG_m3 (List.mem_of_getElem? (i := 5) rfl))) (fun _ h9 => h9) rfl d_PD_cut_75 ?_
          refine lv_iload_n hx hb d_PD_cut_78 rfl (lv_at hl 4 rfl) ?_
          refine pw_callv (va_runV (As := [.ref (ad (23 + 2 * i)), .int (nI x)]) (rest := []) ⟨hx, hb, hml, hown, hg⟩ (c_PD_shorten l dC dI cI cB cE cL cZ n ad S (2 * i) x (fun q => pd_ct S q - pd_tl S (2 * i) x q) hn (by omega) hx2 hs4 (fun k hk => hv.2.1 _ k (by omega) hk) (fun q => by have h7 := pd_ct_bd hv q; show _ - _ < _; omega) (pd_sh_pre (by omega) hx2 ho) H.size) (cwV 2 hg (gi_V (fun _ h => h) (wG_m4 (List.mem_of_getElem? (i := 13) rfl)) (wG_m4 (List.mem_of_getElem? (i := 14) rfl)) (wG_m14 (List.mem_of_getElem? (i := 2) rfl)) (wG_m1 (List.mem_of_getElem? (i := 1) rfl)) (wG_m4 (List.mem_of_getElem? (i := 15) rfl))) rfl rfl rfl (by decide +kernel) ⟨Nat.le_of_ble_eq_true rfl, Nat.le_of_ble_eq_true rfl⟩) (pw_pv hK hP hD (va_recv hK hP (ci := 0) (q0 := 0) rfl pw_g0) [.ref (ad (23 + 2 * i)), .int (nI x)]) rfl rfl hl.1 rfl (lv_room (Nat.le_of_ble_eq_true rfl)) d_PD_cut_79 ⟨Nat.le_of_ble_eq_true rfl, Nat.le_of_ble_eq_true rfl⟩) hD hS hA (fun T H locs hr hP hD hS => ?_)
          obtain ⟨T0, ht1, ht2, ht3⟩ := hr
          have hsh := pd_sh_of ht1 ht3
          have hoT : pd_ok n T (pd_ct T) := pd_sh_post (by omega) hx2 hsh (by rw [ht3]; exact pd_ok_st ht2 (by decide) (by decide) (Or.inl (by decide)))
          have hT6 : T 6 i = S 6 i := by rw [hsh.2.2.2.2.1]
          refine lv_aload_n hx hb d_PD_cut_82 rfl (lv_at hl 1 rfl) ?_
          refine lv_aload_n hx hb d_PD_cut_83 rfl (lv_at hl 1 rfl) ?_
          refine va_get (C := "PageDrive$Entry") (T := F_EN) (N := 3) hx hb hg iw_EN hown hK hP (7 + i) (pw_gE (i := i) (by omega)) rfl 2 (by decide) (hg (Cond.fieldLink "PageDrive" 105 "PageDrive$Entry" "low" "I") (wG_m3 (List.mem_of_getElem? (i := 9) rfl))) (fun _ h9 => h9) rfl d_PD_cut_84 ?_
          refine lv_iload_n hx hb d_PD_cut_87 rfl (lv_at hl 4 rfl) ?_
          refine va_mmin hx hb (hml.trans hl.1.symm) hown (hg _ (wG_m1 (List.mem_of_getElem? (i := 26) rfl))) (hg _ (wG_m1 (List.mem_of_getElem? (i := 27) rfl))) (hg (Cond.initialized "java/lang/Math") (wG_m1 (List.mem_of_getElem? (i := 3) rfl))) (hg _ (wG_m1 (List.mem_of_getElem? (i := 28) rfl))) (Nat.le_of_ble_eq_true rfl) (Nat.le_of_ble_eq_true rfl) (Nat.zero_le _) (Nat.zero_le _) d_PD_cut_88 ?_
          refine pq_top (y := nI (if x < S 6 i then x else S 6 i)) (by rw [hT6]; exact pd_min (by omega) (by omega)) ?_
          refine pr_low hx hb hg hown hK hP hD hS (i := i) (by omega) (hg (Cond.fieldLink "PageDrive" 105 "PageDrive$Entry" "low" "I") (wG_m3 (List.mem_of_getElem? (i := 9) rfl))) d_PD_cut_91 (fun H locs hP hD hS => ?_)
          generalize eS2 : pd_st T 6 i (if x < S 6 i then x else S 6 i) = S2 at hP hD
          refine lv_iload hx hb d_PD_cut_94 (lv_at hl 0 rfl) ?_
          have hct : ∀ q, pd_ct S2 q = pd_ct T q := fun q => by rw [← eS2]; exact pd_ct_congr (pd_bk _ (by decide)) (fun d _ k _ => by rw [pd_bk _ (by omega)]) q
          refine W.widen (k := 1) (n := 6) (by omega) (by omega) ?_
          exact vx_ret (W.iret (v := (nI (S 4 (2 * i)))) hx hb hret (fun t9 ht9 hW9 => ⟨⟨_, _, rfl, ⟨i, x, hi, rfl, h1, hx2, rfl, rfl, ⟨T, hsh, by rw [eS2]; exact pd_sa_rf _⟩, pd_ok_congr (by rw [← eS2]; exact pd_ok_st hoT (by decide) (by decide) (Or.inl (by decide))) (fun q _ => (hct q).symm)⟩, by rw [ht9]; exact hP, va_K.moved hW9.alike hK, hD⟩, hS.F ht9⟩) hS.2.2 d_PD_cut_96)
        · obtain ⟨sa, hstr⟩ := hKK.2.1 (100, "not 0 to the file's size") (by decide +kernel)
          exact vx_throwS hx hb hst hown (cls := "java/lang/IllegalArgumentException") (names := pgNm) xf_46 xn_nm (hg (Cond.classLink "PageDrive" 42 "java/lang/IllegalArgumentException") (wG_m5 (List.mem_of_getElem? (i := 5) rfl))) (hg (Cond.initialized "java/lang/IllegalArgumentException") (wG_m1 (List.mem_of_getElem? (i := 10) rfl))) hstr (pg_hat xa_46 hg hKK.1) xo_46 hZ.1 hZ.2 hS (hl.1.trans hml.symm) d_PD_cut_63 d_PD_cut_66 d_PD_cut_67 d_PD_cut_69 d_PD_cut_72 (fun x h => (htab x h).elim) (Nat.le_of_ble_eq_true rfl) (Nat.le_of_ble_eq_true rfl) (Nat.le_of_ble_eq_true rfl) (Nat.le_of_ble_eq_true rfl) hlocks (fun t9 hy1 hy2 hy3 => ⟨("java/lang/IllegalArgumentException", S), ⟨rfl, Or.inr (Or.inr ⟨rfl, i, hi, rfl, h1, fun x hx => pd_above (b := S 4 (2 * i)) (by omega) (Int32.not_le.mp h3) x hx⟩)⟩, ⟨rfl, (px_end (Wf := fun S => pw n ad cI cB cE S) hK hP hD hS t9 hy1 hy2 hy3).1⟩, (px_end (Wf := fun S => pw n ad cI cB cE S) hK hP hD hS t9 hy1 hy2 hy3).2⟩) hS.2.2 (Nat.le_of_ble_eq_true rfl) (Nat.le_of_ble_eq_true rfl)
    · obtain ⟨sa, hstr⟩ := hKK.2.1 (97, "the file is not there") (by decide +kernel)
      exact vx_throwNS hx hb hst hown (hg (Cond.classLink "PageDrive" 95 "java/util/NoSuchElementException") (wG_m8 (List.mem_of_getElem? (i := 35) rfl))) (hg (Cond.initialized "java/util/NoSuchElementException") (wG_m1 (List.mem_of_getElem? (i := 15) rfl))) hstr hg hKK.1 hZ.1 hZ.2 hS (hl.1.trans hml.symm) d_PD_cut_34 d_PD_cut_37 d_PD_cut_38 d_PD_cut_40 d_PD_cut_43 (fun x h => (htab x h).elim) (Nat.le_of_ble_eq_true rfl) (Nat.le_of_ble_eq_true rfl) (Nat.le_of_ble_eq_true rfl) (Nat.le_of_ble_eq_true rfl) hlocks (fun t9 hy1 hy2 hy3 => ⟨("java/util/NoSuchElementException", S), ⟨rfl, Or.inr (Or.inl ⟨rfl, i, hi, rfl, h1⟩)⟩, ⟨rfl, (px_end (Wf := fun S => pw n ad cI cB cE S) hK hP hD hS t9 hy1 hy2 hy3).1⟩, (px_end (Wf := fun S => pw n ad cI cB cE S) hK hP hD hS t9 hy1 hy2 hy3).2⟩) hS.2.2 (Nat.le_of_ble_eq_true rfl) (Nat.le_of_ble_eq_true rfl)
  · refine pq_if_ne (tgt := 17) hx hb (by omega) d_PD_cut_4 (by decide) (fun h9 => absurd h9 (by omega)) (fun _ => ?_)
    obtain ⟨sa, hstr⟩ := hKK.2.1 (89, "no such file number") (by decide +kernel)
    exact vx_throwS hx hb hst hown (cls := "java/lang/IndexOutOfBoundsException") (names := pgNm) xf_62 xn_nm (hg (Cond.classLink "PageDrive" 58 "java/lang/IndexOutOfBoundsException") (wG_m7 (List.mem_of_getElem? (i := 8) rfl))) (hg (Cond.initialized "java/lang/IndexOutOfBoundsException") (wG_m1 (List.mem_of_getElem? (i := 12) rfl))) hstr (pg_hat xa_62 hg hKK.1) xo_62 hZ.1 hZ.2 hS (hl.1.trans hml.symm) d_PD_cut_7 d_PD_cut_10 d_PD_cut_11 d_PD_cut_13 d_PD_cut_16 (fun x h => (htab x h).elim) (Nat.le_of_ble_eq_true rfl) (Nat.le_of_ble_eq_true rfl) (Nat.le_of_ble_eq_true rfl) (Nat.le_of_ble_eq_true rfl) hlocks (fun t9 hy1 hy2 hy3 => ⟨("java/lang/IndexOutOfBoundsException", S), ⟨rfl, Or.inl ⟨rfl, hno⟩⟩, ⟨rfl, (px_end (Wf := fun S => pw n ad cI cB cE S) hK hP hD hS t9 hy1 hy2 hy3).1⟩, (px_end (Wf := fun S => pw n ad cI cB cE S) hK hP hD hS t9 hy1 hy2 hy3).2⟩) hS.2.2 (Nat.le_of_ble_eq_true rfl) (Nat.le_of_ble_eq_true rfl)
set_option maxHeartbeats 4000000 in
set_option maxRecDepth 100000 in
/-- remove -/
theorem c_PD_remove (l : Launch) (dC : Nat → ClassId) (dI : Nat → Nat → Nat) (cI cB cE cL cZ : ClassId) (hst : l.stackTraces = false) (n : Nat) (ad : Nat → Nat) (S : pdS) (f : Int32) (hn : n ≤ 1024) (hv : pd_v n S) (ho : pd_ok n S (pd_ct S)) (sz : Nat) : CXi l (dC, dI) (pw_ty cI cB cE cL cZ) y_PD_remove w_PD_remove ({ frames := 6, cells := 1, slots := 6, locals := 82 }) [.ref (ad 0), .int f] (pw n ad cI cB cE S) (pw n ad cI cB cE) sz (fun r S2 => ∃ i, i < 16 ∧ f = nI i ∧ r = nI (S 5 (2 * i)) ∧ pd_rem S S2 i ∧ pd_ok n S2 (pd_ct S2)) (fun E S2 => S2 = S ∧ E = "java/lang/IndexOutOfBoundsException" ∧ pd_nof f) := by
  refine vx_ofW (cc := b_PD_remove) (maxL := 4) (ret := (some .boolean)) (by decide) rfl ?_
  intro p e s m args below meth c s₁ B hml htab hv
  obtain ⟨rfl, ⟨hsz, hP, hK, hD0⟩, hKK, hZ⟩ := hv
  have hx := B.exec
  have hb := B.bytes
  have hret := B.returns
  have hts := atoms_spec (ws := w_PD_remove) B.pre
  have hg : ∀ w ∈ wsG, w.before _ s = true := fun w h => hts w (List.mem_cons_of_mem _ h)
  have hown : s.vm.findClass "PageDrive" = some m.cls := findClass_of_methodNamed B.named
  have hlocks := B.notSynchronized
  subst hsz
  have hD := hD0.self (sz := s.heap.size)
  generalize hAe : va_A (pw n ad cI cB cE S) s.heap.size = A at hD hZ ⊢
  have hA : ∀ q : Nat, s.heap.size ≤ q → A q := fun q h => by rw [← hAe]; exact Or.inr h
  have hS : va_S A s.heap s.heap [] := va_S.rf
  have hl := lv_entry ([.ref (ad 0), .int f]) (n := 4) (Nat.le_of_ble_eq_true rfl)
  rw [lg_entry_eq]
  generalize (lg_sl ([.ref (ad 0), .int f]) ++ List.replicate (4 - (lg_sl ([.ref (ad 0), .int f])).length) Slot.unset).toArray = ls at hl ⊢
  have hl : lv_has ls 4 [(0, .ref (ad 0)), (1, .int f)] := hl
  refine lv_iload_n hx hb d_PD_remove_0 rfl (lv_at hl 1 rfl) ?_
  refine pw_callip (va_runS (As := [.int f]) (rest := []) ⟨hx, hb, hml, hown, hg⟩ (c_PD_isFile l dC dI cI cB cE cL cZ (pw n ad cI cB cE S) f s.heap.size) (cwS 1 hg (gi_S (fun _ h => h) (wG_m7 (List.mem_of_getElem? (i := 5) rfl)) (wG_m7 (List.mem_of_getElem? (i := 6) rfl)) (wG_m1 (List.mem_of_getElem? (i := 1) rfl)) (wG_m7 (List.mem_of_getElem? (i := 7) rfl))) rfl rfl rfl (by decide +kernel) ⟨Nat.le_of_ble_eq_true rfl, Nat.le_of_ble_eq_true rfl⟩) (pw_ps hK hP hD [.int f]) rfl rfl hl.1 rfl (lv_room (Nat.le_of_ble_eq_true rfl)) d_PD_remove_1 ⟨Nat.le_of_ble_eq_true rfl, Nat.le_of_ble_eq_true rfl⟩) hD hS hA (fun r1 H locs hr hP hD hS => ?_)
  rcases hr with ⟨i, hi, rfl, rfl⟩ | ⟨hno, rfl⟩
  · refine pq_if_ne (tgt := 17) hx hb (by omega) d_PD_remove_4 (by decide) (fun _ => ?_) (fun h9 => absurd h9 (by omega))
    have hs4 := (hv.1 (2 * i) (by omega)).1
    have hs5 := (hv.1 (2 * i) (by omega)).2.1
    refine lv_aload_n hx hb d_PD_remove_17 rfl (lv_at hl 0 rfl) ?_
    refine va_get (C := "PageDrive") (T := F_PD) (N := 4) hx hb hg iw_PD hown hK hP (0) pw_g0 rfl 1 (by decide) (hg (Cond.fieldLink "PageDrive" 29 "PageDrive" "entries" "[LPageDrive$Entry;") (wG_m3 (List.mem_of_getElem? (i := 18) rfl))) (fun _ h9 => h9) rfl d_PD_remove_18 ?_
    refine lv_iload_n hx hb d_PD_remove_21 rfl (lv_at hl 1 rfl) ?_
    refine pr_ent hx hb hK hP (i := i) (by omega) rfl d_PD_remove_22 ?_
    refine lv_astore_n (lv' := [(2, .ref (ad (7 + i))), (0, .ref (ad 0)), (1, .int (nI i))]) hx hb d_PD_remove_23 rfl hl (by decide) rfl (fun ls hl => ?_)
    refine lv_aload_n hx hb d_PD_remove_24 rfl (lv_at hl 0 rfl) ?_
    refine va_get (C := "PageDrive$Entry") (T := F_EN) (N := 3) hx hb hg iw_EN hown hK hP (7 + i) (pw_gE (i := i) (by omega)) rfl 0 (by decide) (hg (Cond.fieldLink "PageDrive" 63 "PageDrive$Entry" "now" "LPageDrive$Content;") (wG_m3 (List.mem_of_getElem? (i := 5) rfl))) (fun _ h9 => h9) rfl d_PD_remove_25 ?_
    refine va_get (C := "PageDrive$Content") (T := F_CO) (N := 3) hx hb hg iw_CO hown hK hP (23 + (2 * i)) (pw_gC (i := 2 * i) (by omega)) rfl 2 (by decide) (hg (Cond.fieldLink "PageDrive" 91 "PageDrive$Content" "there" "Z") (wG_m2 (List.mem_of_getElem? (i := 36) rfl))) (fun _ h9 => h9) rfl d_PD_remove_28 ?_
    refine lv_istore_n (lv' := [(3, .int (nI (S 5 (2 * i)))), (2, .ref (ad (7 + i))), (0, .ref (ad 0)), (1, .int (nI i))]) hx hb d_PD_remove_31 rfl hl (by decide) rfl (fun ls hl => ?_)
    refine lv_aload_n hx hb d_PD_remove_32 rfl (lv_at hl 2 rfl) ?_
    refine lv_aload_n hx hb d_PD_remove_33 rfl (lv_at hl 1 rfl) ?_
    refine va_get (C := "PageDrive$Entry") (T := F_EN) (N := 3) hx hb hg iw_EN hown hK hP (7 + i) (pw_gE (i := i) (by omega)) rfl 0 (by decide) (hg (Cond.fieldLink "PageDrive" 63 "PageDrive$Entry" "now" "LPageDrive$Content;") (wG_m3 (List.mem_of_getElem? (i := 5) rfl))) (fun _ h9 => h9) rfl d_PD_remove_34 ?_
    refine lv_iconst (v := nI 0) hx hb d_PD_remove_37 (by decide) ?_
    refine pw_callv (va_runV (As := [.ref (ad (23 + 2 * i)), .int (nI 0)]) (rest := []) ⟨hx, hb, hml, hown, hg⟩ (c_PD_shorten l dC dI cI cB cE cL cZ n ad S (2 * i) 0 (fun q => pd_ct S q - pd_tl S (2 * i) 0 q) hn (by omega) (Nat.zero_le _) hs4 (fun k hk => hv.2.1 _ k (by omega) hk) (fun q => by have h7 := pd_ct_bd hv q; show _ - _ < _; omega) (pd_sh_pre (by omega) (Nat.zero_le _) ho) H.size) (cwV 2 hg (gi_V (fun _ h => h) (wG_m4 (List.mem_of_getElem? (i := 13) rfl)) (wG_m4 (List.mem_of_getElem? (i := 14) rfl)) (wG_m14 (List.mem_of_getElem? (i := 2) rfl)) (wG_m1 (List.mem_of_getElem? (i := 1) rfl)) (wG_m4 (List.mem_of_getElem? (i := 15) rfl))) rfl rfl rfl (by decide +kernel) ⟨Nat.le_of_ble_eq_true rfl, Nat.le_of_ble_eq_true rfl⟩) (pw_pv hK hP hD (va_recv hK hP (ci := 0) (q0 := 0) rfl pw_g0) [.ref (ad (23 + 2 * i)), .int (nI 0)]) rfl rfl hl.1 rfl (lv_room (Nat.le_of_ble_eq_true rfl)) d_PD_remove_38 ⟨Nat.le_of_ble_eq_true rfl, Nat.le_of_ble_eq_true rfl⟩) hD hS hA (fun T H locs hr hP hD hS => ?_)
    obtain ⟨T0, ht1, ht2, ht3⟩ := hr
    have hsh := pd_sh_of ht1 ht3
    have hoT : pd_ok n T (pd_ct T) := pd_sh_post (by omega) (Nat.zero_le _) hsh (by rw [ht3]; exact pd_ok_st ht2 (by decide) (by decide) (Or.inl (by decide)))
    refine lv_aload_n hx hb d_PD_remove_41 rfl (lv_at hl 1 rfl) ?_
    refine va_get (C := "PageDrive$Entry") (T := F_EN) (N := 3) hx hb hg iw_EN hown hK hP (7 + i) (pw_gE (i := i) (by omega)) rfl 0 (by decide) (hg (Cond.fieldLink "PageDrive" 63 "PageDrive$Entry" "now" "LPageDrive$Content;") (wG_m3 (List.mem_of_getElem? (i := 5) rfl))) (fun _ h9 => h9) rfl d_PD_remove_42 ?_
    refine lv_iconst (v := nI 0) hx hb d_PD_remove_45 (by decide) ?_
    refine pr_there hx hb hg hown hK hP hD hS (i := 2 * i) (by omega) (by omega) (hg (Cond.fieldLink "PageDrive" 91 "PageDrive$Content" "there" "Z") (wG_m2 (List.mem_of_getElem? (i := 36) rfl))) d_PD_remove_46 (fun H locs hP hD hS => ?_)
    generalize eS2 : pd_st T 5 (2 * i) 0 = S2 at hP hD
    refine lv_aload_n hx hb d_PD_remove_49 rfl (lv_at hl 1 rfl) ?_
    refine lv_iconst (v := nI 0) hx hb d_PD_remove_50 (by decide) ?_
    refine pr_low hx hb hg hown hK hP hD hS (i := i) (by omega) (hg (Cond.fieldLink "PageDrive" 105 "PageDrive$Entry" "low" "I") (wG_m3 (List.mem_of_getElem? (i := 9) rfl))) d_PD_remove_51 (fun H locs hP hD hS => ?_)
    generalize eS3 : pd_st S2 6 i 0 = S3 at hP hD
    refine lv_iload_n hx hb d_PD_remove_54 rfl (lv_at hl 0 rfl) ?_
    have hct : ∀ q, pd_ct S3 q = pd_ct T q := fun q => by rw [← eS3, ← eS2]; exact pd_ct_congr (by rw [pd_bk _ (by decide), pd_bk _ (by decide)]) (fun d _ k _ => by rw [pd_bk _ (by omega), pd_bk _ (by omega)]) q
    refine W.widen (k := 1) (n := 6) (by omega) (by omega) ?_
    exact vx_ret (W.zret (v := (nI (S 5 (2 * i)))) hx hb hret (pw_n01 hs5 rfl).1 (fun t9 ht9 hW9 => ⟨⟨_, _, rfl, ⟨i, hi, rfl, rfl, ⟨T, hsh, by rw [eS2, eS3]; exact pd_sa_rf _⟩, pd_ok_congr (by rw [← eS3, ← eS2]; exact pd_ok_st (pd_ok_st hoT (by decide) (by decide) (Or.inl (by decide))) (by decide) (by decide) (Or.inl (by decide))) (fun q _ => (hct q).symm)⟩, by rw [ht9]; exact hP, va_K.moved hW9.alike hK, hD⟩, hS.F ht9⟩) hS.2.2 d_PD_remove_55)
  · refine pq_if_ne (tgt := 17) hx hb (by omega) d_PD_remove_4 (by decide) (fun h9 => absurd h9 (by omega)) (fun _ => ?_)
    obtain ⟨sa, hstr⟩ := hKK.2.1 (89, "no such file number") (by decide +kernel)
    exact vx_throwS hx hb hst hown (cls := "java/lang/IndexOutOfBoundsException") (names := pgNm) xf_62 xn_nm (hg (Cond.classLink "PageDrive" 58 "java/lang/IndexOutOfBoundsException") (wG_m7 (List.mem_of_getElem? (i := 8) rfl))) (hg (Cond.initialized "java/lang/IndexOutOfBoundsException") (wG_m1 (List.mem_of_getElem? (i := 12) rfl))) hstr (pg_hat xa_62 hg hKK.1) xo_62 hZ.1 hZ.2 hS (hl.1.trans hml.symm) d_PD_remove_7 d_PD_remove_10 d_PD_remove_11 d_PD_remove_13 d_PD_remove_16 (fun x h => (htab x h).elim) (Nat.le_of_ble_eq_true rfl) (Nat.le_of_ble_eq_true rfl) (Nat.le_of_ble_eq_true rfl) (Nat.le_of_ble_eq_true rfl) hlocks (fun t9 hy1 hy2 hy3 => ⟨("java/lang/IndexOutOfBoundsException", S), ⟨rfl, rfl, hno⟩, ⟨rfl, (px_end (Wf := fun S => pw n ad cI cB cE S) hK hP hD hS t9 hy1 hy2 hy3).1⟩, (px_end (Wf := fun S => pw n ad cI cB cE S) hK hP hD hS t9 hy1 hy2 hy3).2⟩) hS.2.2 (Nat.le_of_ble_eq_true rfl) (Nat.le_of_ble_eq_true rfl)
set_option maxHeartbeats 4000000 in
set_option maxRecDepth 100000 in
/-- sync -/
theorem c_PD_sync (l : Launch) (dC : Nat → ClassId) (dI : Nat → Nat → Nat) (cI cB cE cL cZ : ClassId) (hst : l.stackTraces = false) (n : Nat) (ad : Nat → Nat) (S : pdS) (f : Int32) (hn : n ≤ 1024) (hv : pd_v n S) (ho : pd_ok n S (pd_ct S)) (sz : Nat) : CXi l (dC, dI) (pw_ty cI cB cE cL cZ) y_PD_sync w_PD_sync ({ frames := 6, cells := 1, slots := 6, locals := 105 }) [.ref (ad 0), .int f] (pw n ad cI cB cE S) (pw n ad cI cB cE) sz (fun r S2 => ∃ i, i < 16 ∧ f = nI i ∧ r = nI (pd_un S i) ∧ pd_set S S2 i ∧ pd_ok n S2 (pd_ct S2)) (fun E S2 => S2 = S ∧ E = "java/lang/IndexOutOfBoundsException" ∧ pd_nof f) := by
  refine vx_ofW (cc := b_PD_sync) (maxL := 4) (ret := (some .int)) (by decide) rfl ?_
  intro p e s m args below meth c s₁ B hml htab hv
  obtain ⟨rfl, ⟨hsz, hP, hK, hD0⟩, hKK, hZ⟩ := hv
  have hx := B.exec
  have hb := B.bytes
  have hret := B.returns
  have hts := atoms_spec (ws := w_PD_sync) B.pre
  have hg : ∀ w ∈ wsG, w.before _ s = true := fun w h => hts w (List.mem_cons_of_mem _ h)
  have hown : s.vm.findClass "PageDrive" = some m.cls := findClass_of_methodNamed B.named
  have hlocks := B.notSynchronized
  subst hsz
  have hD := hD0.self (sz := s.heap.size)
  generalize hAe : va_A (pw n ad cI cB cE S) s.heap.size = A at hD hZ ⊢
  have hA : ∀ q : Nat, s.heap.size ≤ q → A q := fun q h => by rw [← hAe]; exact Or.inr h
  have hS : va_S A s.heap s.heap [] := va_S.rf
  have hl := lv_entry ([.ref (ad 0), .int f]) (n := 4) (Nat.le_of_ble_eq_true rfl)
  rw [lg_entry_eq]
  generalize (lg_sl ([.ref (ad 0), .int f]) ++ List.replicate (4 - (lg_sl ([.ref (ad 0), .int f])).length) Slot.unset).toArray = ls at hl ⊢
  have hl : lv_has ls 4 [(0, .ref (ad 0)), (1, .int f)] := hl
  refine lv_iload_n hx hb d_PD_sync_0 rfl (lv_at hl 1 rfl) ?_
  refine pw_callip (va_runS (As := [.int f]) (rest := []) ⟨hx, hb, hml, hown, hg⟩ (c_PD_isFile l dC dI cI cB cE cL cZ (pw n ad cI cB cE S) f s.heap.size) (cwS 1 hg (gi_S (fun _ h => h) (wG_m7 (List.mem_of_getElem? (i := 5) rfl)) (wG_m7 (List.mem_of_getElem? (i := 6) rfl)) (wG_m1 (List.mem_of_getElem? (i := 1) rfl)) (wG_m7 (List.mem_of_getElem? (i := 7) rfl))) rfl rfl rfl (by decide +kernel) ⟨Nat.le_of_ble_eq_true rfl, Nat.le_of_ble_eq_true rfl⟩) (pw_ps hK hP hD [.int f]) rfl rfl hl.1 rfl (lv_room (Nat.le_of_ble_eq_true rfl)) d_PD_sync_1 ⟨Nat.le_of_ble_eq_true rfl, Nat.le_of_ble_eq_true rfl⟩) hD hS hA (fun r1 H locs hr hP hD hS => ?_)
  rcases hr with ⟨i, hi, rfl, rfl⟩ | ⟨hno, rfl⟩
  · refine pq_if_ne (tgt := 17) hx hb (by omega) d_PD_sync_4 (by decide) (fun _ => ?_) (fun h9 => absurd h9 (by omega))
    refine lv_aload_n hx hb d_PD_sync_17 rfl (lv_at hl 0 rfl) ?_
    refine va_get (C := "PageDrive") (T := F_PD) (N := 4) hx hb hg iw_PD hown hK hP (0) pw_g0 rfl 1 (by decide) (hg (Cond.fieldLink "PageDrive" 29 "PageDrive" "entries" "[LPageDrive$Entry;") (wG_m3 (List.mem_of_getElem? (i := 18) rfl))) (fun _ h9 => h9) rfl d_PD_sync_18 ?_
    refine lv_iload_n hx hb d_PD_sync_21 rfl (lv_at hl 1 rfl) ?_
    refine pr_ent hx hb hK hP (i := i) (by omega) rfl d_PD_sync_22 ?_
    refine lv_astore_n (lv' := [(2, .ref (ad (7 + i))), (0, .ref (ad 0)), (1, .int (nI i))]) hx hb d_PD_sync_23 rfl hl (by decide) rfl (fun ls hl => ?_)
    refine lv_aload_n hx hb d_PD_sync_24 rfl (lv_at hl 0 rfl) ?_
    refine va_get (C := "PageDrive$Entry") (T := F_EN) (N := 3) hx hb hg iw_EN hown hK hP (7 + i) (pw_gE (i := i) (by omega)) rfl 1 (by decide) (hg (Cond.fieldLink "PageDrive" 112 "PageDrive$Entry" "synced" "LPageDrive$Content;") (wG_m3 (List.mem_of_getElem? (i := 7) rfl))) (fun _ h9 => h9) rfl d_PD_sync_25 ?_
    refine lv_aload_n hx hb d_PD_sync_28 rfl (lv_at hl 0 rfl) ?_
    refine va_get (C := "PageDrive$Entry") (T := F_EN) (N := 3) hx hb hg iw_EN hown hK hP (7 + i) (pw_gE (i := i) (by omega)) rfl 0 (by decide) (hg (Cond.fieldLink "PageDrive" 63 "PageDrive$Entry" "now" "LPageDrive$Content;") (wG_m3 (List.mem_of_getElem? (i := 5) rfl))) (fun _ h9 => h9) rfl d_PD_sync_29 ?_
    refine pw_callip (va_runS (As := [.ref (ad (23 + (2 * i + 1))), .ref (ad (23 + 2 * i))]) (rest := []) ⟨hx, hb, hml, hown, hg⟩ (c_PD_pagesNotIn l dC dI cI cB cE cL cZ n ad S (2 * i + 1) (2 * i) hn hv (by omega) (by omega) H.size) (cwS 2 hg (gi_S (fun _ h => h) (wG_m9 (List.mem_of_getElem? (i := 30) rfl)) (wG_m9 (List.mem_of_getElem? (i := 31) rfl)) (wG_m1 (List.mem_of_getElem? (i := 1) rfl)) (wG_m9 (List.mem_of_getElem? (i := 32) rfl))) rfl rfl rfl (by decide +kernel) ⟨Nat.le_of_ble_eq_true rfl, Nat.le_of_ble_eq_true rfl⟩) (pw_ps hK hP hD [.ref (ad (23 + (2 * i + 1))), .ref (ad (23 + 2 * i))]) rfl rfl hl.1 rfl (lv_room (Nat.le_of_ble_eq_true rfl)) d_PD_sync_32 ⟨Nat.le_of_ble_eq_true rfl, Nat.le_of_ble_eq_true rfl⟩) hD hS hA (fun r2 H locs hr hP hD hS => ?_)
    have hr2 : r2 = nI (pd_un S i) := hr
    subst hr2
    refine lv_istore_n (lv' := [(3, .int (nI (pd_un S i))), (2, .ref (ad (7 + i))), (0, .ref (ad 0)), (1, .int (nI i))]) hx hb d_PD_sync_35 rfl hl (by decide) rfl (fun ls hl => ?_)
    refine lv_aload_n hx hb d_PD_sync_36 rfl (lv_at hl 2 rfl) ?_
    refine lv_aload_n hx hb d_PD_sync_37 rfl (lv_at hl 1 rfl) ?_
    refine pw_callv (va_runV (As := [.ref (ad (7 + i))]) (rest := []) ⟨hx, hb, hml, hown, hg⟩ (c_PD_settle l dC dI cI cB cE cL cZ n ad S i hn hv ho hi H.size) (cwV 1 hg (gi_V (fun _ h => h) (wG_m4 (List.mem_of_getElem? (i := 23) rfl)) (wG_m4 (List.mem_of_getElem? (i := 24) rfl)) (wG_m14 (List.mem_of_getElem? (i := 3) rfl)) (wG_m1 (List.mem_of_getElem? (i := 1) rfl)) (wG_m4 (List.mem_of_getElem? (i := 25) rfl))) rfl rfl rfl (by decide +kernel) ⟨Nat.le_of_ble_eq_true rfl, Nat.le_of_ble_eq_true rfl⟩) (pw_pv hK hP hD (va_recv hK hP (ci := 0) (q0 := 0) rfl pw_g0) [.ref (ad (7 + i))]) rfl rfl hl.1 rfl (lv_room (Nat.le_of_ble_eq_true rfl)) d_PD_sync_38 ⟨Nat.le_of_ble_eq_true rfl, Nat.le_of_ble_eq_true rfl⟩) hD hS hA (fun S2 H locs hrS hP hD hS => ?_)
    refine lv_iload_n hx hb d_PD_sync_41 rfl (lv_at hl 0 rfl) ?_
    refine W.widen (k := 1) (n := 6) (by omega) (by omega) ?_
    exact vx_ret (W.iret (v := (nI (pd_un S i))) hx hb hret (fun t9 ht9 hW9 => ⟨⟨_, _, rfl, ⟨i, hi, rfl, rfl, hrS.1, hrS.2⟩, by rw [ht9]; exact hP, va_K.moved hW9.alike hK, hD⟩, hS.F ht9⟩) hS.2.2 d_PD_sync_42)
  · refine pq_if_ne (tgt := 17) hx hb (by omega) d_PD_sync_4 (by decide) (fun h9 => absurd h9 (by omega)) (fun _ => ?_)
    obtain ⟨sa, hstr⟩ := hKK.2.1 (89, "no such file number") (by decide +kernel)
    exact vx_throwS hx hb hst hown (cls := "java/lang/IndexOutOfBoundsException") (names := pgNm) xf_62 xn_nm (hg (Cond.classLink "PageDrive" 58 "java/lang/IndexOutOfBoundsException") (wG_m7 (List.mem_of_getElem? (i := 8) rfl))) (hg (Cond.initialized "java/lang/IndexOutOfBoundsException") (wG_m1 (List.mem_of_getElem? (i := 12) rfl))) hstr (pg_hat xa_62 hg hKK.1) xo_62 hZ.1 hZ.2 hS (hl.1.trans hml.symm) d_PD_sync_7 d_PD_sync_10 d_PD_sync_11 d_PD_sync_13 d_PD_sync_16 (fun x h => (htab x h).elim) (Nat.le_of_ble_eq_true rfl) (Nat.le_of_ble_eq_true rfl) (Nat.le_of_ble_eq_true rfl) (Nat.le_of_ble_eq_true rfl) hlocks (fun t9 hy1 hy2 hy3 => ⟨("java/lang/IndexOutOfBoundsException", S), ⟨rfl, rfl, hno⟩, ⟨rfl, (px_end (Wf := fun S => pw n ad cI cB cE S) hK hP hD hS t9 hy1 hy2 hy3).1⟩, (px_end (Wf := fun S => pw n ad cI cB cE S) hK hP hD hS t9 hy1 hy2 hy3).2⟩) hS.2.2 (Nat.le_of_ble_eq_true rfl) (Nat.le_of_ble_eq_true rfl)
set_option maxHeartbeats 4000000 in
set_option maxRecDepth 100000 in
/-- crash -/
theorem c_PD_crash (l : Launch) (dC : Nat → ClassId) (dI : Nat → Nat → Nat) (cI cB cE cL cZ : ClassId) (hst : l.stackTraces = false) (n : Nat) (ad : Nat → Nat) (S : pdS) (f z : Int32) (hn : n ≤ 1024) (hv : pd_v n S) (ho : pd_ok n S (pd_ct S)) (hlw : pd_lo S) (sz : Nat) : CXi l (dC, dI) (pw_ty cI cB cE cL cZ) y_PD_crash w_PD_crash ({ frames := 6, cells := 1, slots := 6, locals := 127 }) [.ref (ad 0), .int f, .int z] (pw n ad cI cB cE S) (pw n ad cI cB cE) sz (fun r S2 => ∃ i k, i < 16 ∧ f = nI i ∧ k < 2 ^ 31 ∧ z = nI k ∧ r = nI (S2 4 (2 * i)) ∧ pd_fal S S2 i k ∧ pd_ok n S2 (pd_ct S2)) (fun E S2 => S2 = S ∧ ((E = "java/lang/IndexOutOfBoundsException" ∧ pd_nof f) ∨ (E = "java/lang/IllegalArgumentException" ∧ ∃ i, i < 16 ∧ f = nI i ∧ z < 0))) := by
  refine vx_ofW (cc := b_PD_crash) (maxL := 3) (ret := (some .int)) (by decide) rfl ?_
  intro p e s m args below meth c s₁ B hml htab hv
  obtain ⟨rfl, ⟨hsz, hP, hK, hD0⟩, hKK, hZ⟩ := hv
  have hx := B.exec
  have hb := B.bytes
  have hret := B.returns
  have hts := atoms_spec (ws := w_PD_crash) B.pre
  have hg : ∀ w ∈ wsG, w.before _ s = true := fun w h => hts w (List.mem_cons_of_mem _ h)
  have hown : s.vm.findClass "PageDrive" = some m.cls := findClass_of_methodNamed B.named
  have hlocks := B.notSynchronized
  subst hsz
  have hD := hD0.self (sz := s.heap.size)
  generalize hAe : va_A (pw n ad cI cB cE S) s.heap.size = A at hD hZ ⊢
  have hA : ∀ q : Nat, s.heap.size ≤ q → A q := fun q h => by rw [← hAe]; exact Or.inr h
  have hS : va_S A s.heap s.heap [] := va_S.rf
  have hl := lv_entry ([.ref (ad 0), .int f, .int z]) (n := 3) (Nat.le_of_ble_eq_true rfl)
  rw [lg_entry_eq]
  generalize (lg_sl ([.ref (ad 0), .int f, .int z]) ++ List.replicate (3 - (lg_sl ([.ref (ad 0), .int f, .int z])).length) Slot.unset).toArray = ls at hl ⊢
  have hl : lv_has ls 3 [(0, .ref (ad 0)), (1, .int f), (2, .int z)] := hl
  refine lv_iload_n hx hb d_PD_crash_0 rfl (lv_at hl 1 rfl) ?_
  refine pw_callip (va_runS (As := [.int f]) (rest := []) ⟨hx, hb, hml, hown, hg⟩ (c_PD_isFile l dC dI cI cB cE cL cZ (pw n ad cI cB cE S) f s.heap.size) (cwS 1 hg (gi_S (fun _ h => h) (wG_m7 (List.mem_of_getElem? (i := 5) rfl)) (wG_m7 (List.mem_of_getElem? (i := 6) rfl)) (wG_m1 (List.mem_of_getElem? (i := 1) rfl)) (wG_m7 (List.mem_of_getElem? (i := 7) rfl))) rfl rfl rfl (by decide +kernel) ⟨Nat.le_of_ble_eq_true rfl, Nat.le_of_ble_eq_true rfl⟩) (pw_ps hK hP hD [.int f]) rfl rfl hl.1 rfl (lv_room (Nat.le_of_ble_eq_true rfl)) d_PD_crash_1 ⟨Nat.le_of_ble_eq_true rfl, Nat.le_of_ble_eq_true rfl⟩) hD hS hA (fun r1 H locs hr hP hD hS => ?_)
  rcases hr with ⟨i, hi, rfl, rfl⟩ | ⟨hno, rfl⟩
  · refine pq_if_ne (tgt := 17) hx hb (by omega) d_PD_crash_4 (by decide) (fun _ => ?_) (fun h9 => absurd h9 (by omega))
    refine lv_iload_n hx hb d_PD_crash_17 rfl (lv_at hl 2 rfl) ?_
    refine lv_if_ge (tgt := 31) hx hb d_PD_crash_18 (by decide) (fun h1 => ?_) (fun h1 => ?_)
    · obtain ⟨k, hk, rfl⟩ := nI_of (Int32.not_lt.mpr h1)
      refine lv_aload_n hx hb d_PD_crash_31 rfl (lv_at hl 0 rfl) ?_
      refine lv_aload_n hx hb d_PD_crash_32 rfl (lv_at hl 0 rfl) ?_
      refine va_get (C := "PageDrive") (T := F_PD) (N := 4) hx hb hg iw_PD hown hK hP (0) pw_g0 rfl 1 (by decide) (hg (Cond.fieldLink "PageDrive" 29 "PageDrive" "entries" "[LPageDrive$Entry;") (wG_m3 (List.mem_of_getElem? (i := 18) rfl))) (fun _ h9 => h9) rfl d_PD_crash_33 ?_
      refine lv_iload_n hx hb d_PD_crash_36 rfl (lv_at hl 1 rfl) ?_
      refine pr_ent hx hb hK hP (i := i) (by omega) rfl d_PD_crash_37 ?_
      refine lv_iload_n hx hb d_PD_crash_38 rfl (lv_at hl 2 rfl) ?_
      refine pw_callv (va_runV (As := [.ref (ad (7 + i)), .int (nI k)]) (rest := []) ⟨hx, hb, hml, hown, hg⟩ (c_PD_fall l dC dI cI cB cE cL cZ n ad S i k hn hv ho hi (hlw i hi) hk H.size) (cwV 2 hg (gi_V (fun _ h => h) (wG_m4 (List.mem_of_getElem? (i := 0) rfl)) (wG_m4 (List.mem_of_getElem? (i := 1) rfl)) (wG_m14 (List.mem_of_getElem? (i := 0) rfl)) (wG_m1 (List.mem_of_getElem? (i := 1) rfl)) (wG_m4 (List.mem_of_getElem? (i := 2) rfl))) rfl rfl rfl (by decide +kernel) ⟨Nat.le_of_ble_eq_true rfl, Nat.le_of_ble_eq_true rfl⟩) (pw_pv hK hP hD (va_recv hK hP (ci := 0) (q0 := 0) rfl pw_g0) [.ref (ad (7 + i)), .int (nI k)]) rfl rfl hl.1 rfl (lv_room (Nat.le_of_ble_eq_true rfl)) d_PD_crash_39 ⟨Nat.le_of_ble_eq_true rfl, Nat.le_of_ble_eq_true rfl⟩) hD hS hA (fun S2 H locs hr hP hD hS => ?_)
      refine lv_aload_n hx hb d_PD_crash_42 rfl (lv_at hl 0 rfl) ?_
      refine va_get (C := "PageDrive") (T := F_PD) (N := 4) hx hb hg iw_PD hown hK hP (0) pw_g0 rfl 1 (by decide) (hg (Cond.fieldLink "PageDrive" 29 "PageDrive" "entries" "[LPageDrive$Entry;") (wG_m3 (List.mem_of_getElem? (i := 18) rfl))) (fun _ h9 => h9) rfl d_PD_crash_43 ?_
      refine lv_iload_n hx hb d_PD_crash_46 rfl (lv_at hl 1 rfl) ?_
      refine pr_ent hx hb hK hP (i := i) (by omega) rfl d_PD_crash_47 ?_
      refine va_get (C := "PageDrive$Entry") (T := F_EN) (N := 3) hx hb hg iw_EN hown hK hP (7 + i) (pw_gE (i := i) (by omega)) rfl 0 (by decide) (hg (Cond.fieldLink "PageDrive" 63 "PageDrive$Entry" "now" "LPageDrive$Content;") (wG_m3 (List.mem_of_getElem? (i := 5) rfl))) (fun _ h9 => h9) rfl d_PD_crash_48 ?_
      refine va_get (C := "PageDrive$Content") (T := F_CO) (N := 3) hx hb hg iw_CO hown hK hP (23 + (2 * i)) (pw_gC (i := 2 * i) (by omega)) rfl 1 (by decide) (hg (Cond.fieldLink "PageDrive" 67 "PageDrive$Content" "size" "I") (wG_m2 (List.mem_of_getElem? (i := 34) rfl))) (fun _ h9 => h9) rfl d_PD_crash_51 ?_
      refine W.widen (k := 1) (n := 6) (by omega) (by omega) ?_
      exact vx_ret (W.iret (v := (nI (S2 4 (2 * i)))) hx hb hret (fun t9 ht9 hW9 => ⟨⟨_, _, rfl, ⟨i, k, hi, rfl, hk, rfl, rfl, hr.1, hr.2⟩, by rw [ht9]; exact hP, va_K.moved hW9.alike hK, hD⟩, hS.F ht9⟩) hS.2.2 d_PD_crash_54)
    · obtain ⟨sa, hstr⟩ := hKK.2.1 (123, "keep is below 0") (by decide +kernel)
      exact vx_throwS hx hb hst hown (cls := "java/lang/IllegalArgumentException") (names := pgNm) xf_46 xn_nm (hg (Cond.classLink "PageDrive" 42 "java/lang/IllegalArgumentException") (wG_m5 (List.mem_of_getElem? (i := 5) rfl))) (hg (Cond.initialized "java/lang/IllegalArgumentException") (wG_m1 (List.mem_of_getElem? (i := 10) rfl))) hstr (pg_hat xa_46 hg hKK.1) xo_46 hZ.1 hZ.2 hS (hl.1.trans hml.symm) d_PD_crash_21 d_PD_crash_24 d_PD_crash_25 d_PD_crash_27 d_PD_crash_30 (fun x h => (htab x h).elim) (Nat.le_of_ble_eq_true rfl) (Nat.le_of_ble_eq_true rfl) (Nat.le_of_ble_eq_true rfl) (Nat.le_of_ble_eq_true rfl) hlocks (fun t9 hy1 hy2 hy3 => ⟨("java/lang/IllegalArgumentException", S), ⟨rfl, Or.inr ⟨rfl, i, hi, rfl, Int32.not_le.mp h1⟩⟩, ⟨rfl, (px_end (Wf := fun S => pw n ad cI cB cE S) hK hP hD hS t9 hy1 hy2 hy3).1⟩, (px_end (Wf := fun S => pw n ad cI cB cE S) hK hP hD hS t9 hy1 hy2 hy3).2⟩) hS.2.2 (Nat.le_of_ble_eq_true rfl) (Nat.le_of_ble_eq_true rfl)
  · refine pq_if_ne (tgt := 17) hx hb (by omega) d_PD_crash_4 (by decide) (fun h9 => absurd h9 (by omega)) (fun _ => ?_)
    obtain ⟨sa, hstr⟩ := hKK.2.1 (89, "no such file number") (by decide +kernel)
    exact vx_throwS hx hb hst hown (cls := "java/lang/IndexOutOfBoundsException") (names := pgNm) xf_62 xn_nm (hg (Cond.classLink "PageDrive" 58 "java/lang/IndexOutOfBoundsException") (wG_m7 (List.mem_of_getElem? (i := 8) rfl))) (hg (Cond.initialized "java/lang/IndexOutOfBoundsException") (wG_m1 (List.mem_of_getElem? (i := 12) rfl))) hstr (pg_hat xa_62 hg hKK.1) xo_62 hZ.1 hZ.2 hS (hl.1.trans hml.symm) d_PD_crash_7 d_PD_crash_10 d_PD_crash_11 d_PD_crash_13 d_PD_crash_16 (fun x h => (htab x h).elim) (Nat.le_of_ble_eq_true rfl) (Nat.le_of_ble_eq_true rfl) (Nat.le_of_ble_eq_true rfl) (Nat.le_of_ble_eq_true rfl) hlocks (fun t9 hy1 hy2 hy3 => ⟨("java/lang/IndexOutOfBoundsException", S), ⟨rfl, Or.inl ⟨rfl, hno⟩⟩, ⟨rfl, (px_end (Wf := fun S => pw n ad cI cB cE S) hK hP hD hS t9 hy1 hy2 hy3).1⟩, (px_end (Wf := fun S => pw n ad cI cB cE S) hK hP hD hS t9 hy1 hy2 hy3).2⟩) hS.2.2 (Nat.le_of_ble_eq_true rfl) (Nat.le_of_ble_eq_true rfl)
set_option maxHeartbeats 4000000 in
set_option maxRecDepth 100000 in
/-- twin -/
theorem c_PD_twin (l : Launch) (dC : Nat → ClassId) (dI : Nat → Nat → Nat) (cI cB cE cL cZ : ClassId) (hst : l.stackTraces = false) (n : Nat) (ad : Nat → Nat) (S : pdS) (f z : Int32) (hn : n ≤ 1024) (hv : pd_v n S) (ho : pd_ok n S (pd_ct S)) (sz : Nat) : CXi l (dC, dI) (pw_ty cI cB cE cL cZ) y_PD_twin w_PD_twin ({ frames := 6, cells := 1, slots := 6, locals := 84 }) [.ref (ad 0), .int f, .int z] (pw n ad cI cB cE S) (pw n ad cI cB cE) sz (fun r S2 => ∃ i j, i < 16 ∧ f = nI i ∧ j < 16 ∧ z = nI j ∧ S 5 (2 * i) ≠ 0 ∧ r = nI (S 4 (2 * i)) ∧ pd_twi S S2 i j ∧ pd_ok n S2 (pd_ct S2)) (fun E S2 => S2 = S ∧ ((E = "java/lang/IndexOutOfBoundsException" ∧ (pd_nof f ∨ pd_nof z)) ∨ (E = "java/util/NoSuchElementException" ∧ ∃ i j, i < 16 ∧ f = nI i ∧ j < 16 ∧ z = nI j ∧ S 5 (2 * i) = 0))) := by
  refine vx_ofW (cc := b_PD_twin) (maxL := 4) (ret := (some .int)) (by decide) rfl ?_
  intro p e s m args below meth c s₁ B hml htab hv
  obtain ⟨rfl, ⟨hsz, hP, hK, hD0⟩, hKK, hZ⟩ := hv
  have hx := B.exec
  have hb := B.bytes
  have hret := B.returns
  have hts := atoms_spec (ws := w_PD_twin) B.pre
  have hg : ∀ w ∈ wsG, w.before _ s = true := fun w h => hts w (List.mem_cons_of_mem _ h)
  have hown : s.vm.findClass "PageDrive" = some m.cls := findClass_of_methodNamed B.named
  have hlocks := B.notSynchronized
  subst hsz
  have hD := hD0.self (sz := s.heap.size)
  generalize hAe : va_A (pw n ad cI cB cE S) s.heap.size = A at hD hZ ⊢
  have hA : ∀ q : Nat, s.heap.size ≤ q → A q := fun q h => by rw [← hAe]; exact Or.inr h
  have hS : va_S A s.heap s.heap [] := va_S.rf
  have hl := lv_entry ([.ref (ad 0), .int f, .int z]) (n := 4) (Nat.le_of_ble_eq_true rfl)
  rw [lg_entry_eq]
  generalize (lg_sl ([.ref (ad 0), .int f, .int z]) ++ List.replicate (4 - (lg_sl ([.ref (ad 0), .int f, .int z])).length) Slot.unset).toArray = ls at hl ⊢
  have hl : lv_has ls 4 [(0, .ref (ad 0)), (1, .int f), (2, .int z)] := hl
  refine lv_iload_n hx hb d_PD_twin_0 rfl (lv_at hl 1 rfl) ?_
  refine pw_callip (va_runS (As := [.int f]) (rest := []) ⟨hx, hb, hml, hown, hg⟩ (c_PD_isFile l dC dI cI cB cE cL cZ (pw n ad cI cB cE S) f s.heap.size) (cwS 1 hg (gi_S (fun _ h => h) (wG_m7 (List.mem_of_getElem? (i := 5) rfl)) (wG_m7 (List.mem_of_getElem? (i := 6) rfl)) (wG_m1 (List.mem_of_getElem? (i := 1) rfl)) (wG_m7 (List.mem_of_getElem? (i := 7) rfl))) rfl rfl rfl (by decide +kernel) ⟨Nat.le_of_ble_eq_true rfl, Nat.le_of_ble_eq_true rfl⟩) (pw_ps hK hP hD [.int f]) rfl rfl hl.1 rfl (lv_room (Nat.le_of_ble_eq_true rfl)) d_PD_twin_1 ⟨Nat.le_of_ble_eq_true rfl, Nat.le_of_ble_eq_true rfl⟩) hD hS hA (fun r1 H locs hr hP hD hS => ?_)
  rcases hr with ⟨i, hi, rfl, rfl⟩ | ⟨hno, rfl⟩
  · refine pq_if_eq (tgt := 14) hx hb (by omega) d_PD_twin_4 (by decide) (fun h9 => absurd h9 (by omega)) (fun _ => ?_)
    refine lv_iload_n hx hb d_PD_twin_7 rfl (lv_at hl 2 rfl) ?_
    refine pw_callip (va_runS (As := [.int z]) (rest := []) ⟨hx, hb, hml, hown, hg⟩ (c_PD_isFile l dC dI cI cB cE cL cZ (pw n ad cI cB cE S) z H.size) (cwS 1 hg (gi_S (fun _ h => h) (wG_m7 (List.mem_of_getElem? (i := 5) rfl)) (wG_m7 (List.mem_of_getElem? (i := 6) rfl)) (wG_m1 (List.mem_of_getElem? (i := 1) rfl)) (wG_m7 (List.mem_of_getElem? (i := 7) rfl))) rfl rfl rfl (by decide +kernel) ⟨Nat.le_of_ble_eq_true rfl, Nat.le_of_ble_eq_true rfl⟩) (pw_ps hK hP hD [.int z]) rfl rfl hl.1 rfl (lv_room (Nat.le_of_ble_eq_true rfl)) d_PD_twin_8 ⟨Nat.le_of_ble_eq_true rfl, Nat.le_of_ble_eq_true rfl⟩) hD hS hA (fun r2 H locs hr hP hD hS => ?_)
    rcases hr with ⟨j, hj, rfl, rfl⟩ | ⟨hno, rfl⟩
    · refine pq_if_ne (tgt := 24) hx hb (by omega) d_PD_twin_11 (by decide) (fun _ => ?_) (fun h9 => absurd h9 (by omega))
      have hs5 := (hv.1 (2 * i) (by omega)).2.1
      refine lv_aload_n hx hb d_PD_twin_24 rfl (lv_at hl 0 rfl) ?_
      refine va_get (C := "PageDrive") (T := F_PD) (N := 4) hx hb hg iw_PD hown hK hP (0) pw_g0 rfl 1 (by decide) (hg (Cond.fieldLink "PageDrive" 29 "PageDrive" "entries" "[LPageDrive$Entry;") (wG_m3 (List.mem_of_getElem? (i := 18) rfl))) (fun _ h9 => h9) rfl d_PD_twin_25 ?_
      refine lv_iload_n hx hb d_PD_twin_28 rfl (lv_at hl 1 rfl) ?_
      refine pr_ent hx hb hK hP (i := i) (by omega) rfl d_PD_twin_29 ?_
      refine va_get (C := "PageDrive$Entry") (T := F_EN) (N := 3) hx hb hg iw_EN hown hK hP (7 + i) (pw_gE (i := i) (by omega)) rfl 0 (by decide) (hg (Cond.fieldLink "PageDrive" 63 "PageDrive$Entry" "now" "LPageDrive$Content;") (wG_m3 (List.mem_of_getElem? (i := 5) rfl))) (fun _ h9 => h9) rfl d_PD_twin_30 ?_
      refine va_get (C := "PageDrive$Content") (T := F_CO) (N := 3) hx hb hg iw_CO hown hK hP (23 + (2 * i)) (pw_gC (i := 2 * i) (by omega)) rfl 2 (by decide) (hg (Cond.fieldLink "PageDrive" 91 "PageDrive$Content" "there" "Z") (wG_m2 (List.mem_of_getElem? (i := 36) rfl))) (fun _ h9 => h9) rfl d_PD_twin_33 ?_
      refine pq_if_ne (tgt := 49) hx hb (by omega) d_PD_twin_36 (by decide) (fun h1 => ?_) (fun h1 => ?_)
      · refine lv_aload_n hx hb d_PD_twin_49 rfl (lv_at hl 0 rfl) ?_
        refine va_get (C := "PageDrive") (T := F_PD) (N := 4) hx hb hg iw_PD hown hK hP (0) pw_g0 rfl 1 (by decide) (hg (Cond.fieldLink "PageDrive" 29 "PageDrive" "entries" "[LPageDrive$Entry;") (wG_m3 (List.mem_of_getElem? (i := 18) rfl))) (fun _ h9 => h9) rfl d_PD_twin_50 ?_
        refine lv_iload_n hx hb d_PD_twin_53 rfl (lv_at hl 2 rfl) ?_
        refine pr_ent hx hb hK hP (i := j) (by omega) rfl d_PD_twin_54 ?_
        refine lv_astore_n (lv' := [(3, .ref (ad (7 + j))), (0, .ref (ad 0)), (1, .int (nI i)), (2, .int (nI j))]) hx hb d_PD_twin_55 rfl hl (by decide) rfl (fun ls hl => ?_)
        refine lv_aload_n hx hb d_PD_twin_56 rfl (lv_at hl 1 rfl) ?_
        refine lv_aload_n hx hb d_PD_twin_57 rfl (lv_at hl 0 rfl) ?_
        refine va_get (C := "PageDrive$Entry") (T := F_EN) (N := 3) hx hb hg iw_EN hown hK hP (7 + j) (pw_gE (i := j) (by omega)) rfl 0 (by decide) (hg (Cond.fieldLink "PageDrive" 63 "PageDrive$Entry" "now" "LPageDrive$Content;") (wG_m3 (List.mem_of_getElem? (i := 5) rfl))) (fun _ h9 => h9) rfl d_PD_twin_58 ?_
        refine lv_aload_n hx hb d_PD_twin_61 rfl (lv_at hl 1 rfl) ?_
        refine va_get (C := "PageDrive") (T := F_PD) (N := 4) hx hb hg iw_PD hown hK hP (0) pw_g0 rfl 1 (by decide) (hg (Cond.fieldLink "PageDrive" 29 "PageDrive" "entries" "[LPageDrive$Entry;") (wG_m3 (List.mem_of_getElem? (i := 18) rfl))) (fun _ h9 => h9) rfl d_PD_twin_62 ?_
        refine lv_iload_n hx hb d_PD_twin_65 rfl (lv_at hl 2 rfl) ?_
        refine pr_ent hx hb hK hP (i := i) (by omega) rfl d_PD_twin_66 ?_
        refine va_get (C := "PageDrive$Entry") (T := F_EN) (N := 3) hx hb hg iw_EN hown hK hP (7 + i) (pw_gE (i := i) (by omega)) rfl 0 (by decide) (hg (Cond.fieldLink "PageDrive" 63 "PageDrive$Entry" "now" "LPageDrive$Content;") (wG_m3 (List.mem_of_getElem? (i := 5) rfl))) (fun _ h9 => h9) rfl d_PD_twin_67 ?_
        refine pw_callv (va_runV (As := [.ref (ad (23 + 2 * j)), .ref (ad (23 + 2 * i))]) (rest := []) ⟨hx, hb, hml, hown, hg⟩ (c_PD_become l dC dI cI cB cE cL cZ n ad S (2 * j) (2 * i) hn hv ho (by omega) (by omega) H.size) (cwV 2 hg (gi_V (fun _ h => h) (wG_m4 (List.mem_of_getElem? (i := 3) rfl)) (wG_m4 (List.mem_of_getElem? (i := 4) rfl)) (wG_m14 (List.mem_of_getElem? (i := 1) rfl)) (wG_m1 (List.mem_of_getElem? (i := 1) rfl)) (wG_m4 (List.mem_of_getElem? (i := 5) rfl))) rfl rfl rfl (by decide +kernel) ⟨Nat.le_of_ble_eq_true rfl, Nat.le_of_ble_eq_true rfl⟩) (pw_pv hK hP hD (va_recv hK hP (ci := 0) (q0 := 0) rfl pw_g0) [.ref (ad (23 + 2 * j)), .ref (ad (23 + 2 * i))]) rfl rfl hl.1 rfl (lv_room (Nat.le_of_ble_eq_true rfl)) d_PD_twin_70 ⟨Nat.le_of_ble_eq_true rfl, Nat.le_of_ble_eq_true rfl⟩) hD hS hA (fun T H locs hr hP hD hS => ?_)
        obtain ⟨hbe, hoT⟩ := hr
        refine lv_aload_n hx hb d_PD_twin_73 rfl (lv_at hl 0 rfl) ?_
        refine lv_iconst (v := nI 0) hx hb d_PD_twin_74 (by decide) ?_
        refine pr_low hx hb hg hown hK hP hD hS (i := j) (by omega) (hg (Cond.fieldLink "PageDrive" 105 "PageDrive$Entry" "low" "I") (wG_m3 (List.mem_of_getElem? (i := 9) rfl))) d_PD_twin_75 (fun H locs hP hD hS => ?_)
        generalize eS3 : pd_st T 6 j 0 = S3 at hP hD
        refine lv_aload_n hx hb d_PD_twin_78 rfl (lv_at hl 0 rfl) ?_
        refine va_get (C := "PageDrive$Entry") (T := F_EN) (N := 3) hx hb hg iw_EN hown hK hP (7 + j) (pw_gE (i := j) (by omega)) rfl 0 (by decide) (hg (Cond.fieldLink "PageDrive" 63 "PageDrive$Entry" "now" "LPageDrive$Content;") (wG_m3 (List.mem_of_getElem? (i := 5) rfl))) (fun _ h9 => h9) rfl d_PD_twin_79 ?_
        refine va_get (C := "PageDrive$Content") (T := F_CO) (N := 3) hx hb hg iw_CO hown hK hP (23 + (2 * j)) (pw_gC (i := 2 * j) (by omega)) rfl 1 (by decide) (hg (Cond.fieldLink "PageDrive" 67 "PageDrive$Content" "size" "I") (wG_m2 (List.mem_of_getElem? (i := 34) rfl))) (fun _ h9 => h9) rfl d_PD_twin_82 ?_
        have hct : ∀ q, pd_ct S3 q = pd_ct T q := fun q => by rw [← eS3]; exact pd_ct_congr (pd_bk _ (by decide)) (fun d _ k _ => by rw [pd_bk _ (by omega)]) q
        refine pq_top (y := nI (S 4 (2 * i))) (by rw [← eS3, pd_bk _ (by decide), hbe.2.2.1, va_up_self]) ?_
        refine W.widen (k := 1) (n := 6) (by omega) (by omega) ?_
        exact vx_ret (W.iret (v := (nI (S 4 (2 * i)))) hx hb hret (fun t9 ht9 hW9 => ⟨⟨_, _, rfl, ⟨i, j, hi, rfl, hj, rfl, h1, rfl, ⟨T, hbe, by rw [eS3]; exact pd_sa_rf _⟩, pd_ok_congr (by rw [← eS3]; exact pd_ok_st hoT (by decide) (by decide) (Or.inl (by decide))) (fun q _ => (hct q).symm)⟩, by rw [ht9]; exact hP, va_K.moved hW9.alike hK, hD⟩, hS.F ht9⟩) hS.2.2 d_PD_twin_85)
      · obtain ⟨sa, hstr⟩ := hKK.2.1 (97, "the file is not there") (by decide +kernel)
        exact vx_throwNS hx hb hst hown (hg (Cond.classLink "PageDrive" 95 "java/util/NoSuchElementException") (wG_m8 (List.mem_of_getElem? (i := 35) rfl))) (hg (Cond.initialized "java/util/NoSuchElementException") (wG_m1 (List.mem_of_getElem? (i := 15) rfl))) hstr hg hKK.1 hZ.1 hZ.2 hS (hl.1.trans hml.symm) d_PD_twin_39 d_PD_twin_42 d_PD_twin_43 d_PD_twin_45 d_PD_twin_48 (fun x h => (htab x h).elim) (Nat.le_of_ble_eq_true rfl) (Nat.le_of_ble_eq_true rfl) (Nat.le_of_ble_eq_true rfl) (Nat.le_of_ble_eq_true rfl) hlocks (fun t9 hy1 hy2 hy3 => ⟨("java/util/NoSuchElementException", S), ⟨rfl, Or.inr ⟨rfl, i, j, hi, rfl, hj, rfl, h1⟩⟩, ⟨rfl, (px_end (Wf := fun S => pw n ad cI cB cE S) hK hP hD hS t9 hy1 hy2 hy3).1⟩, (px_end (Wf := fun S => pw n ad cI cB cE S) hK hP hD hS t9 hy1 hy2 hy3).2⟩) hS.2.2 (Nat.le_of_ble_eq_true rfl) (Nat.le_of_ble_eq_true rfl)
    · refine pq_if_ne (tgt := 24) hx hb (by omega) d_PD_twin_11 (by decide) (fun h9 => absurd h9 (by omega)) (fun _ => ?_)
      obtain ⟨sa, hstr⟩ := hKK.2.1 (89, "no such file number") (by decide +kernel)
      exact vx_throwS hx hb hst hown (cls := "java/lang/IndexOutOfBoundsException") (names := pgNm) xf_62 xn_nm (hg (Cond.classLink "PageDrive" 58 "java/lang/IndexOutOfBoundsException") (wG_m7 (List.mem_of_getElem? (i := 8) rfl))) (hg (Cond.initialized "java/lang/IndexOutOfBoundsException") (wG_m1 (List.mem_of_getElem? (i := 12) rfl))) hstr (pg_hat xa_62 hg hKK.1) xo_62 hZ.1 hZ.2 hS (hl.1.trans hml.symm) d_PD_twin_14 d_PD_twin_17 d_PD_twin_18 d_PD_twin_20 d_PD_twin_23 (fun x h => (htab x h).elim) (Nat.le_of_ble_eq_true rfl) (Nat.le_of_ble_eq_true rfl) (Nat.le_of_ble_eq_true rfl) (Nat.le_of_ble_eq_true rfl) hlocks (fun t9 hy1 hy2 hy3 => ⟨("java/lang/IndexOutOfBoundsException", S), ⟨rfl, Or.inl ⟨rfl, Or.inr hno⟩⟩, ⟨rfl, (px_end (Wf := fun S => pw n ad cI cB cE S) hK hP hD hS t9 hy1 hy2 hy3).1⟩, (px_end (Wf := fun S => pw n ad cI cB cE S) hK hP hD hS t9 hy1 hy2 hy3).2⟩) hS.2.2 (Nat.le_of_ble_eq_true rfl) (Nat.le_of_ble_eq_true rfl)
  · refine pq_if_eq (tgt := 14) hx hb (by omega) d_PD_twin_4 (by decide) (fun _ => ?_) (fun h9 => absurd h9 (by omega))
    obtain ⟨sa, hstr⟩ := hKK.2.1 (89, "no such file number") (by decide +kernel)
    exact vx_throwS hx hb hst hown (cls := "java/lang/IndexOutOfBoundsException") (names := pgNm) xf_62 xn_nm (hg (Cond.classLink "PageDrive" 58 "java/lang/IndexOutOfBoundsException") (wG_m7 (List.mem_of_getElem? (i := 8) rfl))) (hg (Cond.initialized "java/lang/IndexOutOfBoundsException") (wG_m1 (List.mem_of_getElem? (i := 12) rfl))) hstr (pg_hat xa_62 hg hKK.1) xo_62 hZ.1 hZ.2 hS (hl.1.trans hml.symm) d_PD_twin_14 d_PD_twin_17 d_PD_twin_18 d_PD_twin_20 d_PD_twin_23 (fun x h => (htab x h).elim) (Nat.le_of_ble_eq_true rfl) (Nat.le_of_ble_eq_true rfl) (Nat.le_of_ble_eq_true rfl) (Nat.le_of_ble_eq_true rfl) hlocks (fun t9 hy1 hy2 hy3 => ⟨("java/lang/IndexOutOfBoundsException", S), ⟨rfl, Or.inl ⟨rfl, Or.inl hno⟩⟩, ⟨rfl, (px_end (Wf := fun S => pw n ad cI cB cE S) hK hP hD hS t9 hy1 hy2 hy3).1⟩, (px_end (Wf := fun S => pw n ad cI cB cE S) hK hP hD hS t9 hy1 hy2 hy3).2⟩) hS.2.2 (Nat.le_of_ble_eq_true rfl) (Nat.le_of_ble_eq_true rfl)
