/-! THE CONSTRUCTORS, 2: Pool -/
set_option maxHeartbeats 400000 in
set_option maxRecDepth 100000 in
/-- Pool(n) -/
theorem c_PO_init (l : Launch) (dC : Nat → ClassId) (dI : Nat → Nat → Nat) (cI cB cE cL cZ : ClassId) (o n : Nat) (hn1 : 4 ≤ n) (hn2 : n ≤ 1024) (sz : Nat) : CMn l (dC, dI) (pw_ty cI cB cE cL cZ) y_PO_init w_PO_init ({ frames := 1, cells := 3, slots := 67584, locals := 20 }) [.ref o, .int (nI n)] ([(o, .inr (1, [.int 0, .null, .null, .null, .int 0, .int 0]))]) (fun u : Nat × Nat × Nat => [(o, .inr (1, [.int (nI n), .ref u.1, .ref u.2.1, .ref u.2.2, .int (nI n), .int (nI 0)])), (u.1, .inl (cB, n * 64, .inl (fun _ => sb_b 0))), (u.2.1, .inl (cI, n, .inl (fun _ => nI 0))), (u.2.2, .inl (cI, n, .inl (fun j => nI (if j < n then j else 0))))]) sz (fun _ => True) 3 67584 := by
  refine Met.ofW (cc := b_PO_init) (maxL := 3) (ret := none) (by decide) rfl ?_
  intro p e s m args below meth c s₁ B hml hv
  obtain ⟨rfl, ⟨hsz, hP, hK, hD0⟩, hN⟩ := hv
  have hx := B.exec
  have hb := B.bytes
  have hret := B.returns
  have hts := atoms_spec (ws := w_PO_init) B.pre
  have hg : ∀ w ∈ wsG, w.before _ s = true := fun w h => hts w (List.mem_cons_of_mem _ h)
  have hown : s.vm.findClass "PageDrive$Pool" = some m.cls := findClass_of_methodNamed B.named
  have hlocks := B.notSynchronized
  have hin : meth.name = "<init>" := (name_of_methodNamed B.named B.method).1
  subst hsz
  have hD := hD0.self (sz := s.heap.size)
  generalize hAe : va_A ([(o, .inr (1, [.int 0, .null, .null, .null, .int 0, .int 0]))]) s.heap.size = A at hD ⊢
  have hA : ∀ q : Nat, s.heap.size ≤ q → A q := fun q h => by rw [← hAe]; exact Or.inr h
  have hS : va_S A s.heap s.heap [] := va_S.rf
  have hl := lv_entry ([.ref o, .int (nI n)]) (n := 3) (Nat.le_of_ble_eq_true rfl)
  rw [lg_entry_eq]
  generalize (lg_sl ([.ref o, .int (nI n)]) ++ List.replicate (3 - (lg_sl ([.ref o, .int (nI n)])).length) Slot.unset).toArray = ls at hl ⊢
  have hl : lv_has ls 3 [(0, .ref o), (1, .int (nI n))] := hl
  refine lv_aload_n hx hb d_PO_init_0 rfl (lv_at hl 0 rfl) ?_
  refine W.objInit hx hb hown (hg (Cond.methodLink "PageDrive$Pool" 3 ⟨"java/lang/Object", "<init>", "()V"⟩) (wG_m1 (List.mem_of_getElem? (i := 35) rfl))) (hg _ (wG_m1 (List.mem_of_getElem? (i := 22) rfl))) (hg _ (wG_m1 (List.mem_of_getElem? (i := 23) rfl))) rfl (by rw [hml]; exact hl.1) rfl d_PO_init_1 (Nat.le_of_ble_eq_true rfl) (Nat.le_of_ble_eq_true rfl) ?_
  refine W.eq (g2 := F0 m 4 ls []) rfl ?_
  refine lv_aload_n hx hb d_PO_init_4 rfl (lv_at hl 0 rfl) ?_
  refine lv_iload_n hx hb d_PO_init_5 rfl (lv_at hl 1 rfl) ?_
  refine va_putF (ty := .int) (C := "PageDrive$Pool") (T := F_PO) (N := 6) hx hb hg iw_PO t_PO tok_PO n_PO hown hK hP hD hS 0 rfl rfl 0 (by decide) (hg (Cond.fieldLink "PageDrive$Pool" 9 "PageDrive$Pool" "pages" "I") (wG_m1 (List.mem_of_getElem? (i := 36) rfl))) (fun _ h => h) rfl hin rfl (by decide +kernel) rfl rfl (Nat.le_of_ble_eq_true rfl) d_PO_init_6 (fun H locs hP hD hS => ?_)
  have hP : va_P (dC, dI) pwCl ([(o, .inr (1, [.int (nI n), .null, .null, .null, .int 0, .int 0]))]) H := hP
  have hD : va_D A ([(o, .inr (1, [.int (nI n), .null, .null, .null, .int 0, .int 0]))]) := hD
  refine lv_aload_n hx hb d_PO_init_9 rfl (lv_at hl 0 rfl) ?_
  refine lv_iload_n hx hb d_PO_init_10 rfl (lv_at hl 1 rfl) ?_
  refine lv_bipush (v := nI 64) hx hb d_PO_init_11 (by decide) ?_
  refine pq_imul hx hb d_PO_init_13 ?_
  refine pn_newa (atype := .byte) (ty := .byte) (N' := (n * 64)) hx hb (hg (Cond.arrayClass FieldType.byte) (wG_m2 (List.mem_of_getElem? (i := 19) rfl))) rfl hK hP hD hS hA 1 rfl (nm := _) (fun x => va_nm_byte) (n * 64, .inl (fun _ => sb_b 0)) (pn_hbyte _) (pn_nn (by omega)) (nI_clamp (by omega)) (by show n * 64 * 1 ≤ _; omega) (by show _ ≤ 3; omega) (by show _ ≤ 67584; omega) d_PO_init_14 (fun a4 H hP hD hS => ?_)
  have hP : va_P (dC, dI) pwCl ([(o, .inr (1, [.int (nI n), .null, .null, .null, .int 0, .int 0])), (a4, .inl (cB, n * 64, .inl (fun _ => sb_b 0)))]) H := hP
  have hD : va_D A ([(o, .inr (1, [.int (nI n), .null, .null, .null, .int 0, .int 0])), (a4, .inl (cB, n * 64, .inl (fun _ => sb_b 0)))]) := hD
  refine va_putF (ty := .array .byte) (C := "PageDrive$Pool") (T := F_PO) (N := 6) hx hb hg iw_PO t_PO tok_PO n_PO hown hK hP hD hS 0 rfl rfl 1 (by decide) (hg (Cond.fieldLink "PageDrive$Pool" 15 "PageDrive$Pool" "bytes" "[B") (wG_m1 (List.mem_of_getElem? (i := 38) rfl))) (fun _ h => h) rfl hin rfl (by decide +kernel) rfl rfl (Nat.le_of_ble_eq_true rfl) d_PO_init_16 (fun H locs hP hD hS => ?_)
  have hP : va_P (dC, dI) pwCl ([(o, .inr (1, [.int (nI n), .ref a4, .null, .null, .int 0, .int 0])), (a4, .inl (cB, n * 64, .inl (fun _ => sb_b 0)))]) H := hP
  have hD : va_D A ([(o, .inr (1, [.int (nI n), .ref a4, .null, .null, .int 0, .int 0])), (a4, .inl (cB, n * 64, .inl (fun _ => sb_b 0)))]) := hD
  refine lv_aload_n hx hb d_PO_init_19 rfl (lv_at hl 0 rfl) ?_
  refine lv_iload_n hx hb d_PO_init_20 rfl (lv_at hl 1 rfl) ?_
  refine pn_newa (atype := .int) (ty := .int) (N' := n) hx hb (hg (Cond.arrayClass FieldType.int) (wG_m2 (List.mem_of_getElem? (i := 20) rfl))) rfl hK hP hD hS hA 0 rfl (nm := _) (fun x => va_nm_int) (n, .inl (fun _ => nI 0)) (pn_hint _) (pn_nn (by omega)) (nI_clamp (by omega)) (by show n * 4 ≤ _; omega) (by show _ ≤ 3; omega) (by show _ ≤ 67584; omega) d_PO_init_21 (fun a5 H hP hD hS => ?_)
  have hP : va_P (dC, dI) pwCl ([(o, .inr (1, [.int (nI n), .ref a4, .null, .null, .int 0, .int 0])), (a4, .inl (cB, n * 64, .inl (fun _ => sb_b 0))), (a5, .inl (cI, n, .inl (fun _ => nI 0)))]) H := hP
  have hD : va_D A ([(o, .inr (1, [.int (nI n), .ref a4, .null, .null, .int 0, .int 0])), (a4, .inl (cB, n * 64, .inl (fun _ => sb_b 0))), (a5, .inl (cI, n, .inl (fun _ => nI 0)))]) := hD
  refine va_putF (ty := .array .int) (C := "PageDrive$Pool") (T := F_PO) (N := 6) hx hb hg iw_PO t_PO tok_PO n_PO hown hK hP hD hS 0 rfl rfl 2 (by decide) (hg (Cond.fieldLink "PageDrive$Pool" 19 "PageDrive$Pool" "rowsWith" "[I") (wG_m2 (List.mem_of_getElem? (i := 0) rfl))) (fun _ h => h) rfl hin rfl (by decide +kernel) rfl rfl (Nat.le_of_ble_eq_true rfl) d_PO_init_23 (fun H locs hP hD hS => ?_)
  have hP : va_P (dC, dI) pwCl ([(o, .inr (1, [.int (nI n), .ref a4, .ref a5, .null, .int 0, .int 0])), (a4, .inl (cB, n * 64, .inl (fun _ => sb_b 0))), (a5, .inl (cI, n, .inl (fun _ => nI 0)))]) H := hP
  have hD : va_D A ([(o, .inr (1, [.int (nI n), .ref a4, .ref a5, .null, .int 0, .int 0])), (a4, .inl (cB, n * 64, .inl (fun _ => sb_b 0))), (a5, .inl (cI, n, .inl (fun _ => nI 0)))]) := hD
  refine lv_aload_n hx hb d_PO_init_26 rfl (lv_at hl 0 rfl) ?_
  refine lv_iload_n hx hb d_PO_init_27 rfl (lv_at hl 1 rfl) ?_
  refine pn_newa (atype := .int) (ty := .int) (N' := n) hx hb (hg (Cond.arrayClass FieldType.int) (wG_m2 (List.mem_of_getElem? (i := 20) rfl))) rfl hK hP hD hS hA 0 rfl (nm := _) (fun x => va_nm_int) (n, .inl (fun _ => nI 0)) (pn_hint _) (pn_nn (by omega)) (nI_clamp (by omega)) (by show n * 4 ≤ _; omega) (by show _ ≤ 3; omega) (by show _ ≤ 67584; omega) d_PO_init_28 (fun a6 H hP hD hS => ?_)
  have hP : va_P (dC, dI) pwCl ([(o, .inr (1, [.int (nI n), .ref a4, .ref a5, .null, .int 0, .int 0])), (a4, .inl (cB, n * 64, .inl (fun _ => sb_b 0))), (a5, .inl (cI, n, .inl (fun _ => nI 0))), (a6, .inl (cI, n, .inl (fun _ => nI 0)))]) H := hP
  have hD : va_D A ([(o, .inr (1, [.int (nI n), .ref a4, .ref a5, .null, .int 0, .int 0])), (a4, .inl (cB, n * 64, .inl (fun _ => sb_b 0))), (a5, .inl (cI, n, .inl (fun _ => nI 0))), (a6, .inl (cI, n, .inl (fun _ => nI 0)))]) := hD
  refine va_putF (ty := .array .int) (C := "PageDrive$Pool") (T := F_PO) (N := 6) hx hb hg iw_PO t_PO tok_PO n_PO hown hK hP hD hS 0 rfl rfl 3 (by decide) (hg (Cond.fieldLink "PageDrive$Pool" 23 "PageDrive$Pool" "unused" "[I") (wG_m2 (List.mem_of_getElem? (i := 1) rfl))) (fun _ h => h) rfl hin rfl (by decide +kernel) rfl rfl (Nat.le_of_ble_eq_true rfl) d_PO_init_30 (fun H locs hP hD hS => ?_)
  have hP : va_P (dC, dI) pwCl ([(o, .inr (1, [.int (nI n), .ref a4, .ref a5, .ref a6, .int 0, .int 0])), (a4, .inl (cB, n * 64, .inl (fun _ => sb_b 0))), (a5, .inl (cI, n, .inl (fun _ => nI 0))), (a6, .inl (cI, n, .inl (fun _ => nI 0)))]) H := hP
  have hD : va_D A ([(o, .inr (1, [.int (nI n), .ref a4, .ref a5, .ref a6, .int 0, .int 0])), (a4, .inl (cB, n * 64, .inl (fun _ => sb_b 0))), (a5, .inl (cI, n, .inl (fun _ => nI 0))), (a6, .inl (cI, n, .inl (fun _ => nI 0)))]) := hD
  refine lv_iconst (v := nI 0) hx hb d_PO_init_33 (by decide) ?_
  refine lv_istore_n (lv' := [(2, .int (nI 0)), (0, .ref o), (1, .int (nI n))]) hx hb d_PO_init_34 rfl hl (by decide) rfl (fun ls hl => ?_)
  have h0f : (fun _ : Nat => nI 0) = fun j => nI (if j < 0 then j else 0) := funext fun j => by rw [if_neg (by omega)]
  have hP : va_P (dC, dI) pwCl ([(o, .inr (1, [.int (nI n), .ref a4, .ref a5, .ref a6, .int 0, .int 0])), (a4, .inl (cB, n * 64, .inl (fun _ => sb_b 0))), (a5, .inl (cI, n, .inl (fun _ => nI 0))), (a6, .inl (cI, n, .inl (fun j => nI (if j < 0 then j else 0))))]) H := by rw [← h0f]; exact hP
  have hD : va_D A ([(o, .inr (1, [.int (nI n), .ref a4, .ref a5, .ref a6, .int 0, .int 0])), (a4, .inl (cB, n * 64, .inl (fun _ => sb_b 0))), (a5, .inl (cI, n, .inl (fun _ => nI 0))), (a6, .inl (cI, n, .inl (fun j => nI (if j < 0 then j else 0))))]) := by rw [← h0f]; exact hD
  refine pw_loop (fun mm H locs ls => ∃ k : Nat, mm = n - k ∧ k ≤ n ∧ va_P (dC, dI) pwCl ([(o, .inr (1, [.int (nI n), .ref a4, .ref a5, .ref a6, .int 0, .int 0])), (a4, .inl (cB, n * 64, .inl (fun _ => sb_b 0))), (a5, .inl (cI, n, .inl (fun _ => nI 0))), (a6, .inl (cI, n, .inl (fun j => nI (if j < k then j else 0))))]) H ∧ va_D A ([(o, .inr (1, [.int (nI n), .ref a4, .ref a5, .ref a6, .int 0, .int 0])), (a4, .inl (cB, n * 64, .inl (fun _ => sb_b 0))), (a5, .inl (cI, n, .inl (fun _ => nI 0))), (a6, .inl (cI, n, .inl (fun j => nI (if j < k then j else 0))))]) ∧ va_S A s.heap H locs ∧ lv_has ls 3 [(2, .int (nI k)), (0, .ref o), (1, .int (nI n))]) ?_ _ _ _ _ ⟨0, rfl, by omega, hP, hD, hS, hl⟩
  rintro mm H locs ls ⟨k, hmm, hk, hP, hD, hS, hl⟩ ih
  refine lv_iload_n hx hb d_PO_init_35 rfl (lv_at hl 0 rfl) ?_
  refine lv_iload_n hx hb d_PO_init_36 rfl (lv_at hl 2 rfl) ?_
  refine pq_icmp_ge (tgt := 53) hx hb (by omega) (by omega) d_PO_init_37 (by decide) (fun h7 => ?_) (fun h7 => ?_)
  · have hkk : k = n := by omega
    subst hkk
    refine lv_aload_n hx hb d_PO_init_53 rfl (lv_at hl 1 rfl) ?_
    refine lv_iload_n hx hb d_PO_init_54 rfl (lv_at hl 2 rfl) ?_
    refine va_put (ty := .int) (C := "PageDrive$Pool") (T := F_PO) (N := 6) hx hb hg iw_PO t_PO tok_PO n_PO hown hK hP hD hS 0 rfl rfl 4 (by decide) (hg (Cond.fieldLink "PageDrive$Pool" 26 "PageDrive$Pool" "unusedCount" "I") (wG_m2 (List.mem_of_getElem? (i := 2) rfl))) (fun _ h => h) rfl (by decide +kernel) rfl rfl (Nat.le_of_ble_eq_true rfl) d_PO_init_55 (fun H locs hP hD hS => ?_)
    have hP : va_P (dC, dI) pwCl ([(o, .inr (1, [.int (nI k), .ref a4, .ref a5, .ref a6, .int (nI k), .int 0])), (a4, .inl (cB, k * 64, .inl (fun _ => sb_b 0))), (a5, .inl (cI, k, .inl (fun _ => nI 0))), (a6, .inl (cI, k, .inl (fun j => nI (if j < k then j else 0))))]) H := hP
    have hD : va_D A ([(o, .inr (1, [.int (nI k), .ref a4, .ref a5, .ref a6, .int (nI k), .int 0])), (a4, .inl (cB, k * 64, .inl (fun _ => sb_b 0))), (a5, .inl (cI, k, .inl (fun _ => nI 0))), (a6, .inl (cI, k, .inl (fun j => nI (if j < k then j else 0))))]) := hD
    refine lv_aload_n hx hb d_PO_init_58 rfl (lv_at hl 1 rfl) ?_
    refine lv_iconst (v := nI 0) hx hb d_PO_init_59 (by decide) ?_
    refine va_put (ty := .int) (C := "PageDrive$Pool") (T := F_PO) (N := 6) hx hb hg iw_PO t_PO tok_PO n_PO hown hK hP hD hS 0 rfl rfl 5 (by decide) (hg (Cond.fieldLink "PageDrive$Pool" 29 "PageDrive$Pool" "copied" "I") (wG_m2 (List.mem_of_getElem? (i := 4) rfl))) (fun _ h => h) rfl (by decide +kernel) rfl rfl (Nat.le_of_ble_eq_true rfl) d_PO_init_60 (fun H locs hP hD hS => ?_)
    have hP : va_P (dC, dI) pwCl ([(o, .inr (1, [.int (nI k), .ref a4, .ref a5, .ref a6, .int (nI k), .int (nI 0)])), (a4, .inl (cB, k * 64, .inl (fun _ => sb_b 0))), (a5, .inl (cI, k, .inl (fun _ => nI 0))), (a6, .inl (cI, k, .inl (fun j => nI (if j < k then j else 0))))]) H := hP
    have hD : va_D A ([(o, .inr (1, [.int (nI k), .ref a4, .ref a5, .ref a6, .int (nI k), .int (nI 0)])), (a4, .inl (cB, k * 64, .inl (fun _ => sb_b 0))), (a5, .inl (cI, k, .inl (fun _ => nI 0))), (a6, .inl (cI, k, .inl (fun j => nI (if j < k then j else 0))))]) := hD
    refine pn_mq (c1 := 0 + 1 + 1 + 1) (s1 := 0 + k * 64 + k + k) (by omega) (by omega) ?_
    exact W.vret hx hb hret (fun t9 ht9 hW9 => ⟨⟨(a4, a5, a6), rfl, trivial, by rw [ht9]; exact hP, va_K.moved hW9.alike hK, hD⟩, hS.F ht9⟩) hS.2.2 d_PO_init_63
  · refine lv_aload_n hx hb d_PO_init_40 rfl (lv_at hl 1 rfl) ?_
    refine va_get (C := "PageDrive$Pool") (T := F_PO) (N := 6) hx hb hg iw_PO hown hK hP 0 rfl rfl 3 (by decide) (hg (Cond.fieldLink "PageDrive$Pool" 23 "PageDrive$Pool" "unused" "[I") (wG_m2 (List.mem_of_getElem? (i := 1) rfl))) (fun _ h9 => h9) rfl d_PO_init_41 ?_
    refine lv_iload_n hx hb d_PO_init_44 rfl (lv_at hl 0 rfl) ?_
    refine lv_iload_n hx hb d_PO_init_45 rfl (lv_at hl 0 rfl) ?_
    refine va_iast hx hb hK hP hD hS 3 0 rfl rfl (vp_in_nI h7 (by omega)) d_PO_init_46 (fun H locs hP hD hS => ?_)
    have hf : upd (fun j => nI (if j < k then j else 0)) (nI k).toNatClampNeg (nI k) = fun j => nI (if j < k + 1 then j else 0) := by
      rw [nI_clamp (by omega), pq_updI]
      funext j
      congr 1
      unfold va_up
      by_cases q : j = k
      · rw [if_pos q, if_pos (by omega), q]
      · rw [if_neg q]
        show (if j < k then j else 0) = _
        by_cases q2 : j < k
        · rw [if_pos q2, if_pos (by omega)]
        · rw [if_neg q2, if_neg (by omega)]
    rw [hf] at hP hD
    refine lv_iinc (v := (nI (k + 1))) (lv' := [(2, .int (nI (k + 1))), (0, .ref o), (1, .int (nI n))]) hx hb d_PO_init_47 hl (k := 0) rfl (pq_inc _) (by decide) rfl (fun ls hl => ?_)
    refine lv_goto (tgt := 35) hx hb d_PO_init_50 (by decide) ?_
    exact ih _ _ _ _ (by omega) ⟨k + 1, rfl, by omega, hP, hD, hS, hl⟩
