/-! THE CONSTRUCTORS, 3: PageDrive, PageDriveModel -/
theorem pn_v4 {x : Int32} {n : Nat} (h : pn_is x n) (q : x < nI 4) : n = 4 := by
  rcases h.2.2 with ⟨-, h2⟩ | ⟨h2, -⟩ | ⟨h2, -⟩
  · exact h2
  · exact absurd q h2
  · exact absurd q h2
theorem pn_v1024 {x : Int32} {n : Nat} (h : pn_is x n) (q : nI 1024 < x) : n = 1024 := by
  rcases h.2.2 with ⟨h1, -⟩ | ⟨-, -, h2⟩ | ⟨-, h2, -⟩
  · exact absurd (Int32.lt_trans (Int32.lt_trans h1 (nI_lt (by decide : 4 < 1024) (by decide))) q) (Int32.lt_irrefl)
  · exact h2
  · exact absurd q h2
theorem pn_vx {x : Int32} {n : Nat} (h : pn_is x n) (q1 : ¬ x < nI 4) (q2 : ¬ nI 1024 < x) : x = nI n := by
  rcases h.2.2 with ⟨h1, -⟩ | ⟨-, h1, -⟩ | ⟨-, -, h2⟩
  · exact absurd h1 q1
  · exact absurd h1 q2
  · exact h2
theorem pn_max {x : Int32} {n : Nat} (h : pn_is x n) : (if nI 4 < (if x < nI 1024 then x else nI 1024) then (if x < nI 1024 then x else nI 1024) else nI 4) = nI n := by
  obtain ⟨h1, h2, h3⟩ := h
  rcases h3 with ⟨h3, rfl⟩ | ⟨h3, h4, rfl⟩ | ⟨-, -, rfl⟩
  · rw [if_pos (Int32.lt_trans h3 (nI_lt (by decide) (by decide))), if_neg (fun q => absurd (Int32.lt_trans h3 q) Int32.lt_irrefl)]
  · rw [if_neg (fun q => absurd (Int32.lt_trans h4 q) Int32.lt_irrefl), if_pos (nI_lt (by decide) (by decide))]
  · have e : (if nI n < nI 1024 then nI n else nI 1024) = nI n := by
      by_cases q : n < 1024
      · rw [if_pos (nI_lt q (by decide))]
      · rw [if_neg (fun z => q ((nI_ltI (by omega) (by decide)).mp z)), show n = 1024 by omega]
    rw [e]
    by_cases q : 4 < n
    · rw [if_pos (nI_lt q (by omega))]
    · rw [if_neg (fun z => q ((nI_ltI (by decide) (by omega)).mp z)), show n = 4 by omega]
set_option maxHeartbeats 400000 in
set_option maxRecDepth 100000 in
/-- PageDrive(x) -/
theorem c_PD_init (l : Launch) (dC : Nat → ClassId) (dI : Nat → Nat → Nat) (cI cB cE cL cZ : ClassId) (o n : Nat) (x : Int32) (hn : pn_is x n) (sz : Nat) : CMn l (dC, dI) (pw_ty cI cB cE cL cZ) y_PD_init w_PD_init ({ frames := 3, cells := 86, slots := 84646, locals := 60 }) [.ref o, .int x] ([(o, .inr (0, [.null, .null, .null, .int 0]))]) (fun ad : Nat → Nat => pw n ad cI cB cE (pn_s0 n)) sz (fun ad => ad 0 = o) 86 84646 := by
  refine Met.ofW (cc := b_PD_init) (maxL := 3) (ret := none) (by decide) rfl ?_
  intro p e s m args below meth c s₁ B hml hv
  obtain ⟨rfl, ⟨hsz, hP, hK, hD0⟩, hN⟩ := hv
  have hx := B.exec
  have hb := B.bytes
  have hret := B.returns
  have hts := atoms_spec (ws := w_PD_init) B.pre
  have hg : ∀ w ∈ wsG, w.before _ s = true := fun w h => hts w (List.mem_cons_of_mem _ h)
  have hown : s.vm.findClass "PageDrive" = some m.cls := findClass_of_methodNamed B.named
  have hlocks := B.notSynchronized
  have hin : meth.name = "<init>" := (name_of_methodNamed B.named B.method).1
  subst hsz
  have hD := hD0.self (sz := s.heap.size)
  generalize hAe : va_A ([(o, .inr (0, [.null, .null, .null, .int 0]))]) s.heap.size = A at hD ⊢
  have hA : ∀ q : Nat, s.heap.size ≤ q → A q := fun q h => by rw [← hAe]; exact Or.inr h
  have hS : va_S A s.heap s.heap [] := va_S.rf
  have hl := lv_entry ([.ref o, .int x]) (n := 3) (Nat.le_of_ble_eq_true rfl)
  rw [lg_entry_eq]
  generalize (lg_sl ([.ref o, .int x]) ++ List.replicate (3 - (lg_sl ([.ref o, .int x])).length) Slot.unset).toArray = ls at hl ⊢
  have hl : lv_has ls 3 [(0, .ref o), (1, .int x)] := hl
  have hn1 := hn.1
  have hn2 := hn.2.1
  refine lv_aload_n hx hb d_PD_init_0 rfl (lv_at hl 0 rfl) ?_
  refine W.objInit hx hb hown (hg (Cond.methodLink "PageDrive" 1 ⟨"java/lang/Object", "<init>", "()V"⟩) (wG_m1 (List.mem_of_getElem? (i := 21) rfl))) (hg _ (wG_m1 (List.mem_of_getElem? (i := 22) rfl))) (hg _ (wG_m1 (List.mem_of_getElem? (i := 23) rfl))) rfl (by rw [hml]; exact hl.1) rfl d_PD_init_1 (Nat.le_of_ble_eq_true rfl) (Nat.le_of_ble_eq_true rfl) ?_
  refine W.eq (g2 := F0 m 4 ls []) rfl ?_
  refine lv_aload_n hx hb d_PD_init_4 rfl (lv_at hl 0 rfl) ?_
  refine va_new (C := "PageDrive$Pool") (T := F_PO) (N := 6) (ci := 1) hx hb hg iw_PO t_PO tok_PO hown (hg (Cond.classLink "PageDrive" 7 "PageDrive$Pool") (wG_m1 (List.mem_of_getElem? (i := 24) rfl))) (hg (Cond.instantiable "PageDrive$Pool" 6) (wG_m1 (List.mem_of_getElem? (i := 25) rfl))) (hg (Cond.initialized "PageDrive$Pool") (wG_m1 (List.mem_of_getElem? (i := 2) rfl))) hK hP hD hS hA rfl (fs := [.int 0, .null, .null, .null, .int 0, .int 0]) (fun j hj => by rcases (show j = 0 ∨ j = 1 ∨ j = 2 ∨ j = 3 ∨ j = 4 ∨ j = 5 by omega) with rfl | rfl | rfl | rfl | rfl | rfl <;> rfl) (by show _ ≤ 86; omega) (by show _ ≤ 84646; omega) d_PD_init_5 (fun a1 H hP hD hS => ?_)
  refine lv_dup hx hb d_PD_init_8 rfl ?_
  refine lv_iconst (v := nI 4) hx hb d_PD_init_9 (by decide) ?_
  refine lv_sipush (v := nI 1024) hx hb d_PD_init_10 (by decide) ?_
  refine lv_iload_n hx hb d_PD_init_13 rfl (lv_at hl 1 rfl) ?_
  refine va_mmin hx hb (hml.trans hl.1.symm) hown (hg _ (wG_m1 (List.mem_of_getElem? (i := 26) rfl))) (hg _ (wG_m1 (List.mem_of_getElem? (i := 27) rfl))) (hg (Cond.initialized "java/lang/Math") (wG_m1 (List.mem_of_getElem? (i := 3) rfl))) (hg _ (wG_m1 (List.mem_of_getElem? (i := 28) rfl))) (Nat.le_of_ble_eq_true rfl) (Nat.le_of_ble_eq_true rfl) (by show _ ≤ 86; omega) (by show _ ≤ 84646; omega) d_PD_init_14 ?_
  refine va_mmax hx hb (hml.trans hl.1.symm) hown (hg _ (wG_m1 (List.mem_of_getElem? (i := 29) rfl))) (hg _ (wG_m1 (List.mem_of_getElem? (i := 30) rfl))) (hg (Cond.initialized "java/lang/Math") (wG_m1 (List.mem_of_getElem? (i := 3) rfl))) (hg _ (wG_m1 (List.mem_of_getElem? (i := 31) rfl))) (Nat.le_of_ble_eq_true rfl) (Nat.le_of_ble_eq_true rfl) (by show _ ≤ 86; omega) (by show _ ≤ 84646; omega) d_PD_init_17 ?_
  refine pq_top (y := nI n) (pn_max hn) ?_
  refine pn_callv (wr := [(o, .inr (0, [.null, .null, .null, .int 0]))]) (wc := [(a1, .inr (1, [.int 0, .null, .null, .null, .int 0, .int 0]))]) (va_runI (As := [.int (nI n)]) (rest := [.ref a1, .ref o]) ⟨hx, hb, hml, hown, hg⟩ (c_PO_init l dC dI cI cB cE cL cZ a1 n hn1 hn2 H.size) (cwI 1 hg (gi_in (fun _ h => h) (wG_m1 (List.mem_of_getElem? (i := 34) rfl))) rfl rfl rfl (hg (Cond.initialized "PageDrive$Pool") (wG_m1 (List.mem_of_getElem? (i := 2) rfl))) (hg (Cond.methodLink "PageDrive" 20 ⟨"PageDrive$Pool", "<init>", "(I)V"⟩) (wG_m1 (List.mem_of_getElem? (i := 32) rfl))) (hg (Cond.instanceMethod ⟨"PageDrive$Pool", "<init>", "(I)V"⟩) (wG_m1 (List.mem_of_getElem? (i := 33) rfl))) rfl (by decide +kernel) ⟨Nat.le_of_ble_eq_true rfl, Nat.le_of_ble_eq_true rfl⟩) (pn_ps hK (pn_Pr (w2 := [(a1, .inr (1, [.int 0, .null, .null, .null, .int 0, .int 0]))]) hP) (pn_Dr (w2 := [(a1, .inr (1, [.int 0, .null, .null, .null, .int 0, .int 0]))]) hD) hN [.ref a1, .int (nI n)]) rfl rfl hl.1 rfl (lv_room (Nat.le_of_ble_eq_true rfl)) d_PD_init_20 ⟨by show _ ≤ 86; omega, by show _ ≤ 84646; omega⟩) hP hD hS hA (fun u H locs hr hP hD hS => ?_)
  obtain ⟨a4, a5, a6⟩ := u
  have hP : va_P (dC, dI) pwCl ([(o, .inr (0, [.null, .null, .null, .int 0])), (a1, .inr (1, [.int (nI n), .ref a4, .ref a5, .ref a6, .int (nI n), .int (nI 0)])), (a4, .inl (cB, n * 64, .inl (fun _ => sb_b 0))), (a5, .inl (cI, n, .inl (fun _ => nI 0))), (a6, .inl (cI, n, .inl (fun j => nI (if j < n then j else 0))))]) H := hP
  have hD : va_D A ([(o, .inr (0, [.null, .null, .null, .int 0])), (a1, .inr (1, [.int (nI n), .ref a4, .ref a5, .ref a6, .int (nI n), .int (nI 0)])), (a4, .inl (cB, n * 64, .inl (fun _ => sb_b 0))), (a5, .inl (cI, n, .inl (fun _ => nI 0))), (a6, .inl (cI, n, .inl (fun j => nI (if j < n then j else 0))))]) := hD
  refine va_putF (ty := .object "PageDrive$Pool") (C := "PageDrive") (T := F_PD) (N := 4) hx hb hg iw_PD t_PD tok_PD n_PD hown hK hP hD hS 0 rfl rfl 0 (by decide) (hg (Cond.fieldLink "PageDrive" 23 "PageDrive" "pool" "LPageDrive$Pool;") (wG_m3 (List.mem_of_getElem? (i := 17) rfl))) (fun _ h => h) rfl hin rfl (by decide +kernel) rfl rfl (Nat.le_of_ble_eq_true rfl) d_PD_init_23 (fun H locs hP hD hS => ?_)
  have hP : va_P (dC, dI) pwCl ([(o, .inr (0, [.ref a1, .null, .null, .int 0])), (a1, .inr (1, [.int (nI n), .ref a4, .ref a5, .ref a6, .int (nI n), .int (nI 0)])), (a4, .inl (cB, n * 64, .inl (fun _ => sb_b 0))), (a5, .inl (cI, n, .inl (fun _ => nI 0))), (a6, .inl (cI, n, .inl (fun j => nI (if j < n then j else 0))))]) H := hP
  have hD : va_D A ([(o, .inr (0, [.ref a1, .null, .null, .int 0])), (a1, .inr (1, [.int (nI n), .ref a4, .ref a5, .ref a6, .int (nI n), .int (nI 0)])), (a4, .inl (cB, n * 64, .inl (fun _ => sb_b 0))), (a5, .inl (cI, n, .inl (fun _ => nI 0))), (a6, .inl (cI, n, .inl (fun j => nI (if j < n then j else 0))))]) := hD
  refine lv_aload_n hx hb d_PD_init_26 rfl (lv_at hl 0 rfl) ?_
  refine lv_bipush (v := nI 16) hx hb d_PD_init_27 (by decide) ?_
  refine pn_newq (C := "PageDrive$Entry") (N' := 16) hx hb hown (hg (Cond.classLink "PageDrive" 27 "PageDrive$Entry") (wG_m2 (List.mem_of_getElem? (i := 21) rfl))) hN.2.2 hK hP hD hS hA 2 rfl (by decide) (nI_clamp (by decide)) (by decide) (by show _ ≤ 86; omega) (by show _ ≤ 84646; omega) d_PD_init_29 (fun a2 H hP hD hS => ?_)
  have hP : va_P (dC, dI) pwCl ([(o, .inr (0, [.ref a1, .null, .null, .int 0])), (a1, .inr (1, [.int (nI n), .ref a4, .ref a5, .ref a6, .int (nI n), .int (nI 0)])), (a4, .inl (cB, n * 64, .inl (fun _ => sb_b 0))), (a5, .inl (cI, n, .inl (fun _ => nI 0))), (a6, .inl (cI, n, .inl (fun j => nI (if j < n then j else 0)))), (a2, .inl (cE, 16, .inr (.inr (.inr (.inr (fun _ => none))))))]) H := hP
  have hD : va_D A ([(o, .inr (0, [.ref a1, .null, .null, .int 0])), (a1, .inr (1, [.int (nI n), .ref a4, .ref a5, .ref a6, .int (nI n), .int (nI 0)])), (a4, .inl (cB, n * 64, .inl (fun _ => sb_b 0))), (a5, .inl (cI, n, .inl (fun _ => nI 0))), (a6, .inl (cI, n, .inl (fun j => nI (if j < n then j else 0)))), (a2, .inl (cE, 16, .inr (.inr (.inr (.inr (fun _ => none))))))]) := hD
  refine va_putF (ty := .array (.object "PageDrive$Entry")) (C := "PageDrive") (T := F_PD) (N := 4) hx hb hg iw_PD t_PD tok_PD n_PD hown hK hP hD hS 0 rfl rfl 1 (by decide) (hg (Cond.fieldLink "PageDrive" 29 "PageDrive" "entries" "[LPageDrive$Entry;") (wG_m3 (List.mem_of_getElem? (i := 18) rfl))) (fun _ h => h) rfl hin rfl (by decide +kernel) rfl rfl (Nat.le_of_ble_eq_true rfl) d_PD_init_32 (fun H locs hP hD hS => ?_)
  have hP : va_P (dC, dI) pwCl ([(o, .inr (0, [.ref a1, .ref a2, .null, .int 0])), (a1, .inr (1, [.int (nI n), .ref a4, .ref a5, .ref a6, .int (nI n), .int (nI 0)])), (a4, .inl (cB, n * 64, .inl (fun _ => sb_b 0))), (a5, .inl (cI, n, .inl (fun _ => nI 0))), (a6, .inl (cI, n, .inl (fun j => nI (if j < n then j else 0)))), (a2, .inl (cE, 16, .inr (.inr (.inr (.inr (fun _ => none))))))]) H := hP
  have hD : va_D A ([(o, .inr (0, [.ref a1, .ref a2, .null, .int 0])), (a1, .inr (1, [.int (nI n), .ref a4, .ref a5, .ref a6, .int (nI n), .int (nI 0)])), (a4, .inl (cB, n * 64, .inl (fun _ => sb_b 0))), (a5, .inl (cI, n, .inl (fun _ => nI 0))), (a6, .inl (cI, n, .inl (fun j => nI (if j < n then j else 0)))), (a2, .inl (cE, 16, .inr (.inr (.inr (.inr (fun _ => none))))))]) := hD
  refine lv_iconst (v := nI 0) hx hb d_PD_init_35 (by decide) ?_
  refine lv_istore_n (lv' := [(2, .int (nI 0)), (0, .ref o), (1, .int x)]) hx hb d_PD_init_36 rfl hl (by decide) rfl (fun ls hl => ?_)
  obtain ⟨ad0, had0⟩ : ∃ f : Nat → Nat, f = fun _ => 0 := ⟨_, rfl⟩
  have h0f : (fun _ : Nat => (none : Option Nat)) = fun j => if j < 0 then some (ad0 (7 + j)) else none := funext fun j => by rw [if_neg (by omega)]
  have hP : va_P (dC, dI) pwCl ([(o, .inr (0, [.ref a1, .ref a2, .null, .int 0])), (a1, .inr (1, [.int (nI n), .ref a4, .ref a5, .ref a6, .int (nI n), .int (nI 0)])), (a4, .inl (cB, n * 64, .inl (fun _ => sb_b 0))), (a5, .inl (cI, n, .inl (fun _ => nI 0))), (a6, .inl (cI, n, .inl (fun j => nI (if j < n then j else 0)))), (a2, .inl (cE, 16, .inr (.inr (.inr (.inr (fun j => if j < 0 then some (ad0 (7 + j)) else none))))))] ++ pn_B ad0 cI 0) H := by rw [← h0f]; exact hP
  have hD : va_D A ([(o, .inr (0, [.ref a1, .ref a2, .null, .int 0])), (a1, .inr (1, [.int (nI n), .ref a4, .ref a5, .ref a6, .int (nI n), .int (nI 0)])), (a4, .inl (cB, n * 64, .inl (fun _ => sb_b 0))), (a5, .inl (cI, n, .inl (fun _ => nI 0))), (a6, .inl (cI, n, .inl (fun j => nI (if j < n then j else 0)))), (a2, .inl (cE, 16, .inr (.inr (.inr (.inr (fun j => if j < 0 then some (ad0 (7 + j)) else none))))))] ++ pn_B ad0 cI 0) := by rw [← h0f]; exact hD
  refine pn_loop (fun mm cs ss H locs ls => ∃ (k : Nat) (ad : Nat → Nat), mm = 16 - k ∧ k ≤ 16 ∧ cs = 5 + 5 * k ∧ ss = 67606 + 809 * k ∧ va_P (dC, dI) pwCl ([(o, .inr (0, [.ref a1, .ref a2, .null, .int 0])), (a1, .inr (1, [.int (nI n), .ref a4, .ref a5, .ref a6, .int (nI n), .int (nI 0)])), (a4, .inl (cB, n * 64, .inl (fun _ => sb_b 0))), (a5, .inl (cI, n, .inl (fun _ => nI 0))), (a6, .inl (cI, n, .inl (fun j => nI (if j < n then j else 0)))), (a2, .inl (cE, 16, .inr (.inr (.inr (.inr (fun j => if j < k then some (ad (7 + j)) else none))))))] ++ pn_B ad cI k) H ∧ va_D A ([(o, .inr (0, [.ref a1, .ref a2, .null, .int 0])), (a1, .inr (1, [.int (nI n), .ref a4, .ref a5, .ref a6, .int (nI n), .int (nI 0)])), (a4, .inl (cB, n * 64, .inl (fun _ => sb_b 0))), (a5, .inl (cI, n, .inl (fun _ => nI 0))), (a6, .inl (cI, n, .inl (fun j => nI (if j < n then j else 0)))), (a2, .inl (cE, 16, .inr (.inr (.inr (.inr (fun j => if j < k then some (ad (7 + j)) else none))))))] ++ pn_B ad cI k) ∧ va_S A s.heap H locs ∧ lv_has ls 3 [(2, .int (nI k)), (0, .ref o), (1, .int x)]) ?_ _ _ _ _ _ _ ⟨0, ad0, rfl, by omega, rfl, rfl, hP, hD, hS, hl⟩
  rintro mm cs ss H locs ls ⟨k, ad, hmm, hk, rfl, rfl, hP, hD, hS, hl⟩ ih
  refine lv_iload_n hx hb d_PD_init_37 rfl (lv_at hl 0 rfl) ?_
  refine lv_bipush (v := nI 16) hx hb d_PD_init_38 (by decide) ?_
  refine pq_icmp_ge (tgt := 62) hx hb (by omega) (by omega) d_PD_init_40 (by decide) (fun h7 => ?_) (fun h7 => ?_)
  · have hkk : k = 16 := by omega
    subst hkk
    refine lv_aload_n hx hb d_PD_init_62 rfl (lv_at hl 1 rfl) ?_
    refine lv_sipush (v := nI 4096) hx hb d_PD_init_63 (by decide) ?_
    refine pn_newa (atype := .byte) (ty := .byte) (N' := 4096) hx hb (hg (Cond.arrayClass FieldType.byte) (wG_m2 (List.mem_of_getElem? (i := 19) rfl))) rfl hK hP hD hS hA 1 rfl (nm := _) (fun x => va_nm_byte) (4096, .inl (fun _ => sb_b 0)) (pn_hbyte _) (by decide) (nI_clamp (by decide)) (by decide) (by show _ ≤ 86; omega) (by show _ ≤ 84646; omega) d_PD_init_66 (fun a3 H hP hD hS => ?_)
    have hP : va_P (dC, dI) pwCl (([(o, .inr (0, [.ref a1, .ref a2, .null, .int 0])), (a1, .inr (1, [.int (nI n), .ref a4, .ref a5, .ref a6, .int (nI n), .int (nI 0)])), (a4, .inl (cB, n * 64, .inl (fun _ => sb_b 0))), (a5, .inl (cI, n, .inl (fun _ => nI 0))), (a6, .inl (cI, n, .inl (fun j => nI (if j < n then j else 0)))), (a2, .inl (cE, 16, .inr (.inr (.inr (.inr (fun j => if j < 16 then some (ad (7 + j)) else none))))))] ++ pn_B ad cI 16) ++ [(a3, .inl (cB, 4096, .inl (fun _ => sb_b 0)))]) H := hP
    have hD : va_D A (([(o, .inr (0, [.ref a1, .ref a2, .null, .int 0])), (a1, .inr (1, [.int (nI n), .ref a4, .ref a5, .ref a6, .int (nI n), .int (nI 0)])), (a4, .inl (cB, n * 64, .inl (fun _ => sb_b 0))), (a5, .inl (cI, n, .inl (fun _ => nI 0))), (a6, .inl (cI, n, .inl (fun j => nI (if j < n then j else 0)))), (a2, .inl (cE, 16, .inr (.inr (.inr (.inr (fun j => if j < 16 then some (ad (7 + j)) else none))))))] ++ pn_B ad cI 16) ++ [(a3, .inl (cB, 4096, .inl (fun _ => sb_b 0)))]) := hD
    refine va_putF (ty := .array .byte) (C := "PageDrive") (T := F_PD) (N := 4) hx hb hg iw_PD t_PD tok_PD n_PD hown hK hP hD hS 0 rfl rfl 2 (by decide) (hg (Cond.fieldLink "PageDrive" 34 "PageDrive" "tape" "[B") (wG_m3 (List.mem_of_getElem? (i := 19) rfl))) (fun _ h => h) rfl hin rfl (by decide +kernel) rfl rfl (Nat.le_of_ble_eq_true rfl) d_PD_init_68 (fun H locs hP hD hS => ?_)
    have hP : va_P (dC, dI) pwCl (([(o, .inr (0, [.ref a1, .ref a2, .ref a3, .int 0])), (a1, .inr (1, [.int (nI n), .ref a4, .ref a5, .ref a6, .int (nI n), .int (nI 0)])), (a4, .inl (cB, n * 64, .inl (fun _ => sb_b 0))), (a5, .inl (cI, n, .inl (fun _ => nI 0))), (a6, .inl (cI, n, .inl (fun j => nI (if j < n then j else 0)))), (a2, .inl (cE, 16, .inr (.inr (.inr (.inr (fun j => if j < 16 then some (ad (7 + j)) else none))))))] ++ pn_B ad cI 16) ++ [(a3, .inl (cB, 4096, .inl (fun _ => sb_b 0)))]) H := hP
    have hD : va_D A (([(o, .inr (0, [.ref a1, .ref a2, .ref a3, .int 0])), (a1, .inr (1, [.int (nI n), .ref a4, .ref a5, .ref a6, .int (nI n), .int (nI 0)])), (a4, .inl (cB, n * 64, .inl (fun _ => sb_b 0))), (a5, .inl (cI, n, .inl (fun _ => nI 0))), (a6, .inl (cI, n, .inl (fun j => nI (if j < n then j else 0)))), (a2, .inl (cE, 16, .inr (.inr (.inr (.inr (fun j => if j < 16 then some (ad (7 + j)) else none))))))] ++ pn_B ad cI 16) ++ [(a3, .inl (cB, 4096, .inl (fun _ => sb_b 0)))]) := hD
    refine lv_aload_n hx hb d_PD_init_71 rfl (lv_at hl 1 rfl) ?_
    refine lv_iconst (v := nI 0) hx hb d_PD_init_72 (by decide) ?_
    refine va_put (ty := .int) (C := "PageDrive") (T := F_PD) (N := 4) hx hb hg iw_PD t_PD tok_PD n_PD hown hK hP hD hS 0 rfl rfl 3 (by decide) (hg (Cond.fieldLink "PageDrive" 38 "PageDrive" "taped" "I") (wG_m3 (List.mem_of_getElem? (i := 20) rfl))) (fun _ h => h) rfl (by decide +kernel) rfl rfl (Nat.le_of_ble_eq_true rfl) d_PD_init_73 (fun H locs hP hD hS => ?_)
    have hP : va_P (dC, dI) pwCl (([(o, .inr (0, [.ref a1, .ref a2, .ref a3, .int (nI 0)])), (a1, .inr (1, [.int (nI n), .ref a4, .ref a5, .ref a6, .int (nI n), .int (nI 0)])), (a4, .inl (cB, n * 64, .inl (fun _ => sb_b 0))), (a5, .inl (cI, n, .inl (fun _ => nI 0))), (a6, .inl (cI, n, .inl (fun j => nI (if j < n then j else 0)))), (a2, .inl (cE, 16, .inr (.inr (.inr (.inr (fun j => if j < 16 then some (ad (7 + j)) else none))))))] ++ pn_B ad cI 16) ++ [(a3, .inl (cB, 4096, .inl (fun _ => sb_b 0)))]) H := hP
    have hD : va_D A (([(o, .inr (0, [.ref a1, .ref a2, .ref a3, .int (nI 0)])), (a1, .inr (1, [.int (nI n), .ref a4, .ref a5, .ref a6, .int (nI n), .int (nI 0)])), (a4, .inl (cB, n * 64, .inl (fun _ => sb_b 0))), (a5, .inl (cI, n, .inl (fun _ => nI 0))), (a6, .inl (cI, n, .inl (fun j => nI (if j < n then j else 0)))), (a2, .inl (cE, 16, .inr (.inr (.inr (.inr (fun j => if j < 16 then some (ad (7 + j)) else none))))))] ++ pn_B ad cI 16) ++ [(a3, .inl (cB, 4096, .inl (fun _ => sb_b 0)))]) := hD
    obtain ⟨AD, hAD⟩ : ∃ f : Nat → Nat, f = fun z => if z = 0 then o else if z = 1 then a1 else if z = 2 then a2 else if z = 3 then a3 else if z = 4 then a4 else if z = 5 then a5 else if z = 6 then a6 else ad z := ⟨_, rfl⟩
    have f0 : AD 0 = o := by rw [hAD]; rfl
    have f1 : AD 1 = a1 := by rw [hAD]; rfl
    have f2 : AD 2 = a2 := by rw [hAD]; rfl
    have f3 : AD 3 = a3 := by rw [hAD]; rfl
    have f4 : AD 4 = a4 := by rw [hAD]; rfl
    have f5 : AD 5 = a5 := by rw [hAD]; rfl
    have f6 : AD 6 = a6 := by rw [hAD]; rfl
    have fo : ∀ z, 7 ≤ z → AD z = ad z := fun z hz => by
      subst hAD
      exact (if_neg (by omega)).trans ((if_neg (by omega)).trans ((if_neg (by omega)).trans ((if_neg (by omega)).trans ((if_neg (by omega)).trans ((if_neg (by omega)).trans (if_neg (by omega)))))))
    have hcg : pn_B AD cI 16 = pn_B ad cI 16 := pn_B_cg 16 (fun z hz => fo z (by omega))
    have hfn : (fun j => if j < 16 then some (AD (7 + j)) else none) = fun j => if j < 16 then some (ad (7 + j)) else none := funext fun j => by rw [fo _ (by omega)]
    have hWd : (pn_base n AD cI cB cE ++ pn_B AD cI 16) ++ pn_end AD cB = ([(o, .inr (0, [.ref a1, .ref a2, .ref a3, .int (nI 0)])), (a1, .inr (1, [.int (nI n), .ref a4, .ref a5, .ref a6, .int (nI n), .int (nI 0)])), (a4, .inl (cB, n * 64, .inl (fun _ => sb_b 0))), (a5, .inl (cI, n, .inl (fun _ => nI 0))), (a6, .inl (cI, n, .inl (fun j => nI (if j < n then j else 0)))), (a2, .inl (cE, 16, .inr (.inr (.inr (.inr (fun j => if j < 16 then some (ad (7 + j)) else none))))))] ++ pn_B ad cI 16) ++ [(a3, .inl (cB, 4096, .inl (fun _ => sb_b 0)))] := by
      unfold pn_base pn_end
      rw [hcg, f0, f1, f2, f3, f4, f5, f6, hfn]
    obtain ⟨hP, hD⟩ := pn_fin (n := n) (ad := AD) (by rw [hWd]; exact hP) (by rw [hWd]; exact hD)
    refine pn_mq (c1 := 5 + 5 * 16 + 1) (s1 := 67606 + 809 * 16 + 4096) (by omega) (by omega) ?_
    exact W.vret hx hb hret (fun t9 ht9 hW9 => ⟨⟨AD, rfl, f0, by rw [ht9]; exact hP, va_K.moved hW9.alike hK, hD⟩, hS.F ht9⟩) hS.2.2 d_PD_init_76
  · refine lv_aload_n hx hb d_PD_init_43 rfl (lv_at hl 1 rfl) ?_
    refine va_get (C := "PageDrive") (T := F_PD) (N := 4) hx hb hg iw_PD hown hK hP 0 rfl rfl 1 (by decide) (hg (Cond.fieldLink "PageDrive" 29 "PageDrive" "entries" "[LPageDrive$Entry;") (wG_m3 (List.mem_of_getElem? (i := 18) rfl))) (fun _ h9 => h9) rfl d_PD_init_44 ?_
    refine lv_iload_n hx hb d_PD_init_47 rfl (lv_at hl 0 rfl) ?_
    refine va_new (C := "PageDrive$Entry") (T := F_EN) (N := 3) (ci := 2) hx hb hg iw_EN t_EN tok_EN hown (hg (Cond.classLink "PageDrive" 27 "PageDrive$Entry") (wG_m2 (List.mem_of_getElem? (i := 21) rfl))) (hg (Cond.instantiable "PageDrive$Entry" 3) (wG_m2 (List.mem_of_getElem? (i := 22) rfl))) (hg (Cond.initialized "PageDrive$Entry") (wG_m1 (List.mem_of_getElem? (i := 4) rfl))) hK hP hD hS hA rfl (fs := [.null, .null, .int 0]) (fun j hj => by rcases (show j = 0 ∨ j = 1 ∨ j = 2 by omega) with rfl | rfl | rfl <;> rfl) (by show _ ≤ 86; omega) (by show _ ≤ 84646; omega) d_PD_init_48 (fun q H hP hD hS => ?_)
    refine lv_dup hx hb d_PD_init_51 rfl ?_
    refine pn_callv (wr := [(o, .inr (0, [.ref a1, .ref a2, .null, .int 0])), (a1, .inr (1, [.int (nI n), .ref a4, .ref a5, .ref a6, .int (nI n), .int (nI 0)])), (a4, .inl (cB, n * 64, .inl (fun _ => sb_b 0))), (a5, .inl (cI, n, .inl (fun _ => nI 0))), (a6, .inl (cI, n, .inl (fun j => nI (if j < n then j else 0)))), (a2, .inl (cE, 16, .inr (.inr (.inr (.inr (fun j => if j < k then some (ad (7 + j)) else none))))))] ++ pn_B ad cI k) (wc := [(q, .inr (2, [.null, .null, .int 0]))]) (va_runIN (As := []) (rest := [.ref q, .int (nI k), .ref a2]) ⟨hx, hb, hml, hown, hg⟩ (c_EN_init l dC dI cI cB cE cL cZ q H.size) (⟨va_cnB 0 hg (gi_in (fun _ h => h) (wG_m2 (List.mem_of_getElem? (i := 24) rfl))) rfl rfl rfl hN.1 (hg (Cond.initialized "PageDrive$Entry") (wG_m1 (List.mem_of_getElem? (i := 4) rfl))) (by decide +kernel) ⟨Nat.le_of_ble_eq_true rfl, Nat.le_of_ble_eq_true rfl⟩, rfl, (hg (Cond.instanceMethod ⟨"PageDrive$Entry", "<init>", "()V"⟩) (wG_m2 (List.mem_of_getElem? (i := 23) rfl)))⟩) (pn_ps hK (pn_Pr (w2 := [(q, .inr (2, [.null, .null, .int 0]))]) hP) (pn_Dr (w2 := [(q, .inr (2, [.null, .null, .int 0]))]) hD) hN [.ref q]) rfl rfl hl.1 rfl (lv_room (Nat.le_of_ble_eq_true rfl)) d_PD_init_52 ⟨by show _ ≤ 86; omega, by show _ ≤ 84646; omega⟩) hP hD hS hA (fun u H locs hr hP hD hS => ?_)
    obtain ⟨c0, r0, c1, r1⟩ := u
    have hP : va_P (dC, dI) pwCl (([(o, .inr (0, [.ref a1, .ref a2, .null, .int 0])), (a1, .inr (1, [.int (nI n), .ref a4, .ref a5, .ref a6, .int (nI n), .int (nI 0)])), (a4, .inl (cB, n * 64, .inl (fun _ => sb_b 0))), (a5, .inl (cI, n, .inl (fun _ => nI 0))), (a6, .inl (cI, n, .inl (fun j => nI (if j < n then j else 0)))), (a2, .inl (cE, 16, .inr (.inr (.inr (.inr (fun j => if j < k then some (ad (7 + j)) else none))))))] ++ pn_B ad cI k) ++ [(q, .inr (2, [.ref c0, .ref c1, .int (nI 0)])), (c0, .inr (3, [.ref r0, .int (nI 0), .int (nI 0)])), (r0, pn_row cI), (c1, .inr (3, [.ref r1, .int (nI 0), .int (nI 0)])), (r1, pn_row cI)]) H := hP
    have hD : va_D A (([(o, .inr (0, [.ref a1, .ref a2, .null, .int 0])), (a1, .inr (1, [.int (nI n), .ref a4, .ref a5, .ref a6, .int (nI n), .int (nI 0)])), (a4, .inl (cB, n * 64, .inl (fun _ => sb_b 0))), (a5, .inl (cI, n, .inl (fun _ => nI 0))), (a6, .inl (cI, n, .inl (fun j => nI (if j < n then j else 0)))), (a2, .inl (cE, 16, .inr (.inr (.inr (.inr (fun j => if j < k then some (ad (7 + j)) else none))))))] ++ pn_B ad cI k) ++ [(q, .inr (2, [.ref c0, .ref c1, .int (nI 0)])), (c0, .inr (3, [.ref r0, .int (nI 0), .int (nI 0)])), (r0, pn_row cI), (c1, .inr (3, [.ref r1, .int (nI 0), .int (nI 0)])), (r1, pn_row cI)]) := hD
    refine va_astq hx hb hK hP hD hS 5 2 _ 2 rfl rfl (pn_gr (k := 0) rfl) rfl (vp_in_nI h7 (by decide)) d_PD_init_55 (fun H locs hP hD hS => ?_)
    obtain ⟨ad', had'⟩ : ∃ f : Nat → Nat, f = fun z => if z = 7 + k then q else if z = 23 + 2 * k then c0 else if z = 55 + 2 * k then r0 else if z = 23 + (2 * k + 1) then c1 else if z = 55 + (2 * k + 1) then r1 else ad z := ⟨_, rfl⟩
    have e1 : ad' (7 + k) = q := by
      subst had'
      exact if_pos rfl
    have e2 : ad' (23 + 2 * k) = c0 := by
      subst had'
      exact (if_neg (by omega)).trans (if_pos rfl)
    have e3 : ad' (55 + 2 * k) = r0 := by
      subst had'
      exact (if_neg (by omega)).trans ((if_neg (by omega)).trans (if_pos rfl))
    have e4 : ad' (23 + (2 * k + 1)) = c1 := by
      subst had'
      exact (if_neg (by omega)).trans ((if_neg (by omega)).trans ((if_neg (by omega)).trans (if_pos rfl)))
    have e5 : ad' (55 + (2 * k + 1)) = r1 := by
      subst had'
      exact (if_neg (by omega)).trans ((if_neg (by omega)).trans ((if_neg (by omega)).trans ((if_neg (by omega)).trans (if_pos rfl))))
    have eo : ∀ z, z ≠ 7 + k → z ≠ 23 + 2 * k → z ≠ 55 + 2 * k → z ≠ 23 + (2 * k + 1) → z ≠ 55 + (2 * k + 1) → ad' z = ad z := fun z h1 h2 h3 h4 h5 => by
      subst had'
      exact (if_neg h1).trans ((if_neg h2).trans ((if_neg h3).trans ((if_neg h4).trans (if_neg h5))))
    have hcg : pn_B ad' cI k = pn_B ad cI k := pn_B_cg k (fun z hz => eo z (by omega) (by omega) (by omega) (by omega) (by omega))
    have hfn : va_up (fun j => if j < k then some (ad (7 + j)) else none) (nI k).toNatClampNeg (some q) = fun j => if j < k + 1 then some (ad' (7 + j)) else none := by
      rw [nI_clamp (by omega)]
      funext j
      unfold va_up
      by_cases hj : j = k
      · rw [if_pos hj, if_pos (by omega), hj, e1]
      · rw [if_neg hj]
        show (if j < k then some (ad (7 + j)) else none) = _
        by_cases hj2 : j < k
        · rw [if_pos hj2, if_pos (by omega), eo _ (by omega) (by omega) (by omega) (by omega) (by omega)]
        · rw [if_neg hj2, if_neg (by omega)]
    rw [hfn] at hP hD
    have hWd : ∀ X : va_E, ([(o, .inr (0, [.ref a1, .ref a2, .null, .int 0])), (a1, .inr (1, [.int (nI n), .ref a4, .ref a5, .ref a6, .int (nI n), .int (nI 0)])), (a4, .inl (cB, n * 64, .inl (fun _ => sb_b 0))), (a5, .inl (cI, n, .inl (fun _ => nI 0))), (a6, .inl (cI, n, .inl (fun j => nI (if j < n then j else 0)))), (a2, X)] ++ pn_B ad cI k) ++ [(q, .inr (2, [.ref c0, .ref c1, .int (nI 0)])), (c0, .inr (3, [.ref r0, .int (nI 0), .int (nI 0)])), (r0, pn_row cI), (c1, .inr (3, [.ref r1, .int (nI 0), .int (nI 0)])), (r1, pn_row cI)] = [(o, .inr (0, [.ref a1, .ref a2, .null, .int 0])), (a1, .inr (1, [.int (nI n), .ref a4, .ref a5, .ref a6, .int (nI n), .int (nI 0)])), (a4, .inl (cB, n * 64, .inl (fun _ => sb_b 0))), (a5, .inl (cI, n, .inl (fun _ => nI 0))), (a6, .inl (cI, n, .inl (fun j => nI (if j < n then j else 0)))), (a2, X)] ++ pn_B ad' cI (k + 1) := fun X => by
      show _ = _ ++ (pn_B ad' cI k ++ pn_blk ad' cI k)
      unfold pn_blk
      rw [hcg, e1, e2, e3, e4, e5, List.append_assoc]
    have hP : va_P (dC, dI) pwCl ([(o, .inr (0, [.ref a1, .ref a2, .null, .int 0])), (a1, .inr (1, [.int (nI n), .ref a4, .ref a5, .ref a6, .int (nI n), .int (nI 0)])), (a4, .inl (cB, n * 64, .inl (fun _ => sb_b 0))), (a5, .inl (cI, n, .inl (fun _ => nI 0))), (a6, .inl (cI, n, .inl (fun j => nI (if j < n then j else 0)))), (a2, .inl (cE, 16, .inr (.inr (.inr (.inr (fun j => if j < k + 1 then some (ad' (7 + j)) else none))))))] ++ pn_B ad' cI (k + 1)) H := by rw [← hWd]; exact hP
    have hD : va_D A ([(o, .inr (0, [.ref a1, .ref a2, .null, .int 0])), (a1, .inr (1, [.int (nI n), .ref a4, .ref a5, .ref a6, .int (nI n), .int (nI 0)])), (a4, .inl (cB, n * 64, .inl (fun _ => sb_b 0))), (a5, .inl (cI, n, .inl (fun _ => nI 0))), (a6, .inl (cI, n, .inl (fun j => nI (if j < n then j else 0)))), (a2, .inl (cE, 16, .inr (.inr (.inr (.inr (fun j => if j < k + 1 then some (ad' (7 + j)) else none))))))] ++ pn_B ad' cI (k + 1)) := by rw [← hWd]; exact hD
    refine lv_iinc (v := (nI (k + 1))) (lv' := [(2, .int (nI (k + 1))), (0, .ref o), (1, .int x)]) hx hb d_PD_init_56 hl (k := 0) rfl (pq_inc _) (by decide) rfl (fun ls hl => ?_)
    refine lv_goto (tgt := 37) hx hb d_PD_init_59 (by decide) ?_
    exact ih _ _ _ _ _ _ (by omega) ⟨k + 1, ad', rfl, by omega, by omega, by omega, hP, hD, hS, hl⟩
