/-! THE CONSTRUCTORS -/
theorem pn_nn {n : Nat} (h : n + 1 < 2 ^ 31) : ¬ nI n < 0 := fun q => (vp_in_nI (n := n) (N := n + 1) (Nat.lt_succ_self n) h) (Or.inl q)
theorem pn_hint (N : Nat) (cA : ClassId) : vp_cell cA (N, .inl (fun _ => nI 0)) = arrV cA N (fun _ => defaultValue .int) := by
  show arrV cA N (fun _ => .int (nI 0)) = _
  exact congrArg (arrV cA N) (funext fun _ => rfl)
theorem pn_hboolean (N : Nat) (cA : ClassId) : vp_cell cA (N, .inl (fun _ => nI 0)) = arrV cA N (fun _ => defaultValue .boolean) := by
  show arrV cA N (fun _ => .int (nI 0)) = _
  exact congrArg (arrV cA N) (funext fun _ => rfl)
theorem pn_hbyte (N : Nat) (cA : ClassId) : vp_cell cA (N, .inl (fun _ => sb_b 0)) = arrV cA N (fun _ => defaultValue .byte) := by
  show arrV cA N (fun _ => .int (sb_b 0)) = _
  exact congrArg (arrV cA N) (funext fun _ => by rw [show sb_b 0 = 0 by decide]; rfl)
theorem pn_hlong (N : Nat) (cA : ClassId) : vp_cell cA (N, .inr (.inl (fun _ => 0))) = arrV cA N (fun _ => defaultValue .long) := by
  show arrV cA N (fun _ => .long 0) = _
  exact congrArg (arrV cA N) (funext fun _ => rfl)
set_option maxHeartbeats 400000 in
set_option maxRecDepth 100000 in
/-- Content() -/
theorem c_CO_init (l : Launch) (dC : Nat → ClassId) (dI : Nat → Nat → Nat) (cI cB cE cL cZ : ClassId) (o : Nat) (sz : Nat) : CMn l (dC, dI) (pw_ty cI cB cE cL cZ) y_CO_init w_CO_init ({ frames := 1, cells := 1, slots := 400, locals := 20 }) [.ref o] ([(o, .inr (3, [.null, .int 0, .int 0]))]) (fun q : Nat => [(o, .inr (3, [.ref q, .int (nI 0), .int (nI 0)])), (q, .inl (cI, 400, .inl (fun _ => nI 0)))]) sz (fun _ => True) 1 400 := by
  refine Met.ofW (cc := b_CO_init) (maxL := 1) (ret := none) (by decide) rfl ?_
  intro p e s m args below meth c s₁ B hml hv
  obtain ⟨rfl, ⟨hsz, hP, hK, hD0⟩, hN⟩ := hv
  have hx := B.exec
  have hb := B.bytes
  have hret := B.returns
  have hts := atoms_spec (ws := w_CO_init) B.pre
  have hg : ∀ w ∈ wsG, w.before _ s = true := fun w h => hts w (List.mem_cons_of_mem _ h)
  have hown : s.vm.findClass "PageDrive$Content" = some m.cls := findClass_of_methodNamed B.named
  have hlocks := B.notSynchronized
  have hin : meth.name = "<init>" := (name_of_methodNamed B.named B.method).1
  subst hsz
  have hD := hD0.self (sz := s.heap.size)
  generalize hAe : va_A ([(o, .inr (3, [.null, .int 0, .int 0]))]) s.heap.size = A at hD ⊢
  have hA : ∀ q : Nat, s.heap.size ≤ q → A q := fun q h => by rw [← hAe]; exact Or.inr h
  have hS : va_S A s.heap s.heap [] := va_S.rf
  have hl := lv_entry ([.ref o]) (n := 1) (Nat.le_of_ble_eq_true rfl)
  rw [lg_entry_eq]
  generalize (lg_sl ([.ref o]) ++ List.replicate (1 - (lg_sl ([.ref o])).length) Slot.unset).toArray = ls at hl ⊢
  have hl : lv_has ls 1 [(0, .ref o)] := hl
  refine lv_aload_n hx hb d_CO_init_0 rfl (lv_at hl 0 rfl) ?_
  refine W.objInit hx hb hown (hg (Cond.methodLink "PageDrive$Content" 3 ⟨"java/lang/Object", "<init>", "()V"⟩) (wG_m2 (List.mem_of_getElem? (i := 30) rfl))) (hg _ (wG_m1 (List.mem_of_getElem? (i := 22) rfl))) (hg _ (wG_m1 (List.mem_of_getElem? (i := 23) rfl))) rfl (by rw [hml]; exact hl.1) rfl d_CO_init_1 (Nat.le_of_ble_eq_true rfl) (Nat.le_of_ble_eq_true rfl) ?_
  refine W.eq (g2 := F0 m 4 ls []) rfl ?_
  refine lv_aload_n hx hb d_CO_init_4 rfl (lv_at hl 0 rfl) ?_
  refine lv_sipush (v := nI 400) hx hb d_CO_init_5 (by decide) ?_
  refine pn_newa (atype := .int) (ty := .int) (N' := 400) hx hb (hg (Cond.arrayClass FieldType.int) (wG_m2 (List.mem_of_getElem? (i := 20) rfl))) rfl hK hP hD hS hA 0 rfl (nm := _) (fun x => va_nm_int) (400, .inl (fun _ => nI 0)) (pn_hint _) (by decide) (nI_clamp (by decide)) (Nat.le_of_ble_eq_true rfl) (by show _ ≤ 1; omega) (by show _ ≤ 400; omega) d_CO_init_8 (fun q H hP hD hS => ?_)
  have hP : va_P (dC, dI) pwCl ([(o, .inr (3, [.null, .int 0, .int 0])), (q, .inl (cI, 400, .inl (fun _ => nI 0)))]) H := hP
  have hD : va_D A ([(o, .inr (3, [.null, .int 0, .int 0])), (q, .inl (cI, 400, .inl (fun _ => nI 0)))]) := hD
  refine va_putF (ty := .array .int) (C := "PageDrive$Content") (T := F_CO) (N := 3) hx hb hg iw_CO t_CO tok_CO n_CO hown hK hP hD hS 0 rfl rfl 0 (by decide) (hg (Cond.fieldLink "PageDrive$Content" 9 "PageDrive$Content" "row" "[I") (wG_m2 (List.mem_of_getElem? (i := 31) rfl))) (fun _ h => h) rfl hin rfl (by decide +kernel) rfl rfl (Nat.le_of_ble_eq_true rfl) d_CO_init_10 (fun H locs hP hD hS => ?_)
  have hP : va_P (dC, dI) pwCl ([(o, .inr (3, [.ref q, .int 0, .int 0])), (q, .inl (cI, 400, .inl (fun _ => nI 0)))]) H := hP
  have hD : va_D A ([(o, .inr (3, [.ref q, .int 0, .int 0])), (q, .inl (cI, 400, .inl (fun _ => nI 0)))]) := hD
  refine lv_aload_n hx hb d_CO_init_13 rfl (lv_at hl 0 rfl) ?_
  refine lv_iconst (v := nI 0) hx hb d_CO_init_14 (by decide) ?_
  refine va_put (ty := .int) (C := "PageDrive$Content") (T := F_CO) (N := 3) hx hb hg iw_CO t_CO tok_CO n_CO hown hK hP hD hS 0 rfl rfl 1 (by decide) (hg (Cond.fieldLink "PageDrive$Content" 15 "PageDrive$Content" "size" "I") (wG_m2 (List.mem_of_getElem? (i := 33) rfl))) (fun _ h => h) rfl (by decide +kernel) rfl rfl (Nat.le_of_ble_eq_true rfl) d_CO_init_15 (fun H locs hP hD hS => ?_)
  have hP : va_P (dC, dI) pwCl ([(o, .inr (3, [.ref q, .int (nI 0), .int 0])), (q, .inl (cI, 400, .inl (fun _ => nI 0)))]) H := hP
  have hD : va_D A ([(o, .inr (3, [.ref q, .int (nI 0), .int 0])), (q, .inl (cI, 400, .inl (fun _ => nI 0)))]) := hD
  refine lv_aload_n hx hb d_CO_init_18 rfl (lv_at hl 0 rfl) ?_
  refine lv_iconst (v := nI 0) hx hb d_CO_init_19 (by decide) ?_
  refine va_put (ty := .boolean) (C := "PageDrive$Content") (T := F_CO) (N := 3) hx hb hg iw_CO t_CO tok_CO n_CO hown hK hP hD hS 0 rfl rfl 2 (by decide) (hg (Cond.fieldLink "PageDrive$Content" 19 "PageDrive$Content" "there" "Z") (wG_m2 (List.mem_of_getElem? (i := 35) rfl))) (fun _ h => h) rfl (by decide +kernel) rfl rfl (Nat.le_of_ble_eq_true rfl) d_CO_init_20 (fun H locs hP hD hS => ?_)
  have hP : va_P (dC, dI) pwCl ([(o, .inr (3, [.ref q, .int (nI 0), .int (nI 0)])), (q, .inl (cI, 400, .inl (fun _ => nI 0)))]) H := hP
  have hD : va_D A ([(o, .inr (3, [.ref q, .int (nI 0), .int (nI 0)])), (q, .inl (cI, 400, .inl (fun _ => nI 0)))]) := hD
  exact W.vret hx hb hret (fun t9 ht9 hW9 => ⟨⟨q, rfl, trivial, by rw [ht9]; exact hP, va_K.moved hW9.alike hK, hD⟩, hS.F ht9⟩) hS.2.2 d_CO_init_23
set_option maxHeartbeats 400000 in
set_option maxRecDepth 100000 in
/-- Entry() -/
theorem c_EN_init (l : Launch) (dC : Nat → ClassId) (dI : Nat → Nat → Nat) (cI cB cE cL cZ : ClassId) (o : Nat) (sz : Nat) : CMn l (dC, dI) (pw_ty cI cB cE cL cZ) y_EN_init w_EN_init ({ frames := 2, cells := 4, slots := 806, locals := 40 }) [.ref o] ([(o, .inr (2, [.null, .null, .int 0]))]) (fun u : Nat × Nat × Nat × Nat => [(o, .inr (2, [.ref u.1, .ref u.2.2.1, .int (nI 0)])), (u.1, .inr (3, [.ref u.2.1, .int (nI 0), .int (nI 0)])), (u.2.1, .inl (cI, 400, .inl (fun _ => nI 0))), (u.2.2.1, .inr (3, [.ref u.2.2.2, .int (nI 0), .int (nI 0)])), (u.2.2.2, .inl (cI, 400, .inl (fun _ => nI 0)))]) sz (fun _ => True) 4 806 := by
  refine Met.ofW (cc := b_EN_init) (maxL := 1) (ret := none) (by decide) rfl ?_
  intro p e s m args below meth c s₁ B hml hv
  obtain ⟨rfl, ⟨hsz, hP, hK, hD0⟩, hN⟩ := hv
  have hx := B.exec
  have hb := B.bytes
  have hret := B.returns
  have hts := atoms_spec (ws := w_EN_init) B.pre
  have hg : ∀ w ∈ wsG, w.before _ s = true := fun w h => hts w (List.mem_cons_of_mem _ h)
  have hown : s.vm.findClass "PageDrive$Entry" = some m.cls := findClass_of_methodNamed B.named
  have hlocks := B.notSynchronized
  have hin : meth.name = "<init>" := (name_of_methodNamed B.named B.method).1
  subst hsz
  have hD := hD0.self (sz := s.heap.size)
  generalize hAe : va_A ([(o, .inr (2, [.null, .null, .int 0]))]) s.heap.size = A at hD ⊢
  have hA : ∀ q : Nat, s.heap.size ≤ q → A q := fun q h => by rw [← hAe]; exact Or.inr h
  have hS : va_S A s.heap s.heap [] := va_S.rf
  have hl := lv_entry ([.ref o]) (n := 1) (Nat.le_of_ble_eq_true rfl)
  rw [lg_entry_eq]
  generalize (lg_sl ([.ref o]) ++ List.replicate (1 - (lg_sl ([.ref o])).length) Slot.unset).toArray = ls at hl ⊢
  have hl : lv_has ls 1 [(0, .ref o)] := hl
  refine lv_aload_n hx hb d_EN_init_0 rfl (lv_at hl 0 rfl) ?_
  refine W.objInit hx hb hown (hg (Cond.methodLink "PageDrive$Entry" 1 ⟨"java/lang/Object", "<init>", "()V"⟩) (wG_m2 (List.mem_of_getElem? (i := 25) rfl))) (hg _ (wG_m1 (List.mem_of_getElem? (i := 22) rfl))) (hg _ (wG_m1 (List.mem_of_getElem? (i := 23) rfl))) rfl (by rw [hml]; exact hl.1) rfl d_EN_init_1 (Nat.le_of_ble_eq_true rfl) (Nat.le_of_ble_eq_true rfl) ?_
  refine W.eq (g2 := F0 m 4 ls []) rfl ?_
  refine lv_aload_n hx hb d_EN_init_4 rfl (lv_at hl 0 rfl) ?_
  refine va_new (C := "PageDrive$Content") (T := F_CO) (N := 3) (ci := 3) hx hb hg iw_CO t_CO tok_CO hown (hg (Cond.classLink "PageDrive$Entry" 7 "PageDrive$Content") (wG_m2 (List.mem_of_getElem? (i := 26) rfl))) (hg (Cond.instantiable "PageDrive$Content" 3) (wG_m2 (List.mem_of_getElem? (i := 27) rfl))) (hg (Cond.initialized "PageDrive$Content") (wG_m1 (List.mem_of_getElem? (i := 5) rfl))) hK hP hD hS hA rfl (fs := [.null, .int 0, .int 0]) (fun j hj => by rcases (show j = 0 ∨ j = 1 ∨ j = 2 by omega) with rfl | rfl | rfl <;> rfl) (by show _ ≤ 4; omega) (by show _ ≤ 806; omega) d_EN_init_5 (fun c0 H hP hD hS => ?_)
  refine lv_dup hx hb d_EN_init_8 rfl ?_
  refine pn_callv (wr := [(o, .inr (2, [.null, .null, .int 0]))]) (wc := [(c0, .inr (3, [.null, .int 0, .int 0]))]) (va_runIN (As := []) (rest := [.ref c0, .ref o]) ⟨hx, hb, hml, hown, hg⟩ (c_CO_init l dC dI cI cB cE cL cZ c0 H.size) (⟨va_cnB 0 hg (gi_in (fun _ h => h) (wG_m2 (List.mem_of_getElem? (i := 29) rfl))) rfl rfl rfl hN.2.1 (hg (Cond.initialized "PageDrive$Content") (wG_m1 (List.mem_of_getElem? (i := 5) rfl))) (by decide +kernel) ⟨Nat.le_of_ble_eq_true rfl, Nat.le_of_ble_eq_true rfl⟩, rfl, (hg (Cond.instanceMethod ⟨"PageDrive$Content", "<init>", "()V"⟩) (wG_m2 (List.mem_of_getElem? (i := 28) rfl)))⟩) (pn_ps hK (pn_Pr (w2 := [(c0, .inr (3, [.null, .int 0, .int 0]))]) hP) (pn_Dr (w2 := [(c0, .inr (3, [.null, .int 0, .int 0]))]) hD) hN [.ref c0]) rfl rfl hl.1 rfl (lv_room (Nat.le_of_ble_eq_true rfl)) d_EN_init_9 ⟨by show _ ≤ 4; omega, by show _ ≤ 806; omega⟩) hP hD hS hA (fun r0 H locs hr hP hD hS => ?_)
  have hP : va_P (dC, dI) pwCl ([(o, .inr (2, [.null, .null, .int 0])), (c0, .inr (3, [.ref r0, .int (nI 0), .int (nI 0)])), (r0, .inl (cI, 400, .inl (fun _ => nI 0)))]) H := hP
  have hD : va_D A ([(o, .inr (2, [.null, .null, .int 0])), (c0, .inr (3, [.ref r0, .int (nI 0), .int (nI 0)])), (r0, .inl (cI, 400, .inl (fun _ => nI 0)))]) := hD
  refine va_putF (ty := .object "PageDrive$Content") (C := "PageDrive$Entry") (T := F_EN) (N := 3) hx hb hg iw_EN t_EN tok_EN n_EN hown hK hP hD hS 0 rfl rfl 0 (by decide) (hg (Cond.fieldLink "PageDrive$Entry" 10 "PageDrive$Entry" "now" "LPageDrive$Content;") (wG_m3 (List.mem_of_getElem? (i := 4) rfl))) (fun _ h => h) rfl hin rfl (by decide +kernel) rfl rfl (Nat.le_of_ble_eq_true rfl) d_EN_init_12 (fun H locs hP hD hS => ?_)
  have hP : va_P (dC, dI) pwCl ([(o, .inr (2, [.ref c0, .null, .int 0])), (c0, .inr (3, [.ref r0, .int (nI 0), .int (nI 0)])), (r0, .inl (cI, 400, .inl (fun _ => nI 0)))]) H := hP
  have hD : va_D A ([(o, .inr (2, [.ref c0, .null, .int 0])), (c0, .inr (3, [.ref r0, .int (nI 0), .int (nI 0)])), (r0, .inl (cI, 400, .inl (fun _ => nI 0)))]) := hD
  refine lv_aload_n hx hb d_EN_init_15 rfl (lv_at hl 0 rfl) ?_
  refine va_new (C := "PageDrive$Content") (T := F_CO) (N := 3) (ci := 3) hx hb hg iw_CO t_CO tok_CO hown (hg (Cond.classLink "PageDrive$Entry" 7 "PageDrive$Content") (wG_m2 (List.mem_of_getElem? (i := 26) rfl))) (hg (Cond.instantiable "PageDrive$Content" 3) (wG_m2 (List.mem_of_getElem? (i := 27) rfl))) (hg (Cond.initialized "PageDrive$Content") (wG_m1 (List.mem_of_getElem? (i := 5) rfl))) hK hP hD hS hA rfl (fs := [.null, .int 0, .int 0]) (fun j hj => by rcases (show j = 0 ∨ j = 1 ∨ j = 2 by omega) with rfl | rfl | rfl <;> rfl) (by show _ ≤ 4; omega) (by show _ ≤ 806; omega) d_EN_init_16 (fun c1 H hP hD hS => ?_)
  refine lv_dup hx hb d_EN_init_19 rfl ?_
  refine pn_callv (wr := [(o, .inr (2, [.ref c0, .null, .int 0])), (c0, .inr (3, [.ref r0, .int (nI 0), .int (nI 0)])), (r0, .inl (cI, 400, .inl (fun _ => nI 0)))]) (wc := [(c1, .inr (3, [.null, .int 0, .int 0]))]) (va_runIN (As := []) (rest := [.ref c1, .ref o]) ⟨hx, hb, hml, hown, hg⟩ (c_CO_init l dC dI cI cB cE cL cZ c1 H.size) (⟨va_cnB 0 hg (gi_in (fun _ h => h) (wG_m2 (List.mem_of_getElem? (i := 29) rfl))) rfl rfl rfl hN.2.1 (hg (Cond.initialized "PageDrive$Content") (wG_m1 (List.mem_of_getElem? (i := 5) rfl))) (by decide +kernel) ⟨Nat.le_of_ble_eq_true rfl, Nat.le_of_ble_eq_true rfl⟩, rfl, (hg (Cond.instanceMethod ⟨"PageDrive$Content", "<init>", "()V"⟩) (wG_m2 (List.mem_of_getElem? (i := 28) rfl)))⟩) (pn_ps hK (pn_Pr (w2 := [(c1, .inr (3, [.null, .int 0, .int 0]))]) hP) (pn_Dr (w2 := [(c1, .inr (3, [.null, .int 0, .int 0]))]) hD) hN [.ref c1]) rfl rfl hl.1 rfl (lv_room (Nat.le_of_ble_eq_true rfl)) d_EN_init_20 ⟨by show _ ≤ 4; omega, by show _ ≤ 806; omega⟩) hP hD hS hA (fun r1 H locs hr hP hD hS => ?_)
  have hP : va_P (dC, dI) pwCl ([(o, .inr (2, [.ref c0, .null, .int 0])), (c0, .inr (3, [.ref r0, .int (nI 0), .int (nI 0)])), (r0, .inl (cI, 400, .inl (fun _ => nI 0))), (c1, .inr (3, [.ref r1, .int (nI 0), .int (nI 0)])), (r1, .inl (cI, 400, .inl (fun _ => nI 0)))]) H := hP
  have hD : va_D A ([(o, .inr (2, [.ref c0, .null, .int 0])), (c0, .inr (3, [.ref r0, .int (nI 0), .int (nI 0)])), (r0, .inl (cI, 400, .inl (fun _ => nI 0))), (c1, .inr (3, [.ref r1, .int (nI 0), .int (nI 0)])), (r1, .inl (cI, 400, .inl (fun _ => nI 0)))]) := hD
  refine va_putF (ty := .object "PageDrive$Content") (C := "PageDrive$Entry") (T := F_EN) (N := 3) hx hb hg iw_EN t_EN tok_EN n_EN hown hK hP hD hS 0 rfl rfl 1 (by decide) (hg (Cond.fieldLink "PageDrive$Entry" 16 "PageDrive$Entry" "synced" "LPageDrive$Content;") (wG_m3 (List.mem_of_getElem? (i := 6) rfl))) (fun _ h => h) rfl hin rfl (by decide +kernel) rfl rfl (Nat.le_of_ble_eq_true rfl) d_EN_init_23 (fun H locs hP hD hS => ?_)
  have hP : va_P (dC, dI) pwCl ([(o, .inr (2, [.ref c0, .ref c1, .int 0])), (c0, .inr (3, [.ref r0, .int (nI 0), .int (nI 0)])), (r0, .inl (cI, 400, .inl (fun _ => nI 0))), (c1, .inr (3, [.ref r1, .int (nI 0), .int (nI 0)])), (r1, .inl (cI, 400, .inl (fun _ => nI 0)))]) H := hP
  have hD : va_D A ([(o, .inr (2, [.ref c0, .ref c1, .int 0])), (c0, .inr (3, [.ref r0, .int (nI 0), .int (nI 0)])), (r0, .inl (cI, 400, .inl (fun _ => nI 0))), (c1, .inr (3, [.ref r1, .int (nI 0), .int (nI 0)])), (r1, .inl (cI, 400, .inl (fun _ => nI 0)))]) := hD
  refine lv_aload_n hx hb d_EN_init_26 rfl (lv_at hl 0 rfl) ?_
  refine lv_iconst (v := nI 0) hx hb d_EN_init_27 (by decide) ?_
  refine va_put (ty := .int) (C := "PageDrive$Entry") (T := F_EN) (N := 3) hx hb hg iw_EN t_EN tok_EN n_EN hown hK hP hD hS 0 rfl rfl 2 (by decide) (hg (Cond.fieldLink "PageDrive$Entry" 19 "PageDrive$Entry" "low" "I") (wG_m3 (List.mem_of_getElem? (i := 8) rfl))) (fun _ h => h) rfl (by decide +kernel) rfl rfl (Nat.le_of_ble_eq_true rfl) d_EN_init_28 (fun H locs hP hD hS => ?_)
  have hP : va_P (dC, dI) pwCl ([(o, .inr (2, [.ref c0, .ref c1, .int (nI 0)])), (c0, .inr (3, [.ref r0, .int (nI 0), .int (nI 0)])), (r0, .inl (cI, 400, .inl (fun _ => nI 0))), (c1, .inr (3, [.ref r1, .int (nI 0), .int (nI 0)])), (r1, .inl (cI, 400, .inl (fun _ => nI 0)))]) H := hP
  have hD : va_D A ([(o, .inr (2, [.ref c0, .ref c1, .int (nI 0)])), (c0, .inr (3, [.ref r0, .int (nI 0), .int (nI 0)])), (r0, .inl (cI, 400, .inl (fun _ => nI 0))), (c1, .inr (3, [.ref r1, .int (nI 0), .int (nI 0)])), (r1, .inl (cI, 400, .inl (fun _ => nI 0)))]) := hD
  exact W.vret hx hb hret (fun t9 ht9 hW9 => ⟨⟨(c0, r0, c1, r1), rfl, trivial, by rw [ht9]; exact hP, va_K.moved hW9.alike hK, hD⟩, hS.F ht9⟩) hS.2.2 d_EN_init_31
