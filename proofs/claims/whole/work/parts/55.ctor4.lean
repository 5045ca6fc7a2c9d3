/-! THE CONSTRUCTORS, 4: the model -/
def pn_z : pdS := fun _ _ => 0
theorem pn_lw0 : (fun w => pd_lw (pn_z 0) w) = fun _ => 0 := funext fun w => by
  show lN (pd_pk (fun _ => 0) 8) = 0
  decide +kernel
set_option maxHeartbeats 400000 in
set_option maxRecDepth 100000 in
/-- PageDriveModel(x) -/
theorem c_MO_init (l : Launch) (dC : Nat → ClassId) (dI : Nat → Nat → Nat) (cI cB cE cL cZ : ClassId) (o n : Nat) (x : Int32) (hn : pn_is x n) (sz : Nat) : CMn l (dC, dI) (pw_ty cI cB cE cL cZ) y_MO_init w_MO_init ({ frames := 1, cells := 7, slots := 26192, locals := 20 }) [.ref o, .int x] ([(o, .inr (4, [.int 0, .int 0, .int 0, .null, .null, .null, .null, .null, .null, .int 0, .null]))]) (fun am : Nat → Nat => mw n am cI cL cZ pn_z) sz (fun am => am 0 = o) 7 26192 := by
  refine Met.ofW (cc := b_MO_init) (maxL := 2) (ret := none) (by decide) rfl ?_
  intro p e s m args below meth c s₁ B hml hv
  obtain ⟨rfl, ⟨hsz, hP, hK, hD0⟩, hN⟩ := hv
  have hx := B.exec
  have hb := B.bytes
  have hret := B.returns
  have hts := atoms_spec (ws := w_MO_init) B.pre
  have hg : ∀ w ∈ wsG, w.before _ s = true := fun w h => hts w (List.mem_cons_of_mem _ h)
  have hown : s.vm.findClass "PageDriveModel" = some m.cls := findClass_of_methodNamed B.named
  have hlocks := B.notSynchronized
  have hin : meth.name = "<init>" := (name_of_methodNamed B.named B.method).1
  subst hsz
  have hD := hD0.self (sz := s.heap.size)
  generalize hAe : va_A ([(o, .inr (4, [.int 0, .int 0, .int 0, .null, .null, .null, .null, .null, .null, .int 0, .null]))]) s.heap.size = A at hD ⊢
  have hA : ∀ q : Nat, s.heap.size ≤ q → A q := fun q h => by rw [← hAe]; exact Or.inr h
  have hS : va_S A s.heap s.heap [] := va_S.rf
  have hl := lv_entry ([.ref o, .int x]) (n := 2) (Nat.le_of_ble_eq_true rfl)
  rw [lg_entry_eq]
  generalize (lg_sl ([.ref o, .int x]) ++ List.replicate (2 - (lg_sl ([.ref o, .int x])).length) Slot.unset).toArray = ls at hl ⊢
  have hl : lv_has ls 2 [(0, .ref o), (1, .int x)] := hl
  refine lv_aload_n hx hb d_MO_init_0 rfl (lv_at hl 0 rfl) ?_
  refine W.objInit hx hb hown (hg (Cond.methodLink "PageDriveModel" 1 ⟨"java/lang/Object", "<init>", "()V"⟩) (wG_m10 (List.mem_of_getElem? (i := 22) rfl))) (hg _ (wG_m1 (List.mem_of_getElem? (i := 22) rfl))) (hg _ (wG_m1 (List.mem_of_getElem? (i := 23) rfl))) rfl (by rw [hml]; exact hl.1) rfl d_MO_init_1 (Nat.le_of_ble_eq_true rfl) (Nat.le_of_ble_eq_true rfl) ?_
  refine W.eq (g2 := F0 m 4 ls []) rfl ?_
  refine lv_aload_n hx hb d_MO_init_4 rfl (lv_at hl 0 rfl) ?_
  refine lv_sipush (v := nI 4096) hx hb d_MO_init_5 (by decide) ?_
  refine pn_newa (atype := .int) (ty := .int) (N' := 4096) hx hb (hg (Cond.arrayClass FieldType.int) (wG_m2 (List.mem_of_getElem? (i := 20) rfl))) rfl hK hP hD hS hA 0 rfl (nm := _) (fun x => va_nm_int) (4096, .inl (fun _ => nI 0)) (pn_hint _) (by decide) (nI_clamp (by decide)) (Nat.le_of_ble_eq_true rfl) (by show _ ≤ 7; omega) (by show _ ≤ 26192; omega) d_MO_init_8 (fun a1 H hP hD hS => ?_)
  have hP : va_P (dC, dI) pwCl ([(o, .inr (4, [.int 0, .int 0, .int 0, .null, .null, .null, .null, .null, .null, .int 0, .null])), (a1, .inl (cI, 4096, .inl (fun _ => nI 0)))]) H := hP
  have hD : va_D A ([(o, .inr (4, [.int 0, .int 0, .int 0, .null, .null, .null, .null, .null, .null, .int 0, .null])), (a1, .inl (cI, 4096, .inl (fun _ => nI 0)))]) := hD
  refine va_putF (ty := .array .int) (C := "PageDriveModel") (T := F_MO) (N := 11) hx hb hg iw_MO t_MO tok_MO n_MO hown hK hP hD hS 0 rfl rfl 3 (by decide) (hg (Cond.fieldLink "PageDriveModel" 7 "PageDriveModel" "tape" "[I") (wG_m10 (List.mem_of_getElem? (i := 26) rfl))) (fun _ h => h) rfl hin rfl (by decide +kernel) rfl rfl (Nat.le_of_ble_eq_true rfl) d_MO_init_10 (fun H locs hP hD hS => ?_)
  have hP : va_P (dC, dI) pwCl ([(o, .inr (4, [.int 0, .int 0, .int 0, .ref a1, .null, .null, .null, .null, .null, .int 0, .null])), (a1, .inl (cI, 4096, .inl (fun _ => nI 0)))]) H := hP
  have hD : va_D A ([(o, .inr (4, [.int 0, .int 0, .int 0, .ref a1, .null, .null, .null, .null, .null, .int 0, .null])), (a1, .inl (cI, 4096, .inl (fun _ => nI 0)))]) := hD
  refine lv_aload_n hx hb d_MO_init_13 rfl (lv_at hl 0 rfl) ?_
  refine lv_sipush (v := nI 8192) hx hb d_MO_init_14 (by decide) ?_
  refine pn_newa (atype := .long) (ty := .long) (N' := 8192) hx hb (hg (Cond.arrayClass FieldType.long) (wG_m11 (List.mem_of_getElem? (i := 17) rfl))) rfl hK hP hD hS hA 3 rfl (nm := _) (fun x => va_nm_long) (8192, .inr (.inl (fun _ => 0))) (pn_hlong _) (by decide) (nI_clamp (by decide)) (Nat.le_of_ble_eq_true rfl) (by show _ ≤ 7; omega) (by show _ ≤ 26192; omega) d_MO_init_17 (fun a2 H hP hD hS => ?_)
  have hP : va_P (dC, dI) pwCl ([(o, .inr (4, [.int 0, .int 0, .int 0, .ref a1, .null, .null, .null, .null, .null, .int 0, .null])), (a1, .inl (cI, 4096, .inl (fun _ => nI 0))), (a2, .inl (cL, 8192, .inr (.inl (fun _ => 0))))]) H := hP
  have hD : va_D A ([(o, .inr (4, [.int 0, .int 0, .int 0, .ref a1, .null, .null, .null, .null, .null, .int 0, .null])), (a1, .inl (cI, 4096, .inl (fun _ => nI 0))), (a2, .inl (cL, 8192, .inr (.inl (fun _ => 0))))]) := hD
  refine va_putF (ty := .array .long) (C := "PageDriveModel") (T := F_MO) (N := 11) hx hb hg iw_MO t_MO tok_MO n_MO hown hK hP hD hS 0 rfl rfl 4 (by decide) (hg (Cond.fieldLink "PageDriveModel" 13 "PageDriveModel" "pages" "[J") (wG_m10 (List.mem_of_getElem? (i := 27) rfl))) (fun _ h => h) rfl hin rfl (by decide +kernel) rfl rfl (Nat.le_of_ble_eq_true rfl) d_MO_init_19 (fun H locs hP hD hS => ?_)
  have hP : va_P (dC, dI) pwCl ([(o, .inr (4, [.int 0, .int 0, .int 0, .ref a1, .ref a2, .null, .null, .null, .null, .int 0, .null])), (a1, .inl (cI, 4096, .inl (fun _ => nI 0))), (a2, .inl (cL, 8192, .inr (.inl (fun _ => 0))))]) H := hP
  have hD : va_D A ([(o, .inr (4, [.int 0, .int 0, .int 0, .ref a1, .ref a2, .null, .null, .null, .null, .int 0, .null])), (a1, .inl (cI, 4096, .inl (fun _ => nI 0))), (a2, .inl (cL, 8192, .inr (.inl (fun _ => 0))))]) := hD
  refine lv_aload_n hx hb d_MO_init_22 rfl (lv_at hl 0 rfl) ?_
  refine lv_sipush (v := nI 12800) hx hb d_MO_init_23 (by decide) ?_
  refine pn_newa (atype := .int) (ty := .int) (N' := 12800) hx hb (hg (Cond.arrayClass FieldType.int) (wG_m2 (List.mem_of_getElem? (i := 20) rfl))) rfl hK hP hD hS hA 0 rfl (nm := _) (fun x => va_nm_int) (12800, .inl (fun _ => nI 0)) (pn_hint _) (by decide) (nI_clamp (by decide)) (Nat.le_of_ble_eq_true rfl) (by show _ ≤ 7; omega) (by show _ ≤ 26192; omega) d_MO_init_26 (fun a3 H hP hD hS => ?_)
  have hP : va_P (dC, dI) pwCl ([(o, .inr (4, [.int 0, .int 0, .int 0, .ref a1, .ref a2, .null, .null, .null, .null, .int 0, .null])), (a1, .inl (cI, 4096, .inl (fun _ => nI 0))), (a2, .inl (cL, 8192, .inr (.inl (fun _ => 0)))), (a3, .inl (cI, 12800, .inl (fun _ => nI 0)))]) H := hP
  have hD : va_D A ([(o, .inr (4, [.int 0, .int 0, .int 0, .ref a1, .ref a2, .null, .null, .null, .null, .int 0, .null])), (a1, .inl (cI, 4096, .inl (fun _ => nI 0))), (a2, .inl (cL, 8192, .inr (.inl (fun _ => 0)))), (a3, .inl (cI, 12800, .inl (fun _ => nI 0)))]) := hD
  refine va_putF (ty := .array .int) (C := "PageDriveModel") (T := F_MO) (N := 11) hx hb hg iw_MO t_MO tok_MO n_MO hown hK hP hD hS 0 rfl rfl 5 (by decide) (hg (Cond.fieldLink "PageDriveModel" 17 "PageDriveModel" "rows" "[I") (wG_m10 (List.mem_of_getElem? (i := 28) rfl))) (fun _ h => h) rfl hin rfl (by decide +kernel) rfl rfl (Nat.le_of_ble_eq_true rfl) d_MO_init_28 (fun H locs hP hD hS => ?_)
  have hP : va_P (dC, dI) pwCl ([(o, .inr (4, [.int 0, .int 0, .int 0, .ref a1, .ref a2, .ref a3, .null, .null, .null, .int 0, .null])), (a1, .inl (cI, 4096, .inl (fun _ => nI 0))), (a2, .inl (cL, 8192, .inr (.inl (fun _ => 0)))), (a3, .inl (cI, 12800, .inl (fun _ => nI 0)))]) H := hP
  have hD : va_D A ([(o, .inr (4, [.int 0, .int 0, .int 0, .ref a1, .ref a2, .ref a3, .null, .null, .null, .int 0, .null])), (a1, .inl (cI, 4096, .inl (fun _ => nI 0))), (a2, .inl (cL, 8192, .inr (.inl (fun _ => 0)))), (a3, .inl (cI, 12800, .inl (fun _ => nI 0)))]) := hD
  refine lv_aload_n hx hb d_MO_init_31 rfl (lv_at hl 0 rfl) ?_
  refine lv_bipush (v := nI 32) hx hb d_MO_init_32 (by decide) ?_
  refine pn_newa (atype := .int) (ty := .int) (N' := 32) hx hb (hg (Cond.arrayClass FieldType.int) (wG_m2 (List.mem_of_getElem? (i := 20) rfl))) rfl hK hP hD hS hA 0 rfl (nm := _) (fun x => va_nm_int) (32, .inl (fun _ => nI 0)) (pn_hint _) (by decide) (nI_clamp (by decide)) (Nat.le_of_ble_eq_true rfl) (by show _ ≤ 7; omega) (by show _ ≤ 26192; omega) d_MO_init_34 (fun a4 H hP hD hS => ?_)
  have hP : va_P (dC, dI) pwCl ([(o, .inr (4, [.int 0, .int 0, .int 0, .ref a1, .ref a2, .ref a3, .null, .null, .null, .int 0, .null])), (a1, .inl (cI, 4096, .inl (fun _ => nI 0))), (a2, .inl (cL, 8192, .inr (.inl (fun _ => 0)))), (a3, .inl (cI, 12800, .inl (fun _ => nI 0))), (a4, .inl (cI, 32, .inl (fun _ => nI 0)))]) H := hP
  have hD : va_D A ([(o, .inr (4, [.int 0, .int 0, .int 0, .ref a1, .ref a2, .ref a3, .null, .null, .null, .int 0, .null])), (a1, .inl (cI, 4096, .inl (fun _ => nI 0))), (a2, .inl (cL, 8192, .inr (.inl (fun _ => 0)))), (a3, .inl (cI, 12800, .inl (fun _ => nI 0))), (a4, .inl (cI, 32, .inl (fun _ => nI 0)))]) := hD
  refine va_putF (ty := .array .int) (C := "PageDriveModel") (T := F_MO) (N := 11) hx hb hg iw_MO t_MO tok_MO n_MO hown hK hP hD hS 0 rfl rfl 6 (by decide) (hg (Cond.fieldLink "PageDriveModel" 20 "PageDriveModel" "sizes" "[I") (wG_m10 (List.mem_of_getElem? (i := 29) rfl))) (fun _ h => h) rfl hin rfl (by decide +kernel) rfl rfl (Nat.le_of_ble_eq_true rfl) d_MO_init_36 (fun H locs hP hD hS => ?_)
  have hP : va_P (dC, dI) pwCl ([(o, .inr (4, [.int 0, .int 0, .int 0, .ref a1, .ref a2, .ref a3, .ref a4, .null, .null, .int 0, .null])), (a1, .inl (cI, 4096, .inl (fun _ => nI 0))), (a2, .inl (cL, 8192, .inr (.inl (fun _ => 0)))), (a3, .inl (cI, 12800, .inl (fun _ => nI 0))), (a4, .inl (cI, 32, .inl (fun _ => nI 0)))]) H := hP
  have hD : va_D A ([(o, .inr (4, [.int 0, .int 0, .int 0, .ref a1, .ref a2, .ref a3, .ref a4, .null, .null, .int 0, .null])), (a1, .inl (cI, 4096, .inl (fun _ => nI 0))), (a2, .inl (cL, 8192, .inr (.inl (fun _ => 0)))), (a3, .inl (cI, 12800, .inl (fun _ => nI 0))), (a4, .inl (cI, 32, .inl (fun _ => nI 0)))]) := hD
  refine lv_aload_n hx hb d_MO_init_39 rfl (lv_at hl 0 rfl) ?_
  refine lv_bipush (v := nI 32) hx hb d_MO_init_40 (by decide) ?_
  refine pn_newa (atype := .boolean) (ty := .boolean) (N' := 32) hx hb (hg (Cond.arrayClass FieldType.boolean) (wG_m11 (List.mem_of_getElem? (i := 18) rfl))) rfl hK hP hD hS hA 4 rfl (nm := _) (fun x => va_nm_boolean) (32, .inl (fun _ => nI 0)) (pn_hboolean _) (by decide) (nI_clamp (by decide)) (Nat.le_of_ble_eq_true rfl) (by show _ ≤ 7; omega) (by show _ ≤ 26192; omega) d_MO_init_42 (fun a5 H hP hD hS => ?_)
  have hP : va_P (dC, dI) pwCl ([(o, .inr (4, [.int 0, .int 0, .int 0, .ref a1, .ref a2, .ref a3, .ref a4, .null, .null, .int 0, .null])), (a1, .inl (cI, 4096, .inl (fun _ => nI 0))), (a2, .inl (cL, 8192, .inr (.inl (fun _ => 0)))), (a3, .inl (cI, 12800, .inl (fun _ => nI 0))), (a4, .inl (cI, 32, .inl (fun _ => nI 0))), (a5, .inl (cZ, 32, .inl (fun _ => nI 0)))]) H := hP
  have hD : va_D A ([(o, .inr (4, [.int 0, .int 0, .int 0, .ref a1, .ref a2, .ref a3, .ref a4, .null, .null, .int 0, .null])), (a1, .inl (cI, 4096, .inl (fun _ => nI 0))), (a2, .inl (cL, 8192, .inr (.inl (fun _ => 0)))), (a3, .inl (cI, 12800, .inl (fun _ => nI 0))), (a4, .inl (cI, 32, .inl (fun _ => nI 0))), (a5, .inl (cZ, 32, .inl (fun _ => nI 0)))]) := hD
  refine va_putF (ty := .array .boolean) (C := "PageDriveModel") (T := F_MO) (N := 11) hx hb hg iw_MO t_MO tok_MO n_MO hown hK hP hD hS 0 rfl rfl 7 (by decide) (hg (Cond.fieldLink "PageDriveModel" 23 "PageDriveModel" "there" "[Z") (wG_m10 (List.mem_of_getElem? (i := 30) rfl))) (fun _ h => h) rfl hin rfl (by decide +kernel) rfl rfl (Nat.le_of_ble_eq_true rfl) d_MO_init_44 (fun H locs hP hD hS => ?_)
  have hP : va_P (dC, dI) pwCl ([(o, .inr (4, [.int 0, .int 0, .int 0, .ref a1, .ref a2, .ref a3, .ref a4, .ref a5, .null, .int 0, .null])), (a1, .inl (cI, 4096, .inl (fun _ => nI 0))), (a2, .inl (cL, 8192, .inr (.inl (fun _ => 0)))), (a3, .inl (cI, 12800, .inl (fun _ => nI 0))), (a4, .inl (cI, 32, .inl (fun _ => nI 0))), (a5, .inl (cZ, 32, .inl (fun _ => nI 0)))]) H := hP
  have hD : va_D A ([(o, .inr (4, [.int 0, .int 0, .int 0, .ref a1, .ref a2, .ref a3, .ref a4, .ref a5, .null, .int 0, .null])), (a1, .inl (cI, 4096, .inl (fun _ => nI 0))), (a2, .inl (cL, 8192, .inr (.inl (fun _ => 0)))), (a3, .inl (cI, 12800, .inl (fun _ => nI 0))), (a4, .inl (cI, 32, .inl (fun _ => nI 0))), (a5, .inl (cZ, 32, .inl (fun _ => nI 0)))]) := hD
  refine lv_aload_n hx hb d_MO_init_47 rfl (lv_at hl 0 rfl) ?_
  refine lv_bipush (v := nI 16) hx hb d_MO_init_48 (by decide) ?_
  refine pn_newa (atype := .int) (ty := .int) (N' := 16) hx hb (hg (Cond.arrayClass FieldType.int) (wG_m2 (List.mem_of_getElem? (i := 20) rfl))) rfl hK hP hD hS hA 0 rfl (nm := _) (fun x => va_nm_int) (16, .inl (fun _ => nI 0)) (pn_hint _) (by decide) (nI_clamp (by decide)) (Nat.le_of_ble_eq_true rfl) (by show _ ≤ 7; omega) (by show _ ≤ 26192; omega) d_MO_init_50 (fun a6 H hP hD hS => ?_)
  have hP : va_P (dC, dI) pwCl ([(o, .inr (4, [.int 0, .int 0, .int 0, .ref a1, .ref a2, .ref a3, .ref a4, .ref a5, .null, .int 0, .null])), (a1, .inl (cI, 4096, .inl (fun _ => nI 0))), (a2, .inl (cL, 8192, .inr (.inl (fun _ => 0)))), (a3, .inl (cI, 12800, .inl (fun _ => nI 0))), (a4, .inl (cI, 32, .inl (fun _ => nI 0))), (a5, .inl (cZ, 32, .inl (fun _ => nI 0))), (a6, .inl (cI, 16, .inl (fun _ => nI 0)))]) H := hP
  have hD : va_D A ([(o, .inr (4, [.int 0, .int 0, .int 0, .ref a1, .ref a2, .ref a3, .ref a4, .ref a5, .null, .int 0, .null])), (a1, .inl (cI, 4096, .inl (fun _ => nI 0))), (a2, .inl (cL, 8192, .inr (.inl (fun _ => 0)))), (a3, .inl (cI, 12800, .inl (fun _ => nI 0))), (a4, .inl (cI, 32, .inl (fun _ => nI 0))), (a5, .inl (cZ, 32, .inl (fun _ => nI 0))), (a6, .inl (cI, 16, .inl (fun _ => nI 0)))]) := hD
  refine va_putF (ty := .array .int) (C := "PageDriveModel") (T := F_MO) (N := 11) hx hb hg iw_MO t_MO tok_MO n_MO hown hK hP hD hS 0 rfl rfl 8 (by decide) (hg (Cond.fieldLink "PageDriveModel" 27 "PageDriveModel" "lows" "[I") (wG_m10 (List.mem_of_getElem? (i := 31) rfl))) (fun _ h => h) rfl hin rfl (by decide +kernel) rfl rfl (Nat.le_of_ble_eq_true rfl) d_MO_init_52 (fun H locs hP hD hS => ?_)
  have hP : va_P (dC, dI) pwCl ([(o, .inr (4, [.int 0, .int 0, .int 0, .ref a1, .ref a2, .ref a3, .ref a4, .ref a5, .ref a6, .int 0, .null])), (a1, .inl (cI, 4096, .inl (fun _ => nI 0))), (a2, .inl (cL, 8192, .inr (.inl (fun _ => 0)))), (a3, .inl (cI, 12800, .inl (fun _ => nI 0))), (a4, .inl (cI, 32, .inl (fun _ => nI 0))), (a5, .inl (cZ, 32, .inl (fun _ => nI 0))), (a6, .inl (cI, 16, .inl (fun _ => nI 0)))]) H := hP
  have hD : va_D A ([(o, .inr (4, [.int 0, .int 0, .int 0, .ref a1, .ref a2, .ref a3, .ref a4, .ref a5, .ref a6, .int 0, .null])), (a1, .inl (cI, 4096, .inl (fun _ => nI 0))), (a2, .inl (cL, 8192, .inr (.inl (fun _ => 0)))), (a3, .inl (cI, 12800, .inl (fun _ => nI 0))), (a4, .inl (cI, 32, .inl (fun _ => nI 0))), (a5, .inl (cZ, 32, .inl (fun _ => nI 0))), (a6, .inl (cI, 16, .inl (fun _ => nI 0)))]) := hD
  refine lv_aload_n hx hb d_MO_init_55 rfl (lv_at hl 0 rfl) ?_
  refine lv_sipush (v := nI 1024) hx hb d_MO_init_56 (by decide) ?_
  refine pn_newa (atype := .int) (ty := .int) (N' := 1024) hx hb (hg (Cond.arrayClass FieldType.int) (wG_m2 (List.mem_of_getElem? (i := 20) rfl))) rfl hK hP hD hS hA 0 rfl (nm := _) (fun x => va_nm_int) (1024, .inl (fun _ => nI 0)) (pn_hint _) (by decide) (nI_clamp (by decide)) (Nat.le_of_ble_eq_true rfl) (by show _ ≤ 7; omega) (by show _ ≤ 26192; omega) d_MO_init_59 (fun a7 H hP hD hS => ?_)
  have hP : va_P (dC, dI) pwCl ([(o, .inr (4, [.int 0, .int 0, .int 0, .ref a1, .ref a2, .ref a3, .ref a4, .ref a5, .ref a6, .int 0, .null])), (a1, .inl (cI, 4096, .inl (fun _ => nI 0))), (a2, .inl (cL, 8192, .inr (.inl (fun _ => 0)))), (a3, .inl (cI, 12800, .inl (fun _ => nI 0))), (a4, .inl (cI, 32, .inl (fun _ => nI 0))), (a5, .inl (cZ, 32, .inl (fun _ => nI 0))), (a6, .inl (cI, 16, .inl (fun _ => nI 0))), (a7, .inl (cI, 1024, .inl (fun _ => nI 0)))]) H := hP
  have hD : va_D A ([(o, .inr (4, [.int 0, .int 0, .int 0, .ref a1, .ref a2, .ref a3, .ref a4, .ref a5, .ref a6, .int 0, .null])), (a1, .inl (cI, 4096, .inl (fun _ => nI 0))), (a2, .inl (cL, 8192, .inr (.inl (fun _ => 0)))), (a3, .inl (cI, 12800, .inl (fun _ => nI 0))), (a4, .inl (cI, 32, .inl (fun _ => nI 0))), (a5, .inl (cZ, 32, .inl (fun _ => nI 0))), (a6, .inl (cI, 16, .inl (fun _ => nI 0))), (a7, .inl (cI, 1024, .inl (fun _ => nI 0)))]) := hD
  refine va_putF (ty := .array .int) (C := "PageDriveModel") (T := F_MO) (N := 11) hx hb hg iw_MO t_MO tok_MO n_MO hown hK hP hD hS 0 rfl rfl 10 (by decide) (hg (Cond.fieldLink "PageDriveModel" 30 "PageDriveModel" "seen" "[I") (wG_m10 (List.mem_of_getElem? (i := 33) rfl))) (fun _ h => h) rfl hin rfl (by decide +kernel) rfl rfl (Nat.le_of_ble_eq_true rfl) d_MO_init_61 (fun H locs hP hD hS => ?_)
  have hP : va_P (dC, dI) pwCl ([(o, .inr (4, [.int 0, .int 0, .int 0, .ref a1, .ref a2, .ref a3, .ref a4, .ref a5, .ref a6, .int 0, .ref a7])), (a1, .inl (cI, 4096, .inl (fun _ => nI 0))), (a2, .inl (cL, 8192, .inr (.inl (fun _ => 0)))), (a3, .inl (cI, 12800, .inl (fun _ => nI 0))), (a4, .inl (cI, 32, .inl (fun _ => nI 0))), (a5, .inl (cZ, 32, .inl (fun _ => nI 0))), (a6, .inl (cI, 16, .inl (fun _ => nI 0))), (a7, .inl (cI, 1024, .inl (fun _ => nI 0)))]) H := hP
  have hD : va_D A ([(o, .inr (4, [.int 0, .int 0, .int 0, .ref a1, .ref a2, .ref a3, .ref a4, .ref a5, .ref a6, .int 0, .ref a7])), (a1, .inl (cI, 4096, .inl (fun _ => nI 0))), (a2, .inl (cL, 8192, .inr (.inl (fun _ => 0)))), (a3, .inl (cI, 12800, .inl (fun _ => nI 0))), (a4, .inl (cI, 32, .inl (fun _ => nI 0))), (a5, .inl (cZ, 32, .inl (fun _ => nI 0))), (a6, .inl (cI, 16, .inl (fun _ => nI 0))), (a7, .inl (cI, 1024, .inl (fun _ => nI 0)))]) := hD
  refine lv_aload_n hx hb d_MO_init_64 rfl (lv_at hl 0 rfl) ?_
  refine lv_iload_n hx hb d_MO_init_65 rfl (lv_at hl 1 rfl) ?_
  refine lv_iconst (v := nI 4) hx hb d_MO_init_66 (by decide) ?_
  refine lv_icmp_ge (tgt := 74) hx hb d_MO_init_67 (by decide) (fun h1 => ?_) (fun h1 => ?_)
  · refine lv_iload_n hx hb d_MO_init_74 rfl (lv_at hl 1 rfl) ?_
    refine lv_sipush (v := nI 1024) hx hb d_MO_init_75 (by decide) ?_
    refine lv_icmp_le (tgt := 87) hx hb d_MO_init_78 (by decide) (fun h2 => ?_) (fun h2 => ?_)
    · refine lv_iload_n hx hb d_MO_init_87 rfl (lv_at hl 1 rfl) ?_
      refine pq_top (y := nI n) (pn_vx hn (fun q => absurd (Int32.lt_of_lt_of_le q h1) Int32.lt_irrefl) (fun q => absurd (Int32.lt_of_lt_of_le q h2) Int32.lt_irrefl)) ?_
      refine va_putF (ty := .int) (C := "PageDriveModel") (T := F_MO) (N := 11) hx hb hg iw_MO t_MO tok_MO n_MO hown hK hP hD hS 0 rfl rfl 1 (by decide) (hg (Cond.fieldLink "PageDriveModel" 33 "PageDriveModel" "limit" "I") (wG_m10 (List.mem_of_getElem? (i := 24) rfl))) (fun _ h => h) rfl hin rfl (by decide +kernel) rfl rfl (Nat.le_of_ble_eq_true rfl) d_MO_init_88 (fun H locs hP hD hS => ?_)
      have hP : va_P (dC, dI) pwCl ([(o, .inr (4, [.int 0, .int (nI n), .int 0, .ref a1, .ref a2, .ref a3, .ref a4, .ref a5, .ref a6, .int 0, .ref a7])), (a1, .inl (cI, 4096, .inl (fun _ => nI 0))), (a2, .inl (cL, 8192, .inr (.inl (fun _ => 0)))), (a3, .inl (cI, 12800, .inl (fun _ => nI 0))), (a4, .inl (cI, 32, .inl (fun _ => nI 0))), (a5, .inl (cZ, 32, .inl (fun _ => nI 0))), (a6, .inl (cI, 16, .inl (fun _ => nI 0))), (a7, .inl (cI, 1024, .inl (fun _ => nI 0)))]) H := hP
      have hD : va_D A ([(o, .inr (4, [.int 0, .int (nI n), .int 0, .ref a1, .ref a2, .ref a3, .ref a4, .ref a5, .ref a6, .int 0, .ref a7])), (a1, .inl (cI, 4096, .inl (fun _ => nI 0))), (a2, .inl (cL, 8192, .inr (.inl (fun _ => 0)))), (a3, .inl (cI, 12800, .inl (fun _ => nI 0))), (a4, .inl (cI, 32, .inl (fun _ => nI 0))), (a5, .inl (cZ, 32, .inl (fun _ => nI 0))), (a6, .inl (cI, 16, .inl (fun _ => nI 0))), (a7, .inl (cI, 1024, .inl (fun _ => nI 0)))]) := hD
      have hP : va_P (dC, dI) pwCl (mw n (fun z => [o, a1, a2, a3, a4, a5, a6, a7].getD z 0) cI cL cZ pn_z) H := by
        unfold mw mwx
        rw [pn_lw0]
        exact hP
      have hD : va_D A (mw n (fun z => [o, a1, a2, a3, a4, a5, a6, a7].getD z 0) cI cL cZ pn_z) := by
        unfold mw mwx
        rw [pn_lw0]
        exact hD
      exact W.vret hx hb hret (fun t9 ht9 hW9 => ⟨⟨_, rfl, rfl, by rw [ht9]; exact hP, va_K.moved hW9.alike hK, hD⟩, hS.F ht9⟩) hS.2.2 d_MO_init_91
    · refine lv_sipush (v := nI 1024) hx hb d_MO_init_81 (by decide) ?_
      refine lv_goto (tgt := 88) hx hb d_MO_init_84 (by decide) ?_
      refine pq_top (y := nI n) (by rw [pn_v1024 hn (Int32.not_le.mp h2)]) ?_
      refine va_putF (ty := .int) (C := "PageDriveModel") (T := F_MO) (N := 11) hx hb hg iw_MO t_MO tok_MO n_MO hown hK hP hD hS 0 rfl rfl 1 (by decide) (hg (Cond.fieldLink "PageDriveModel" 33 "PageDriveModel" "limit" "I") (wG_m10 (List.mem_of_getElem? (i := 24) rfl))) (fun _ h => h) rfl hin rfl (by decide +kernel) rfl rfl (Nat.le_of_ble_eq_true rfl) d_MO_init_88 (fun H locs hP hD hS => ?_)
      have hP : va_P (dC, dI) pwCl ([(o, .inr (4, [.int 0, .int (nI n), .int 0, .ref a1, .ref a2, .ref a3, .ref a4, .ref a5, .ref a6, .int 0, .ref a7])), (a1, .inl (cI, 4096, .inl (fun _ => nI 0))), (a2, .inl (cL, 8192, .inr (.inl (fun _ => 0)))), (a3, .inl (cI, 12800, .inl (fun _ => nI 0))), (a4, .inl (cI, 32, .inl (fun _ => nI 0))), (a5, .inl (cZ, 32, .inl (fun _ => nI 0))), (a6, .inl (cI, 16, .inl (fun _ => nI 0))), (a7, .inl (cI, 1024, .inl (fun _ => nI 0)))]) H := hP
      have hD : va_D A ([(o, .inr (4, [.int 0, .int (nI n), .int 0, .ref a1, .ref a2, .ref a3, .ref a4, .ref a5, .ref a6, .int 0, .ref a7])), (a1, .inl (cI, 4096, .inl (fun _ => nI 0))), (a2, .inl (cL, 8192, .inr (.inl (fun _ => 0)))), (a3, .inl (cI, 12800, .inl (fun _ => nI 0))), (a4, .inl (cI, 32, .inl (fun _ => nI 0))), (a5, .inl (cZ, 32, .inl (fun _ => nI 0))), (a6, .inl (cI, 16, .inl (fun _ => nI 0))), (a7, .inl (cI, 1024, .inl (fun _ => nI 0)))]) := hD
      have hP : va_P (dC, dI) pwCl (mw n (fun z => [o, a1, a2, a3, a4, a5, a6, a7].getD z 0) cI cL cZ pn_z) H := by
        unfold mw mwx
        rw [pn_lw0]
        exact hP
      have hD : va_D A (mw n (fun z => [o, a1, a2, a3, a4, a5, a6, a7].getD z 0) cI cL cZ pn_z) := by
        unfold mw mwx
        rw [pn_lw0]
        exact hD
      exact W.vret hx hb hret (fun t9 ht9 hW9 => ⟨⟨_, rfl, rfl, by rw [ht9]; exact hP, va_K.moved hW9.alike hK, hD⟩, hS.F ht9⟩) hS.2.2 d_MO_init_91
  · refine lv_iconst (v := nI 4) hx hb d_MO_init_70 (by decide) ?_
    refine lv_goto (tgt := 88) hx hb d_MO_init_71 (by decide) ?_
    refine pq_top (y := nI n) (by rw [pn_v4 hn (Int32.not_le.mp h1)]) ?_
    refine va_putF (ty := .int) (C := "PageDriveModel") (T := F_MO) (N := 11) hx hb hg iw_MO t_MO tok_MO n_MO hown hK hP hD hS 0 rfl rfl 1 (by decide) (hg (Cond.fieldLink "PageDriveModel" 33 "PageDriveModel" "limit" "I") (wG_m10 (List.mem_of_getElem? (i := 24) rfl))) (fun _ h => h) rfl hin rfl (by decide +kernel) rfl rfl (Nat.le_of_ble_eq_true rfl) d_MO_init_88 (fun H locs hP hD hS => ?_)
    have hP : va_P (dC, dI) pwCl ([(o, .inr (4, [.int 0, .int (nI n), .int 0, .ref a1, .ref a2, .ref a3, .ref a4, .ref a5, .ref a6, .int 0, .ref a7])), (a1, .inl (cI, 4096, .inl (fun _ => nI 0))), (a2, .inl (cL, 8192, .inr (.inl (fun _ => 0)))), (a3, .inl (cI, 12800, .inl (fun _ => nI 0))), (a4, .inl (cI, 32, .inl (fun _ => nI 0))), (a5, .inl (cZ, 32, .inl (fun _ => nI 0))), (a6, .inl (cI, 16, .inl (fun _ => nI 0))), (a7, .inl (cI, 1024, .inl (fun _ => nI 0)))]) H := hP
    have hD : va_D A ([(o, .inr (4, [.int 0, .int (nI n), .int 0, .ref a1, .ref a2, .ref a3, .ref a4, .ref a5, .ref a6, .int 0, .ref a7])), (a1, .inl (cI, 4096, .inl (fun _ => nI 0))), (a2, .inl (cL, 8192, .inr (.inl (fun _ => 0)))), (a3, .inl (cI, 12800, .inl (fun _ => nI 0))), (a4, .inl (cI, 32, .inl (fun _ => nI 0))), (a5, .inl (cZ, 32, .inl (fun _ => nI 0))), (a6, .inl (cI, 16, .inl (fun _ => nI 0))), (a7, .inl (cI, 1024, .inl (fun _ => nI 0)))]) := hD
    have hP : va_P (dC, dI) pwCl (mw n (fun z => [o, a1, a2, a3, a4, a5, a6, a7].getD z 0) cI cL cZ pn_z) H := by
      unfold mw mwx
      rw [pn_lw0]
      exact hP
    have hD : va_D A (mw n (fun z => [o, a1, a2, a3, a4, a5, a6, a7].getD z 0) cI cL cZ pn_z) := by
      unfold mw mwx
      rw [pn_lw0]
      exact hD
    exact W.vret hx hb hret (fun t9 ht9 hW9 => ⟨⟨_, rfl, rfl, by rw [ht9]; exact hP, va_K.moved hW9.alike hK, hD⟩, hS.F ht9⟩) hS.2.2 d_MO_init_91
