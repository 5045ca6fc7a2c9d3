/-! THE START -/
set_option maxHeartbeats 4000000 in
set_option maxRecDepth 100000 in
theorem la_cell {p : Program} {l : Launch} {e : Env} {s : State} {m : MethodId} {below : List Frame} {meth : Method} {c : Code} {H : Heap} {locs : List Loc} {cells slots : Nat} {Q9 : State → Prop} {D : va_G} {b L pc : Nat} {xs : Nat → Int32} {Wd : va_W} {ls : Array Slot} {rest : List Value} (hx : p.tables.exec = Jvm.exec) (hb : c.code = code) (hml : c.maxLocals = 7) (hown : s.vm.findClass "PageDriveLaw" = some m.cls) (hg : ∀ w ∈ wsG, w.before #[Value.ref b] s = true) (hX : va_X b L xs s s.heap) (hbl : b < s.heap.size) (hL : L ≤ 2049) (hP : va_P D pwCl Wd H) (hS : va_S (fun q : Nat => s.heap.size ≤ q) s.heap H locs) (hls : ls.size = 7) (hrest : (rest.map fun v => v.category).sum ≤ 8) (hc : cells ≤ 601024) (hs : slots ≤ 7293000) (hdg : decode code pc = .ok (.invokestatic 51, 3))
    (kk : ∀ (H1 : Heap) (locs1 : List Loc), va_P D pwCl Wd H1 → va_S (fun q : Nat => s.heap.size ≤ q) s.heap H1 locs1 → W p l e room_1 s m #[Value.ref b] below meth c H1 locs1 cells slots Q9 (F0 m (pc + 3) ls (.int (la_c L xs) :: rest))) : W p l e room_1 s m #[Value.ref b] below meth c H locs cells slots Q9 (F0 m pc ls (.int (nI 0) :: .ref b :: rest)) := by
  have hbA : ¬ (fun q : Nat => s.heap.size ≤ q) b := Nat.not_le.mpr hbl
  have hX1 : va_X b L xs s H := hX.kept (hS.2.1 b hbl hbA)
  have hb1 : b < H.size := Nat.lt_of_lt_of_le hbl hS.1
  refine va_calli (va_runS (rm := { frames := 0, cells := 0, slots := 0, locals := 0 }) (mc := 0) (ms := 0) (As := [.ref b, .int (nI 0)]) (rest := rest) ⟨hx, hb, hml, hown, hg⟩ (c_LA_cell l b L xs hL H.size) (va_cwS 2 hg (gi_SW (fun _ h => h) (wG_m4 (List.mem_of_getElem? (i := 33) rfl)) (wG_m4 (List.mem_of_getElem? (i := 34) rfl)) (wG_m1 (List.mem_of_getElem? (i := 0) rfl)) (wG_m4 (List.mem_of_getElem? (i := 35) rfl))) rfl rfl rfl (by decide +kernel) ⟨Nat.le_of_ble_eq_true rfl, Nat.le_of_ble_eq_true rfl⟩) ⟨fun a U g mk q => by obtain ⟨q0, q1, q2, q3⟩ := q; exact ⟨q0, q1, q2.moved (u := U) (U := U.calling g mk a) (Vm.Alike.refl U.vm), q3⟩, fun U hU hW => ⟨rfl, by rw [hU], by rw [hU]; exact hX1.moved hW.alike, hb1⟩⟩ rfl rfl hls rfl (lv_room hrest) hdg ⟨hc, hs⟩) hS (fun q h1 h2 => absurd h1 (Nat.not_lt.mpr h2)) (fun q h => Nat.le_trans hS.1 h) (fun r u t H1 locs1 ht hvm hw hB hz1 hk1 hS1 => ?_)
  subst hw
  exact kk H1 locs1 (hP.kept (fun k q hk => hk1 q.1 (hP k q hk).lt (Nat.not_le.mpr (hP k q hk).lt))) hS1
set_option maxHeartbeats 4000000 in
set_option maxRecDepth 100000 in
/-- THE LAW, from its entry -/
theorem whole_start {p : Program} {e : Env} {s : State} {m : MethodId} {below : List Frame} {meth : Method} {c : Code} (l : Launch) (hst : l.stackTraces = false) {b L : Nat} {xs : Nat → Int32} (hL : L ≤ 2049) (C0 : lw_At p s m meth c b L xs) : W p l e room_1 s m #[Value.ref b] below meth c s.heap [] 0 0 (lw_Z below #[Value.ref b] s) (entryFrame m ([Value.ref b] : List Value).toArray 7) := by
  obtain ⟨hx, hb, hr, hml, hown, hts, hX, hbl, hlocks, hgv⟩ := id C0
  have hg : ∀ w ∈ wsG, w.before #[Value.ref b] s = true := fun w h => hts w (wt_all w h)
  have hnar := flat_of_before _ hgv
  have hA : ∀ q : Nat, s.heap.size ≤ q → (fun q : Nat => s.heap.size ≤ q) q := fun _ h => h
  have hbA : ¬ (fun q : Nat => s.heap.size ≤ q) b := Nat.not_le.mpr hbl
  obtain ⟨c0, iS0, hKn0⟩ := u_known (C := "PageDrive") (T := F_PD) (N := 4) (n := 4) hg iw_PD (hg (Cond.instantiable "PageDrive" 4) (wG_m1 (List.mem_of_getElem? (i := 17) rfl)))
  obtain ⟨c1, iS1, hKn1⟩ := u_known (C := "PageDrive$Pool") (T := F_PO) (N := 6) (n := 6) hg iw_PO (hg (Cond.instantiable "PageDrive$Pool" 6) (wG_m1 (List.mem_of_getElem? (i := 25) rfl)))
  obtain ⟨c2, iS2, hKn2⟩ := u_known (C := "PageDrive$Entry") (T := F_EN) (N := 3) (n := 3) hg iw_EN (hg (Cond.instantiable "PageDrive$Entry" 3) (wG_m2 (List.mem_of_getElem? (i := 22) rfl)))
  obtain ⟨c3, iS3, hKn3⟩ := u_known (C := "PageDrive$Content") (T := F_CO) (N := 3) (n := 3) hg iw_CO (hg (Cond.instantiable "PageDrive$Content" 3) (wG_m2 (List.mem_of_getElem? (i := 27) rfl)))
  obtain ⟨c4, iS4, hKn4⟩ := u_known (C := "PageDriveModel") (T := F_MO) (N := 11) (n := 11) hg iw_MO (hg (Cond.instantiable "PageDriveModel" 11) (wG_m10 (List.mem_of_getElem? (i := 18) rfl)))
  obtain ⟨dC, dI, hKc⟩ : ∃ (dC : Nat → ClassId) (dI : Nat → Nat → Nat), ∀ (k : Nat) (q : vw_C), pwCl[k]? = some q → u_Kn s q.1 q.2.1 q.2.2 (dC k) (dI k) := by
    refine ⟨fun k => if k = 0 then c0 else if k = 1 then c1 else if k = 2 then c2 else if k = 3 then c3 else c4, fun k => if k = 0 then iS0 else if k = 1 then iS1 else if k = 2 then iS2 else if k = 3 then iS3 else iS4, ?_⟩
    intro k q hq
    match k, hq with
    | 0, hq => cases hq; exact hKn0
    | 1, hq => cases hq; exact hKn1
    | 2, hq => cases hq; exact hKn2
    | 3, hq => cases hq; exact hKn3
    | 4, hq => cases hq; exact hKn4
    | k + 5, hq => simp [pwCl] at hq
  obtain ⟨cI, kI, pI, aI, bI, zI⟩ := Cond.arrayClass_spec (hg (Cond.arrayClass FieldType.int) (wG_m2 (List.mem_of_getElem? (i := 20) rfl)))
  obtain ⟨cB, kB, pB, aB, bB, zB⟩ := Cond.arrayClass_spec (hg (Cond.arrayClass FieldType.byte) (wG_m2 (List.mem_of_getElem? (i := 19) rfl)))
  obtain ⟨cL, kL, pL, aL, bL, zL⟩ := Cond.arrayClass_spec (hg (Cond.arrayClass FieldType.long) (wG_m11 (List.mem_of_getElem? (i := 17) rfl)))
  obtain ⟨cZ, kZ, pZ, aZ, bZ, zZ⟩ := Cond.arrayClass_spec (hg (Cond.arrayClass FieldType.boolean) (wG_m11 (List.mem_of_getElem? (i := 18) rfl)))
  obtain ⟨pE, cE, kE, e1, -, e3, e4, e5⟩ := Cond.arrayOver_spec (hts _ wt_n3)
  have hK : va_K (dC, dI) pwCl (pw_ty cI cB cE cL cZ) s := by
    refine ⟨hKc, fun k q hq => ?_⟩
    match k, hq with
    | 0, hq => cases hq; exact ⟨fun N z => ⟨fun k h => (by cases h), kI, bI, pI, zI⟩, aI⟩
    | 1, hq => cases hq; exact ⟨fun N z => ⟨fun k h => (by cases h), kB, bB, pB, zB⟩, aB⟩
    | 2, hq => cases hq; exact ⟨fun N z => ⟨fun k h => (by cases h), kE, e3, pE, e4⟩, kE, pE, e3, e4, e1, e5⟩
    | 3, hq => cases hq; exact ⟨fun N z => ⟨fun k h => (by cases h), kL, bL, pL, zL⟩, aL⟩
    | 4, hq => cases hq; exact ⟨fun N z => ⟨fun k h => (by cases h), kZ, bZ, pZ, zZ⟩, aZ⟩
    | k + 5, hq => simp [pw_ty] at hq
  have hKK : pg_K s := ⟨fun w hw => va_Nw.of (pgB_ot w hw) (hts w (wt_B w hw)), fun q hq => by
      obtain ⟨k, cf, i, a, -, -, -, -, -, h6⟩ := Cond.stringRef_spec (cls := "PageDrive") hKn0.2.1 (hts (Cond.stringRef "PageDrive" q.1 q.2) (wt_T q hq))
      exact ⟨a, vk_R.of (hts _ (wt_T q hq)) h6⟩, fun q hq => va_Nc.of (hnar _ (wt_N q hq))⟩
  have hZ : pg_Z (fun q : Nat => s.heap.size ≤ q) s s.heap := ⟨vx_Zqof (hts _ wt_o1) (hts _ wt_o3) (hnar _ wt_U) (fun a h => Nat.not_le.mpr h), vx_Zqof (hts _ wt_o2) (hts _ wt_o3) (hnar _ wt_V) (fun a h => Nat.not_le.mpr h)⟩
  have hN : pg_N s := ⟨va_Nw.of rfl (hts _ wt_n1), va_Nw.of rfl (hts _ wt_n2), va_AO.of (hts _ wt_n3)⟩
  obtain ⟨n, hn⟩ := pn_is_ex (la_c L xs)
  have hS : va_S (fun q : Nat => s.heap.size ≤ q) s.heap s.heap [] := va_S.rf
  have hP : va_P (dC, dI) pwCl [] s.heap := fun k q h => by simp at h
  have hD : va_D (fun q : Nat => s.heap.size ≤ q) [] := ⟨fun i j p q h => by simp at h, fun k q h => by simp at h⟩
  have hl := lv_entry ([.ref b]) (n := 7) (Nat.le_of_ble_eq_true rfl)
  rw [lg_entry_eq]
  generalize (lg_sl ([.ref b]) ++ List.replicate (7 - (lg_sl ([.ref b])).length) Slot.unset).toArray = ls at hl ⊢
  have hl : lv_has ls 7 [(0, .ref b)] := hl
  refine va_new (C := "PageDrive") (T := F_PD) (N := 4) (ci := 0) hx hb hg iw_PD t_PD tok_PD hown (hg (Cond.classLink "PageDriveLaw" 8 "PageDrive") (wG_m1 (List.mem_of_getElem? (i := 16) rfl))) (hg (Cond.instantiable "PageDrive" 4) (wG_m1 (List.mem_of_getElem? (i := 17) rfl))) (hg (Cond.initialized "PageDrive") (wG_m1 (List.mem_of_getElem? (i := 1) rfl))) hK hP hD hS hA rfl (fs := [.null, .null, .null, .int 0]) (fun j hj => by rcases (show j = 0 ∨ j = 1 ∨ j = 2 ∨ j = 3 by omega) with rfl | rfl | rfl | rfl <;> rfl) (by show _ ≤ 601024; omega) (by show _ ≤ 7293000; omega) d_LA_law_0 (fun o1 H hP hD hS => ?_)
  have hP : va_P (dC, dI) pwCl ([] ++ [(o1, .inr (0, [.null, .null, .null, .int 0]))]) H := hP
  have hD : va_D (fun q : Nat => s.heap.size ≤ q) ([] ++ [(o1, .inr (0, [.null, .null, .null, .int 0]))]) := hD
  refine lv_dup hx hb d_LA_law_3 rfl ?_
  refine lv_aload_n hx hb d_LA_law_4 rfl (lv_at hl 0 rfl) ?_
  refine lv_iconst (v := nI 0) hx hb d_LA_law_5 (by decide) ?_
  refine la_cell (rest := [.ref o1, .ref o1]) hx hb hml hown hg hX hbl hL hP hS hl.1 (Nat.le_of_ble_eq_true rfl) (by show _ ≤ 601024; omega) (by show _ ≤ 7293000; omega) d_LA_law_6 (fun H locs hP hS => ?_)
  refine pn_callv (wr := []) (wc := [(o1, .inr (0, [.null, .null, .null, .int 0]))]) (va_runI (As := [.int (la_c L xs)]) (rest := [.ref o1]) ⟨hx, hb, hml, hown, hg⟩ (c_PD_init l dC dI cI cB cE cL cZ o1 n (la_c L xs) hn H.size) (cwI 1 hg (gi_in (fun _ h => h) (wG_m1 (List.mem_of_getElem? (i := 20) rfl))) rfl rfl rfl (hg (Cond.initialized "PageDrive") (wG_m1 (List.mem_of_getElem? (i := 1) rfl))) (hg (Cond.methodLink "PageDriveLaw" 57 ⟨"PageDrive", "<init>", "(I)V"⟩) (wG_m1 (List.mem_of_getElem? (i := 18) rfl))) (hg (Cond.instanceMethod ⟨"PageDrive", "<init>", "(I)V"⟩) (wG_m1 (List.mem_of_getElem? (i := 19) rfl))) rfl (by decide +kernel) ⟨Nat.le_of_ble_eq_true rfl, Nat.le_of_ble_eq_true rfl⟩) (pn_ps hK (pn_Pr (w2 := [(o1, .inr (0, [.null, .null, .null, .int 0]))]) hP) (pn_Dr (w2 := [(o1, .inr (0, [.null, .null, .null, .int 0]))]) hD) hN [.ref o1, .int (la_c L xs)]) rfl rfl hl.1 rfl (lv_room (Nat.le_of_ble_eq_true rfl)) d_LA_law_9 ⟨(by show _ ≤ 601024; omega), (by show _ ≤ 7293000; omega)⟩) hP hD hS hA (fun ad H locs had hP hD hS => ?_)
  have hP : va_P (dC, dI) pwCl (pw n ad cI cB cE (pn_s0 n)) H := hP
  have hD : va_D (fun q : Nat => s.heap.size ≤ q) (pw n ad cI cB cE (pn_s0 n)) := hD
  have hP0 := hP
  have hD0 := hD
  subst had
  have hP := hP0
  have hD := hD0
  refine lv_astore_n (lv' := [(1, .ref (ad 0)), (0, .ref b)]) hx hb d_LA_law_12 rfl hl (by decide) rfl (fun ls hl => ?_)
  refine va_new (C := "PageDriveModel") (T := F_MO) (N := 11) (ci := 4) hx hb hg iw_MO t_MO tok_MO hown (hg (Cond.classLink "PageDriveLaw" 60 "PageDriveModel") (wG_m10 (List.mem_of_getElem? (i := 17) rfl))) (hg (Cond.instantiable "PageDriveModel" 11) (wG_m10 (List.mem_of_getElem? (i := 18) rfl))) (hg (Cond.initialized "PageDriveModel") (wG_m1 (List.mem_of_getElem? (i := 6) rfl))) hK hP hD hS hA rfl (fs := [.int 0, .int 0, .int 0, .null, .null, .null, .null, .null, .null, .int 0, .null]) (fun j hj => by rcases (show j = 0 ∨ j = 1 ∨ j = 2 ∨ j = 3 ∨ j = 4 ∨ j = 5 ∨ j = 6 ∨ j = 7 ∨ j = 8 ∨ j = 9 ∨ j = 10 by omega) with rfl | rfl | rfl | rfl | rfl | rfl | rfl | rfl | rfl | rfl | rfl <;> rfl) (by show _ ≤ 601024; omega) (by show _ ≤ 7293000; omega) d_LA_law_13 (fun o2 H hP hD hS => ?_)
  have hP : va_P (dC, dI) pwCl (pw n ad cI cB cE (pn_s0 n) ++ [(o2, .inr (4, [.int 0, .int 0, .int 0, .null, .null, .null, .null, .null, .null, .int 0, .null]))]) H := hP
  have hD : va_D (fun q : Nat => s.heap.size ≤ q) (pw n ad cI cB cE (pn_s0 n) ++ [(o2, .inr (4, [.int 0, .int 0, .int 0, .null, .null, .null, .null, .null, .null, .int 0, .null]))]) := hD
  refine lv_dup hx hb d_LA_law_16 rfl ?_
  refine lv_aload_n hx hb d_LA_law_17 rfl (lv_at hl 1 rfl) ?_
  refine lv_iconst (v := nI 0) hx hb d_LA_law_18 (by decide) ?_
  refine la_cell (rest := [.ref o2, .ref o2]) hx hb hml hown hg hX hbl hL hP hS hl.1 (Nat.le_of_ble_eq_true rfl) (by show _ ≤ 601024; omega) (by show _ ≤ 7293000; omega) d_LA_law_19 (fun H locs hP hS => ?_)
  refine pn_callv (wr := pw n ad cI cB cE (pn_s0 n)) (wc := [(o2, .inr (4, [.int 0, .int 0, .int 0, .null, .null, .null, .null, .null, .null, .int 0, .null]))]) (va_runI (As := [.int (la_c L xs)]) (rest := [.ref o2]) ⟨hx, hb, hml, hown, hg⟩ (c_MO_init l dC dI cI cB cE cL cZ o2 n (la_c L xs) hn H.size) (cwI 1 hg (gi_in (fun _ h => h) (wG_m10 (List.mem_of_getElem? (i := 21) rfl))) rfl rfl rfl (hg (Cond.initialized "PageDriveModel") (wG_m1 (List.mem_of_getElem? (i := 6) rfl))) (hg (Cond.methodLink "PageDriveLaw" 62 ⟨"PageDriveModel", "<init>", "(I)V"⟩) (wG_m10 (List.mem_of_getElem? (i := 19) rfl))) (hg (Cond.instanceMethod ⟨"PageDriveModel", "<init>", "(I)V"⟩) (wG_m10 (List.mem_of_getElem? (i := 20) rfl))) rfl (by decide +kernel) ⟨Nat.le_of_ble_eq_true rfl, Nat.le_of_ble_eq_true rfl⟩) (pn_ps hK (pn_Pr (w2 := [(o2, .inr (4, [.int 0, .int 0, .int 0, .null, .null, .null, .null, .null, .null, .int 0, .null]))]) hP) (pn_Dr (w2 := [(o2, .inr (4, [.int 0, .int 0, .int 0, .null, .null, .null, .null, .null, .null, .int 0, .null]))]) hD) hN [.ref o2, .int (la_c L xs)]) rfl rfl hl.1 rfl (lv_room (Nat.le_of_ble_eq_true rfl)) d_LA_law_22 ⟨(by show _ ≤ 601024; omega), (by show _ ≤ 7293000; omega)⟩) hP hD hS hA (fun am H locs ham hP hD hS => ?_)
  have hP : va_P (dC, dI) pwCl (pw n ad cI cB cE (pn_s0 n) ++ mw n am cI cL cZ pn_z) H := hP
  have hD : va_D (fun q : Nat => s.heap.size ≤ q) (pw n ad cI cB cE (pn_s0 n) ++ mw n am cI cL cZ pn_z) := hD
  have hP1 := hP
  have hD1 := hD
  subst ham
  have hP := hP1
  have hD := hD1
  refine lv_astore_n (lv' := [(2, .ref (am 0)), (1, .ref (ad 0)), (0, .ref b)]) hx hb d_LA_law_25 rfl hl (by decide) rfl (fun ls hl => ?_)
  refine lv_iconst (v := nI 1) hx hb d_LA_law_26 (by decide) ?_
  refine pn_newa (atype := .long) (ty := .long) (N' := 1) hx hb (hg (Cond.arrayClass FieldType.long) (wG_m11 (List.mem_of_getElem? (i := 17) rfl))) rfl hK hP hD hS hA 3 rfl (nm := _) (fun x => va_nm_long) (1, .inr (.inl (fun _ => 0))) (pn_hlong _) (by decide) (nI_clamp (by decide)) (by decide) (by show _ ≤ 601024; omega) (by show _ ≤ 7293000; omega) d_LA_law_27 (fun ob H hP hD hS => ?_)
  have hP : va_P (dC, dI) pwCl (la_w n am ad ob cI cB cE cL cZ pn_z (pn_s0 n) (fun _ => 0)) H := pl_swP (by rw [List.append_assoc]; exact pl_swP hP)
  have hD : va_D (fun q : Nat => s.heap.size ≤ q) (la_w n am ad ob cI cB cE cL cZ pn_z (pn_s0 n) (fun _ => 0)) := pl_swD (by rw [List.append_assoc]; exact pl_swD hD)
  refine lv_astore_n (lv' := [(3, .ref ob), (2, .ref (am 0)), (1, .ref (ad 0)), (0, .ref b)]) hx hb d_LA_law_29 rfl hl (by decide) rfl (fun ls hl => ?_)
  refine lv_iconst (v := nI 1) hx hb d_LA_law_30 (by decide) ?_
  refine lv_istore (lv' := la_lv 1 ob (am 0) (ad 0) b) hx hb d_LA_law_31 hl (by decide) rfl (fun ls hl => ?_)
  exact la_loop (n := n) (ob := ob) (am := am) (ad := ad) ⟨hx, hb, hml, hown, hg, hX, hbl, hL, hst, hK, hKK, hZ⟩ hr hlocks (L + 4 - 1) _ _ _ _ _ ⟨1, pn_s0 n, pn_z, fun _ => 0, rfl, by omega, by omega, by omega, st_start hn.1 hn.2.1, hP, hD, hS, hl⟩
