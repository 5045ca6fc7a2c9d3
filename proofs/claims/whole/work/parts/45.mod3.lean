/-! THE MODEL, 3: cut, remove, twin, sync, crash, crashAll, file, byteAt, count -/
set_option maxHeartbeats 4000000 in
set_option maxRecDepth 100000 in
/-- cut -/
theorem c_MO_cut (l : Launch) (dC : Nat → ClassId) (dI : Nat → Nat → Nat) (cI cB cE cL cZ : ClassId) (n : Nat) (am : Nat → Nat) (S : pdS) (f z : Int32) (hv : pd_v 1024 S) (hlw : pd_lo S) (sz : Nat) : CMi l (dC, dI) (pw_ty cI cB cE cL cZ) y_MO_cut w_MO_cut ({ frames := 2, cells := 0, slots := 0, locals := 42 }) [.ref (am 0), .int f, .int z] (mw n am cI cL cZ S) (mw n am cI cL cZ) sz (fun r S2 => (S2 7 3 = 1 ∧ pd_nof f ∧ pd_sa S S2) ∨ (S2 7 3 = 2 ∧ (∃ i, i < 16 ∧ f = nI i ∧ S 5 (2 * i) = 0) ∧ pd_sa S S2) ∨ (S2 7 3 = 3 ∧ (∃ i, i < 16 ∧ f = nI i ∧ S 5 (2 * i) ≠ 0 ∧ ∀ x, x ≤ S 4 (2 * i) → z ≠ nI x) ∧ pd_sa S S2) ∨ (S2 7 3 = 0 ∧ ∃ i x, i < 16 ∧ f = nI i ∧ S 5 (2 * i) ≠ 0 ∧ x ≤ S 4 (2 * i) ∧ z = nI x ∧ r = nI (S 4 (2 * i)) ∧ pd_cut S S2 i x)) := by
  refine Met.ofW (cc := b_MO_cut) (maxL := 4) (ret := (some .int)) (by decide) rfl ?_
  intro p e s m args below meth c s₁ B hml hv
  obtain ⟨rfl, hsz, hP, hK, hD0⟩ := hv
  have hx := B.exec
  have hb := B.bytes
  have hret := B.returns
  have hts := atoms_spec (ws := w_MO_cut) B.pre
  have hg : ∀ w ∈ wsG, w.before _ s = true := fun w h => hts w (List.mem_cons_of_mem _ h)
  have hown : s.vm.findClass "PageDriveModel" = some m.cls := findClass_of_methodNamed B.named
  have hlocks := B.notSynchronized
  subst hsz
  have hD := hD0.self (sz := s.heap.size)
  generalize hAe : va_A (mw n am cI cL cZ S) s.heap.size = A at hD ⊢
  have hA : ∀ q : Nat, s.heap.size ≤ q → A q := fun q h => by rw [← hAe]; exact Or.inr h
  have hS : va_S A s.heap s.heap [] := va_S.rf
  have hl := lv_entry ([.ref (am 0), .int f, .int z]) (n := 4) (Nat.le_of_ble_eq_true rfl)
  rw [lg_entry_eq]
  generalize (lg_sl ([.ref (am 0), .int f, .int z]) ++ List.replicate (4 - (lg_sl ([.ref (am 0), .int f, .int z])).length) Slot.unset).toArray = ls at hl ⊢
  have hl : lv_has ls 4 [(0, .ref (am 0)), (1, .int f), (2, .int z)] := hl
  refine lv_aload_n hx hb d_MO_cut_0 rfl (lv_at hl 0 rfl) ?_
  refine lv_iconst (v := nI 0) hx hb d_MO_cut_1 (by decide) ?_
  refine pm_thr hx hb hg hown hK hP hD hS (hg (Cond.fieldLink "PageDriveModel" 37 "PageDriveModel" "thrown" "I") (wG_m10 (List.mem_of_getElem? (i := 23) rfl))) d_MO_cut_2 (fun H locs hP hD hS => ?_)
  generalize eS1 : pd_st S 7 3 0 = S1 at hP hD
  have hsa1 : pd_sa S S1 := by rw [← eS1]; exact pd_sa_73 S 0
  have hsa : ∀ v, pd_sa S (pd_st S1 7 3 v) := fun v => pd_sa_tr hsa1 (pd_sa_73 S1 v)
  have h173 : S1 7 3 = 0 := by rw [← eS1, pd_self]
  have hb1 : ∀ b, b ≠ 7 → S1 b = S b := fun b hb => by rw [← eS1, pd_bk _ hb]
  have hv1 := pd_sa_v hsa1 hv
  refine lv_iload_n hx hb d_MO_cut_5 rfl (lv_at hl 1 rfl) ?_
  refine pw_callip (va_runS (As := [.int f]) (rest := []) ⟨hx, hb, hml, hown, hg⟩ (c_MO_noFile l dC dI cI cB cE cL cZ (mw n am cI cL cZ S1) f H.size) (cwS 1 hg (gi_S (fun _ h => h) (wG_m11 (List.mem_of_getElem? (i := 38) rfl)) (wG_m11 (List.mem_of_getElem? (i := 39) rfl)) (wG_m1 (List.mem_of_getElem? (i := 6) rfl)) (wG_m12 (List.mem_of_getElem? (i := 0) rfl))) rfl rfl rfl (by decide +kernel) ⟨Nat.le_of_ble_eq_true rfl, Nat.le_of_ble_eq_true rfl⟩) (pw_ps hK hP hD [.int f]) rfl rfl hl.1 rfl (lv_room (Nat.le_of_ble_eq_true rfl)) d_MO_cut_6 ⟨Nat.le_of_ble_eq_true rfl, Nat.le_of_ble_eq_true rfl⟩) hD hS hA (fun r2 H locs hr hP hD hS => ?_)
  rcases hr with ⟨i, hi, rfl, rfl⟩ | ⟨hno, rfl⟩
  · refine pq_if_eq (tgt := 18) hx hb (by omega) d_MO_cut_9 (by decide) (fun _ => ?_) (fun h9 => absurd h9 (by omega))
    have hs4 := (hv.1 (2 * i) (by omega)).1
    have hs5 := (hv1.1 (2 * i) (by omega)).2.1
    have hl6 := hlw i hi
    have e5 : S1 5 (2 * i) = S 5 (2 * i) := by rw [hb1 5 (by decide)]
    have e4 : S1 4 (2 * i) = S 4 (2 * i) := by rw [hb1 4 (by decide)]
    have e6 : S1 6 i = S 6 i := by rw [hb1 6 (by decide)]
    refine lv_aload_n hx hb d_MO_cut_18 rfl (lv_at hl 0 rfl) ?_
    refine va_get (C := "PageDriveModel") (T := F_MO) (N := 11) hx hb hg iw_MO hown hK hP (0) mw_g0 rfl 7 (by decide) (hg (Cond.fieldLink "PageDriveModel" 23 "PageDriveModel" "there" "[Z") (wG_m10 (List.mem_of_getElem? (i := 30) rfl))) (fun _ h9 => h9) rfl d_MO_cut_19 ?_
    refine lv_iconst (v := nI 2) hx hb d_MO_cut_22 (by decide) ?_
    refine lv_iload_n hx hb d_MO_cut_23 rfl (lv_at hl 1 rfl) ?_
    refine pq_imul hx hb d_MO_cut_24 ?_
    refine pq_zald hx hb hK hP 5 4 mw_g5 rfl (by omega) (by omega) d_MO_cut_25 ?_
    refine pq_if_ne (tgt := 35) hx hb (by omega) d_MO_cut_26 (by decide) (fun h1 => ?_) (fun h1 => ?_)
    · refine lv_aload_n hx hb d_MO_cut_35 rfl (lv_at hl 0 rfl) ?_
      refine va_get (C := "PageDriveModel") (T := F_MO) (N := 11) hx hb hg iw_MO hown hK hP (0) mw_g0 rfl 6 (by decide) (hg (Cond.fieldLink "PageDriveModel" 20 "PageDriveModel" "sizes" "[I") (wG_m10 (List.mem_of_getElem? (i := 29) rfl))) (fun _ h9 => h9) rfl d_MO_cut_36 ?_
      refine lv_iconst (v := nI 2) hx hb d_MO_cut_39 (by decide) ?_
      refine lv_iload_n hx hb d_MO_cut_40 rfl (lv_at hl 1 rfl) ?_
      refine pq_imul hx hb d_MO_cut_41 ?_
      refine pq_iald hx hb hK hP 4 0 mw_g4 rfl (by omega) (by omega) d_MO_cut_42 ?_
      refine lv_istore_n (lv' := [(3, .int (nI (S1 4 (2 * i)))), (0, .ref (am 0)), (1, .int (nI i)), (2, .int z)]) hx hb d_MO_cut_43 rfl hl (by decide) rfl (fun ls hl => ?_)
      refine lv_iload_n hx hb d_MO_cut_44 rfl (lv_at hl 3 rfl) ?_
      refine lv_iconst (v := nI 0) hx hb d_MO_cut_45 (by decide) ?_
      refine lv_iload_n hx hb d_MO_cut_46 rfl (lv_at hl 0 rfl) ?_
      refine pw_callip (va_runS (As := [.int z, .int (nI 0), .int (nI (S1 4 (2 * i)))]) (rest := []) ⟨hx, hb, hml, hown, hg⟩ (c_MO_within l dC dI cI cB cE cL cZ (mw n am cI cL cZ S1) z (nI 0) (nI (S1 4 (2 * i))) H.size) (cwS 3 hg (gi_S (fun _ h => h) (wG_m11 (List.mem_of_getElem? (i := 27) rfl)) (wG_m11 (List.mem_of_getElem? (i := 28) rfl)) (wG_m1 (List.mem_of_getElem? (i := 6) rfl)) (wG_m11 (List.mem_of_getElem? (i := 29) rfl))) rfl rfl rfl (by decide +kernel) ⟨Nat.le_of_ble_eq_true rfl, Nat.le_of_ble_eq_true rfl⟩) (pw_ps hK hP hD [.int z, .int (nI 0), .int (nI (S1 4 (2 * i)))]) rfl rfl hl.1 rfl (lv_room (Nat.le_of_ble_eq_true rfl)) d_MO_cut_47 ⟨Nat.le_of_ble_eq_true rfl, Nat.le_of_ble_eq_true rfl⟩) hD hS hA (fun r3 H locs hr hP hD hS => ?_)
      rcases hr with ⟨hw1, hw2, rfl⟩ | ⟨hw1, rfl⟩
      · refine pq_if_ne (tgt := 59) hx hb (by omega) d_MO_cut_50 (by decide) (fun _ => ?_) (fun h9 => absurd h9 (by omega))
        obtain ⟨x, hx1, hx2, rfl⟩ := pd_rng (a := 0) (b := S1 4 (2 * i)) (by decide) (by omega) hw1 hw2
        refine lv_aload_n hx hb d_MO_cut_59 rfl (lv_at hl 1 rfl) ?_
        refine lv_iload_n hx hb d_MO_cut_60 rfl (lv_at hl 2 rfl) ?_
        refine lv_iload_n hx hb d_MO_cut_61 rfl (lv_at hl 3 rfl) ?_
        refine pw_callv (va_runV (As := [.int (nI i), .int (nI x)]) (rest := []) ⟨hx, hb, hml, hown, hg⟩ (c_MO_shorten l dC dI cI cB cE cL cZ n am S1 i x hi (by omega) (by omega) H.size) (cwV 2 hg (gi_V (fun _ h => h) (wG_m12 (List.mem_of_getElem? (i := 18) rfl)) (wG_m12 (List.mem_of_getElem? (i := 19) rfl)) (wG_m14 (List.mem_of_getElem? (i := 15) rfl)) (wG_m1 (List.mem_of_getElem? (i := 6) rfl)) (wG_m12 (List.mem_of_getElem? (i := 20) rfl))) rfl rfl rfl (by decide +kernel) ⟨Nat.le_of_ble_eq_true rfl, Nat.le_of_ble_eq_true rfl⟩) (pw_pv hK hP hD (va_recv hK hP (ci := 4) (q0 := 0) rfl mw_g0) [.int (nI i), .int (nI x)]) rfl rfl hl.1 rfl (lv_room (Nat.le_of_ble_eq_true rfl)) d_MO_cut_62 ⟨Nat.le_of_ble_eq_true rfl, Nat.le_of_ble_eq_true rfl⟩) hD hS hA (fun S2 H locs hr hP hD hS => ?_)
        refine lv_iload_n hx hb d_MO_cut_65 rfl (lv_at hl 0 rfl) ?_
        refine pq_top (y := nI (S 4 (2 * i))) (by rw [e4]) ?_
        exact W.iret (v := (nI (S 4 (2 * i)))) hx hb hret (fun t9 ht9 hW9 => ⟨⟨_, S2, rfl, Or.inr (Or.inr (Or.inr ⟨by rw [hr, pd_bk _ (by decide), pd_bk _ (by decide), h173], i, x, hi, rfl, by omega, by omega, rfl, rfl, pd_cut_sa hsa1 ⟨_, pd_sh_m, by rw [hr]; exact pd_sa_rf _⟩⟩)), by rw [ht9]; exact hP, va_K.moved hW9.alike hK, hD⟩, hS.F ht9⟩) hS.2.2 d_MO_cut_66
      · refine pq_if_ne (tgt := 59) hx hb (by omega) d_MO_cut_50 (by decide) (fun h9 => absurd h9 (by omega)) (fun _ => ?_)
        refine lv_aload_n hx hb d_MO_cut_53 rfl (lv_at hl 1 rfl) ?_
        refine lv_iconst (v := nI 3) hx hb d_MO_cut_54 (by decide) ?_
        refine pw_calli (va_runV (As := [.int (nI 3)]) (rest := []) ⟨hx, hb, hml, hown, hg⟩ (c_MO_fail l dC dI cI cB cE cL cZ n am S1 3 H.size) (cwV 1 hg (gi_V (fun _ h => h) (wG_m11 (List.mem_of_getElem? (i := 30) rfl)) (wG_m11 (List.mem_of_getElem? (i := 31) rfl)) (wG_m14 (List.mem_of_getElem? (i := 11) rfl)) (wG_m1 (List.mem_of_getElem? (i := 6) rfl)) (wG_m11 (List.mem_of_getElem? (i := 32) rfl))) rfl rfl rfl (by decide +kernel) ⟨Nat.le_of_ble_eq_true rfl, Nat.le_of_ble_eq_true rfl⟩) (pw_pv hK hP hD (va_recv hK hP (ci := 4) (q0 := 0) rfl mw_g0) [.int (nI 3)]) rfl rfl hl.1 rfl (lv_room (Nat.le_of_ble_eq_true rfl)) d_MO_cut_55 ⟨Nat.le_of_ble_eq_true rfl, Nat.le_of_ble_eq_true rfl⟩) hD hS hA (fun rf S2 H locs hr hP hD hS => ?_)
        obtain ⟨rfl, eS2⟩ := hr
        exact W.iret (v := (nI 0)) hx hb hret (fun t9 ht9 hW9 => ⟨⟨_, S2, rfl, Or.inr (Or.inr (Or.inl ⟨by rw [eS2, pd_self], ⟨i, hi, rfl, by omega, fun x hx => hw1.elim (fun q => pd_below q x (by omega) (by omega)) (fun q => pd_above (b := S1 4 (2 * i)) (by omega) q x (by omega))⟩, by rw [eS2]; exact hsa 3⟩)), by rw [ht9]; exact hP, va_K.moved hW9.alike hK, hD⟩, hS.F ht9⟩) hS.2.2 d_MO_cut_58
    · refine lv_aload_n hx hb d_MO_cut_29 rfl (lv_at hl 0 rfl) ?_
      refine lv_iconst (v := nI 2) hx hb d_MO_cut_30 (by decide) ?_
      refine pw_calli (va_runV (As := [.int (nI 2)]) (rest := []) ⟨hx, hb, hml, hown, hg⟩ (c_MO_fail l dC dI cI cB cE cL cZ n am S1 2 H.size) (cwV 1 hg (gi_V (fun _ h => h) (wG_m11 (List.mem_of_getElem? (i := 30) rfl)) (wG_m11 (List.mem_of_getElem? (i := 31) rfl)) (wG_m14 (List.mem_of_getElem? (i := 11) rfl)) (wG_m1 (List.mem_of_getElem? (i := 6) rfl)) (wG_m11 (List.mem_of_getElem? (i := 32) rfl))) rfl rfl rfl (by decide +kernel) ⟨Nat.le_of_ble_eq_true rfl, Nat.le_of_ble_eq_true rfl⟩) (pw_pv hK hP hD (va_recv hK hP (ci := 4) (q0 := 0) rfl mw_g0) [.int (nI 2)]) rfl rfl hl.1 rfl (lv_room (Nat.le_of_ble_eq_true rfl)) d_MO_cut_31 ⟨Nat.le_of_ble_eq_true rfl, Nat.le_of_ble_eq_true rfl⟩) hD hS hA (fun rf S2 H locs hr hP hD hS => ?_)
      obtain ⟨rfl, eS2⟩ := hr
      exact W.iret (v := (nI 0)) hx hb hret (fun t9 ht9 hW9 => ⟨⟨_, S2, rfl, Or.inr (Or.inl ⟨by rw [eS2, pd_self], ⟨i, hi, rfl, by omega⟩, by rw [eS2]; exact hsa 2⟩), by rw [ht9]; exact hP, va_K.moved hW9.alike hK, hD⟩, hS.F ht9⟩) hS.2.2 d_MO_cut_34
  · refine pq_if_eq (tgt := 18) hx hb (by omega) d_MO_cut_9 (by decide) (fun h9 => absurd h9 (by omega)) (fun _ => ?_)
    refine lv_aload_n hx hb d_MO_cut_12 rfl (lv_at hl 0 rfl) ?_
    refine lv_iconst (v := nI 1) hx hb d_MO_cut_13 (by decide) ?_
    refine pw_calli (va_runV (As := [.int (nI 1)]) (rest := []) ⟨hx, hb, hml, hown, hg⟩ (c_MO_fail l dC dI cI cB cE cL cZ n am S1 1 H.size) (cwV 1 hg (gi_V (fun _ h => h) (wG_m11 (List.mem_of_getElem? (i := 30) rfl)) (wG_m11 (List.mem_of_getElem? (i := 31) rfl)) (wG_m14 (List.mem_of_getElem? (i := 11) rfl)) (wG_m1 (List.mem_of_getElem? (i := 6) rfl)) (wG_m11 (List.mem_of_getElem? (i := 32) rfl))) rfl rfl rfl (by decide +kernel) ⟨Nat.le_of_ble_eq_true rfl, Nat.le_of_ble_eq_true rfl⟩) (pw_pv hK hP hD (va_recv hK hP (ci := 4) (q0 := 0) rfl mw_g0) [.int (nI 1)]) rfl rfl hl.1 rfl (lv_room (Nat.le_of_ble_eq_true rfl)) d_MO_cut_14 ⟨Nat.le_of_ble_eq_true rfl, Nat.le_of_ble_eq_true rfl⟩) hD hS hA (fun rf S2 H locs hr hP hD hS => ?_)
    obtain ⟨rfl, eS2⟩ := hr
    exact W.iret (v := (nI 0)) hx hb hret (fun t9 ht9 hW9 => ⟨⟨_, S2, rfl, Or.inl ⟨by rw [eS2, pd_self], hno, by rw [eS2]; exact hsa 1⟩, by rw [ht9]; exact hP, va_K.moved hW9.alike hK, hD⟩, hS.F ht9⟩) hS.2.2 d_MO_cut_17
set_option maxHeartbeats 4000000 in
set_option maxRecDepth 100000 in
/-- remove -/
theorem c_MO_remove (l : Launch) (dC : Nat → ClassId) (dI : Nat → Nat → Nat) (cI cB cE cL cZ : ClassId) (n : Nat) (am : Nat → Nat) (S : pdS) (f : Int32) (hv : pd_v 1024 S) (hlw : pd_lo S) (sz : Nat) : CMi l (dC, dI) (pw_ty cI cB cE cL cZ) y_MO_remove w_MO_remove ({ frames := 2, cells := 0, slots := 0, locals := 42 }) [.ref (am 0), .int f] (mw n am cI cL cZ S) (mw n am cI cL cZ) sz (fun r S2 => (S2 7 3 = 1 ∧ pd_nof f ∧ pd_sa S S2) ∨ (S2 7 3 = 0 ∧ ∃ i, i < 16 ∧ f = nI i ∧ r = nI (S 5 (2 * i)) ∧ pd_rem S S2 i)) := by
  refine Met.ofW (cc := b_MO_remove) (maxL := 3) (ret := (some .boolean)) (by decide) rfl ?_
  intro p e s m args below meth c s₁ B hml hv
  obtain ⟨rfl, hsz, hP, hK, hD0⟩ := hv
  have hx := B.exec
  have hb := B.bytes
  have hret := B.returns
  have hts := atoms_spec (ws := w_MO_remove) B.pre
  have hg : ∀ w ∈ wsG, w.before _ s = true := fun w h => hts w (List.mem_cons_of_mem _ h)
  have hown : s.vm.findClass "PageDriveModel" = some m.cls := findClass_of_methodNamed B.named
  have hlocks := B.notSynchronized
  subst hsz
  have hD := hD0.self (sz := s.heap.size)
  generalize hAe : va_A (mw n am cI cL cZ S) s.heap.size = A at hD ⊢
  have hA : ∀ q : Nat, s.heap.size ≤ q → A q := fun q h => by rw [← hAe]; exact Or.inr h
  have hS : va_S A s.heap s.heap [] := va_S.rf
  have hl := lv_entry ([.ref (am 0), .int f]) (n := 3) (Nat.le_of_ble_eq_true rfl)
  rw [lg_entry_eq]
  generalize (lg_sl ([.ref (am 0), .int f]) ++ List.replicate (3 - (lg_sl ([.ref (am 0), .int f])).length) Slot.unset).toArray = ls at hl ⊢
  have hl : lv_has ls 3 [(0, .ref (am 0)), (1, .int f)] := hl
  refine lv_aload_n hx hb d_MO_remove_0 rfl (lv_at hl 0 rfl) ?_
  refine lv_iconst (v := nI 0) hx hb d_MO_remove_1 (by decide) ?_
  refine pm_thr hx hb hg hown hK hP hD hS (hg (Cond.fieldLink "PageDriveModel" 37 "PageDriveModel" "thrown" "I") (wG_m10 (List.mem_of_getElem? (i := 23) rfl))) d_MO_remove_2 (fun H locs hP hD hS => ?_)
  generalize eS1 : pd_st S 7 3 0 = S1 at hP hD
  have hsa1 : pd_sa S S1 := by rw [← eS1]; exact pd_sa_73 S 0
  have hsa : ∀ v, pd_sa S (pd_st S1 7 3 v) := fun v => pd_sa_tr hsa1 (pd_sa_73 S1 v)
  have h173 : S1 7 3 = 0 := by rw [← eS1, pd_self]
  have hb1 : ∀ b, b ≠ 7 → S1 b = S b := fun b hb => by rw [← eS1, pd_bk _ hb]
  have hv1 := pd_sa_v hsa1 hv
  refine lv_iload_n hx hb d_MO_remove_5 rfl (lv_at hl 1 rfl) ?_
  refine pw_callip (va_runS (As := [.int f]) (rest := []) ⟨hx, hb, hml, hown, hg⟩ (c_MO_noFile l dC dI cI cB cE cL cZ (mw n am cI cL cZ S1) f H.size) (cwS 1 hg (gi_S (fun _ h => h) (wG_m11 (List.mem_of_getElem? (i := 38) rfl)) (wG_m11 (List.mem_of_getElem? (i := 39) rfl)) (wG_m1 (List.mem_of_getElem? (i := 6) rfl)) (wG_m12 (List.mem_of_getElem? (i := 0) rfl))) rfl rfl rfl (by decide +kernel) ⟨Nat.le_of_ble_eq_true rfl, Nat.le_of_ble_eq_true rfl⟩) (pw_ps hK hP hD [.int f]) rfl rfl hl.1 rfl (lv_room (Nat.le_of_ble_eq_true rfl)) d_MO_remove_6 ⟨Nat.le_of_ble_eq_true rfl, Nat.le_of_ble_eq_true rfl⟩) hD hS hA (fun r2 H locs hr hP hD hS => ?_)
  rcases hr with ⟨i, hi, rfl, rfl⟩ | ⟨hno, rfl⟩
  · refine pq_if_eq (tgt := 26) hx hb (by omega) d_MO_remove_9 (by decide) (fun _ => ?_) (fun h9 => absurd h9 (by omega))
    have hs5 := (hv.1 (2 * i) (by omega)).2.1
    have hs4 := (hv.1 (2 * i) (by omega)).1
    have hl6 := hlw i hi
    have e5 : S1 5 (2 * i) = S 5 (2 * i) := by rw [hb1 5 (by decide)]
    have e6 : S1 6 i = S 6 i := by rw [hb1 6 (by decide)]
    refine lv_aload_n hx hb d_MO_remove_26 rfl (lv_at hl 0 rfl) ?_
    refine va_get (C := "PageDriveModel") (T := F_MO) (N := 11) hx hb hg iw_MO hown hK hP (0) mw_g0 rfl 7 (by decide) (hg (Cond.fieldLink "PageDriveModel" 23 "PageDriveModel" "there" "[Z") (wG_m10 (List.mem_of_getElem? (i := 30) rfl))) (fun _ h9 => h9) rfl d_MO_remove_27 ?_
    refine lv_iconst (v := nI 2) hx hb d_MO_remove_30 (by decide) ?_
    refine lv_iload_n hx hb d_MO_remove_31 rfl (lv_at hl 1 rfl) ?_
    refine pq_imul hx hb d_MO_remove_32 ?_
    refine pq_zald hx hb hK hP 5 4 mw_g5 rfl (by omega) (by omega) d_MO_remove_33 ?_
    refine pq_top (y := nI (S 5 (2 * i))) (by rw [e5]) ?_
    refine lv_istore_n (lv' := [(2, .int (nI (S 5 (2 * i)))), (0, .ref (am 0)), (1, .int (nI i))]) hx hb d_MO_remove_34 rfl hl (by decide) rfl (fun ls hl => ?_)
    refine lv_aload_n hx hb d_MO_remove_35 rfl (lv_at hl 1 rfl) ?_
    refine lv_iload_n hx hb d_MO_remove_36 rfl (lv_at hl 2 rfl) ?_
    refine lv_iconst (v := nI 0) hx hb d_MO_remove_37 (by decide) ?_
    refine pw_callv (va_runV (As := [.int (nI i), .int (nI 0)]) (rest := []) ⟨hx, hb, hml, hown, hg⟩ (c_MO_shorten l dC dI cI cB cE cL cZ n am S1 i 0 hi (by omega) (by omega) H.size) (cwV 2 hg (gi_V (fun _ h => h) (wG_m12 (List.mem_of_getElem? (i := 18) rfl)) (wG_m12 (List.mem_of_getElem? (i := 19) rfl)) (wG_m14 (List.mem_of_getElem? (i := 15) rfl)) (wG_m1 (List.mem_of_getElem? (i := 6) rfl)) (wG_m12 (List.mem_of_getElem? (i := 20) rfl))) rfl rfl rfl (by decide +kernel) ⟨Nat.le_of_ble_eq_true rfl, Nat.le_of_ble_eq_true rfl⟩) (pw_pv hK hP hD (va_recv hK hP (ci := 4) (q0 := 0) rfl mw_g0) [.int (nI i), .int (nI 0)]) rfl rfl hl.1 rfl (lv_room (Nat.le_of_ble_eq_true rfl)) d_MO_remove_38 ⟨Nat.le_of_ble_eq_true rfl, Nat.le_of_ble_eq_true rfl⟩) hD hS hA (fun T H locs hr hP hD hS => ?_)
    refine lv_aload_n hx hb d_MO_remove_41 rfl (lv_at hl 1 rfl) ?_
    refine va_get (C := "PageDriveModel") (T := F_MO) (N := 11) hx hb hg iw_MO hown hK hP (0) mw_g0 rfl 7 (by decide) (hg (Cond.fieldLink "PageDriveModel" 23 "PageDriveModel" "there" "[Z") (wG_m10 (List.mem_of_getElem? (i := 30) rfl))) (fun _ h9 => h9) rfl d_MO_remove_42 ?_
    refine lv_iconst (v := nI 2) hx hb d_MO_remove_45 (by decide) ?_
    refine lv_iload_n hx hb d_MO_remove_46 rfl (lv_at hl 2 rfl) ?_
    refine pq_imul hx hb d_MO_remove_47 ?_
    refine lv_iconst (v := nI 0) hx hb d_MO_remove_48 (by decide) ?_
    refine pm_there hx hb hK hP hD hS (by omega) (by omega) rfl d_MO_remove_49 (fun H locs hP hD hS => ?_)
    generalize eS3 : pd_st T 5 (2 * i) 0 = S3 at hP hD
    refine lv_iload_n hx hb d_MO_remove_50 rfl (lv_at hl 0 rfl) ?_
    have h0 : (if 0 < S1 6 i then 0 else S1 6 i) = 0 := by
      by_cases q : 0 < S1 6 i
      · rw [if_pos q]
      · rw [if_neg q]
        omega
    have hrem : pd_rem S S3 i := by
      refine ⟨_, pd_sh_sa hsa1 pd_sh_m, ?_⟩
      rw [← eS3, hr, h0]
      rw [pd_st_cm _ (show (6 : Nat) ≠ 5 by decide)]
      exact pd_sa_rf _
    have h73 : S3 7 3 = 0 := by rw [← eS3, pd_bk _ (by decide), hr, pd_bk _ (by decide), pd_bk _ (by decide), h173]
    exact W.zret (v := (nI (S 5 (2 * i)))) hx hb hret (pw_n01 hs5 rfl).1 (fun t9 ht9 hW9 => ⟨⟨_, _, rfl, Or.inr ⟨h73, i, hi, rfl, rfl, hrem⟩, by rw [ht9]; exact hP, va_K.moved hW9.alike hK, hD⟩, hS.F ht9⟩) hS.2.2 d_MO_remove_51
  · refine pq_if_eq (tgt := 26) hx hb (by omega) d_MO_remove_9 (by decide) (fun h9 => absurd h9 (by omega)) (fun _ => ?_)
    refine lv_aload_n hx hb d_MO_remove_12 rfl (lv_at hl 0 rfl) ?_
    refine lv_iconst (v := nI 1) hx hb d_MO_remove_13 (by decide) ?_
    refine pw_calli (va_runV (As := [.int (nI 1)]) (rest := []) ⟨hx, hb, hml, hown, hg⟩ (c_MO_fail l dC dI cI cB cE cL cZ n am S1 1 H.size) (cwV 1 hg (gi_V (fun _ h => h) (wG_m11 (List.mem_of_getElem? (i := 30) rfl)) (wG_m11 (List.mem_of_getElem? (i := 31) rfl)) (wG_m14 (List.mem_of_getElem? (i := 11) rfl)) (wG_m1 (List.mem_of_getElem? (i := 6) rfl)) (wG_m11 (List.mem_of_getElem? (i := 32) rfl))) rfl rfl rfl (by decide +kernel) ⟨Nat.le_of_ble_eq_true rfl, Nat.le_of_ble_eq_true rfl⟩) (pw_pv hK hP hD (va_recv hK hP (ci := 4) (q0 := 0) rfl mw_g0) [.int (nI 1)]) rfl rfl hl.1 rfl (lv_room (Nat.le_of_ble_eq_true rfl)) d_MO_remove_14 ⟨Nat.le_of_ble_eq_true rfl, Nat.le_of_ble_eq_true rfl⟩) hD hS hA (fun rf S2 H locs hr hP hD hS => ?_)
    obtain ⟨rfl, eS2⟩ := hr
    refine pq_if_le (tgt := 24) hx hb (by omega) d_MO_remove_17 (by decide) (fun _ => ?_) (fun h9 => absurd h9 (by omega))
    refine lv_iconst (v := nI 0) hx hb d_MO_remove_24 (by decide) ?_
    exact W.zret (v := (nI 0)) hx hb hret rfl (fun t9 ht9 hW9 => ⟨⟨_, S2, rfl, Or.inl ⟨by rw [eS2, pd_self], hno, by rw [eS2]; exact hsa 1⟩, by rw [ht9]; exact hP, va_K.moved hW9.alike hK, hD⟩, hS.F ht9⟩) hS.2.2 d_MO_remove_25
set_option maxHeartbeats 4000000 in
set_option maxRecDepth 100000 in
/-- twin -/
theorem c_MO_twin (l : Launch) (dC : Nat → ClassId) (dI : Nat → Nat → Nat) (cI cB cE cL cZ : ClassId) (n : Nat) (am : Nat → Nat) (S : pdS) (f z : Int32) (hv : pd_v 1024 S) (sz : Nat) : CMi l (dC, dI) (pw_ty cI cB cE cL cZ) y_MO_twin w_MO_twin ({ frames := 2, cells := 0, slots := 0, locals := 42 }) [.ref (am 0), .int f, .int z] (mw n am cI cL cZ S) (mw n am cI cL cZ) sz (fun r S2 => (S2 7 3 = 1 ∧ (pd_nof f ∨ pd_nof z) ∧ pd_sa S S2) ∨ (S2 7 3 = 2 ∧ (∃ i j, i < 16 ∧ f = nI i ∧ j < 16 ∧ z = nI j ∧ S 5 (2 * i) = 0) ∧ pd_sa S S2) ∨ (S2 7 3 = 0 ∧ ∃ i j, i < 16 ∧ f = nI i ∧ j < 16 ∧ z = nI j ∧ S 5 (2 * i) ≠ 0 ∧ r = nI (S 4 (2 * i)) ∧ pd_twi S S2 i j)) := by
  refine Met.ofW (cc := b_MO_twin) (maxL := 3) (ret := (some .int)) (by decide) rfl ?_
  intro p e s m args below meth c s₁ B hml hv
  obtain ⟨rfl, hsz, hP, hK, hD0⟩ := hv
  have hx := B.exec
  have hb := B.bytes
  have hret := B.returns
  have hts := atoms_spec (ws := w_MO_twin) B.pre
  have hg : ∀ w ∈ wsG, w.before _ s = true := fun w h => hts w (List.mem_cons_of_mem _ h)
  have hown : s.vm.findClass "PageDriveModel" = some m.cls := findClass_of_methodNamed B.named
  have hlocks := B.notSynchronized
  subst hsz
  have hD := hD0.self (sz := s.heap.size)
  generalize hAe : va_A (mw n am cI cL cZ S) s.heap.size = A at hD ⊢
  have hA : ∀ q : Nat, s.heap.size ≤ q → A q := fun q h => by rw [← hAe]; exact Or.inr h
  have hS : va_S A s.heap s.heap [] := va_S.rf
  have hl := lv_entry ([.ref (am 0), .int f, .int z]) (n := 3) (Nat.le_of_ble_eq_true rfl)
  rw [lg_entry_eq]
  generalize (lg_sl ([.ref (am 0), .int f, .int z]) ++ List.replicate (3 - (lg_sl ([.ref (am 0), .int f, .int z])).length) Slot.unset).toArray = ls at hl ⊢
  have hl : lv_has ls 3 [(0, .ref (am 0)), (1, .int f), (2, .int z)] := hl
  refine lv_aload_n hx hb d_MO_twin_0 rfl (lv_at hl 0 rfl) ?_
  refine lv_iconst (v := nI 0) hx hb d_MO_twin_1 (by decide) ?_
  refine pm_thr hx hb hg hown hK hP hD hS (hg (Cond.fieldLink "PageDriveModel" 37 "PageDriveModel" "thrown" "I") (wG_m10 (List.mem_of_getElem? (i := 23) rfl))) d_MO_twin_2 (fun H locs hP hD hS => ?_)
  generalize eS1 : pd_st S 7 3 0 = S1 at hP hD
  have hsa1 : pd_sa S S1 := by rw [← eS1]; exact pd_sa_73 S 0
  have hsa : ∀ v, pd_sa S (pd_st S1 7 3 v) := fun v => pd_sa_tr hsa1 (pd_sa_73 S1 v)
  have h173 : S1 7 3 = 0 := by rw [← eS1, pd_self]
  have hb1 : ∀ b, b ≠ 7 → S1 b = S b := fun b hb => by rw [← eS1, pd_bk _ hb]
  have hv1 := pd_sa_v hsa1 hv
  refine lv_iload_n hx hb d_MO_twin_5 rfl (lv_at hl 1 rfl) ?_
  refine pw_callip (va_runS (As := [.int f]) (rest := []) ⟨hx, hb, hml, hown, hg⟩ (c_MO_noFile l dC dI cI cB cE cL cZ (mw n am cI cL cZ S1) f H.size) (cwS 1 hg (gi_S (fun _ h => h) (wG_m11 (List.mem_of_getElem? (i := 38) rfl)) (wG_m11 (List.mem_of_getElem? (i := 39) rfl)) (wG_m1 (List.mem_of_getElem? (i := 6) rfl)) (wG_m12 (List.mem_of_getElem? (i := 0) rfl))) rfl rfl rfl (by decide +kernel) ⟨Nat.le_of_ble_eq_true rfl, Nat.le_of_ble_eq_true rfl⟩) (pw_ps hK hP hD [.int f]) rfl rfl hl.1 rfl (lv_room (Nat.le_of_ble_eq_true rfl)) d_MO_twin_6 ⟨Nat.le_of_ble_eq_true rfl, Nat.le_of_ble_eq_true rfl⟩) hD hS hA (fun r2 H locs hr hP hD hS => ?_)
  rcases hr with ⟨i, hi, rfl, rfl⟩ | ⟨hno, rfl⟩
  · refine pq_if_ne (tgt := 19) hx hb (by omega) d_MO_twin_9 (by decide) (fun h9 => absurd h9 (by omega)) (fun _ => ?_)
    refine lv_iload_n hx hb d_MO_twin_12 rfl (lv_at hl 2 rfl) ?_
    refine pw_callip (va_runS (As := [.int z]) (rest := []) ⟨hx, hb, hml, hown, hg⟩ (c_MO_noFile l dC dI cI cB cE cL cZ (mw n am cI cL cZ S1) z H.size) (cwS 1 hg (gi_S (fun _ h => h) (wG_m11 (List.mem_of_getElem? (i := 38) rfl)) (wG_m11 (List.mem_of_getElem? (i := 39) rfl)) (wG_m1 (List.mem_of_getElem? (i := 6) rfl)) (wG_m12 (List.mem_of_getElem? (i := 0) rfl))) rfl rfl rfl (by decide +kernel) ⟨Nat.le_of_ble_eq_true rfl, Nat.le_of_ble_eq_true rfl⟩) (pw_ps hK hP hD [.int z]) rfl rfl hl.1 rfl (lv_room (Nat.le_of_ble_eq_true rfl)) d_MO_twin_13 ⟨Nat.le_of_ble_eq_true rfl, Nat.le_of_ble_eq_true rfl⟩) hD hS hA (fun r3 H locs hr hP hD hS => ?_)
    rcases hr with ⟨j, hj, rfl, rfl⟩ | ⟨hno, rfl⟩
    · refine pq_if_eq (tgt := 25) hx hb (by omega) d_MO_twin_16 (by decide) (fun _ => ?_) (fun h9 => absurd h9 (by omega))
      have hs4 := (hv1.1 (2 * i) (by omega)).1
      have hs5 := (hv1.1 (2 * i) (by omega)).2.1
      have e5 : S1 5 (2 * i) = S 5 (2 * i) := by rw [hb1 5 (by decide)]
      have e4 : S1 4 (2 * i) = S 4 (2 * i) := by rw [hb1 4 (by decide)]
      refine lv_aload_n hx hb d_MO_twin_25 rfl (lv_at hl 0 rfl) ?_
      refine va_get (C := "PageDriveModel") (T := F_MO) (N := 11) hx hb hg iw_MO hown hK hP (0) mw_g0 rfl 7 (by decide) (hg (Cond.fieldLink "PageDriveModel" 23 "PageDriveModel" "there" "[Z") (wG_m10 (List.mem_of_getElem? (i := 30) rfl))) (fun _ h9 => h9) rfl d_MO_twin_26 ?_
      refine lv_iconst (v := nI 2) hx hb d_MO_twin_29 (by decide) ?_
      refine lv_iload_n hx hb d_MO_twin_30 rfl (lv_at hl 1 rfl) ?_
      refine pq_imul hx hb d_MO_twin_31 ?_
      refine pq_zald hx hb hK hP 5 4 mw_g5 rfl (by omega) (by omega) d_MO_twin_32 ?_
      refine pq_if_ne (tgt := 42) hx hb (by omega) d_MO_twin_33 (by decide) (fun h1 => ?_) (fun h1 => ?_)
      · refine lv_iload_n hx hb d_MO_twin_42 rfl (lv_at hl 1 rfl) ?_
        refine lv_iload_n hx hb d_MO_twin_43 rfl (lv_at hl 2 rfl) ?_
        refine pq_icmp_eq (tgt := 57) hx hb (by omega) (by omega) d_MO_twin_44 (by decide) (fun h2 => ?_) (fun h2 => ?_)
        · subst h2
          have hbe := pd_be_self S1 (2 * i)
          have hb7 : S1 7 = S1 7 := rfl
          refine lv_aload_n hx hb d_MO_twin_57 rfl (lv_at hl 0 rfl) ?_
          refine va_get (C := "PageDriveModel") (T := F_MO) (N := 11) hx hb hg iw_MO hown hK hP (0) mw_g0 rfl 8 (by decide) (hg (Cond.fieldLink "PageDriveModel" 27 "PageDriveModel" "lows" "[I") (wG_m10 (List.mem_of_getElem? (i := 31) rfl))) (fun _ h9 => h9) rfl d_MO_twin_58 ?_
          refine lv_iload_n hx hb d_MO_twin_61 rfl (lv_at hl 2 rfl) ?_
          refine lv_iconst (v := nI 0) hx hb d_MO_twin_62 (by decide) ?_
          refine pm_low hx hb hK hP hD hS (by omega) rfl d_MO_twin_63 (fun H locs hP hD hS => ?_)
          generalize eS4 : pd_st S1 6 i 0 = S4 at hP hD
          refine lv_aload_n hx hb d_MO_twin_64 rfl (lv_at hl 0 rfl) ?_
          refine va_get (C := "PageDriveModel") (T := F_MO) (N := 11) hx hb hg iw_MO hown hK hP (0) mw_g0 rfl 6 (by decide) (hg (Cond.fieldLink "PageDriveModel" 20 "PageDriveModel" "sizes" "[I") (wG_m10 (List.mem_of_getElem? (i := 29) rfl))) (fun _ h9 => h9) rfl d_MO_twin_65 ?_
          refine lv_iconst (v := nI 2) hx hb d_MO_twin_68 (by decide) ?_
          refine lv_iload_n hx hb d_MO_twin_69 rfl (lv_at hl 2 rfl) ?_
          refine pq_imul hx hb d_MO_twin_70 ?_
          refine pq_iald hx hb hK hP 4 0 mw_g4 rfl (by omega) (by omega) d_MO_twin_71 ?_
          have hz4 : S4 4 (2 * i) = S 4 (2 * i) := by rw [← eS4, pd_bk _ (by decide), e4]
          refine pq_top (y := nI (S 4 (2 * i))) (by rw [hz4]) ?_
          exact W.iret (v := (nI (S 4 (2 * i)))) hx hb hret (fun t9 ht9 hW9 => ⟨⟨_, _, rfl, Or.inr (Or.inr ⟨by rw [← eS4, pd_bk _ (by decide), h173], i, i, hi, rfl, hi, rfl, by omega, rfl, ⟨_, pd_be_sa (by omega) hsa1 hbe, by rw [eS4]; exact pd_sa_rf _⟩⟩), by rw [ht9]; exact hP, va_K.moved hW9.alike hK, hD⟩, hS.F ht9⟩) hS.2.2 d_MO_twin_72
        · refine lv_aload_n hx hb d_MO_twin_47 rfl (lv_at hl 0 rfl) ?_
          refine lv_iconst (v := nI 2) hx hb d_MO_twin_48 (by decide) ?_
          refine lv_iload_n hx hb d_MO_twin_49 rfl (lv_at hl 2 rfl) ?_
          refine pq_imul hx hb d_MO_twin_50 ?_
          refine lv_iconst (v := nI 2) hx hb d_MO_twin_51 (by decide) ?_
          refine lv_iload_n hx hb d_MO_twin_52 rfl (lv_at hl 1 rfl) ?_
          refine pq_imul hx hb d_MO_twin_53 ?_
          refine pw_callv (va_runV (As := [.int (nI (2 * j)), .int (nI (2 * i))]) (rest := []) ⟨hx, hb, hml, hown, hg⟩ (c_MO_become l dC dI cI cB cE cL cZ n am S1 (2 * j) (2 * i) (by omega) (by omega) (by omega) hs4 hs5 H.size) (cwV 2 hg (gi_V (fun _ h => h) (wG_m12 (List.mem_of_getElem? (i := 29) rfl)) (wG_m12 (List.mem_of_getElem? (i := 30) rfl)) (wG_m14 (List.mem_of_getElem? (i := 16) rfl)) (wG_m1 (List.mem_of_getElem? (i := 6) rfl)) (wG_m12 (List.mem_of_getElem? (i := 31) rfl))) rfl rfl rfl (by decide +kernel) ⟨Nat.le_of_ble_eq_true rfl, Nat.le_of_ble_eq_true rfl⟩) (pw_pv hK hP hD (va_recv hK hP (ci := 4) (q0 := 0) rfl mw_g0) [.int (nI (2 * j)), .int (nI (2 * i))]) rfl rfl hl.1 rfl (lv_room (Nat.le_of_ble_eq_true rfl)) d_MO_twin_54 ⟨Nat.le_of_ble_eq_true rfl, Nat.le_of_ble_eq_true rfl⟩) hD hS hA (fun T H locs hr hP hD hS => ?_)
          obtain ⟨hbe, hb7, -⟩ := hr
          refine lv_aload_n hx hb d_MO_twin_57 rfl (lv_at hl 0 rfl) ?_
          refine va_get (C := "PageDriveModel") (T := F_MO) (N := 11) hx hb hg iw_MO hown hK hP (0) mw_g0 rfl 8 (by decide) (hg (Cond.fieldLink "PageDriveModel" 27 "PageDriveModel" "lows" "[I") (wG_m10 (List.mem_of_getElem? (i := 31) rfl))) (fun _ h9 => h9) rfl d_MO_twin_58 ?_
          refine lv_iload_n hx hb d_MO_twin_61 rfl (lv_at hl 2 rfl) ?_
          refine lv_iconst (v := nI 0) hx hb d_MO_twin_62 (by decide) ?_
          refine pm_low hx hb hK hP hD hS (by omega) rfl d_MO_twin_63 (fun H locs hP hD hS => ?_)
          generalize eS5 : pd_st T 6 j 0 = S5 at hP hD
          refine lv_aload_n hx hb d_MO_twin_64 rfl (lv_at hl 0 rfl) ?_
          refine va_get (C := "PageDriveModel") (T := F_MO) (N := 11) hx hb hg iw_MO hown hK hP (0) mw_g0 rfl 6 (by decide) (hg (Cond.fieldLink "PageDriveModel" 20 "PageDriveModel" "sizes" "[I") (wG_m10 (List.mem_of_getElem? (i := 29) rfl))) (fun _ h9 => h9) rfl d_MO_twin_65 ?_
          refine lv_iconst (v := nI 2) hx hb d_MO_twin_68 (by decide) ?_
          refine lv_iload_n hx hb d_MO_twin_69 rfl (lv_at hl 2 rfl) ?_
          refine pq_imul hx hb d_MO_twin_70 ?_
          refine pq_iald hx hb hK hP 4 0 mw_g4 rfl (by omega) (by omega) d_MO_twin_71 ?_
          have hz4 : S5 4 (2 * j) = S 4 (2 * i) := by rw [← eS5, pd_bk _ (by decide), hbe.2.2.1, va_up_self, e4]
          refine pq_top (y := nI (S 4 (2 * i))) (by rw [hz4]) ?_
          exact W.iret (v := (nI (S 4 (2 * i)))) hx hb hret (fun t9 ht9 hW9 => ⟨⟨_, _, rfl, Or.inr (Or.inr ⟨by rw [← eS5, pd_bk _ (by decide), hb7, h173], i, j, hi, rfl, hj, rfl, by omega, rfl, ⟨_, pd_be_sa (by omega) hsa1 hbe, by rw [eS5]; exact pd_sa_rf _⟩⟩), by rw [ht9]; exact hP, va_K.moved hW9.alike hK, hD⟩, hS.F ht9⟩) hS.2.2 d_MO_twin_72
      · refine lv_aload_n hx hb d_MO_twin_36 rfl (lv_at hl 0 rfl) ?_
        refine lv_iconst (v := nI 2) hx hb d_MO_twin_37 (by decide) ?_
        refine pw_calli (va_runV (As := [.int (nI 2)]) (rest := []) ⟨hx, hb, hml, hown, hg⟩ (c_MO_fail l dC dI cI cB cE cL cZ n am S1 2 H.size) (cwV 1 hg (gi_V (fun _ h => h) (wG_m11 (List.mem_of_getElem? (i := 30) rfl)) (wG_m11 (List.mem_of_getElem? (i := 31) rfl)) (wG_m14 (List.mem_of_getElem? (i := 11) rfl)) (wG_m1 (List.mem_of_getElem? (i := 6) rfl)) (wG_m11 (List.mem_of_getElem? (i := 32) rfl))) rfl rfl rfl (by decide +kernel) ⟨Nat.le_of_ble_eq_true rfl, Nat.le_of_ble_eq_true rfl⟩) (pw_pv hK hP hD (va_recv hK hP (ci := 4) (q0 := 0) rfl mw_g0) [.int (nI 2)]) rfl rfl hl.1 rfl (lv_room (Nat.le_of_ble_eq_true rfl)) d_MO_twin_38 ⟨Nat.le_of_ble_eq_true rfl, Nat.le_of_ble_eq_true rfl⟩) hD hS hA (fun rf S2 H locs hr hP hD hS => ?_)
        obtain ⟨rfl, eS2⟩ := hr
        exact W.iret (v := (nI 0)) hx hb hret (fun t9 ht9 hW9 => ⟨⟨_, S2, rfl, Or.inr (Or.inl ⟨by rw [eS2, pd_self], ⟨i, j, hi, rfl, hj, rfl, by omega⟩, by rw [eS2]; exact hsa 2⟩), by rw [ht9]; exact hP, va_K.moved hW9.alike hK, hD⟩, hS.F ht9⟩) hS.2.2 d_MO_twin_41
    · refine pq_if_eq (tgt := 25) hx hb (by omega) d_MO_twin_16 (by decide) (fun h9 => absurd h9 (by omega)) (fun _ => ?_)
      refine lv_aload_n hx hb d_MO_twin_19 rfl (lv_at hl 0 rfl) ?_
      refine lv_iconst (v := nI 1) hx hb d_MO_twin_20 (by decide) ?_
      refine pw_calli (va_runV (As := [.int (nI 1)]) (rest := []) ⟨hx, hb, hml, hown, hg⟩ (c_MO_fail l dC dI cI cB cE cL cZ n am S1 1 H.size) (cwV 1 hg (gi_V (fun _ h => h) (wG_m11 (List.mem_of_getElem? (i := 30) rfl)) (wG_m11 (List.mem_of_getElem? (i := 31) rfl)) (wG_m14 (List.mem_of_getElem? (i := 11) rfl)) (wG_m1 (List.mem_of_getElem? (i := 6) rfl)) (wG_m11 (List.mem_of_getElem? (i := 32) rfl))) rfl rfl rfl (by decide +kernel) ⟨Nat.le_of_ble_eq_true rfl, Nat.le_of_ble_eq_true rfl⟩) (pw_pv hK hP hD (va_recv hK hP (ci := 4) (q0 := 0) rfl mw_g0) [.int (nI 1)]) rfl rfl hl.1 rfl (lv_room (Nat.le_of_ble_eq_true rfl)) d_MO_twin_21 ⟨Nat.le_of_ble_eq_true rfl, Nat.le_of_ble_eq_true rfl⟩) hD hS hA (fun rf S2 H locs hr hP hD hS => ?_)
      obtain ⟨rfl, eS2⟩ := hr
      exact W.iret (v := (nI 0)) hx hb hret (fun t9 ht9 hW9 => ⟨⟨_, S2, rfl, Or.inl ⟨by rw [eS2, pd_self], Or.inr hno, by rw [eS2]; exact hsa 1⟩, by rw [ht9]; exact hP, va_K.moved hW9.alike hK, hD⟩, hS.F ht9⟩) hS.2.2 d_MO_twin_24
  · refine pq_if_ne (tgt := 19) hx hb (by omega) d_MO_twin_9 (by decide) (fun _ => ?_) (fun h9 => absurd h9 (by omega))
    refine lv_aload_n hx hb d_MO_twin_19 rfl (lv_at hl 0 rfl) ?_
    refine lv_iconst (v := nI 1) hx hb d_MO_twin_20 (by decide) ?_
    refine pw_calli (va_runV (As := [.int (nI 1)]) (rest := []) ⟨hx, hb, hml, hown, hg⟩ (c_MO_fail l dC dI cI cB cE cL cZ n am S1 1 H.size) (cwV 1 hg (gi_V (fun _ h => h) (wG_m11 (List.mem_of_getElem? (i := 30) rfl)) (wG_m11 (List.mem_of_getElem? (i := 31) rfl)) (wG_m14 (List.mem_of_getElem? (i := 11) rfl)) (wG_m1 (List.mem_of_getElem? (i := 6) rfl)) (wG_m11 (List.mem_of_getElem? (i := 32) rfl))) rfl rfl rfl (by decide +kernel) ⟨Nat.le_of_ble_eq_true rfl, Nat.le_of_ble_eq_true rfl⟩) (pw_pv hK hP hD (va_recv hK hP (ci := 4) (q0 := 0) rfl mw_g0) [.int (nI 1)]) rfl rfl hl.1 rfl (lv_room (Nat.le_of_ble_eq_true rfl)) d_MO_twin_21 ⟨Nat.le_of_ble_eq_true rfl, Nat.le_of_ble_eq_true rfl⟩) hD hS hA (fun rf S2 H locs hr hP hD hS => ?_)
    obtain ⟨rfl, eS2⟩ := hr
    exact W.iret (v := (nI 0)) hx hb hret (fun t9 ht9 hW9 => ⟨⟨_, S2, rfl, Or.inl ⟨by rw [eS2, pd_self], Or.inl hno, by rw [eS2]; exact hsa 1⟩, by rw [ht9]; exact hP, va_K.moved hW9.alike hK, hD⟩, hS.F ht9⟩) hS.2.2 d_MO_twin_24
set_option maxHeartbeats 4000000 in
set_option maxRecDepth 100000 in
/-- sync -/
theorem c_MO_sync (l : Launch) (dC : Nat → ClassId) (dI : Nat → Nat → Nat) (cI cB cE cL cZ : ClassId) (n : Nat) (am : Nat → Nat) (S : pdS) (f : Int32) (hv : pd_v 1024 S) (sz : Nat) : CMi l (dC, dI) (pw_ty cI cB cE cL cZ) y_MO_sync w_MO_sync ({ frames := 2, cells := 0, slots := 0, locals := 44 }) [.ref (am 0), .int f] (mw n am cI cL cZ S) (mw n am cI cL cZ) sz (fun r S2 => (S2 7 3 = 1 ∧ pd_nof f ∧ pd_sa S S2) ∨ (S2 7 3 = 0 ∧ ∃ i, i < 16 ∧ f = nI i ∧ r = nI (pd_un S i) ∧ pd_set S S2 i)) := by
  refine Met.ofW (cc := b_MO_sync) (maxL := 4) (ret := (some .int)) (by decide) rfl ?_
  intro p e s m args below meth c s₁ B hml hv
  obtain ⟨rfl, hsz, hP, hK, hD0⟩ := hv
  have hx := B.exec
  have hb := B.bytes
  have hret := B.returns
  have hts := atoms_spec (ws := w_MO_sync) B.pre
  have hg : ∀ w ∈ wsG, w.before _ s = true := fun w h => hts w (List.mem_cons_of_mem _ h)
  have hown : s.vm.findClass "PageDriveModel" = some m.cls := findClass_of_methodNamed B.named
  have hlocks := B.notSynchronized
  subst hsz
  have hD := hD0.self (sz := s.heap.size)
  generalize hAe : va_A (mw n am cI cL cZ S) s.heap.size = A at hD ⊢
  have hA : ∀ q : Nat, s.heap.size ≤ q → A q := fun q h => by rw [← hAe]; exact Or.inr h
  have hS : va_S A s.heap s.heap [] := va_S.rf
  have hl := lv_entry ([.ref (am 0), .int f]) (n := 4) (Nat.le_of_ble_eq_true rfl)
  rw [lg_entry_eq]
  generalize (lg_sl ([.ref (am 0), .int f]) ++ List.replicate (4 - (lg_sl ([.ref (am 0), .int f])).length) Slot.unset).toArray = ls at hl ⊢
  have hl : lv_has ls 4 [(0, .ref (am 0)), (1, .int f)] := hl
  refine lv_aload_n hx hb d_MO_sync_0 rfl (lv_at hl 0 rfl) ?_
  refine lv_iconst (v := nI 0) hx hb d_MO_sync_1 (by decide) ?_
  refine pm_thr hx hb hg hown hK hP hD hS (hg (Cond.fieldLink "PageDriveModel" 37 "PageDriveModel" "thrown" "I") (wG_m10 (List.mem_of_getElem? (i := 23) rfl))) d_MO_sync_2 (fun H locs hP hD hS => ?_)
  generalize eS1 : pd_st S 7 3 0 = S1 at hP hD
  have hsa1 : pd_sa S S1 := by rw [← eS1]; exact pd_sa_73 S 0
  have hsa : ∀ v, pd_sa S (pd_st S1 7 3 v) := fun v => pd_sa_tr hsa1 (pd_sa_73 S1 v)
  have h173 : S1 7 3 = 0 := by rw [← eS1, pd_self]
  have hb1 : ∀ b, b ≠ 7 → S1 b = S b := fun b hb => by rw [← eS1, pd_bk _ hb]
  have hv1 := pd_sa_v hsa1 hv
  refine lv_iload_n hx hb d_MO_sync_5 rfl (lv_at hl 1 rfl) ?_
  refine pw_callip (va_runS (As := [.int f]) (rest := []) ⟨hx, hb, hml, hown, hg⟩ (c_MO_noFile l dC dI cI cB cE cL cZ (mw n am cI cL cZ S1) f H.size) (cwS 1 hg (gi_S (fun _ h => h) (wG_m11 (List.mem_of_getElem? (i := 38) rfl)) (wG_m11 (List.mem_of_getElem? (i := 39) rfl)) (wG_m1 (List.mem_of_getElem? (i := 6) rfl)) (wG_m12 (List.mem_of_getElem? (i := 0) rfl))) rfl rfl rfl (by decide +kernel) ⟨Nat.le_of_ble_eq_true rfl, Nat.le_of_ble_eq_true rfl⟩) (pw_ps hK hP hD [.int f]) rfl rfl hl.1 rfl (lv_room (Nat.le_of_ble_eq_true rfl)) d_MO_sync_6 ⟨Nat.le_of_ble_eq_true rfl, Nat.le_of_ble_eq_true rfl⟩) hD hS hA (fun r2 H locs hr hP hD hS => ?_)
  rcases hr with ⟨i, hi, rfl, rfl⟩ | ⟨hno, rfl⟩
  · refine pq_if_eq (tgt := 18) hx hb (by omega) d_MO_sync_9 (by decide) (fun _ => ?_) (fun h9 => absurd h9 (by omega))
    have hs4 := (hv1.1 (2 * i) (by omega)).1
    have hs4s := (hv1.1 (2 * i + 1) (by omega)).1
    have h400 : pd_pf (S1 4 (2 * i)) ≤ 400 := by unfold pd_pf; omega
    refine lv_iconst (v := nI 0) hx hb d_MO_sync_18 (by decide) ?_
    refine lv_istore_n (lv' := [(2, .int (nI 0)), (0, .ref (am 0)), (1, .int (nI i))]) hx hb d_MO_sync_19 rfl hl (by decide) rfl (fun ls hl => ?_)
    refine lv_iconst (v := nI 0) hx hb d_MO_sync_20 (by decide) ?_
    refine lv_istore_n (lv' := [(3, .int (nI 0)), (2, .int (nI 0)), (0, .ref (am 0)), (1, .int (nI i))]) hx hb d_MO_sync_21 rfl hl (by decide) rfl (fun ls hl => ?_)
    refine pw_loop (fun mm H locs ls => ∃ k : Nat, mm = pd_pf (S1 4 (2 * i)) - k ∧ k ≤ pd_pf (S1 4 (2 * i)) ∧ va_P (dC, dI) pwCl (mw n am cI cL cZ S1) H ∧ va_D A (mw n am cI cL cZ S1) ∧ va_S A s.heap H locs ∧ lv_has ls 4 [(3, .int (nI k)), (2, .int (nI (pd_sm (fun k => if k < pd_pf (S1 4 (2 * i + 1)) ∧ S1 (8 + (2 * i + 1)) k = S1 (8 + 2 * i) k then 0 else 1) k))), (0, .ref (am 0)), (1, .int (nI i))]) ?_ _ _ _ _ ⟨0, rfl, by omega, hP, hD, hS, hl⟩
    rintro mm H locs ls ⟨k, hmm, hk, hP, hD, hS, hl⟩ ih
    refine lv_iload_n hx hb d_MO_sync_22 rfl (lv_at hl 0 rfl) ?_
    refine lv_aload_n hx hb d_MO_sync_23 rfl (lv_at hl 2 rfl) ?_
    refine va_get (C := "PageDriveModel") (T := F_MO) (N := 11) hx hb hg iw_MO hown hK hP (0) mw_g0 rfl 6 (by decide) (hg (Cond.fieldLink "PageDriveModel" 20 "PageDriveModel" "sizes" "[I") (wG_m10 (List.mem_of_getElem? (i := 29) rfl))) (fun _ h9 => h9) rfl d_MO_sync_24 ?_
    refine lv_iconst (v := nI 2) hx hb d_MO_sync_27 (by decide) ?_
    refine lv_iload_n hx hb d_MO_sync_28 rfl (lv_at hl 3 rfl) ?_
    refine pq_imul hx hb d_MO_sync_29 ?_
    refine pq_iald hx hb hK hP 4 0 mw_g4 rfl (by omega) (by omega) d_MO_sync_30 ?_
    refine pw_callip (va_runS (As := [.int (nI (S1 4 (2 * i)))]) (rest := [.int (nI k)]) ⟨hx, hb, hml, hown, hg⟩ (c_MO_needed l dC dI cI cB cE cL cZ (mw n am cI cL cZ S1) (S1 4 (2 * i)) (by omega) H.size) (cwS 1 hg (gi_S (fun _ h => h) (wG_m12 (List.mem_of_getElem? (i := 4) rfl)) (wG_m12 (List.mem_of_getElem? (i := 5) rfl)) (wG_m1 (List.mem_of_getElem? (i := 6) rfl)) (wG_m12 (List.mem_of_getElem? (i := 6) rfl))) rfl rfl rfl (by decide +kernel) ⟨Nat.le_of_ble_eq_true rfl, Nat.le_of_ble_eq_true rfl⟩) (pw_ps hK hP hD [.int (nI (S1 4 (2 * i)))]) rfl rfl hl.1 rfl (lv_room (Nat.le_of_ble_eq_true rfl)) d_MO_sync_31 ⟨Nat.le_of_ble_eq_true rfl, Nat.le_of_ble_eq_true rfl⟩) hD hS hA (fun r3 H locs hr hP hD hS => ?_)
    subst hr
    refine pq_icmp_ge (tgt := 75) hx hb (by omega) (by omega) d_MO_sync_34 (by decide) (fun h1 => ?_) (fun h1 => ?_)
    · have hkk : k = pd_pf (S1 4 (2 * i)) := by omega
      subst hkk
      refine lv_aload_n hx hb d_MO_sync_75 rfl (lv_at hl 2 rfl) ?_
      refine lv_iload_n hx hb d_MO_sync_76 rfl (lv_at hl 3 rfl) ?_
      refine pw_callv (va_runV (As := [.int (nI i)]) (rest := []) ⟨hx, hb, hml, hown, hg⟩ (c_MO_settle l dC dI cI cB cE cL cZ n am S1 i hi hv1 H.size) (cwV 1 hg (gi_V (fun _ h => h) (wG_m12 (List.mem_of_getElem? (i := 39) rfl)) (wG_m13 (List.mem_of_getElem? (i := 0) rfl)) (wG_m14 (List.mem_of_getElem? (i := 18) rfl)) (wG_m1 (List.mem_of_getElem? (i := 6) rfl)) (wG_m13 (List.mem_of_getElem? (i := 1) rfl))) rfl rfl rfl (by decide +kernel) ⟨Nat.le_of_ble_eq_true rfl, Nat.le_of_ble_eq_true rfl⟩) (pw_pv hK hP hD (va_recv hK hP (ci := 4) (q0 := 0) rfl mw_g0) [.int (nI i)]) rfl rfl hl.1 rfl (lv_room (Nat.le_of_ble_eq_true rfl)) d_MO_sync_77 ⟨Nat.le_of_ble_eq_true rfl, Nat.le_of_ble_eq_true rfl⟩) hD hS hA (fun S2 H locs hr hP hD hS => ?_)
      refine lv_iload_n hx hb d_MO_sync_80 rfl (lv_at hl 1 rfl) ?_
      exact W.iret (v := (nI (pd_sm (fun k => if k < pd_pf (S1 4 (2 * i + 1)) ∧ S1 (8 + (2 * i + 1)) k = S1 (8 + 2 * i) k then 0 else 1) (pd_pf (S1 4 (2 * i)))))) hx hb hret (fun t9 ht9 hW9 => ⟨⟨_, S2, rfl, Or.inr ⟨by rw [hr.2, h173], i, hi, rfl, by rw [← pd_un_sa hi hsa1]; rfl, pd_set_sa hi hsa1 hr.1⟩, by rw [ht9]; exact hP, va_K.moved hW9.alike hK, hD⟩, hS.F ht9⟩) hS.2.2 d_MO_sync_81
    · have hpg := hv1.2.1 (2 * i) k (by omega) h1
      have hun := pd_un_m hv1.2.2.1 hi h1
      refine lv_iload_n hx hb d_MO_sync_37 rfl (lv_at hl 1 rfl) ?_
      refine lv_aload_n hx hb d_MO_sync_38 rfl (lv_at hl 2 rfl) ?_
      refine lv_iconst (v := nI 2) hx hb d_MO_sync_39 (by decide) ?_
      refine lv_iload_n hx hb d_MO_sync_40 rfl (lv_at hl 3 rfl) ?_
      refine pq_imul hx hb d_MO_sync_41 ?_
      refine lv_iconst (v := nI 1) hx hb d_MO_sync_42 (by decide) ?_
      refine pq_iadd hx hb d_MO_sync_43 ?_
      refine lv_aload_n hx hb d_MO_sync_44 rfl (lv_at hl 2 rfl) ?_
      refine va_get (C := "PageDriveModel") (T := F_MO) (N := 11) hx hb hg iw_MO hown hK hP (0) mw_g0 rfl 5 (by decide) (hg (Cond.fieldLink "PageDriveModel" 17 "PageDriveModel" "rows" "[I") (wG_m10 (List.mem_of_getElem? (i := 28) rfl))) (fun _ h9 => h9) rfl d_MO_sync_45 ?_
      refine lv_sipush (v := nI 800) hx hb d_MO_sync_48 (by decide) ?_
      refine lv_iload_n hx hb d_MO_sync_51 rfl (lv_at hl 3 rfl) ?_
      refine pq_imul hx hb d_MO_sync_52 ?_
      refine lv_iload_n hx hb d_MO_sync_53 rfl (lv_at hl 0 rfl) ?_
      refine pq_iadd hx hb d_MO_sync_54 ?_
      refine pm_rowld (d := 2 * i) (k := k) hx hb hK hP (by omega) (by omega) (by omega) rfl d_MO_sync_55 ?_
      refine pw_callip (va_runV (As := [.int (nI ((2 * i) + 1)), .int (nI (S1 (8 + (2 * i)) k))]) (rest := [.int (nI (pd_sm (fun k => if k < pd_pf (S1 4 (2 * i + 1)) ∧ S1 (8 + (2 * i + 1)) k = S1 (8 + 2 * i) k then 0 else 1) k))]) ⟨hx, hb, hml, hown, hg⟩ (c_MO_isIn l dC dI cI cB cE cL cZ n am S1 (2 * i + 1) (S1 (8 + 2 * i) k) (by omega) hs4s hpg (fun k hk => hv1.2.1 _ k (by omega) hk) H.size) (cwV 2 hg (gi_V (fun _ h => h) (wG_m12 (List.mem_of_getElem? (i := 36) rfl)) (wG_m12 (List.mem_of_getElem? (i := 37) rfl)) (wG_m14 (List.mem_of_getElem? (i := 17) rfl)) (wG_m1 (List.mem_of_getElem? (i := 6) rfl)) (wG_m12 (List.mem_of_getElem? (i := 38) rfl))) rfl rfl rfl (by decide +kernel) ⟨Nat.le_of_ble_eq_true rfl, Nat.le_of_ble_eq_true rfl⟩) (pw_pv hK hP hD (va_recv hK hP (ci := 4) (q0 := 0) rfl mw_g0) [.int (nI ((2 * i) + 1)), .int (nI (S1 (8 + (2 * i)) k))]) rfl rfl hl.1 rfl (lv_room (Nat.le_of_ble_eq_true rfl)) d_MO_sync_56 ⟨Nat.le_of_ble_eq_true rfl, Nat.le_of_ble_eq_true rfl⟩) hD hS hA (fun r5 H locs hr hP hD hS => ?_)
      rcases hr with ⟨h2, rfl⟩ | ⟨h2, rfl⟩
      · refine pq_if_eq (tgt := 66) hx hb (by omega) d_MO_sync_59 (by decide) (fun h9 => absurd h9 (by omega)) (fun _ => ?_)
        refine lv_iconst (v := nI 0) hx hb d_MO_sync_62 (by decide) ?_
        refine lv_goto (tgt := 67) hx hb d_MO_sync_63 (by decide) ?_
        refine pq_iadd hx hb d_MO_sync_67 ?_
        refine lv_istore_n (lv' := [(2, .int (nI ((pd_sm (fun k => if k < pd_pf (S1 4 (2 * i + 1)) ∧ S1 (8 + (2 * i + 1)) k = S1 (8 + 2 * i) k then 0 else 1) k) + 0))), (3, .int (nI k)), (0, .ref (am 0)), (1, .int (nI i))]) hx hb d_MO_sync_68 rfl hl (by decide) rfl (fun ls hl => ?_)
        refine lv_iinc (v := (nI (k + 1))) (lv' := [(3, .int (nI (k + 1))), (2, .int (nI ((pd_sm (fun k => if k < pd_pf (S1 4 (2 * i + 1)) ∧ S1 (8 + (2 * i + 1)) k = S1 (8 + 2 * i) k then 0 else 1) k) + 0))), (0, .ref (am 0)), (1, .int (nI i))]) hx hb d_MO_sync_69 hl (k := 1) rfl (pq_inc _) (by decide) rfl (fun ls hl => ?_)
        refine lv_goto (tgt := 22) hx hb d_MO_sync_72 (by decide) ?_
        exact ih _ _ _ _ (by omega) ⟨k + 1, rfl, by omega, hP, hD, hS, by simp only [pd_sm]; rw [if_pos (hun.mp h2)]; exact hl⟩
      · refine pq_if_eq (tgt := 66) hx hb (by omega) d_MO_sync_59 (by decide) (fun _ => ?_) (fun h9 => absurd h9 (by omega))
        refine lv_iconst (v := nI 1) hx hb d_MO_sync_66 (by decide) ?_
        refine pq_iadd hx hb d_MO_sync_67 ?_
        refine lv_istore_n (lv' := [(2, .int (nI ((pd_sm (fun k => if k < pd_pf (S1 4 (2 * i + 1)) ∧ S1 (8 + (2 * i + 1)) k = S1 (8 + 2 * i) k then 0 else 1) k) + 1))), (3, .int (nI k)), (0, .ref (am 0)), (1, .int (nI i))]) hx hb d_MO_sync_68 rfl hl (by decide) rfl (fun ls hl => ?_)
        refine lv_iinc (v := (nI (k + 1))) (lv' := [(3, .int (nI (k + 1))), (2, .int (nI ((pd_sm (fun k => if k < pd_pf (S1 4 (2 * i + 1)) ∧ S1 (8 + (2 * i + 1)) k = S1 (8 + 2 * i) k then 0 else 1) k) + 1))), (0, .ref (am 0)), (1, .int (nI i))]) hx hb d_MO_sync_69 hl (k := 1) rfl (pq_inc _) (by decide) rfl (fun ls hl => ?_)
        refine lv_goto (tgt := 22) hx hb d_MO_sync_72 (by decide) ?_
        exact ih _ _ _ _ (by omega) ⟨k + 1, rfl, by omega, hP, hD, hS, by simp only [pd_sm]; rw [if_neg (fun q => by obtain ⟨j, hj, hq⟩ := hun.mpr q; exact h2 j hj hq)]; exact hl⟩
  · refine pq_if_eq (tgt := 18) hx hb (by omega) d_MO_sync_9 (by decide) (fun h9 => absurd h9 (by omega)) (fun _ => ?_)
    refine lv_aload_n hx hb d_MO_sync_12 rfl (lv_at hl 0 rfl) ?_
    refine lv_iconst (v := nI 1) hx hb d_MO_sync_13 (by decide) ?_
    refine pw_calli (va_runV (As := [.int (nI 1)]) (rest := []) ⟨hx, hb, hml, hown, hg⟩ (c_MO_fail l dC dI cI cB cE cL cZ n am S1 1 H.size) (cwV 1 hg (gi_V (fun _ h => h) (wG_m11 (List.mem_of_getElem? (i := 30) rfl)) (wG_m11 (List.mem_of_getElem? (i := 31) rfl)) (wG_m14 (List.mem_of_getElem? (i := 11) rfl)) (wG_m1 (List.mem_of_getElem? (i := 6) rfl)) (wG_m11 (List.mem_of_getElem? (i := 32) rfl))) rfl rfl rfl (by decide +kernel) ⟨Nat.le_of_ble_eq_true rfl, Nat.le_of_ble_eq_true rfl⟩) (pw_pv hK hP hD (va_recv hK hP (ci := 4) (q0 := 0) rfl mw_g0) [.int (nI 1)]) rfl rfl hl.1 rfl (lv_room (Nat.le_of_ble_eq_true rfl)) d_MO_sync_14 ⟨Nat.le_of_ble_eq_true rfl, Nat.le_of_ble_eq_true rfl⟩) hD hS hA (fun rf S2 H locs hr hP hD hS => ?_)
    obtain ⟨rfl, eS2⟩ := hr
    exact W.iret (v := (nI 0)) hx hb hret (fun t9 ht9 hW9 => ⟨⟨_, S2, rfl, Or.inl ⟨by rw [eS2, pd_self], hno, by rw [eS2]; exact hsa 1⟩, by rw [ht9]; exact hP, va_K.moved hW9.alike hK, hD⟩, hS.F ht9⟩) hS.2.2 d_MO_sync_17
set_option maxHeartbeats 4000000 in
set_option maxRecDepth 100000 in
/-- crash -/
theorem c_MO_crash (l : Launch) (dC : Nat → ClassId) (dI : Nat → Nat → Nat) (cI cB cE cL cZ : ClassId) (n : Nat) (am : Nat → Nat) (S : pdS) (f z : Int32) (hv : pd_v 1024 S) (hlw : pd_lo S) (sz : Nat) : CMi l (dC, dI) (pw_ty cI cB cE cL cZ) y_MO_crash w_MO_crash ({ frames := 3, cells := 0, slots := 0, locals := 66 }) [.ref (am 0), .int f, .int z] (mw n am cI cL cZ S) (mw n am cI cL cZ) sz (fun r S2 => (S2 7 3 = 1 ∧ pd_nof f ∧ pd_sa S S2) ∨ (S2 7 3 = 2 ∧ (∃ i, i < 16 ∧ f = nI i ∧ z < 0) ∧ pd_sa S S2) ∨ (S2 7 3 = 0 ∧ ∃ i k, i < 16 ∧ f = nI i ∧ k < 2 ^ 31 ∧ z = nI k ∧ r = nI (S2 4 (2 * i)) ∧ pd_fal S S2 i k)) := by
  refine Met.ofW (cc := b_MO_crash) (maxL := 3) (ret := (some .int)) (by decide) rfl ?_
  intro p e s m args below meth c s₁ B hml hv
  obtain ⟨rfl, hsz, hP, hK, hD0⟩ := hv
  have hx := B.exec
  have hb := B.bytes
  have hret := B.returns
  have hts := atoms_spec (ws := w_MO_crash) B.pre
  have hg : ∀ w ∈ wsG, w.before _ s = true := fun w h => hts w (List.mem_cons_of_mem _ h)
  have hown : s.vm.findClass "PageDriveModel" = some m.cls := findClass_of_methodNamed B.named
  have hlocks := B.notSynchronized
  subst hsz
  have hD := hD0.self (sz := s.heap.size)
  generalize hAe : va_A (mw n am cI cL cZ S) s.heap.size = A at hD ⊢
  have hA : ∀ q : Nat, s.heap.size ≤ q → A q := fun q h => by rw [← hAe]; exact Or.inr h
  have hS : va_S A s.heap s.heap [] := va_S.rf
  have hl := lv_entry ([.ref (am 0), .int f, .int z]) (n := 3) (Nat.le_of_ble_eq_true rfl)
  rw [lg_entry_eq]
  generalize (lg_sl ([.ref (am 0), .int f, .int z]) ++ List.replicate (3 - (lg_sl ([.ref (am 0), .int f, .int z])).length) Slot.unset).toArray = ls at hl ⊢
  have hl : lv_has ls 3 [(0, .ref (am 0)), (1, .int f), (2, .int z)] := hl
  refine lv_aload_n hx hb d_MO_crash_0 rfl (lv_at hl 0 rfl) ?_
  refine lv_iconst (v := nI 0) hx hb d_MO_crash_1 (by decide) ?_
  refine pm_thr hx hb hg hown hK hP hD hS (hg (Cond.fieldLink "PageDriveModel" 37 "PageDriveModel" "thrown" "I") (wG_m10 (List.mem_of_getElem? (i := 23) rfl))) d_MO_crash_2 (fun H locs hP hD hS => ?_)
  generalize eS1 : pd_st S 7 3 0 = S1 at hP hD
  have hsa1 : pd_sa S S1 := by rw [← eS1]; exact pd_sa_73 S 0
  have hsa : ∀ v, pd_sa S (pd_st S1 7 3 v) := fun v => pd_sa_tr hsa1 (pd_sa_73 S1 v)
  have h173 : S1 7 3 = 0 := by rw [← eS1, pd_self]
  have hb1 : ∀ b, b ≠ 7 → S1 b = S b := fun b hb => by rw [← eS1, pd_bk _ hb]
  have hv1 := pd_sa_v hsa1 hv
  refine lv_iload_n hx hb d_MO_crash_5 rfl (lv_at hl 1 rfl) ?_
  refine pw_callip (va_runS (As := [.int f]) (rest := []) ⟨hx, hb, hml, hown, hg⟩ (c_MO_noFile l dC dI cI cB cE cL cZ (mw n am cI cL cZ S1) f H.size) (cwS 1 hg (gi_S (fun _ h => h) (wG_m11 (List.mem_of_getElem? (i := 38) rfl)) (wG_m11 (List.mem_of_getElem? (i := 39) rfl)) (wG_m1 (List.mem_of_getElem? (i := 6) rfl)) (wG_m12 (List.mem_of_getElem? (i := 0) rfl))) rfl rfl rfl (by decide +kernel) ⟨Nat.le_of_ble_eq_true rfl, Nat.le_of_ble_eq_true rfl⟩) (pw_ps hK hP hD [.int f]) rfl rfl hl.1 rfl (lv_room (Nat.le_of_ble_eq_true rfl)) d_MO_crash_6 ⟨Nat.le_of_ble_eq_true rfl, Nat.le_of_ble_eq_true rfl⟩) hD hS hA (fun r2 H locs hr hP hD hS => ?_)
  rcases hr with ⟨i, hi, rfl, rfl⟩ | ⟨hno, rfl⟩
  · refine pq_if_eq (tgt := 18) hx hb (by omega) d_MO_crash_9 (by decide) (fun _ => ?_) (fun h9 => absurd h9 (by omega))
    have hl1 : S1 6 i ≤ S1 4 (2 * i) := by rw [hb1 6 (by decide), hb1 4 (by decide)]; exact hlw i hi
    refine lv_iload_n hx hb d_MO_crash_18 rfl (lv_at hl 2 rfl) ?_
    refine lv_if_ge (tgt := 28) hx hb d_MO_crash_19 (by decide) (fun h1 => ?_) (fun h1 => ?_)
    · obtain ⟨k, hk, rfl⟩ := nI_of (Int32.not_lt.mpr h1)
      refine lv_aload_n hx hb d_MO_crash_28 rfl (lv_at hl 0 rfl) ?_
      refine lv_iload_n hx hb d_MO_crash_29 rfl (lv_at hl 1 rfl) ?_
      refine lv_iload_n hx hb d_MO_crash_30 rfl (lv_at hl 2 rfl) ?_
      refine pw_callv (va_runV (As := [.int (nI i), .int (nI k)]) (rest := []) ⟨hx, hb, hml, hown, hg⟩ (c_MO_breaks l dC dI cI cB cE cL cZ n am S1 i k hi hv1 hl1 hk H.size) (cwV 2 hg (gi_V (fun _ h => h) (wG_m13 (List.mem_of_getElem? (i := 6) rfl)) (wG_m13 (List.mem_of_getElem? (i := 7) rfl)) (wG_m14 (List.mem_of_getElem? (i := 19) rfl)) (wG_m1 (List.mem_of_getElem? (i := 6) rfl)) (wG_m13 (List.mem_of_getElem? (i := 8) rfl))) rfl rfl rfl (by decide +kernel) ⟨Nat.le_of_ble_eq_true rfl, Nat.le_of_ble_eq_true rfl⟩) (pw_pv hK hP hD (va_recv hK hP (ci := 4) (q0 := 0) rfl mw_g0) [.int (nI i), .int (nI k)]) rfl rfl hl.1 rfl (lv_room (Nat.le_of_ble_eq_true rfl)) d_MO_crash_31 ⟨Nat.le_of_ble_eq_true rfl, Nat.le_of_ble_eq_true rfl⟩) hD hS hA (fun S2 H locs hr hP hD hS => ?_)
      refine lv_aload_n hx hb d_MO_crash_34 rfl (lv_at hl 0 rfl) ?_
      refine va_get (C := "PageDriveModel") (T := F_MO) (N := 11) hx hb hg iw_MO hown hK hP (0) mw_g0 rfl 6 (by decide) (hg (Cond.fieldLink "PageDriveModel" 20 "PageDriveModel" "sizes" "[I") (wG_m10 (List.mem_of_getElem? (i := 29) rfl))) (fun _ h9 => h9) rfl d_MO_crash_35 ?_
      refine lv_iconst (v := nI 2) hx hb d_MO_crash_38 (by decide) ?_
      refine lv_iload_n hx hb d_MO_crash_39 rfl (lv_at hl 1 rfl) ?_
      refine pq_imul hx hb d_MO_crash_40 ?_
      refine pq_iald hx hb hK hP 4 0 mw_g4 rfl (by omega) (by omega) d_MO_crash_41 ?_
      exact W.iret (v := (nI (S2 4 (2 * i)))) hx hb hret (fun t9 ht9 hW9 => ⟨⟨_, S2, rfl, Or.inr (Or.inr ⟨by rw [hr.2, h173], i, k, hi, rfl, hk, rfl, rfl, pd_fal_sa hi hsa1 hr.1⟩), by rw [ht9]; exact hP, va_K.moved hW9.alike hK, hD⟩, hS.F ht9⟩) hS.2.2 d_MO_crash_42
    · refine lv_aload_n hx hb d_MO_crash_22 rfl (lv_at hl 0 rfl) ?_
      refine lv_iconst (v := nI 2) hx hb d_MO_crash_23 (by decide) ?_
      refine pw_calli (va_runV (As := [.int (nI 2)]) (rest := []) ⟨hx, hb, hml, hown, hg⟩ (c_MO_fail l dC dI cI cB cE cL cZ n am S1 2 H.size) (cwV 1 hg (gi_V (fun _ h => h) (wG_m11 (List.mem_of_getElem? (i := 30) rfl)) (wG_m11 (List.mem_of_getElem? (i := 31) rfl)) (wG_m14 (List.mem_of_getElem? (i := 11) rfl)) (wG_m1 (List.mem_of_getElem? (i := 6) rfl)) (wG_m11 (List.mem_of_getElem? (i := 32) rfl))) rfl rfl rfl (by decide +kernel) ⟨Nat.le_of_ble_eq_true rfl, Nat.le_of_ble_eq_true rfl⟩) (pw_pv hK hP hD (va_recv hK hP (ci := 4) (q0 := 0) rfl mw_g0) [.int (nI 2)]) rfl rfl hl.1 rfl (lv_room (Nat.le_of_ble_eq_true rfl)) d_MO_crash_24 ⟨Nat.le_of_ble_eq_true rfl, Nat.le_of_ble_eq_true rfl⟩) hD hS hA (fun rf S2 H locs hr hP hD hS => ?_)
      obtain ⟨rfl, eS2⟩ := hr
      exact W.iret (v := (nI 0)) hx hb hret (fun t9 ht9 hW9 => ⟨⟨_, S2, rfl, Or.inr (Or.inl ⟨by rw [eS2, pd_self], ⟨i, hi, rfl, Int32.not_le.mp h1⟩, by rw [eS2]; exact hsa 2⟩), by rw [ht9]; exact hP, va_K.moved hW9.alike hK, hD⟩, hS.F ht9⟩) hS.2.2 d_MO_crash_27
  · refine pq_if_eq (tgt := 18) hx hb (by omega) d_MO_crash_9 (by decide) (fun h9 => absurd h9 (by omega)) (fun _ => ?_)
    refine lv_aload_n hx hb d_MO_crash_12 rfl (lv_at hl 0 rfl) ?_
    refine lv_iconst (v := nI 1) hx hb d_MO_crash_13 (by decide) ?_
    refine pw_calli (va_runV (As := [.int (nI 1)]) (rest := []) ⟨hx, hb, hml, hown, hg⟩ (c_MO_fail l dC dI cI cB cE cL cZ n am S1 1 H.size) (cwV 1 hg (gi_V (fun _ h => h) (wG_m11 (List.mem_of_getElem? (i := 30) rfl)) (wG_m11 (List.mem_of_getElem? (i := 31) rfl)) (wG_m14 (List.mem_of_getElem? (i := 11) rfl)) (wG_m1 (List.mem_of_getElem? (i := 6) rfl)) (wG_m11 (List.mem_of_getElem? (i := 32) rfl))) rfl rfl rfl (by decide +kernel) ⟨Nat.le_of_ble_eq_true rfl, Nat.le_of_ble_eq_true rfl⟩) (pw_pv hK hP hD (va_recv hK hP (ci := 4) (q0 := 0) rfl mw_g0) [.int (nI 1)]) rfl rfl hl.1 rfl (lv_room (Nat.le_of_ble_eq_true rfl)) d_MO_crash_14 ⟨Nat.le_of_ble_eq_true rfl, Nat.le_of_ble_eq_true rfl⟩) hD hS hA (fun rf S2 H locs hr hP hD hS => ?_)
    obtain ⟨rfl, eS2⟩ := hr
    exact W.iret (v := (nI 0)) hx hb hret (fun t9 ht9 hW9 => ⟨⟨_, S2, rfl, Or.inl ⟨by rw [eS2, pd_self], hno, by rw [eS2]; exact hsa 1⟩, by rw [ht9]; exact hP, va_K.moved hW9.alike hK, hD⟩, hS.F ht9⟩) hS.2.2 d_MO_crash_17
