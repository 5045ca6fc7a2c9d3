/-! THE CLASS, 3: asking -/
set_option maxHeartbeats 4000000 in
set_option maxRecDepth 100000 in
/-- mustCopyLast -/
theorem c_PD_mustCopyLast (l : Launch) (dC : Nat → ClassId) (dI : Nat → Nat → Nat) (cI cB cE cL cZ : ClassId) (n : Nat) (ad : Nat → Nat) (S : pdS) (cc af : Nat) (hn : n ≤ 1024) (hv : pd_v n S) (ho : pd_ok n S (pd_ct S)) (hc : cc < 32) (haf : S 4 cc ≤ af) (haf2 : af < 1000000) (sz : Nat) : CMi l (dC, dI) (pw_ty cI cB cE cL cZ) y_PD_mustCopyLast w_PD_mustCopyLast ({ frames := 1, cells := 0, slots := 0, locals := 21 }) [.ref (ad 0), .ref (ad (23 + cc)), .int (nI af)] (pw n ad cI cB cE S) (fun _ : Unit => pw n ad cI cB cE S) sz (fun r _ => (pd_cp S cc (af - S 4 cc) ∧ r = nI 1) ∨ (¬ pd_cp S cc (af - S 4 cc) ∧ r = nI 0)) := by
  refine Met.ofW (cc := b_PD_mustCopyLast) (maxL := 3) (ret := (some .boolean)) (by decide) rfl ?_
  intro p e s m args below meth c s₁ B hml hv
  obtain ⟨rfl, hsz, hP, hK, hD0⟩ := hv
  have hx := B.exec
  have hb := B.bytes
  have hret := B.returns
  have hts := atoms_spec (ws := w_PD_mustCopyLast) B.pre
  have hg : ∀ w ∈ wsG, w.before _ s = true := fun w h => hts w (List.mem_cons_of_mem _ h)
  have hown : s.vm.findClass "PageDrive" = some m.cls := findClass_of_methodNamed B.named
  have hlocks := B.notSynchronized
  subst hsz
  have hD := hD0.self (sz := s.heap.size)
  generalize hAe : va_A (pw n ad cI cB cE S) s.heap.size = A at hD ⊢
  have hA : ∀ q : Nat, s.heap.size ≤ q → A q := fun q h => by rw [← hAe]; exact Or.inr h
  have hS : va_S A s.heap s.heap [] := va_S.rf
  have hl := lv_entry ([.ref (ad 0), .ref (ad (23 + cc)), .int (nI af)]) (n := 3) (Nat.le_of_ble_eq_true rfl)
  rw [lg_entry_eq]
  generalize (lg_sl ([.ref (ad 0), .ref (ad (23 + cc)), .int (nI af)]) ++ List.replicate (3 - (lg_sl ([.ref (ad 0), .ref (ad (23 + cc)), .int (nI af)])).length) Slot.unset).toArray = ls at hl ⊢
  have hl : lv_has ls 3 [(0, .ref (ad 0)), (1, .ref (ad (23 + cc))), (2, .int (nI af))] := hl
  have hs4 := (hv.1 cc hc).1
  refine lv_iload_n hx hb d_PD_mustCopyLast_0 rfl (lv_at hl 2 rfl) ?_
  refine lv_aload_n hx hb d_PD_mustCopyLast_1 rfl (lv_at hl 1 rfl) ?_
  refine va_get (C := "PageDrive$Content") (T := F_CO) (N := 3) hx hb hg iw_CO hown hK hP (23 + cc) (pw_gC (i := cc) (by omega)) rfl 1 (by decide) (hg (Cond.fieldLink "PageDrive" 67 "PageDrive$Content" "size" "I") (wG_m2 (List.mem_of_getElem? (i := 34) rfl))) (fun _ h9 => h9) rfl d_PD_mustCopyLast_2 ?_
  refine pq_icmp_le (tgt := 44) hx hb (by omega) (by omega) d_PD_mustCopyLast_5 (by decide) (fun h1 => ?_) (fun h1 => ?_)
  · refine lv_iconst (v := nI 0) hx hb d_PD_mustCopyLast_44 (by decide) ?_
    exact W.zret (v := (nI 0)) hx hb hret rfl (fun t9 ht9 hW9 => ⟨⟨_, (), rfl, Or.inr ⟨fun q => by have := q.1; omega, rfl⟩, by rw [ht9]; exact hP, va_K.moved hW9.alike hK, hD⟩, hS.F ht9⟩) hS.2.2 d_PD_mustCopyLast_45
  · refine lv_aload_n hx hb d_PD_mustCopyLast_8 rfl (lv_at hl 1 rfl) ?_
    refine va_get (C := "PageDrive$Content") (T := F_CO) (N := 3) hx hb hg iw_CO hown hK hP (23 + cc) (pw_gC (i := cc) (by omega)) rfl 1 (by decide) (hg (Cond.fieldLink "PageDrive" 67 "PageDrive$Content" "size" "I") (wG_m2 (List.mem_of_getElem? (i := 34) rfl))) (fun _ h9 => h9) rfl d_PD_mustCopyLast_9 ?_
    refine lv_bipush (v := nI 64) hx hb d_PD_mustCopyLast_12 (by decide) ?_
    refine pq_irem hx hb (by omega) (by omega) (by omega) d_PD_mustCopyLast_14 ?_
    refine pq_if_eq (tgt := 44) hx hb (by omega) d_PD_mustCopyLast_15 (by decide) (fun h2 => ?_) (fun h2 => ?_)
    · refine lv_iconst (v := nI 0) hx hb d_PD_mustCopyLast_44 (by decide) ?_
      exact W.zret (v := (nI 0)) hx hb hret rfl (fun t9 ht9 hW9 => ⟨⟨_, (), rfl, Or.inr ⟨fun q => absurd h2 q.2.1, rfl⟩, by rw [ht9]; exact hP, va_K.moved hW9.alike hK, hD⟩, hS.F ht9⟩) hS.2.2 d_PD_mustCopyLast_45
    · have hl0 : S 4 cc / 64 < pd_pf (S 4 cc) := by unfold pd_pf; omega
      have hpg := hv.2.1 cc (S 4 cc / 64) hc hl0
      have hs1 := ho.1 _ hpg
      have hbd := pd_ct_bd hv (S (8 + cc) (S 4 cc / 64))
      refine lv_aload_n hx hb d_PD_mustCopyLast_18 rfl (lv_at hl 0 rfl) ?_
      refine va_get (C := "PageDrive") (T := F_PD) (N := 4) hx hb hg iw_PD hown hK hP (0) pw_g0 rfl 0 (by decide) (hg (Cond.fieldLink "PageDrive" 23 "PageDrive" "pool" "LPageDrive$Pool;") (wG_m3 (List.mem_of_getElem? (i := 17) rfl))) (fun _ h9 => h9) rfl d_PD_mustCopyLast_19 ?_
      refine lv_aload_n hx hb d_PD_mustCopyLast_22 rfl (lv_at hl 1 rfl) ?_
      refine va_get (C := "PageDrive$Content") (T := F_CO) (N := 3) hx hb hg iw_CO hown hK hP (23 + cc) (pw_gC (i := cc) (by omega)) rfl 0 (by decide) (hg (Cond.fieldLink "PageDrive" 171 "PageDrive$Content" "row" "[I") (wG_m2 (List.mem_of_getElem? (i := 32) rfl))) (fun _ h9 => h9) rfl d_PD_mustCopyLast_23 ?_
      refine lv_aload_n hx hb d_PD_mustCopyLast_26 rfl (lv_at hl 1 rfl) ?_
      refine va_get (C := "PageDrive$Content") (T := F_CO) (N := 3) hx hb hg iw_CO hown hK hP (23 + cc) (pw_gC (i := cc) (by omega)) rfl 1 (by decide) (hg (Cond.fieldLink "PageDrive" 67 "PageDrive$Content" "size" "I") (wG_m2 (List.mem_of_getElem? (i := 34) rfl))) (fun _ h9 => h9) rfl d_PD_mustCopyLast_27 ?_
      refine lv_bipush (v := nI 64) hx hb d_PD_mustCopyLast_30 (by decide) ?_
      refine pq_idiv hx hb (by omega) (by omega) (by omega) d_PD_mustCopyLast_32 ?_
      refine pq_iald hx hb hK hP (55 + cc) 0 (pw_gR (i := cc) (by omega)) rfl (by omega) (by omega) d_PD_mustCopyLast_33 ?_
      refine pw_callip (va_runV (As := [.int (nI (S (8 + cc) ((S 4 cc) / 64)))]) (rest := []) ⟨hx, hb, hml, hown, hg⟩ (c_PO_isShared l dC dI cI cB cE cL cZ n ad S (S (8 + cc) (S 4 cc / 64)) hpg hn (by omega) s.heap.size) (cwV 1 hg (gi_V (fun _ h => h) (wG_m7 (List.mem_of_getElem? (i := 28) rfl)) (wG_m7 (List.mem_of_getElem? (i := 29) rfl)) (wG_m7 (List.mem_of_getElem? (i := 30) rfl)) (wG_m1 (List.mem_of_getElem? (i := 2) rfl)) (wG_m7 (List.mem_of_getElem? (i := 31) rfl))) rfl rfl rfl (by decide +kernel) ⟨Nat.le_of_ble_eq_true rfl, Nat.le_of_ble_eq_true rfl⟩) (pw_pv hK hP hD (va_recv hK hP (ci := 1) (q0 := 1) rfl pw_g1) [.int (nI (S (8 + cc) ((S 4 cc) / 64)))]) rfl rfl hl.1 rfl (lv_room (Nat.le_of_ble_eq_true rfl)) d_PD_mustCopyLast_34 ⟨Nat.le_of_ble_eq_true rfl, Nat.le_of_ble_eq_true rfl⟩) hD hS hA (fun r1 H locs hr hP hD hS => ?_)
      rcases hr with ⟨h3, rfl⟩ | ⟨h3, rfl⟩
      · refine pq_if_eq (tgt := 44) hx hb (by omega) d_PD_mustCopyLast_37 (by decide) (fun h9 => absurd h9 (by omega)) (fun _ => ?_)
        refine lv_iconst (v := nI 1) hx hb d_PD_mustCopyLast_40 (by decide) ?_
        refine lv_goto (tgt := 45) hx hb d_PD_mustCopyLast_41 (by decide) ?_
        exact W.zret (v := (nI 1)) hx hb hret rfl (fun t9 ht9 hW9 => ⟨⟨_, (), rfl, Or.inl ⟨⟨by omega, h2, by omega⟩, rfl⟩, by rw [ht9]; exact hP, va_K.moved hW9.alike hK, hD⟩, hS.F ht9⟩) hS.2.2 d_PD_mustCopyLast_45
      · refine pq_if_eq (tgt := 44) hx hb (by omega) d_PD_mustCopyLast_37 (by decide) (fun _ => ?_) (fun h9 => absurd h9 (by omega))
        refine lv_iconst (v := nI 0) hx hb d_PD_mustCopyLast_44 (by decide) ?_
        exact W.zret (v := (nI 0)) hx hb hret rfl (fun t9 ht9 hW9 => ⟨⟨_, (), rfl, Or.inr ⟨fun q => by have := q.2.2; omega, rfl⟩, by rw [ht9]; exact hP, va_K.moved hW9.alike hK, hD⟩, hS.F ht9⟩) hS.2.2 d_PD_mustCopyLast_45
def pd_rm (S : pdS) (cc add : Nat) : Prop := pd_pf (S 4 cc + add) ≤ 400 ∧ ((pd_cp S cc add ∧ pd_pf (S 4 cc + add) - pd_pf (S 4 cc) + 1 ≤ S 7 0) ∨ (¬ pd_cp S cc add ∧ pd_pf (S 4 cc + add) - pd_pf (S 4 cc) ≤ S 7 0))
set_option maxHeartbeats 4000000 in
set_option maxRecDepth 100000 in
/-- hasRoom -/
theorem c_PD_hasRoom (l : Launch) (dC : Nat → ClassId) (dI : Nat → Nat → Nat) (cI cB cE cL cZ : ClassId) (n : Nat) (ad : Nat → Nat) (S : pdS) (cc add : Nat) (hn : n ≤ 1024) (hv : pd_v n S) (ho : pd_ok n S (pd_ct S)) (hc : cc < 32) (haf2 : S 4 cc + add < 1000000) (sz : Nat) : CMi l (dC, dI) (pw_ty cI cB cE cL cZ) y_PD_hasRoom w_PD_hasRoom ({ frames := 2, cells := 0, slots := 0, locals := 43 }) [.ref (ad 0), .ref (ad (23 + cc)), .int (nI (S 4 cc + add))] (pw n ad cI cB cE S) (fun _ : Unit => pw n ad cI cB cE S) sz (fun r _ => (pd_rm S cc add ∧ r = nI 1) ∨ (¬ pd_rm S cc add ∧ r = nI 0)) := by
  refine Met.ofW (cc := b_PD_hasRoom) (maxL := 4) (ret := (some .boolean)) (by decide) rfl ?_
  intro p e s m args below meth c s₁ B hml hv
  obtain ⟨rfl, hsz, hP, hK, hD0⟩ := hv
  have hx := B.exec
  have hb := B.bytes
  have hret := B.returns
  have hts := atoms_spec (ws := w_PD_hasRoom) B.pre
  have hg : ∀ w ∈ wsG, w.before _ s = true := fun w h => hts w (List.mem_cons_of_mem _ h)
  have hown : s.vm.findClass "PageDrive" = some m.cls := findClass_of_methodNamed B.named
  have hlocks := B.notSynchronized
  subst hsz
  have hD := hD0.self (sz := s.heap.size)
  generalize hAe : va_A (pw n ad cI cB cE S) s.heap.size = A at hD ⊢
  have hA : ∀ q : Nat, s.heap.size ≤ q → A q := fun q h => by rw [← hAe]; exact Or.inr h
  have hS : va_S A s.heap s.heap [] := va_S.rf
  have hl := lv_entry ([.ref (ad 0), .ref (ad (23 + cc)), .int (nI (S 4 cc + add))]) (n := 4) (Nat.le_of_ble_eq_true rfl)
  rw [lg_entry_eq]
  generalize (lg_sl ([.ref (ad 0), .ref (ad (23 + cc)), .int (nI (S 4 cc + add))]) ++ List.replicate (4 - (lg_sl ([.ref (ad 0), .ref (ad (23 + cc)), .int (nI (S 4 cc + add))])).length) Slot.unset).toArray = ls at hl ⊢
  have hl : lv_has ls 4 [(0, .ref (ad 0)), (1, .ref (ad (23 + cc))), (2, .int (nI (S 4 cc + add)))] := hl
  have hs4 := (hv.1 cc hc).1
  have hm := pd_pf_mono (show S 4 cc ≤ S 4 cc + add by omega)
  have hu : S 7 0 ≤ n := by have := ho.2.2.2; omega
  have hpb : pd_pf (S 4 cc + add) < 1000000 := by unfold pd_pf; omega
  refine lv_iload_n hx hb d_PD_hasRoom_0 rfl (lv_at hl 2 rfl) ?_
  refine pw_callip (va_runS (As := [.int (nI (S 4 cc + add))]) (rest := []) ⟨hx, hb, hml, hown, hg⟩ (c_PD_pagesFor l dC dI cI cB cE cL cZ (pw n ad cI cB cE S) (S 4 cc + add) (by omega) s.heap.size) (cwS 1 hg (gi_S (fun _ h => h) (wG_m4 (List.mem_of_getElem? (i := 6) rfl)) (wG_m4 (List.mem_of_getElem? (i := 7) rfl)) (wG_m1 (List.mem_of_getElem? (i := 1) rfl)) (wG_m4 (List.mem_of_getElem? (i := 8) rfl))) rfl rfl rfl (by decide +kernel) ⟨Nat.le_of_ble_eq_true rfl, Nat.le_of_ble_eq_true rfl⟩) (pw_ps hK hP hD [.int (nI (S 4 cc + add))]) rfl rfl hl.1 rfl (lv_room (Nat.le_of_ble_eq_true rfl)) d_PD_hasRoom_1 ⟨Nat.le_of_ble_eq_true rfl, Nat.le_of_ble_eq_true rfl⟩) hD hS hA (fun r1 H locs hr hP hD hS => ?_)
  subst hr
  refine lv_aload_n hx hb d_PD_hasRoom_4 rfl (lv_at hl 1 rfl) ?_
  refine va_get (C := "PageDrive$Content") (T := F_CO) (N := 3) hx hb hg iw_CO hown hK hP (23 + cc) (pw_gC (i := cc) (by omega)) rfl 1 (by decide) (hg (Cond.fieldLink "PageDrive" 67 "PageDrive$Content" "size" "I") (wG_m2 (List.mem_of_getElem? (i := 34) rfl))) (fun _ h9 => h9) rfl d_PD_hasRoom_5 ?_
  refine pw_callip (va_runS (As := [.int (nI (S 4 cc))]) (rest := [.int (nI (pd_pf (S 4 cc + add)))]) ⟨hx, hb, hml, hown, hg⟩ (c_PD_pagesFor l dC dI cI cB cE cL cZ (pw n ad cI cB cE S) (S 4 cc) (by omega) H.size) (cwS 1 hg (gi_S (fun _ h => h) (wG_m4 (List.mem_of_getElem? (i := 6) rfl)) (wG_m4 (List.mem_of_getElem? (i := 7) rfl)) (wG_m1 (List.mem_of_getElem? (i := 1) rfl)) (wG_m4 (List.mem_of_getElem? (i := 8) rfl))) rfl rfl rfl (by decide +kernel) ⟨Nat.le_of_ble_eq_true rfl, Nat.le_of_ble_eq_true rfl⟩) (pw_ps hK hP hD [.int (nI (S 4 cc))]) rfl rfl hl.1 rfl (lv_room (Nat.le_of_ble_eq_true rfl)) d_PD_hasRoom_8 ⟨Nat.le_of_ble_eq_true rfl, Nat.le_of_ble_eq_true rfl⟩) hD hS hA (fun r2 H locs hr hP hD hS => ?_)
  subst hr
  refine pq_isub hx hb (by omega) d_PD_hasRoom_11 ?_
  refine lv_aload_n hx hb d_PD_hasRoom_12 rfl (lv_at hl 0 rfl) ?_
  refine lv_aload_n hx hb d_PD_hasRoom_13 rfl (lv_at hl 1 rfl) ?_
  refine lv_iload_n hx hb d_PD_hasRoom_14 rfl (lv_at hl 2 rfl) ?_
  refine pw_callip (va_runV (As := [.ref (ad (23 + cc)), .int (nI (S 4 cc + add))]) (rest := [.int (nI ((pd_pf (S 4 cc + add)) - (pd_pf (S 4 cc))))]) ⟨hx, hb, hml, hown, hg⟩ (c_PD_mustCopyLast l dC dI cI cB cE cL cZ n ad S cc (S 4 cc + add) hn hv ho hc (by omega) haf2 H.size) (cwV 2 hg (gi_V (fun _ h => h) (wG_m7 (List.mem_of_getElem? (i := 25) rfl)) (wG_m7 (List.mem_of_getElem? (i := 26) rfl)) (wG_m14 (List.mem_of_getElem? (i := 7) rfl)) (wG_m1 (List.mem_of_getElem? (i := 1) rfl)) (wG_m7 (List.mem_of_getElem? (i := 27) rfl))) rfl rfl rfl (by decide +kernel) ⟨Nat.le_of_ble_eq_true rfl, Nat.le_of_ble_eq_true rfl⟩) (pw_pv hK hP hD (va_recv hK hP (ci := 0) (q0 := 0) rfl pw_g0) [.ref (ad (23 + cc)), .int (nI (S 4 cc + add))]) rfl rfl hl.1 rfl (lv_room (Nat.le_of_ble_eq_true rfl)) d_PD_hasRoom_15 ⟨Nat.le_of_ble_eq_true rfl, Nat.le_of_ble_eq_true rfl⟩) hD hS hA (fun r3 H locs hr hP hD hS => ?_)
  rw [Nat.add_sub_cancel_left] at hr
  generalize hne : pd_pf (S 4 cc + add) - pd_pf (S 4 cc) = need
  rcases hr with ⟨h3, rfl⟩ | ⟨h3, rfl⟩
  · refine pq_if_eq (tgt := 25) hx hb (by omega) d_PD_hasRoom_18 (by decide) (fun h9 => absurd h9 (by omega)) (fun _ => ?_)
    refine lv_iconst (v := nI 1) hx hb d_PD_hasRoom_21 (by decide) ?_
    refine lv_goto (tgt := 26) hx hb d_PD_hasRoom_22 (by decide) ?_
    refine pq_iadd hx hb d_PD_hasRoom_26 ?_
    refine lv_istore_n (lv' := [(3, .int (nI (need + 1))), (0, .ref (ad 0)), (1, .ref (ad (23 + cc))), (2, .int (nI (S 4 cc + add)))]) hx hb d_PD_hasRoom_27 rfl hl (by decide) rfl (fun ls hl => ?_)
    refine lv_iload_n hx hb d_PD_hasRoom_28 rfl (lv_at hl 3 rfl) ?_
    refine pw_callip (va_runS (As := [.int (nI (S 4 cc + add))]) (rest := []) ⟨hx, hb, hml, hown, hg⟩ (c_PD_pagesFor l dC dI cI cB cE cL cZ (pw n ad cI cB cE S) (S 4 cc + add) (by omega) H.size) (cwS 1 hg (gi_S (fun _ h => h) (wG_m4 (List.mem_of_getElem? (i := 6) rfl)) (wG_m4 (List.mem_of_getElem? (i := 7) rfl)) (wG_m1 (List.mem_of_getElem? (i := 1) rfl)) (wG_m4 (List.mem_of_getElem? (i := 8) rfl))) rfl rfl rfl (by decide +kernel) ⟨Nat.le_of_ble_eq_true rfl, Nat.le_of_ble_eq_true rfl⟩) (pw_ps hK hP hD [.int (nI (S 4 cc + add))]) rfl rfl hl.1 rfl (lv_room (Nat.le_of_ble_eq_true rfl)) d_PD_hasRoom_29 ⟨Nat.le_of_ble_eq_true rfl, Nat.le_of_ble_eq_true rfl⟩) hD hS hA (fun r3 H locs hr hP hD hS => ?_)
    subst hr
    refine lv_sipush (v := nI 400) hx hb d_PD_hasRoom_32 (by decide) ?_
    refine pq_icmp_gt (tgt := 53) hx hb (by omega) (by omega) d_PD_hasRoom_35 (by decide) (fun h4 => ?_) (fun h4 => ?_)
    · refine lv_iconst (v := nI 0) hx hb d_PD_hasRoom_53 (by decide) ?_
      exact W.zret (v := (nI 0)) hx hb hret rfl (fun t9 ht9 hW9 => ⟨⟨_, (), rfl, Or.inr ⟨fun q => by have := q.1; omega, rfl⟩, by rw [ht9]; exact hP, va_K.moved hW9.alike hK, hD⟩, hS.F ht9⟩) hS.2.2 d_PD_hasRoom_54
    · refine lv_iload_n hx hb d_PD_hasRoom_38 rfl (lv_at hl 0 rfl) ?_
      refine lv_aload_n hx hb d_PD_hasRoom_39 rfl (lv_at hl 1 rfl) ?_
      refine va_get (C := "PageDrive") (T := F_PD) (N := 4) hx hb hg iw_PD hown hK hP (0) pw_g0 rfl 0 (by decide) (hg (Cond.fieldLink "PageDrive" 23 "PageDrive" "pool" "LPageDrive$Pool;") (wG_m3 (List.mem_of_getElem? (i := 17) rfl))) (fun _ h9 => h9) rfl d_PD_hasRoom_40 ?_
      refine va_get (C := "PageDrive$Pool") (T := F_PO) (N := 6) hx hb hg iw_PO hown hK hP (1) pw_g1 rfl 4 (by decide) (hg (Cond.fieldLink "PageDrive" 162 "PageDrive$Pool" "unusedCount" "I") (wG_m2 (List.mem_of_getElem? (i := 3) rfl))) (fun _ h9 => h9) rfl d_PD_hasRoom_43 ?_
      refine pq_icmp_gt (tgt := 53) hx hb (by omega) (by omega) d_PD_hasRoom_46 (by decide) (fun h5 => ?_) (fun h5 => ?_)
      · refine lv_iconst (v := nI 0) hx hb d_PD_hasRoom_53 (by decide) ?_
        exact W.zret (v := (nI 0)) hx hb hret rfl (fun t9 ht9 hW9 => ⟨⟨_, (), rfl, Or.inr ⟨fun q => by rcases q.2 with ⟨q1, q2⟩ | ⟨q1, q2⟩ <;> first | exact absurd h3 q1 | exact absurd q1 h3 | omega, rfl⟩, by rw [ht9]; exact hP, va_K.moved hW9.alike hK, hD⟩, hS.F ht9⟩) hS.2.2 d_PD_hasRoom_54
      · refine lv_iconst (v := nI 1) hx hb d_PD_hasRoom_49 (by decide) ?_
        refine lv_goto (tgt := 54) hx hb d_PD_hasRoom_50 (by decide) ?_
        exact W.zret (v := (nI 1)) hx hb hret rfl (fun t9 ht9 hW9 => ⟨⟨_, (), rfl, Or.inl ⟨⟨by omega, Or.inl ⟨h3, by omega⟩⟩, rfl⟩, by rw [ht9]; exact hP, va_K.moved hW9.alike hK, hD⟩, hS.F ht9⟩) hS.2.2 d_PD_hasRoom_54
  · refine pq_if_eq (tgt := 25) hx hb (by omega) d_PD_hasRoom_18 (by decide) (fun _ => ?_) (fun h9 => absurd h9 (by omega))
    refine lv_iconst (v := nI 0) hx hb d_PD_hasRoom_25 (by decide) ?_
    refine pq_iadd hx hb d_PD_hasRoom_26 ?_
    refine lv_istore_n (lv' := [(3, .int (nI (need + 0))), (0, .ref (ad 0)), (1, .ref (ad (23 + cc))), (2, .int (nI (S 4 cc + add)))]) hx hb d_PD_hasRoom_27 rfl hl (by decide) rfl (fun ls hl => ?_)
    refine lv_iload_n hx hb d_PD_hasRoom_28 rfl (lv_at hl 3 rfl) ?_
    refine pw_callip (va_runS (As := [.int (nI (S 4 cc + add))]) (rest := []) ⟨hx, hb, hml, hown, hg⟩ (c_PD_pagesFor l dC dI cI cB cE cL cZ (pw n ad cI cB cE S) (S 4 cc + add) (by omega) H.size) (cwS 1 hg (gi_S (fun _ h => h) (wG_m4 (List.mem_of_getElem? (i := 6) rfl)) (wG_m4 (List.mem_of_getElem? (i := 7) rfl)) (wG_m1 (List.mem_of_getElem? (i := 1) rfl)) (wG_m4 (List.mem_of_getElem? (i := 8) rfl))) rfl rfl rfl (by decide +kernel) ⟨Nat.le_of_ble_eq_true rfl, Nat.le_of_ble_eq_true rfl⟩) (pw_ps hK hP hD [.int (nI (S 4 cc + add))]) rfl rfl hl.1 rfl (lv_room (Nat.le_of_ble_eq_true rfl)) d_PD_hasRoom_29 ⟨Nat.le_of_ble_eq_true rfl, Nat.le_of_ble_eq_true rfl⟩) hD hS hA (fun r4 H locs hr hP hD hS => ?_)
    subst hr
    refine lv_sipush (v := nI 400) hx hb d_PD_hasRoom_32 (by decide) ?_
    refine pq_icmp_gt (tgt := 53) hx hb (by omega) (by omega) d_PD_hasRoom_35 (by decide) (fun h4 => ?_) (fun h4 => ?_)
    · refine lv_iconst (v := nI 0) hx hb d_PD_hasRoom_53 (by decide) ?_
      exact W.zret (v := (nI 0)) hx hb hret rfl (fun t9 ht9 hW9 => ⟨⟨_, (), rfl, Or.inr ⟨fun q => by have := q.1; omega, rfl⟩, by rw [ht9]; exact hP, va_K.moved hW9.alike hK, hD⟩, hS.F ht9⟩) hS.2.2 d_PD_hasRoom_54
    · refine lv_iload_n hx hb d_PD_hasRoom_38 rfl (lv_at hl 0 rfl) ?_
      refine lv_aload_n hx hb d_PD_hasRoom_39 rfl (lv_at hl 1 rfl) ?_
      refine va_get (C := "PageDrive") (T := F_PD) (N := 4) hx hb hg iw_PD hown hK hP (0) pw_g0 rfl 0 (by decide) (hg (Cond.fieldLink "PageDrive" 23 "PageDrive" "pool" "LPageDrive$Pool;") (wG_m3 (List.mem_of_getElem? (i := 17) rfl))) (fun _ h9 => h9) rfl d_PD_hasRoom_40 ?_
      refine va_get (C := "PageDrive$Pool") (T := F_PO) (N := 6) hx hb hg iw_PO hown hK hP (1) pw_g1 rfl 4 (by decide) (hg (Cond.fieldLink "PageDrive" 162 "PageDrive$Pool" "unusedCount" "I") (wG_m2 (List.mem_of_getElem? (i := 3) rfl))) (fun _ h9 => h9) rfl d_PD_hasRoom_43 ?_
      refine pq_icmp_gt (tgt := 53) hx hb (by omega) (by omega) d_PD_hasRoom_46 (by decide) (fun h5 => ?_) (fun h5 => ?_)
      · refine lv_iconst (v := nI 0) hx hb d_PD_hasRoom_53 (by decide) ?_
        exact W.zret (v := (nI 0)) hx hb hret rfl (fun t9 ht9 hW9 => ⟨⟨_, (), rfl, Or.inr ⟨fun q => by rcases q.2 with ⟨q1, q2⟩ | ⟨q1, q2⟩ <;> first | exact absurd h3 q1 | exact absurd q1 h3 | omega, rfl⟩, by rw [ht9]; exact hP, va_K.moved hW9.alike hK, hD⟩, hS.F ht9⟩) hS.2.2 d_PD_hasRoom_54
      · refine lv_iconst (v := nI 1) hx hb d_PD_hasRoom_49 (by decide) ?_
        refine lv_goto (tgt := 54) hx hb d_PD_hasRoom_50 (by decide) ?_
        exact W.zret (v := (nI 1)) hx hb hret rfl (fun t9 ht9 hW9 => ⟨⟨_, (), rfl, Or.inl ⟨⟨by omega, Or.inr ⟨h3, by omega⟩⟩, rfl⟩, by rw [ht9]; exact hP, va_K.moved hW9.alike hK, hD⟩, hS.F ht9⟩) hS.2.2 d_PD_hasRoom_54
set_option maxHeartbeats 4000000 in
set_option maxRecDepth 100000 in
/-- filesThere -/
theorem c_PD_filesThere (l : Launch) (dC : Nat → ClassId) (dI : Nat → Nat → Nat) (cI cB cE cL cZ : ClassId) (n : Nat) (ad : Nat → Nat) (S : pdS) (h5 : ∀ d, d < 32 → S 5 d ≤ 1) (sz : Nat) : CMi l (dC, dI) (pw_ty cI cB cE cL cZ) y_PD_filesThere w_PD_filesThere ({ frames := 0, cells := 0, slots := 0, locals := 0 }) [.ref (ad 0)] (pw n ad cI cB cE S) (fun _ : Unit => pw n ad cI cB cE S) sz (fun r _ => r = nI (pd_th S)) := by
  refine Met.ofW (cc := b_PD_filesThere) (maxL := 3) (ret := (some .int)) (by decide) rfl ?_
  intro p e s m args below meth c s₁ B hml hv
  obtain ⟨rfl, hsz, hP, hK, hD0⟩ := hv
  have hx := B.exec
  have hb := B.bytes
  have hret := B.returns
  have hts := atoms_spec (ws := w_PD_filesThere) B.pre
  have hg : ∀ w ∈ wsG, w.before _ s = true := fun w h => hts w (List.mem_cons_of_mem _ h)
  have hown : s.vm.findClass "PageDrive" = some m.cls := findClass_of_methodNamed B.named
  have hlocks := B.notSynchronized
  subst hsz
  have hD := hD0.self (sz := s.heap.size)
  generalize hAe : va_A (pw n ad cI cB cE S) s.heap.size = A at hD ⊢
  have hA : ∀ q : Nat, s.heap.size ≤ q → A q := fun q h => by rw [← hAe]; exact Or.inr h
  have hS : va_S A s.heap s.heap [] := va_S.rf
  have hl := lv_entry ([.ref (ad 0)]) (n := 3) (Nat.le_of_ble_eq_true rfl)
  rw [lg_entry_eq]
  generalize (lg_sl ([.ref (ad 0)]) ++ List.replicate (3 - (lg_sl ([.ref (ad 0)])).length) Slot.unset).toArray = ls at hl ⊢
  have hl : lv_has ls 3 [(0, .ref (ad 0))] := hl
  refine lv_iconst (v := nI 0) hx hb d_PD_filesThere_0 (by decide) ?_
  refine lv_istore_n (lv' := [(1, .int (nI 0)), (0, .ref (ad 0))]) hx hb d_PD_filesThere_1 rfl hl (by decide) rfl (fun ls hl => ?_)
  refine lv_iconst (v := nI 0) hx hb d_PD_filesThere_2 (by decide) ?_
  refine lv_istore_n (lv' := [(2, .int (nI 0)), (1, .int (nI 0)), (0, .ref (ad 0))]) hx hb d_PD_filesThere_3 rfl hl (by decide) rfl (fun ls hl => ?_)
  refine pw_loop (fun mm H locs ls => ∃ k : Nat, mm = 16 - k ∧ k ≤ 16 ∧ va_P (dC, dI) pwCl (pw n ad cI cB cE S) H ∧ va_D A (pw n ad cI cB cE S) ∧ va_S A s.heap H locs ∧ lv_has ls 3 [(2, .int (nI k)), (1, .int (nI (pd_sm (fun i => S 5 (2 * i)) k))), (0, .ref (ad 0))]) ?_ _ _ _ _ ⟨0, rfl, by omega, hP, hD, hS, hl⟩
  rintro mm H locs ls ⟨k, hmm, hk, hP, hD, hS, hl⟩ ih
  refine lv_iload_n hx hb d_PD_filesThere_4 rfl (lv_at hl 0 rfl) ?_
  refine lv_bipush (v := nI 16) hx hb d_PD_filesThere_5 (by decide) ?_
  refine pq_icmp_ge (tgt := 34) hx hb (by omega) (by omega) d_PD_filesThere_7 (by decide) (fun h1 => ?_) (fun h1 => ?_)
  · have hk16 : k = 16 := by omega
    subst hk16
    refine lv_iload_n hx hb d_PD_filesThere_34 rfl (lv_at hl 1 rfl) ?_
    exact W.iret (v := (nI (pd_sm (fun i => S 5 (2 * i)) 16))) hx hb hret (fun t9 ht9 hW9 => ⟨⟨_, (), rfl, rfl, by rw [ht9]; exact hP, va_K.moved hW9.alike hK, hD⟩, hS.F ht9⟩) hS.2.2 d_PD_filesThere_35
  · have h50 := h5 (2 * k) (by omega)
    refine lv_aload_n hx hb d_PD_filesThere_10 rfl (lv_at hl 2 rfl) ?_
    refine va_get (C := "PageDrive") (T := F_PD) (N := 4) hx hb hg iw_PD hown hK hP (0) pw_g0 rfl 1 (by decide) (hg (Cond.fieldLink "PageDrive" 29 "PageDrive" "entries" "[LPageDrive$Entry;") (wG_m3 (List.mem_of_getElem? (i := 18) rfl))) (fun _ h9 => h9) rfl d_PD_filesThere_11 ?_
    refine lv_iload_n hx hb d_PD_filesThere_14 rfl (lv_at hl 0 rfl) ?_
    refine pr_ent hx hb hK hP (i := k) (by omega) rfl d_PD_filesThere_15 ?_
    refine va_get (C := "PageDrive$Entry") (T := F_EN) (N := 3) hx hb hg iw_EN hown hK hP (7 + k) (pw_gE (i := k) (by omega)) rfl 0 (by decide) (hg (Cond.fieldLink "PageDrive" 63 "PageDrive$Entry" "now" "LPageDrive$Content;") (wG_m3 (List.mem_of_getElem? (i := 5) rfl))) (fun _ h9 => h9) rfl d_PD_filesThere_16 ?_
    refine va_get (C := "PageDrive$Content") (T := F_CO) (N := 3) hx hb hg iw_CO hown hK hP (23 + (2 * k)) (pw_gC (i := 2 * k) (by omega)) rfl 2 (by decide) (hg (Cond.fieldLink "PageDrive" 91 "PageDrive$Content" "there" "Z") (wG_m2 (List.mem_of_getElem? (i := 36) rfl))) (fun _ h9 => h9) rfl d_PD_filesThere_19 ?_
    refine pq_if_eq (tgt := 28) hx hb (by omega) d_PD_filesThere_22 (by decide) (fun h2 => ?_) (fun h2 => ?_)
    · refine lv_iinc (v := (nI (k + 1))) (lv' := [(2, .int (nI (k + 1))), (1, .int (nI (pd_sm (fun i => S 5 (2 * i)) k))), (0, .ref (ad 0))]) hx hb d_PD_filesThere_28 hl (k := 0) rfl (pq_inc _) (by decide) rfl (fun ls hl => ?_)
      refine lv_goto (tgt := 4) hx hb d_PD_filesThere_31 (by decide) ?_
      exact ih (16 - (k + 1)) _ _ _ (by omega) ⟨k + 1, rfl, by omega, hP, hD, hS, by simp only [pd_sm]; rw [h2, Nat.add_zero]; exact hl⟩
    · refine lv_iinc (v := (nI ((pd_sm (fun i => S 5 (2 * i)) k) + 1))) (lv' := [(1, .int (nI ((pd_sm (fun i => S 5 (2 * i)) k) + 1))), (2, .int (nI k)), (0, .ref (ad 0))]) hx hb d_PD_filesThere_25 hl (k := 1) rfl (pq_inc _) (by decide) rfl (fun ls hl => ?_)
      refine lv_iinc (v := (nI (k + 1))) (lv' := [(2, .int (nI (k + 1))), (1, .int (nI ((pd_sm (fun i => S 5 (2 * i)) k) + 1))), (0, .ref (ad 0))]) hx hb d_PD_filesThere_28 hl (k := 1) rfl (pq_inc _) (by decide) rfl (fun ls hl => ?_)
      refine lv_goto (tgt := 4) hx hb d_PD_filesThere_31 (by decide) ?_
      exact ih (16 - (k + 1)) _ _ _ (by omega) ⟨k + 1, rfl, by omega, hP, hD, hS, by simp only [pd_sm]; rw [show S 5 (2 * k) = 1 by omega]; exact lv_sub hl [0, 1, 2] rfl⟩
set_option maxHeartbeats 4000000 in
set_option maxRecDepth 100000 in
/-- sharedPages -/
theorem c_PD_sharedPages (l : Launch) (dC : Nat → ClassId) (dI : Nat → Nat → Nat) (cI cB cE cL cZ : ClassId) (n : Nat) (ad : Nat → Nat) (S : pdS) (cc : Nat) (hn : n ≤ 1024) (hv : pd_v n S) (ho : pd_ok n S (pd_ct S)) (hc : cc < 32) (sz : Nat) : CMi l (dC, dI) (pw_ty cI cB cE cL cZ) y_PD_sharedPages w_PD_sharedPages ({ frames := 1, cells := 0, slots := 0, locals := 21 }) [.ref (ad 0), .ref (ad (23 + cc))] (pw n ad cI cB cE S) (fun _ : Unit => pw n ad cI cB cE S) sz (fun r _ => r = nI (pd_shd S cc)) := by
  refine Met.ofW (cc := b_PD_sharedPages) (maxL := 4) (ret := (some .int)) (by decide) rfl ?_
  intro p e s m args below meth c s₁ B hml hv
  obtain ⟨rfl, hsz, hP, hK, hD0⟩ := hv
  have hx := B.exec
  have hb := B.bytes
  have hret := B.returns
  have hts := atoms_spec (ws := w_PD_sharedPages) B.pre
  have hg : ∀ w ∈ wsG, w.before _ s = true := fun w h => hts w (List.mem_cons_of_mem _ h)
  have hown : s.vm.findClass "PageDrive" = some m.cls := findClass_of_methodNamed B.named
  have hlocks := B.notSynchronized
  subst hsz
  have hD := hD0.self (sz := s.heap.size)
  generalize hAe : va_A (pw n ad cI cB cE S) s.heap.size = A at hD ⊢
  have hA : ∀ q : Nat, s.heap.size ≤ q → A q := fun q h => by rw [← hAe]; exact Or.inr h
  have hS : va_S A s.heap s.heap [] := va_S.rf
  have hl := lv_entry ([.ref (ad 0), .ref (ad (23 + cc))]) (n := 4) (Nat.le_of_ble_eq_true rfl)
  rw [lg_entry_eq]
  generalize (lg_sl ([.ref (ad 0), .ref (ad (23 + cc))]) ++ List.replicate (4 - (lg_sl ([.ref (ad 0), .ref (ad (23 + cc))])).length) Slot.unset).toArray = ls at hl ⊢
  have hl : lv_has ls 4 [(0, .ref (ad 0)), (1, .ref (ad (23 + cc)))] := hl
  have hs4 := (hv.1 cc hc).1
  have h400 : pd_pf (S 4 cc) ≤ 400 := by unfold pd_pf; omega
  refine lv_iconst (v := nI 0) hx hb d_PD_sharedPages_0 (by decide) ?_
  refine lv_istore_n (lv' := [(2, .int (nI 0)), (0, .ref (ad 0)), (1, .ref (ad (23 + cc)))]) hx hb d_PD_sharedPages_1 rfl hl (by decide) rfl (fun ls hl => ?_)
  refine lv_iconst (v := nI 0) hx hb d_PD_sharedPages_2 (by decide) ?_
  refine lv_istore_n (lv' := [(3, .int (nI 0)), (2, .int (nI 0)), (0, .ref (ad 0)), (1, .ref (ad (23 + cc)))]) hx hb d_PD_sharedPages_3 rfl hl (by decide) rfl (fun ls hl => ?_)
  refine pw_loop (fun mm H locs ls => ∃ k : Nat, mm = pd_pf (S 4 cc) - k ∧ k ≤ pd_pf (S 4 cc) ∧ va_P (dC, dI) pwCl (pw n ad cI cB cE S) H ∧ va_D A (pw n ad cI cB cE S) ∧ va_S A s.heap H locs ∧ lv_has ls 4 [(3, .int (nI k)), (2, .int (nI (pd_sm (fun k => if 1 < pd_ct S (S (8 + cc) k) then 1 else 0) k))), (0, .ref (ad 0)), (1, .ref (ad (23 + cc)))]) ?_ _ _ _ _ ⟨0, rfl, by omega, hP, hD, hS, hl⟩
  rintro mm H locs ls ⟨k, hmm, hk, hP, hD, hS, hl⟩ ih
  refine lv_iload_n hx hb d_PD_sharedPages_4 rfl (lv_at hl 0 rfl) ?_
  refine lv_aload_n hx hb d_PD_sharedPages_5 rfl (lv_at hl 3 rfl) ?_
  refine va_get (C := "PageDrive$Content") (T := F_CO) (N := 3) hx hb hg iw_CO hown hK hP (23 + cc) (pw_gC (i := cc) (by omega)) rfl 1 (by decide) (hg (Cond.fieldLink "PageDrive" 67 "PageDrive$Content" "size" "I") (wG_m2 (List.mem_of_getElem? (i := 34) rfl))) (fun _ h9 => h9) rfl d_PD_sharedPages_6 ?_
  refine pw_callip (va_runS (As := [.int (nI (S 4 cc))]) (rest := [.int (nI k)]) ⟨hx, hb, hml, hown, hg⟩ (c_PD_pagesFor l dC dI cI cB cE cL cZ (pw n ad cI cB cE S) (S 4 cc) (by omega) H.size) (cwS 1 hg (gi_S (fun _ h => h) (wG_m4 (List.mem_of_getElem? (i := 6) rfl)) (wG_m4 (List.mem_of_getElem? (i := 7) rfl)) (wG_m1 (List.mem_of_getElem? (i := 1) rfl)) (wG_m4 (List.mem_of_getElem? (i := 8) rfl))) rfl rfl rfl (by decide +kernel) ⟨Nat.le_of_ble_eq_true rfl, Nat.le_of_ble_eq_true rfl⟩) (pw_ps hK hP hD [.int (nI (S 4 cc))]) rfl rfl hl.1 rfl (lv_room (Nat.le_of_ble_eq_true rfl)) d_PD_sharedPages_9 ⟨Nat.le_of_ble_eq_true rfl, Nat.le_of_ble_eq_true rfl⟩) hD hS hA (fun r1 H locs hr hP hD hS => ?_)
  subst hr
  refine pq_icmp_ge (tgt := 40) hx hb (by omega) (by omega) d_PD_sharedPages_12 (by decide) (fun h1 => ?_) (fun h1 => ?_)
  · have hk16 : k = pd_pf (S 4 cc) := by omega
    subst hk16
    refine lv_iload_n hx hb d_PD_sharedPages_40 rfl (lv_at hl 1 rfl) ?_
    exact W.iret (v := (nI (pd_sm (fun k => if 1 < pd_ct S (S (8 + cc) k) then 1 else 0) (pd_pf (S 4 cc))))) hx hb hret (fun t9 ht9 hW9 => ⟨⟨_, (), rfl, rfl, by rw [ht9]; exact hP, va_K.moved hW9.alike hK, hD⟩, hS.F ht9⟩) hS.2.2 d_PD_sharedPages_41
  · have hpg := hv.2.1 cc k hc h1
    have hs1 := ho.1 _ hpg
    have hbd := pd_ct_bd hv (S (8 + cc) k)
    refine lv_aload_n hx hb d_PD_sharedPages_15 rfl (lv_at hl 2 rfl) ?_
    refine va_get (C := "PageDrive") (T := F_PD) (N := 4) hx hb hg iw_PD hown hK hP (0) pw_g0 rfl 0 (by decide) (hg (Cond.fieldLink "PageDrive" 23 "PageDrive" "pool" "LPageDrive$Pool;") (wG_m3 (List.mem_of_getElem? (i := 17) rfl))) (fun _ h9 => h9) rfl d_PD_sharedPages_16 ?_
    refine lv_aload_n hx hb d_PD_sharedPages_19 rfl (lv_at hl 3 rfl) ?_
    refine va_get (C := "PageDrive$Content") (T := F_CO) (N := 3) hx hb hg iw_CO hown hK hP (23 + cc) (pw_gC (i := cc) (by omega)) rfl 0 (by decide) (hg (Cond.fieldLink "PageDrive" 171 "PageDrive$Content" "row" "[I") (wG_m2 (List.mem_of_getElem? (i := 32) rfl))) (fun _ h9 => h9) rfl d_PD_sharedPages_20 ?_
    refine lv_iload_n hx hb d_PD_sharedPages_23 rfl (lv_at hl 0 rfl) ?_
    refine pq_iald hx hb hK hP (55 + cc) 0 (pw_gR (i := cc) (by omega)) rfl (by omega) (by omega) d_PD_sharedPages_24 ?_
    refine pw_callip (va_runV (As := [.int (nI (S (8 + cc) k))]) (rest := []) ⟨hx, hb, hml, hown, hg⟩ (c_PO_isShared l dC dI cI cB cE cL cZ n ad S (S (8 + cc) k) hpg hn (by omega) H.size) (cwV 1 hg (gi_V (fun _ h => h) (wG_m7 (List.mem_of_getElem? (i := 28) rfl)) (wG_m7 (List.mem_of_getElem? (i := 29) rfl)) (wG_m7 (List.mem_of_getElem? (i := 30) rfl)) (wG_m1 (List.mem_of_getElem? (i := 2) rfl)) (wG_m7 (List.mem_of_getElem? (i := 31) rfl))) rfl rfl rfl (by decide +kernel) ⟨Nat.le_of_ble_eq_true rfl, Nat.le_of_ble_eq_true rfl⟩) (pw_pv hK hP hD (va_recv hK hP (ci := 1) (q0 := 1) rfl pw_g1) [.int (nI (S (8 + cc) k))]) rfl rfl hl.1 rfl (lv_room (Nat.le_of_ble_eq_true rfl)) d_PD_sharedPages_25 ⟨Nat.le_of_ble_eq_true rfl, Nat.le_of_ble_eq_true rfl⟩) hD hS hA (fun r1 H locs hr hP hD hS => ?_)
    rcases hr with ⟨h3, rfl⟩ | ⟨h3, rfl⟩
    · refine pq_if_eq (tgt := 34) hx hb (by omega) d_PD_sharedPages_28 (by decide) (fun h9 => absurd h9 (by omega)) (fun _ => ?_)
      refine lv_iinc (v := (nI ((pd_sm (fun k => if 1 < pd_ct S (S (8 + cc) k) then 1 else 0) k) + 1))) (lv' := [(2, .int (nI ((pd_sm (fun k => if 1 < pd_ct S (S (8 + cc) k) then 1 else 0) k) + 1))), (3, .int (nI k)), (0, .ref (ad 0)), (1, .ref (ad (23 + cc)))]) hx hb d_PD_sharedPages_31 hl (k := 1) rfl (pq_inc _) (by decide) rfl (fun ls hl => ?_)
      refine lv_iinc (v := (nI (k + 1))) (lv' := [(3, .int (nI (k + 1))), (2, .int (nI ((pd_sm (fun k => if 1 < pd_ct S (S (8 + cc) k) then 1 else 0) k) + 1))), (0, .ref (ad 0)), (1, .ref (ad (23 + cc)))]) hx hb d_PD_sharedPages_34 hl (k := 1) rfl (pq_inc _) (by decide) rfl (fun ls hl => ?_)
      refine lv_goto (tgt := 4) hx hb d_PD_sharedPages_37 (by decide) ?_
      exact ih _ _ _ _ (by omega) ⟨k + 1, rfl, by omega, hP, hD, hS, by simp only [pd_sm]; rw [if_pos (by omega)]; exact hl⟩
    · refine pq_if_eq (tgt := 34) hx hb (by omega) d_PD_sharedPages_28 (by decide) (fun _ => ?_) (fun h9 => absurd h9 (by omega))
      refine lv_iinc (v := (nI (k + 1))) (lv' := [(3, .int (nI (k + 1))), (2, .int (nI (pd_sm (fun k => if 1 < pd_ct S (S (8 + cc) k) then 1 else 0) k))), (0, .ref (ad 0)), (1, .ref (ad (23 + cc)))]) hx hb d_PD_sharedPages_34 hl (k := 0) rfl (pq_inc _) (by decide) rfl (fun ls hl => ?_)
      refine lv_goto (tgt := 4) hx hb d_PD_sharedPages_37 (by decide) ?_
      exact ih _ _ _ _ (by omega) ⟨k + 1, rfl, by omega, hP, hD, hS, by simp only [pd_sm]; rw [if_neg (by omega), Nat.add_zero]; exact hl⟩
set_option maxHeartbeats 4000000 in
set_option maxRecDepth 100000 in
/-- pagesNotIn(old, content) -/
theorem c_PD_pagesNotIn (l : Launch) (dC : Nat → ClassId) (dI : Nat → Nat → Nat) (cI cB cE cL cZ : ClassId) (n : Nat) (ad : Nat → Nat) (S : pdS) (co cn : Nat) (hn : n ≤ 1024) (hv : pd_v n S) (hco : co < 32) (hcn : cn < 32) (sz : Nat) : CMi l (dC, dI) (pw_ty cI cB cE cL cZ) y_PD_pagesNotIn w_PD_pagesNotIn ({ frames := 1, cells := 0, slots := 0, locals := 20 }) [.ref (ad (23 + co)), .ref (ad (23 + cn))] (pw n ad cI cB cE S) (fun _ : Unit => pw n ad cI cB cE S) sz (fun r _ => r = nI (pd_sm (fun k => if k < pd_pf (S 4 co) ∧ S (8 + co) k = S (8 + cn) k then 0 else 1) (pd_pf (S 4 cn)))) := by
  refine Met.ofW (cc := b_PD_pagesNotIn) (maxL := 5) (ret := (some .int)) (by decide) rfl ?_
  intro p e s m args below meth c s₁ B hml hv
  obtain ⟨rfl, hsz, hP, hK, hD0⟩ := hv
  have hx := B.exec
  have hb := B.bytes
  have hret := B.returns
  have hts := atoms_spec (ws := w_PD_pagesNotIn) B.pre
  have hg : ∀ w ∈ wsG, w.before _ s = true := fun w h => hts w (List.mem_cons_of_mem _ h)
  have hown : s.vm.findClass "PageDrive" = some m.cls := findClass_of_methodNamed B.named
  have hlocks := B.notSynchronized
  subst hsz
  have hD := hD0.self (sz := s.heap.size)
  generalize hAe : va_A (pw n ad cI cB cE S) s.heap.size = A at hD ⊢
  have hA : ∀ q : Nat, s.heap.size ≤ q → A q := fun q h => by rw [← hAe]; exact Or.inr h
  have hS : va_S A s.heap s.heap [] := va_S.rf
  have hl := lv_entry ([.ref (ad (23 + co)), .ref (ad (23 + cn))]) (n := 5) (Nat.le_of_ble_eq_true rfl)
  rw [lg_entry_eq]
  generalize (lg_sl ([.ref (ad (23 + co)), .ref (ad (23 + cn))]) ++ List.replicate (5 - (lg_sl ([.ref (ad (23 + co)), .ref (ad (23 + cn))])).length) Slot.unset).toArray = ls at hl ⊢
  have hl : lv_has ls 5 [(0, .ref (ad (23 + co))), (1, .ref (ad (23 + cn)))] := hl
  have hs4 := (hv.1 co hco).1
  have hs4n := (hv.1 cn hcn).1
  have h400 : pd_pf (S 4 cn) ≤ 400 := by unfold pd_pf; omega
  have h400o : pd_pf (S 4 co) ≤ 400 := by unfold pd_pf; omega
  refine lv_aload_n hx hb d_PD_pagesNotIn_0 rfl (lv_at hl 0 rfl) ?_
  refine va_get (C := "PageDrive$Content") (T := F_CO) (N := 3) hx hb hg iw_CO hown hK hP (23 + co) (pw_gC (i := co) (by omega)) rfl 1 (by decide) (hg (Cond.fieldLink "PageDrive" 67 "PageDrive$Content" "size" "I") (wG_m2 (List.mem_of_getElem? (i := 34) rfl))) (fun _ h9 => h9) rfl d_PD_pagesNotIn_1 ?_
  refine pw_callip (va_runS (As := [.int (nI (S 4 co))]) (rest := []) ⟨hx, hb, hml, hown, hg⟩ (c_PD_pagesFor l dC dI cI cB cE cL cZ (pw n ad cI cB cE S) (S 4 co) (by omega) s.heap.size) (cwS 1 hg (gi_S (fun _ h => h) (wG_m4 (List.mem_of_getElem? (i := 6) rfl)) (wG_m4 (List.mem_of_getElem? (i := 7) rfl)) (wG_m1 (List.mem_of_getElem? (i := 1) rfl)) (wG_m4 (List.mem_of_getElem? (i := 8) rfl))) rfl rfl rfl (by decide +kernel) ⟨Nat.le_of_ble_eq_true rfl, Nat.le_of_ble_eq_true rfl⟩) (pw_ps hK hP hD [.int (nI (S 4 co))]) rfl rfl hl.1 rfl (lv_room (Nat.le_of_ble_eq_true rfl)) d_PD_pagesNotIn_4 ⟨Nat.le_of_ble_eq_true rfl, Nat.le_of_ble_eq_true rfl⟩) hD hS hA (fun r1 H locs hr hP hD hS => ?_)
  subst hr
  refine lv_istore_n (lv' := [(2, .int (nI (pd_pf (S 4 co)))), (0, .ref (ad (23 + co))), (1, .ref (ad (23 + cn)))]) hx hb d_PD_pagesNotIn_7 rfl hl (by decide) rfl (fun ls hl => ?_)
  refine lv_iconst (v := nI 0) hx hb d_PD_pagesNotIn_8 (by decide) ?_
  refine lv_istore_n (lv' := [(3, .int (nI 0)), (2, .int (nI (pd_pf (S 4 co)))), (0, .ref (ad (23 + co))), (1, .ref (ad (23 + cn)))]) hx hb d_PD_pagesNotIn_9 rfl hl (by decide) rfl (fun ls hl => ?_)
  refine lv_iconst (v := nI 0) hx hb d_PD_pagesNotIn_10 (by decide) ?_
  refine lv_istore (lv' := [(4, .int (nI 0)), (3, .int (nI 0)), (2, .int (nI (pd_pf (S 4 co)))), (0, .ref (ad (23 + co))), (1, .ref (ad (23 + cn)))]) hx hb d_PD_pagesNotIn_11 hl (by decide) rfl (fun ls hl => ?_)
  refine pw_loop (fun mm H locs ls => ∃ k : Nat, mm = pd_pf (S 4 cn) - k ∧ k ≤ pd_pf (S 4 cn) ∧ va_P (dC, dI) pwCl (pw n ad cI cB cE S) H ∧ va_D A (pw n ad cI cB cE S) ∧ va_S A s.heap H locs ∧ lv_has ls 5 [(4, .int (nI k)), (3, .int (nI (pd_sm (fun k => if k < pd_pf (S 4 co) ∧ S (8 + co) k = S (8 + cn) k then 0 else 1) k))), (2, .int (nI (pd_pf (S 4 co)))), (0, .ref (ad (23 + co))), (1, .ref (ad (23 + cn)))]) ?_ _ _ _ _ ⟨0, rfl, by omega, hP, hD, hS, hl⟩
  rintro mm H locs ls ⟨k, hmm, hk, hP, hD, hS, hl⟩ ih
  refine lv_iload hx hb d_PD_pagesNotIn_13 (lv_at hl 0 rfl) ?_
  refine lv_aload_n hx hb d_PD_pagesNotIn_15 rfl (lv_at hl 4 rfl) ?_
  refine va_get (C := "PageDrive$Content") (T := F_CO) (N := 3) hx hb hg iw_CO hown hK hP (23 + cn) (pw_gC (i := cn) (by omega)) rfl 1 (by decide) (hg (Cond.fieldLink "PageDrive" 67 "PageDrive$Content" "size" "I") (wG_m2 (List.mem_of_getElem? (i := 34) rfl))) (fun _ h9 => h9) rfl d_PD_pagesNotIn_16 ?_
  refine pw_callip (va_runS (As := [.int (nI (S 4 cn))]) (rest := [.int (nI k)]) ⟨hx, hb, hml, hown, hg⟩ (c_PD_pagesFor l dC dI cI cB cE cL cZ (pw n ad cI cB cE S) (S 4 cn) (by omega) H.size) (cwS 1 hg (gi_S (fun _ h => h) (wG_m4 (List.mem_of_getElem? (i := 6) rfl)) (wG_m4 (List.mem_of_getElem? (i := 7) rfl)) (wG_m1 (List.mem_of_getElem? (i := 1) rfl)) (wG_m4 (List.mem_of_getElem? (i := 8) rfl))) rfl rfl rfl (by decide +kernel) ⟨Nat.le_of_ble_eq_true rfl, Nat.le_of_ble_eq_true rfl⟩) (pw_ps hK hP hD [.int (nI (S 4 cn))]) rfl rfl hl.1 rfl (lv_room (Nat.le_of_ble_eq_true rfl)) d_PD_pagesNotIn_19 ⟨Nat.le_of_ble_eq_true rfl, Nat.le_of_ble_eq_true rfl⟩) hD hS hA (fun r2 H locs hr hP hD hS => ?_)
  subst hr
  refine pq_icmp_ge (tgt := 57) hx hb (by omega) (by omega) d_PD_pagesNotIn_22 (by decide) (fun h1 => ?_) (fun h1 => ?_)
  · have hk16 : k = pd_pf (S 4 cn) := by omega
    subst hk16
    refine lv_iload_n hx hb d_PD_pagesNotIn_57 rfl (lv_at hl 1 rfl) ?_
    exact W.iret (v := (nI (pd_sm (fun k => if k < pd_pf (S 4 co) ∧ S (8 + co) k = S (8 + cn) k then 0 else 1) (pd_pf (S 4 cn))))) hx hb hret (fun t9 ht9 hW9 => ⟨⟨_, (), rfl, rfl, by rw [ht9]; exact hP, va_K.moved hW9.alike hK, hD⟩, hS.F ht9⟩) hS.2.2 d_PD_pagesNotIn_58
  · refine lv_iload hx hb d_PD_pagesNotIn_25 (lv_at hl 0 rfl) ?_
    refine lv_iload_n hx hb d_PD_pagesNotIn_27 rfl (lv_at hl 2 rfl) ?_
    refine pq_icmp_ge (tgt := 48) hx hb (by omega) (by omega) d_PD_pagesNotIn_28 (by decide) (fun h2 => ?_) (fun h2 => ?_)
    · refine lv_iinc (v := (nI ((pd_sm (fun k => if k < pd_pf (S 4 co) ∧ S (8 + co) k = S (8 + cn) k then 0 else 1) k) + 1))) (lv' := [(3, .int (nI ((pd_sm (fun k => if k < pd_pf (S 4 co) ∧ S (8 + co) k = S (8 + cn) k then 0 else 1) k) + 1))), (4, .int (nI k)), (2, .int (nI (pd_pf (S 4 co)))), (0, .ref (ad (23 + co))), (1, .ref (ad (23 + cn)))]) hx hb d_PD_pagesNotIn_48 hl (k := 1) rfl (pq_inc _) (by decide) rfl (fun ls hl => ?_)
      refine lv_iinc (v := (nI (k + 1))) (lv' := [(4, .int (nI (k + 1))), (3, .int (nI ((pd_sm (fun k => if k < pd_pf (S 4 co) ∧ S (8 + co) k = S (8 + cn) k then 0 else 1) k) + 1))), (2, .int (nI (pd_pf (S 4 co)))), (0, .ref (ad (23 + co))), (1, .ref (ad (23 + cn)))]) hx hb d_PD_pagesNotIn_51 hl (k := 1) rfl (pq_inc _) (by decide) rfl (fun ls hl => ?_)
      refine lv_goto (tgt := 13) hx hb d_PD_pagesNotIn_54 (by decide) ?_
      exact ih _ _ _ _ (by omega) ⟨k + 1, rfl, by omega, hP, hD, hS, by simp only [pd_sm]; rw [if_neg (by omega)]; exact lv_sub hl [0, 1, 2, 3, 4] rfl⟩
    · have hp1 := hv.2.1 co k hco h2
      have hp2 := hv.2.1 cn k hcn h1
      refine lv_aload_n hx hb d_PD_pagesNotIn_31 rfl (lv_at hl 4 rfl) ?_
      refine va_get (C := "PageDrive$Content") (T := F_CO) (N := 3) hx hb hg iw_CO hown hK hP (23 + cn) (pw_gC (i := cn) (by omega)) rfl 0 (by decide) (hg (Cond.fieldLink "PageDrive" 171 "PageDrive$Content" "row" "[I") (wG_m2 (List.mem_of_getElem? (i := 32) rfl))) (fun _ h9 => h9) rfl d_PD_pagesNotIn_32 ?_
      refine lv_iload hx hb d_PD_pagesNotIn_35 (lv_at hl 0 rfl) ?_
      refine pq_iald hx hb hK hP (55 + cn) 0 (pw_gR (i := cn) (by omega)) rfl (by omega) (by omega) d_PD_pagesNotIn_37 ?_
      refine lv_aload_n hx hb d_PD_pagesNotIn_38 rfl (lv_at hl 3 rfl) ?_
      refine va_get (C := "PageDrive$Content") (T := F_CO) (N := 3) hx hb hg iw_CO hown hK hP (23 + co) (pw_gC (i := co) (by omega)) rfl 0 (by decide) (hg (Cond.fieldLink "PageDrive" 171 "PageDrive$Content" "row" "[I") (wG_m2 (List.mem_of_getElem? (i := 32) rfl))) (fun _ h9 => h9) rfl d_PD_pagesNotIn_39 ?_
      refine lv_iload hx hb d_PD_pagesNotIn_42 (lv_at hl 0 rfl) ?_
      refine pq_iald hx hb hK hP (55 + co) 0 (pw_gR (i := co) (by omega)) rfl (by omega) (by omega) d_PD_pagesNotIn_44 ?_
      refine pq_icmp_eq (tgt := 51) hx hb (by omega) (by omega) d_PD_pagesNotIn_45 (by decide) (fun h3 => ?_) (fun h3 => ?_)
      · refine lv_iinc (v := (nI (k + 1))) (lv' := [(4, .int (nI (k + 1))), (3, .int (nI (pd_sm (fun k => if k < pd_pf (S 4 co) ∧ S (8 + co) k = S (8 + cn) k then 0 else 1) k))), (2, .int (nI (pd_pf (S 4 co)))), (0, .ref (ad (23 + co))), (1, .ref (ad (23 + cn)))]) hx hb d_PD_pagesNotIn_51 hl (k := 0) rfl (pq_inc _) (by decide) rfl (fun ls hl => ?_)
        refine lv_goto (tgt := 13) hx hb d_PD_pagesNotIn_54 (by decide) ?_
        exact ih _ _ _ _ (by omega) ⟨k + 1, rfl, by omega, hP, hD, hS, by simp only [pd_sm]; rw [if_pos ⟨h2, h3.symm⟩, Nat.add_zero]; exact hl⟩
      · refine lv_iinc (v := (nI ((pd_sm (fun k => if k < pd_pf (S 4 co) ∧ S (8 + co) k = S (8 + cn) k then 0 else 1) k) + 1))) (lv' := [(3, .int (nI ((pd_sm (fun k => if k < pd_pf (S 4 co) ∧ S (8 + co) k = S (8 + cn) k then 0 else 1) k) + 1))), (4, .int (nI k)), (2, .int (nI (pd_pf (S 4 co)))), (0, .ref (ad (23 + co))), (1, .ref (ad (23 + cn)))]) hx hb d_PD_pagesNotIn_48 hl (k := 1) rfl (pq_inc _) (by decide) rfl (fun ls hl => ?_)
        refine lv_iinc (v := (nI (k + 1))) (lv' := [(4, .int (nI (k + 1))), (3, .int (nI ((pd_sm (fun k => if k < pd_pf (S 4 co) ∧ S (8 + co) k = S (8 + cn) k then 0 else 1) k) + 1))), (2, .int (nI (pd_pf (S 4 co)))), (0, .ref (ad (23 + co))), (1, .ref (ad (23 + cn)))]) hx hb d_PD_pagesNotIn_51 hl (k := 1) rfl (pq_inc _) (by decide) rfl (fun ls hl => ?_)
        refine lv_goto (tgt := 13) hx hb d_PD_pagesNotIn_54 (by decide) ?_
        exact ih _ _ _ _ (by omega) ⟨k + 1, rfl, by omega, hP, hD, hS, by simp only [pd_sm]; rw [if_neg (fun q => h3 q.2.symm)]; exact lv_sub hl [0, 1, 2, 3, 4] rfl⟩
