/-! THE CLASS, 1: isFile, pagesFor, the pool's steps, placeOf -/
section PC2
variable {p : Program} {l : Launch} {e : Env} {R : Room} {s : State} {m : MethodId} {args : Array Value} {below : List Frame} {meth : Method} {c : Code} {H : Heap} {locs : List Loc} {cells slots : Nat} {Q : State → Prop}
variable {D : va_G} {tys : List (ClassId × FieldType)} {Wd : va_W} {A : Nat → Prop} {H0 : Heap} {pc : Nat} {ls : Array Slot} {rest st0 : List Value} {a : Array Value} {mc ms : Nat}
theorem pw_callip {post : Int32 → Prop} (hr : va_Run p l e R s m args below meth c H locs cells slots mc ms (F0 m pc ls st0) rest (va_Qi (fun r (_ : Unit) => post r) (pw_pos D tys (fun _ : Unit => Wd) (va_A Wd H.size)) (va_A Wd H.size) a) (va_A Wd H.size)) (hD : va_D A Wd) (hS : va_S A H0 H locs) (hA : ∀ q, H0.size ≤ q → A q) (kk : ∀ (r : Int32) (H1 : Heap) (locs1 : List Loc), post r → va_P D pwCl Wd H1 → va_D A Wd → va_S A H0 H1 locs1 → W p l e R s m args below meth c H1 locs1 (cells + mc) (slots + ms) Q (F0 m (pc + 3) ls (.int r :: rest))) : W p l e R s m args below meth c H locs cells slots Q (F0 m pc ls st0) := pw_calli hr hD hS hA (fun r _ H1 locs1 h1 h2 h3 h4 => kk r H1 locs1 h1 h2 h3 h4)
end PC2
def pd_nof (x : Int32) : Prop := ∀ f : Nat, f < 16 → x ≠ nI f
set_option maxHeartbeats 4000000 in
set_option maxRecDepth 100000 in
/-- isFile(x): whether 0 <= x < 16 -/
theorem c_PD_isFile (l : Launch) (dC : Nat → ClassId) (dI : Nat → Nat → Nat) (cI cB cE cL cZ : ClassId) (Wd : va_W) (x : Int32) (sz : Nat) : CMi l (dC, dI) (pw_ty cI cB cE cL cZ) y_PD_isFile w_PD_isFile ({ frames := 0, cells := 0, slots := 0, locals := 0 }) [.int x] (Wd) (fun _ : Unit => Wd) sz (fun r _ => (∃ f : Nat, f < 16 ∧ x = nI f ∧ r = nI 1) ∨ (pd_nof x ∧ r = nI 0)) := by
  refine Met.ofW (cc := b_PD_isFile) (maxL := 1) (ret := (some .boolean)) (by decide) rfl ?_
  intro p e s m args below meth c s₁ B hml hv
  obtain ⟨rfl, hsz, hP, hK, hD0⟩ := hv
  have hx := B.exec
  have hb := B.bytes
  have hret := B.returns
  have hts := atoms_spec (ws := w_PD_isFile) B.pre
  have hg : ∀ w ∈ wsG, w.before _ s = true := fun w h => hts w (List.mem_cons_of_mem _ h)
  have hown : s.vm.findClass "PageDrive" = some m.cls := findClass_of_methodNamed B.named
  have hlocks := B.notSynchronized
  subst hsz
  have hD := hD0.self (sz := s.heap.size)
  generalize hAe : va_A (Wd) s.heap.size = A at hD ⊢
  have hA : ∀ q : Nat, s.heap.size ≤ q → A q := fun q h => by rw [← hAe]; exact Or.inr h
  have hS : va_S A s.heap s.heap [] := va_S.rf
  have hl := lv_entry ([.int x]) (n := 1) (Nat.le_of_ble_eq_true rfl)
  rw [lg_entry_eq]
  generalize (lg_sl ([.int x]) ++ List.replicate (1 - (lg_sl ([.int x])).length) Slot.unset).toArray = ls at hl ⊢
  have hl : lv_has ls 1 [(0, .int x)] := hl
  refine lv_iload_n hx hb d_PD_isFile_0 rfl (lv_at hl 0 rfl) ?_
  refine lv_if_lt (tgt := 14) hx hb d_PD_isFile_1 (by decide) (fun h1 => ?_) (fun h1 => ?_)
  · refine lv_iconst (v := nI 0) hx hb d_PD_isFile_14 (by decide) ?_
    exact W.zret (v := (nI 0)) hx hb hret rfl (fun t9 ht9 hW9 => ⟨⟨_, (), rfl, Or.inr ⟨fun f hf q => by subst q; exact nI_pos (by omega) h1, rfl⟩, by rw [ht9]; exact hP, va_K.moved hW9.alike hK, hD⟩, hS.F ht9⟩) hS.2.2 d_PD_isFile_15
  · refine lv_iload_n hx hb d_PD_isFile_4 rfl (lv_at hl 0 rfl) ?_
    refine lv_bipush (v := nI 16) hx hb d_PD_isFile_5 (by decide) ?_
    refine lv_icmp_ge (tgt := 14) hx hb d_PD_isFile_7 (by decide) (fun h2 => ?_) (fun h2 => ?_)
    · refine lv_iconst (v := nI 0) hx hb d_PD_isFile_14 (by decide) ?_
      exact W.zret (v := (nI 0)) hx hb hret rfl (fun t9 ht9 hW9 => ⟨⟨_, (), rfl, Or.inr ⟨fun f hf q => by subst q; have h9 := (nI_leI (by omega) (by omega)).mp h2; omega, rfl⟩, by rw [ht9]; exact hP, va_K.moved hW9.alike hK, hD⟩, hS.F ht9⟩) hS.2.2 d_PD_isFile_15
    · obtain ⟨j, hj, rfl⟩ := nI_of h1
      have hj2 : j < 16 := Nat.not_le.mp fun q => h2 ((nI_leI (by omega) hj).mpr q)
      refine lv_iconst (v := nI 1) hx hb d_PD_isFile_10 (by decide) ?_
      refine lv_goto (tgt := 15) hx hb d_PD_isFile_11 (by decide) ?_
      exact W.zret (v := (nI 1)) hx hb hret rfl (fun t9 ht9 hW9 => ⟨⟨_, (), rfl, Or.inl ⟨j, hj2, rfl, rfl⟩, by rw [ht9]; exact hP, va_K.moved hW9.alike hK, hD⟩, hS.F ht9⟩) hS.2.2 d_PD_isFile_15
set_option maxHeartbeats 4000000 in
set_option maxRecDepth 100000 in
/-- pagesFor(x) -/
theorem c_PD_pagesFor (l : Launch) (dC : Nat → ClassId) (dI : Nat → Nat → Nat) (cI cB cE cL cZ : ClassId) (Wd : va_W) (x : Nat) (hx0 : x < 1000000) (sz : Nat) : CMi l (dC, dI) (pw_ty cI cB cE cL cZ) y_PD_pagesFor w_PD_pagesFor ({ frames := 0, cells := 0, slots := 0, locals := 0 }) [.int (nI x)] (Wd) (fun _ : Unit => Wd) sz (fun r _ => r = nI (pd_pf x)) := by
  refine Met.ofW (cc := b_PD_pagesFor) (maxL := 1) (ret := (some .int)) (by decide) rfl ?_
  intro p e s m args below meth c s₁ B hml hv
  obtain ⟨rfl, hsz, hP, hK, hD0⟩ := hv
  have hx := B.exec
  have hb := B.bytes
  have hret := B.returns
  have hts := atoms_spec (ws := w_PD_pagesFor) B.pre
  have hg : ∀ w ∈ wsG, w.before _ s = true := fun w h => hts w (List.mem_cons_of_mem _ h)
  have hown : s.vm.findClass "PageDrive" = some m.cls := findClass_of_methodNamed B.named
  have hlocks := B.notSynchronized
  subst hsz
  have hD := hD0.self (sz := s.heap.size)
  generalize hAe : va_A (Wd) s.heap.size = A at hD ⊢
  have hA : ∀ q : Nat, s.heap.size ≤ q → A q := fun q h => by rw [← hAe]; exact Or.inr h
  have hS : va_S A s.heap s.heap [] := va_S.rf
  have hl := lv_entry ([.int (nI x)]) (n := 1) (Nat.le_of_ble_eq_true rfl)
  rw [lg_entry_eq]
  generalize (lg_sl ([.int (nI x)]) ++ List.replicate (1 - (lg_sl ([.int (nI x)])).length) Slot.unset).toArray = ls at hl ⊢
  have hl : lv_has ls 1 [(0, .int (nI x))] := hl
  refine lv_iload_n hx hb d_PD_pagesFor_0 rfl (lv_at hl 0 rfl) ?_
  refine lv_bipush (v := nI 64) hx hb d_PD_pagesFor_1 (by decide) ?_
  refine pq_iadd hx hb d_PD_pagesFor_3 ?_
  refine lv_iconst (v := nI 1) hx hb d_PD_pagesFor_4 (by decide) ?_
  refine pq_isub hx hb (by omega) d_PD_pagesFor_5 ?_
  refine lv_bipush (v := nI 64) hx hb d_PD_pagesFor_6 (by decide) ?_
  refine pq_idiv hx hb (by omega) (by omega) (by omega) d_PD_pagesFor_8 ?_
  refine pq_top (y := nI (pd_pf x)) (by rw [show (x + 64 - 1) / 64 = pd_pf x by unfold pd_pf; omega]) ?_
  exact W.iret (v := (nI (pd_pf x))) hx hb hret (fun t9 ht9 hW9 => ⟨⟨_, (), rfl, rfl, by rw [ht9]; exact hP, va_K.moved hW9.alike hK, hD⟩, hS.F ht9⟩) hS.2.2 d_PD_pagesFor_9
set_option maxHeartbeats 4000000 in
set_option maxRecDepth 100000 in
/-- isShared(p) -/
theorem c_PO_isShared (l : Launch) (dC : Nat → ClassId) (dI : Nat → Nat → Nat) (cI cB cE cL cZ : ClassId) (n : Nat) (ad : Nat → Nat) (S : pdS) (pg : Nat) (hp : pg < n) (hn : n ≤ 1024) (hs : S 1 pg < 1000000) (sz : Nat) : CMi l (dC, dI) (pw_ty cI cB cE cL cZ) y_PO_isShared w_PO_isShared ({ frames := 0, cells := 0, slots := 0, locals := 0 }) [.ref (ad 1), .int (nI pg)] (pw n ad cI cB cE S) (fun _ : Unit => pw n ad cI cB cE S) sz (fun r _ => (1 < S 1 pg ∧ r = nI 1) ∨ (S 1 pg ≤ 1 ∧ r = nI 0)) := by
  refine Met.ofW (cc := b_PO_isShared) (maxL := 2) (ret := (some .boolean)) (by decide) rfl ?_
  intro p e s m args below meth c s₁ B hml hv
  obtain ⟨rfl, hsz, hP, hK, hD0⟩ := hv
  have hx := B.exec
  have hb := B.bytes
  have hret := B.returns
  have hts := atoms_spec (ws := w_PO_isShared) B.pre
  have hg : ∀ w ∈ wsG, w.before _ s = true := fun w h => hts w (List.mem_cons_of_mem _ h)
  have hown : s.vm.findClass "PageDrive$Pool" = some m.cls := findClass_of_methodNamed B.named
  have hlocks := B.notSynchronized
  subst hsz
  have hD := hD0.self (sz := s.heap.size)
  generalize hAe : va_A (pw n ad cI cB cE S) s.heap.size = A at hD ⊢
  have hA : ∀ q : Nat, s.heap.size ≤ q → A q := fun q h => by rw [← hAe]; exact Or.inr h
  have hS : va_S A s.heap s.heap [] := va_S.rf
  have hl := lv_entry ([.ref (ad 1), .int (nI pg)]) (n := 2) (Nat.le_of_ble_eq_true rfl)
  rw [lg_entry_eq]
  generalize (lg_sl ([.ref (ad 1), .int (nI pg)]) ++ List.replicate (2 - (lg_sl ([.ref (ad 1), .int (nI pg)])).length) Slot.unset).toArray = ls at hl ⊢
  have hl : lv_has ls 2 [(0, .ref (ad 1)), (1, .int (nI pg))] := hl
  refine lv_aload_n hx hb d_PO_isShared_0 rfl (lv_at hl 0 rfl) ?_
  refine va_get (C := "PageDrive$Pool") (T := F_PO) (N := 6) hx hb hg iw_PO hown hK hP (1) pw_g1 rfl 2 (by decide) (hg (Cond.fieldLink "PageDrive$Pool" 19 "PageDrive$Pool" "rowsWith" "[I") (wG_m2 (List.mem_of_getElem? (i := 0) rfl))) (fun _ h9 => h9) rfl d_PO_isShared_1 ?_
  refine lv_iload_n hx hb d_PO_isShared_4 rfl (lv_at hl 1 rfl) ?_
  refine pq_iald hx hb hK hP 5 0 pw_g5 rfl (by omega) (by omega) d_PO_isShared_5 ?_
  refine lv_iconst (v := nI 1) hx hb d_PO_isShared_6 (by decide) ?_
  refine pq_icmp_le (tgt := 14) hx hb (by omega) (by omega) d_PO_isShared_7 (by decide) (fun h1 => ?_) (fun h1 => ?_)
  · refine lv_iconst (v := nI 0) hx hb d_PO_isShared_14 (by decide) ?_
    exact W.zret (v := (nI 0)) hx hb hret rfl (fun t9 ht9 hW9 => ⟨⟨_, (), rfl, Or.inr ⟨by omega, rfl⟩, by rw [ht9]; exact hP, va_K.moved hW9.alike hK, hD⟩, hS.F ht9⟩) hS.2.2 d_PO_isShared_15
  · refine lv_iconst (v := nI 1) hx hb d_PO_isShared_10 (by decide) ?_
    refine lv_goto (tgt := 15) hx hb d_PO_isShared_11 (by decide) ?_
    exact W.zret (v := (nI 1)) hx hb hret rfl (fun t9 ht9 hW9 => ⟨⟨_, (), rfl, Or.inl ⟨by omega, rfl⟩, by rw [ht9]; exact hP, va_K.moved hW9.alike hK, hD⟩, hS.F ht9⟩) hS.2.2 d_PO_isShared_15
set_option maxHeartbeats 4000000 in
set_option maxRecDepth 100000 in
/-- take() -/
theorem c_PO_take (l : Launch) (dC : Nat → ClassId) (dI : Nat → Nat → Nat) (cI cB cE cL cZ : ClassId) (n : Nat) (ad : Nat → Nat) (S : pdS) (hu : 0 < S 7 0) (hun : S 7 0 ≤ n) (hn : n ≤ 1024) (hp : S 2 (S 7 0 - 1) < n) (sz : Nat) : CMi l (dC, dI) (pw_ty cI cB cE cL cZ) y_PO_take w_PO_take ({ frames := 0, cells := 0, slots := 0, locals := 0 }) [.ref (ad 1)] (pw n ad cI cB cE S) (pw n ad cI cB cE) sz (fun r S2 => r = nI (S 2 (S 7 0 - 1)) ∧ S2 = pd_take S) := by
  refine Met.ofW (cc := b_PO_take) (maxL := 2) (ret := (some .int)) (by decide) rfl ?_
  intro p e s m args below meth c s₁ B hml hv
  obtain ⟨rfl, hsz, hP, hK, hD0⟩ := hv
  have hx := B.exec
  have hb := B.bytes
  have hret := B.returns
  have hts := atoms_spec (ws := w_PO_take) B.pre
  have hg : ∀ w ∈ wsG, w.before _ s = true := fun w h => hts w (List.mem_cons_of_mem _ h)
  have hown : s.vm.findClass "PageDrive$Pool" = some m.cls := findClass_of_methodNamed B.named
  have hlocks := B.notSynchronized
  subst hsz
  have hD := hD0.self (sz := s.heap.size)
  generalize hAe : va_A (pw n ad cI cB cE S) s.heap.size = A at hD ⊢
  have hA : ∀ q : Nat, s.heap.size ≤ q → A q := fun q h => by rw [← hAe]; exact Or.inr h
  have hS : va_S A s.heap s.heap [] := va_S.rf
  have hl := lv_entry ([.ref (ad 1)]) (n := 2) (Nat.le_of_ble_eq_true rfl)
  rw [lg_entry_eq]
  generalize (lg_sl ([.ref (ad 1)]) ++ List.replicate (2 - (lg_sl ([.ref (ad 1)])).length) Slot.unset).toArray = ls at hl ⊢
  have hl : lv_has ls 2 [(0, .ref (ad 1))] := hl
  refine lv_aload_n hx hb d_PO_take_0 rfl (lv_at hl 0 rfl) ?_
  refine lv_dup hx hb d_PO_take_1 rfl ?_
  refine va_get (C := "PageDrive$Pool") (T := F_PO) (N := 6) hx hb hg iw_PO hown hK hP (1) pw_g1 rfl 4 (by decide) (hg (Cond.fieldLink "PageDrive$Pool" 26 "PageDrive$Pool" "unusedCount" "I") (wG_m2 (List.mem_of_getElem? (i := 2) rfl))) (fun _ h9 => h9) rfl d_PO_take_2 ?_
  refine lv_iconst (v := nI 1) hx hb d_PO_take_5 (by decide) ?_
  refine pq_isub hx hb (by omega) d_PO_take_6 ?_
  refine pr_uc hx hb hg hown hK hP hD hS (hg (Cond.fieldLink "PageDrive$Pool" 26 "PageDrive$Pool" "unusedCount" "I") (wG_m2 (List.mem_of_getElem? (i := 2) rfl))) d_PO_take_7 (fun H locs hP hD hS => ?_)
  generalize eS1 : pd_st S 7 0 ((S 7 0) - 1) = S1 at hP hD
  have h70 : S1 7 0 = S 7 0 - 1 := by rw [← eS1, pd_self]
  have h2 : S1 2 = S 2 := by rw [← eS1, pd_bk _ (by decide)]
  refine lv_aload_n hx hb d_PO_take_10 rfl (lv_at hl 0 rfl) ?_
  refine va_get (C := "PageDrive$Pool") (T := F_PO) (N := 6) hx hb hg iw_PO hown hK hP (1) pw_g1 rfl 3 (by decide) (hg (Cond.fieldLink "PageDrive$Pool" 23 "PageDrive$Pool" "unused" "[I") (wG_m2 (List.mem_of_getElem? (i := 1) rfl))) (fun _ h9 => h9) rfl d_PO_take_11 ?_
  refine lv_aload_n hx hb d_PO_take_14 rfl (lv_at hl 0 rfl) ?_
  refine va_get (C := "PageDrive$Pool") (T := F_PO) (N := 6) hx hb hg iw_PO hown hK hP (1) pw_g1 rfl 4 (by decide) (hg (Cond.fieldLink "PageDrive$Pool" 26 "PageDrive$Pool" "unusedCount" "I") (wG_m2 (List.mem_of_getElem? (i := 2) rfl))) (fun _ h9 => h9) rfl d_PO_take_15 ?_
  refine pq_iald hx hb hK hP 6 0 pw_g6 rfl (by omega) (by omega) d_PO_take_18 ?_
  refine pq_top (y := nI (S 2 (S 7 0 - 1))) (by rw [h70, h2]) ?_
  refine lv_istore_n (lv' := [(1, .int (nI (S 2 (S 7 0 - 1)))), (0, .ref (ad 1))]) hx hb d_PO_take_19 rfl hl (by decide) rfl (fun ls hl => ?_)
  refine lv_aload_n hx hb d_PO_take_20 rfl (lv_at hl 1 rfl) ?_
  refine va_get (C := "PageDrive$Pool") (T := F_PO) (N := 6) hx hb hg iw_PO hown hK hP (1) pw_g1 rfl 2 (by decide) (hg (Cond.fieldLink "PageDrive$Pool" 19 "PageDrive$Pool" "rowsWith" "[I") (wG_m2 (List.mem_of_getElem? (i := 0) rfl))) (fun _ h9 => h9) rfl d_PO_take_21 ?_
  refine lv_iload_n hx hb d_PO_take_24 rfl (lv_at hl 0 rfl) ?_
  refine lv_iconst (v := nI 1) hx hb d_PO_take_25 (by decide) ?_
  refine pr_rw hx hb hK hP hD hS (by omega) (by omega) rfl d_PO_take_26 (fun H locs hP hD hS => ?_)
  generalize eS2 : pd_st S1 1 (S 2 (S 7 0 - 1)) 1 = S2 at hP hD
  refine lv_iload_n hx hb d_PO_take_27 rfl (lv_at hl 0 rfl) ?_
  exact W.iret (v := (nI (S 2 (S 7 0 - 1)))) hx hb hret (fun t9 ht9 hW9 => ⟨⟨_, _, rfl, ⟨rfl, by rw [← eS2, ← eS1]; rfl⟩, by rw [ht9]; exact hP, va_K.moved hW9.alike hK, hD⟩, hS.F ht9⟩) hS.2.2 d_PO_take_28
set_option maxHeartbeats 4000000 in
set_option maxRecDepth 100000 in
/-- join(p) -/
theorem c_PO_join (l : Launch) (dC : Nat → ClassId) (dI : Nat → Nat → Nat) (cI cB cE cL cZ : ClassId) (n : Nat) (ad : Nat → Nat) (S : pdS) (pg : Nat) (hp : pg < n) (hn : n ≤ 1024) (sz : Nat) : CMv l (dC, dI) (pw_ty cI cB cE cL cZ) y_PO_join w_PO_join ({ frames := 0, cells := 0, slots := 0, locals := 0 }) [.ref (ad 1), .int (nI pg)] (pw n ad cI cB cE S) (pw n ad cI cB cE) sz (fun S2 => S2 = pd_join S pg) := by
  refine Met.ofW (cc := b_PO_join) (maxL := 2) (ret := none) (by decide) rfl ?_
  intro p e s m args below meth c s₁ B hml hv
  obtain ⟨rfl, hsz, hP, hK, hD0⟩ := hv
  have hx := B.exec
  have hb := B.bytes
  have hret := B.returns
  have hts := atoms_spec (ws := w_PO_join) B.pre
  have hg : ∀ w ∈ wsG, w.before _ s = true := fun w h => hts w (List.mem_cons_of_mem _ h)
  have hown : s.vm.findClass "PageDrive$Pool" = some m.cls := findClass_of_methodNamed B.named
  have hlocks := B.notSynchronized
  subst hsz
  have hD := hD0.self (sz := s.heap.size)
  generalize hAe : va_A (pw n ad cI cB cE S) s.heap.size = A at hD ⊢
  have hA : ∀ q : Nat, s.heap.size ≤ q → A q := fun q h => by rw [← hAe]; exact Or.inr h
  have hS : va_S A s.heap s.heap [] := va_S.rf
  have hl := lv_entry ([.ref (ad 1), .int (nI pg)]) (n := 2) (Nat.le_of_ble_eq_true rfl)
  rw [lg_entry_eq]
  generalize (lg_sl ([.ref (ad 1), .int (nI pg)]) ++ List.replicate (2 - (lg_sl ([.ref (ad 1), .int (nI pg)])).length) Slot.unset).toArray = ls at hl ⊢
  have hl : lv_has ls 2 [(0, .ref (ad 1)), (1, .int (nI pg))] := hl
  refine lv_aload_n hx hb d_PO_join_0 rfl (lv_at hl 0 rfl) ?_
  refine va_get (C := "PageDrive$Pool") (T := F_PO) (N := 6) hx hb hg iw_PO hown hK hP (1) pw_g1 rfl 2 (by decide) (hg (Cond.fieldLink "PageDrive$Pool" 19 "PageDrive$Pool" "rowsWith" "[I") (wG_m2 (List.mem_of_getElem? (i := 0) rfl))) (fun _ h9 => h9) rfl d_PO_join_1 ?_
  refine lv_iload_n hx hb d_PO_join_4 rfl (lv_at hl 1 rfl) ?_
  refine lv_dup2_11 hx hb d_PO_join_5 rfl rfl ?_
  refine pq_iald hx hb hK hP 5 0 pw_g5 rfl (by omega) (by omega) d_PO_join_6 ?_
  refine lv_iconst (v := nI 1) hx hb d_PO_join_7 (by decide) ?_
  refine pq_iadd hx hb d_PO_join_8 ?_
  refine pr_rw hx hb hK hP hD hS (by omega) (by omega) rfl d_PO_join_9 (fun H locs hP hD hS => ?_)
  generalize eS1 : pd_st S 1 pg ((S 1 pg) + 1) = S1 at hP hD
  exact W.vret hx hb hret (fun t9 ht9 hW9 => ⟨⟨_, rfl, by rw [← eS1]; rfl, by rw [ht9]; exact hP, va_K.moved hW9.alike hK, hD⟩, hS.F ht9⟩) hS.2.2 d_PO_join_10
set_option maxHeartbeats 4000000 in
set_option maxRecDepth 100000 in
/-- leave(p) -/
theorem c_PO_leave (l : Launch) (dC : Nat → ClassId) (dI : Nat → Nat → Nat) (cI cB cE cL cZ : ClassId) (n : Nat) (ad : Nat → Nat) (S : pdS) (pg : Nat) (hp : pg < n) (hn : n ≤ 1024) (h1 : 0 < S 1 pg) (h1u : S 1 pg < 1000000) (hu : S 7 0 < n) (sz : Nat) : CMv l (dC, dI) (pw_ty cI cB cE cL cZ) y_PO_leave w_PO_leave ({ frames := 0, cells := 0, slots := 0, locals := 0 }) [.ref (ad 1), .int (nI pg)] (pw n ad cI cB cE S) (pw n ad cI cB cE) sz (fun S2 => S2 = pd_leave S pg) := by
  refine Met.ofW (cc := b_PO_leave) (maxL := 2) (ret := none) (by decide) rfl ?_
  intro p e s m args below meth c s₁ B hml hv
  obtain ⟨rfl, hsz, hP, hK, hD0⟩ := hv
  have hx := B.exec
  have hb := B.bytes
  have hret := B.returns
  have hts := atoms_spec (ws := w_PO_leave) B.pre
  have hg : ∀ w ∈ wsG, w.before _ s = true := fun w h => hts w (List.mem_cons_of_mem _ h)
  have hown : s.vm.findClass "PageDrive$Pool" = some m.cls := findClass_of_methodNamed B.named
  have hlocks := B.notSynchronized
  subst hsz
  have hD := hD0.self (sz := s.heap.size)
  generalize hAe : va_A (pw n ad cI cB cE S) s.heap.size = A at hD ⊢
  have hA : ∀ q : Nat, s.heap.size ≤ q → A q := fun q h => by rw [← hAe]; exact Or.inr h
  have hS : va_S A s.heap s.heap [] := va_S.rf
  have hl := lv_entry ([.ref (ad 1), .int (nI pg)]) (n := 2) (Nat.le_of_ble_eq_true rfl)
  rw [lg_entry_eq]
  generalize (lg_sl ([.ref (ad 1), .int (nI pg)]) ++ List.replicate (2 - (lg_sl ([.ref (ad 1), .int (nI pg)])).length) Slot.unset).toArray = ls at hl ⊢
  have hl : lv_has ls 2 [(0, .ref (ad 1)), (1, .int (nI pg))] := hl
  refine lv_aload_n hx hb d_PO_leave_0 rfl (lv_at hl 0 rfl) ?_
  refine va_get (C := "PageDrive$Pool") (T := F_PO) (N := 6) hx hb hg iw_PO hown hK hP (1) pw_g1 rfl 2 (by decide) (hg (Cond.fieldLink "PageDrive$Pool" 19 "PageDrive$Pool" "rowsWith" "[I") (wG_m2 (List.mem_of_getElem? (i := 0) rfl))) (fun _ h9 => h9) rfl d_PO_leave_1 ?_
  refine lv_iload_n hx hb d_PO_leave_4 rfl (lv_at hl 1 rfl) ?_
  refine lv_dup2_11 hx hb d_PO_leave_5 rfl rfl ?_
  refine pq_iald hx hb hK hP 5 0 pw_g5 rfl (by omega) (by omega) d_PO_leave_6 ?_
  refine lv_iconst (v := nI 1) hx hb d_PO_leave_7 (by decide) ?_
  refine pq_isub hx hb (by omega) d_PO_leave_8 ?_
  refine pr_rw hx hb hK hP hD hS (by omega) (by omega) rfl d_PO_leave_9 (fun H locs hP hD hS => ?_)
  generalize eS1 : pd_st S 1 pg ((S 1 pg) - 1) = S1 at hP hD
  have h11 : S1 1 pg = S 1 pg - 1 := by rw [← eS1, pd_self]
  have h17 : S1 7 = S 7 := by rw [← eS1, pd_bk _ (by decide)]
  have h170 : S1 7 0 = S 7 0 := by rw [h17]
  refine lv_aload_n hx hb d_PO_leave_10 rfl (lv_at hl 0 rfl) ?_
  refine va_get (C := "PageDrive$Pool") (T := F_PO) (N := 6) hx hb hg iw_PO hown hK hP (1) pw_g1 rfl 2 (by decide) (hg (Cond.fieldLink "PageDrive$Pool" 19 "PageDrive$Pool" "rowsWith" "[I") (wG_m2 (List.mem_of_getElem? (i := 0) rfl))) (fun _ h9 => h9) rfl d_PO_leave_11 ?_
  refine lv_iload_n hx hb d_PO_leave_14 rfl (lv_at hl 1 rfl) ?_
  refine pq_iald hx hb hK hP 5 0 pw_g5 rfl (by omega) (by omega) d_PO_leave_15 ?_
  refine pq_if_ne (tgt := 39) hx hb (by omega) d_PO_leave_16 (by decide) (fun h2 => ?_) (fun h2 => ?_)
  · exact W.vret hx hb hret (fun t9 ht9 hW9 => ⟨⟨_, rfl, by rw [← eS1]; unfold pd_leave; rw [if_neg (by omega)], by rw [ht9]; exact hP, va_K.moved hW9.alike hK, hD⟩, hS.F ht9⟩) hS.2.2 d_PO_leave_39
  · refine lv_aload_n hx hb d_PO_leave_19 rfl (lv_at hl 0 rfl) ?_
    refine va_get (C := "PageDrive$Pool") (T := F_PO) (N := 6) hx hb hg iw_PO hown hK hP (1) pw_g1 rfl 3 (by decide) (hg (Cond.fieldLink "PageDrive$Pool" 23 "PageDrive$Pool" "unused" "[I") (wG_m2 (List.mem_of_getElem? (i := 1) rfl))) (fun _ h9 => h9) rfl d_PO_leave_20 ?_
    refine lv_aload_n hx hb d_PO_leave_23 rfl (lv_at hl 0 rfl) ?_
    refine va_get (C := "PageDrive$Pool") (T := F_PO) (N := 6) hx hb hg iw_PO hown hK hP (1) pw_g1 rfl 4 (by decide) (hg (Cond.fieldLink "PageDrive$Pool" 26 "PageDrive$Pool" "unusedCount" "I") (wG_m2 (List.mem_of_getElem? (i := 2) rfl))) (fun _ h9 => h9) rfl d_PO_leave_24 ?_
    refine lv_iload_n hx hb d_PO_leave_27 rfl (lv_at hl 1 rfl) ?_
    refine pr_un hx hb hK hP hD hS (by omega) (by omega) rfl d_PO_leave_28 (fun H locs hP hD hS => ?_)
    generalize eS2 : pd_st S1 2 (S1 7 0) pg = S2 at hP hD
    have h270 : S2 7 0 = S 7 0 := by rw [← eS2, pd_bk _ (by decide), h17]
    refine lv_aload_n hx hb d_PO_leave_29 rfl (lv_at hl 0 rfl) ?_
    refine lv_dup hx hb d_PO_leave_30 rfl ?_
    refine va_get (C := "PageDrive$Pool") (T := F_PO) (N := 6) hx hb hg iw_PO hown hK hP (1) pw_g1 rfl 4 (by decide) (hg (Cond.fieldLink "PageDrive$Pool" 26 "PageDrive$Pool" "unusedCount" "I") (wG_m2 (List.mem_of_getElem? (i := 2) rfl))) (fun _ h9 => h9) rfl d_PO_leave_31 ?_
    refine lv_iconst (v := nI 1) hx hb d_PO_leave_34 (by decide) ?_
    refine pq_iadd hx hb d_PO_leave_35 ?_
    refine pr_uc hx hb hg hown hK hP hD hS (hg (Cond.fieldLink "PageDrive$Pool" 26 "PageDrive$Pool" "unusedCount" "I") (wG_m2 (List.mem_of_getElem? (i := 2) rfl))) d_PO_leave_36 (fun H locs hP hD hS => ?_)
    generalize eS3 : pd_st S2 7 0 ((S2 7 0) + 1) = S3 at hP hD
    exact W.vret hx hb hret (fun t9 ht9 hW9 => ⟨⟨_, rfl, by rw [← eS3, ← eS2, h170, pd_bk _ (by decide), h17, ← eS1]; unfold pd_leave; rw [if_pos (by omega), show S 1 pg - 1 = 0 by omega], by rw [ht9]; exact hP, va_K.moved hW9.alike hK, hD⟩, hS.F ht9⟩) hS.2.2 d_PO_leave_39
set_option maxHeartbeats 4000000 in
set_option maxRecDepth 100000 in
/-- placeOf(i) -/
theorem c_CO_placeOf (l : Launch) (dC : Nat → ClassId) (dI : Nat → Nat → Nat) (cI cB cE cL cZ : ClassId) (n : Nat) (ad : Nat → Nat) (S : pdS) (cc i : Nat) (hc : cc < 32) (hi : i < 25600) (hr0 : S (8 + cc) (i / 64) < 1024) (sz : Nat) : CMi l (dC, dI) (pw_ty cI cB cE cL cZ) y_CO_placeOf w_CO_placeOf ({ frames := 0, cells := 0, slots := 0, locals := 0 }) [.ref (ad (23 + cc)), .int (nI i)] (pw n ad cI cB cE S) (fun _ : Unit => pw n ad cI cB cE S) sz (fun r _ => r = nI (64 * S (8 + cc) (i / 64) + i % 64)) := by
  refine Met.ofW (cc := b_CO_placeOf) (maxL := 2) (ret := (some .int)) (by decide) rfl ?_
  intro p e s m args below meth c s₁ B hml hv
  obtain ⟨rfl, hsz, hP, hK, hD0⟩ := hv
  have hx := B.exec
  have hb := B.bytes
  have hret := B.returns
  have hts := atoms_spec (ws := w_CO_placeOf) B.pre
  have hg : ∀ w ∈ wsG, w.before _ s = true := fun w h => hts w (List.mem_cons_of_mem _ h)
  have hown : s.vm.findClass "PageDrive$Content" = some m.cls := findClass_of_methodNamed B.named
  have hlocks := B.notSynchronized
  subst hsz
  have hD := hD0.self (sz := s.heap.size)
  generalize hAe : va_A (pw n ad cI cB cE S) s.heap.size = A at hD ⊢
  have hA : ∀ q : Nat, s.heap.size ≤ q → A q := fun q h => by rw [← hAe]; exact Or.inr h
  have hS : va_S A s.heap s.heap [] := va_S.rf
  have hl := lv_entry ([.ref (ad (23 + cc)), .int (nI i)]) (n := 2) (Nat.le_of_ble_eq_true rfl)
  rw [lg_entry_eq]
  generalize (lg_sl ([.ref (ad (23 + cc)), .int (nI i)]) ++ List.replicate (2 - (lg_sl ([.ref (ad (23 + cc)), .int (nI i)])).length) Slot.unset).toArray = ls at hl ⊢
  have hl : lv_has ls 2 [(0, .ref (ad (23 + cc))), (1, .int (nI i))] := hl
  refine lv_aload_n hx hb d_CO_placeOf_0 rfl (lv_at hl 0 rfl) ?_
  refine va_get (C := "PageDrive$Content") (T := F_CO) (N := 3) hx hb hg iw_CO hown hK hP (23 + cc) (pw_gC (i := cc) (by omega)) rfl 0 (by decide) (hg (Cond.fieldLink "PageDrive$Content" 9 "PageDrive$Content" "row" "[I") (wG_m2 (List.mem_of_getElem? (i := 31) rfl))) (fun _ h9 => h9) rfl d_CO_placeOf_1 ?_
  refine lv_iload_n hx hb d_CO_placeOf_4 rfl (lv_at hl 1 rfl) ?_
  refine lv_bipush (v := nI 64) hx hb d_CO_placeOf_5 (by decide) ?_
  refine pq_idiv hx hb (by omega) (by omega) (by omega) d_CO_placeOf_7 ?_
  refine pq_iald hx hb hK hP (55 + cc) 0 (pw_gR (i := cc) (by omega)) rfl (by omega) (by omega) d_CO_placeOf_8 ?_
  refine lv_bipush (v := nI 64) hx hb d_CO_placeOf_9 (by decide) ?_
  refine pq_imul hx hb d_CO_placeOf_11 ?_
  refine lv_iload_n hx hb d_CO_placeOf_12 rfl (lv_at hl 1 rfl) ?_
  refine lv_bipush (v := nI 64) hx hb d_CO_placeOf_13 (by decide) ?_
  refine pq_irem hx hb (by omega) (by omega) (by omega) d_CO_placeOf_15 ?_
  refine pq_iadd hx hb d_CO_placeOf_16 ?_
  refine pq_top (y := nI (64 * S (8 + cc) (i / 64) + i % 64)) (by rw [Nat.mul_comm]) ?_
  exact W.iret (v := (nI (64 * S (8 + cc) (i / 64) + i % 64))) hx hb hret (fun t9 ht9 hW9 => ⟨⟨_, (), rfl, rfl, by rw [ht9]; exact hP, va_K.moved hW9.alike hK, hD⟩, hS.F ht9⟩) hS.2.2 d_CO_placeOf_17
