/-! THE LAW'S HELPERS -/
def hp_feed (n : Nat) (S : pdS) (x : Int64) (k : Int32) : Int32 → pdS → Prop := fun r S2 => ∃ j, 1 ≤ j ∧ j ≤ 8 ∧ k = nI j ∧ S 7 2 + j ≤ 4096 ∧ r = nI (S 7 2 + j) ∧ S2 = pd_fd S x j
def hx_feed (n : Nat) (S : pdS) (x : Int64) (k : Int32) : String → pdS → Prop := fun E S2 => (E = "java/lang/IllegalArgumentException" ∧ (∀ j, 1 ≤ j → j ≤ 8 → k ≠ nI j) ∧ S2 = S) ∨ (E = "java/lang/IllegalStateException" ∧ ∃ j, 1 ≤ j ∧ j ≤ 8 ∧ k = nI j ∧ 4096 < S 7 2 + j ∧ S2 = S)
def hp_append (n : Nat) (S : pdS) (f : Int32) (t : Int32) : Int32 → pdS → Prop := fun r S2 => ∃ i j, i < 16 ∧ f = nI i ∧ 1 ≤ j ∧ j ≤ 16 ∧ t = nI j ∧ pd_rm S (2 * i) (S 7 2 * j) ∧ r = nI (S 4 (2 * i) + S 7 2 * j) ∧ pd_ap n S S2 (2 * i) (S 7 2 * j) (fun q => S 3 (q % S 7 2)) ∧ pd_ok n S2 (pd_ct S2)
def hx_append (n : Nat) (S : pdS) (f : Int32) (t : Int32) : String → pdS → Prop := fun E S2 => (E = "java/lang/IndexOutOfBoundsException" ∧ (pd_nof f ∨ ∀ j, 1 ≤ j → j ≤ 16 → t ≠ nI j) ∧ S2 = S) ∨ (E = "java/lang/UnsupportedOperationException" ∧ ∃ i j, i < 16 ∧ f = nI i ∧ 1 ≤ j ∧ j ≤ 16 ∧ t = nI j ∧ ¬ pd_rm S (2 * i) (S 7 2 * j) ∧ S2 = pd_st S 7 2 0)
def hp_cut (n : Nat) (S : pdS) (f : Int32) (z : Int32) : Int32 → pdS → Prop := fun r S2 => ∃ i x, i < 16 ∧ f = nI i ∧ S 5 (2 * i) ≠ 0 ∧ x ≤ S 4 (2 * i) ∧ z = nI x ∧ r = nI (S 4 (2 * i)) ∧ pd_cut S S2 i x ∧ pd_ok n S2 (pd_ct S2)
def hx_cut (n : Nat) (S : pdS) (f : Int32) (z : Int32) : String → pdS → Prop := fun E S2 => S2 = S ∧ ((E = "java/lang/IndexOutOfBoundsException" ∧ pd_nof f) ∨ (E = "java/util/NoSuchElementException" ∧ ∃ i, i < 16 ∧ f = nI i ∧ S 5 (2 * i) = 0) ∨ (E = "java/lang/IllegalArgumentException" ∧ ∃ i, i < 16 ∧ f = nI i ∧ S 5 (2 * i) ≠ 0 ∧ ∀ x, x ≤ S 4 (2 * i) → z ≠ nI x))
def hp_remove (n : Nat) (S : pdS) (f : Int32) : Int32 → pdS → Prop := fun r S2 => ∃ i, i < 16 ∧ f = nI i ∧ r = nI (S 5 (2 * i)) ∧ pd_rem S S2 i ∧ pd_ok n S2 (pd_ct S2)
def hx_remove (n : Nat) (S : pdS) (f : Int32) : String → pdS → Prop := fun E S2 => S2 = S ∧ E = "java/lang/IndexOutOfBoundsException" ∧ pd_nof f
def hp_twin (n : Nat) (S : pdS) (f : Int32) (z : Int32) : Int32 → pdS → Prop := fun r S2 => ∃ i j, i < 16 ∧ f = nI i ∧ j < 16 ∧ z = nI j ∧ S 5 (2 * i) ≠ 0 ∧ r = nI (S 4 (2 * i)) ∧ pd_twi S S2 i j ∧ pd_ok n S2 (pd_ct S2)
def hx_twin (n : Nat) (S : pdS) (f : Int32) (z : Int32) : String → pdS → Prop := fun E S2 => S2 = S ∧ ((E = "java/lang/IndexOutOfBoundsException" ∧ (pd_nof f ∨ pd_nof z)) ∨ (E = "java/util/NoSuchElementException" ∧ ∃ i j, i < 16 ∧ f = nI i ∧ j < 16 ∧ z = nI j ∧ S 5 (2 * i) = 0))
def hp_sync (n : Nat) (S : pdS) (f : Int32) : Int32 → pdS → Prop := fun r S2 => ∃ i, i < 16 ∧ f = nI i ∧ r = nI (pd_un S i) ∧ pd_set S S2 i ∧ pd_ok n S2 (pd_ct S2)
def hx_sync (n : Nat) (S : pdS) (f : Int32) : String → pdS → Prop := fun E S2 => S2 = S ∧ E = "java/lang/IndexOutOfBoundsException" ∧ pd_nof f
def hp_crash (n : Nat) (S : pdS) (f : Int32) (z : Int32) : Int32 → pdS → Prop := fun r S2 => ∃ i k, i < 16 ∧ f = nI i ∧ k < 2 ^ 31 ∧ z = nI k ∧ r = nI (S2 4 (2 * i)) ∧ pd_fal S S2 i k ∧ pd_ok n S2 (pd_ct S2)
def hx_crash (n : Nat) (S : pdS) (f : Int32) (z : Int32) : String → pdS → Prop := fun E S2 => S2 = S ∧ ((E = "java/lang/IndexOutOfBoundsException" ∧ pd_nof f) ∨ (E = "java/lang/IllegalArgumentException" ∧ ∃ i, i < 16 ∧ f = nI i ∧ z < 0))
def hp_file (n : Nat) (S : pdS) (f : Int32) (z : Int32) : Int32 → pdS → Prop := fun r S2 => S2 = S ∧ ∃ i w, i < 16 ∧ f = nI i ∧ w ≤ 7 ∧ z = nI w ∧ r = nI (pd_fi S i w)
def hx_file (n : Nat) (S : pdS) (f : Int32) (z : Int32) : String → pdS → Prop := fun E S2 => S2 = S ∧ E = "java/lang/IndexOutOfBoundsException" ∧ (pd_nof f ∨ ∀ w, w ≤ 7 → z ≠ nI w)
def hp_byteAt (n : Nat) (S : pdS) (f : Int32) (b : Nat) (z : Int32) : Int32 → pdS → Prop := fun r S2 => S2 = S ∧ ∃ i j, i < 16 ∧ f = nI i ∧ j < S 4 (2 * i + b) ∧ z = nI j ∧ r = nI (pd_by S (2 * i + b) j)
def hx_byteAt (n : Nat) (S : pdS) (f : Int32) (b : Nat) (z : Int32) : String → pdS → Prop := fun E S2 => S2 = S ∧ E = "java/lang/IndexOutOfBoundsException" ∧ (pd_nof f ∨ ∃ i, i < 16 ∧ f = nI i ∧ ∀ j, j < S 4 (2 * i + b) → z ≠ nI j)
abbrev w_LA_feed : List Cond := Cond.codeWith y_LA_feed b_LA_feed 6 (some .int) [(0, 11, 14, 13), (0, 11, 18, 15)] :: wsG
set_option maxHeartbeats 4000000 in
set_option maxRecDepth 100000 in
/-- feed -/
theorem c_LA_feed (l : Launch) (dC : Nat → ClassId) (dI : Nat → Nat → Nat) (cI cB cE cL cZ : ClassId) (hst : l.stackTraces = false) (ob : Nat) (g : Nat → Int64) (n : Nat) (ad : Nat → Nat) (S : pdS) (x : Int64) (k : Int32) (h72 : S 7 2 ≤ 4096) (sz : Nat) : CMh l (dC, dI) (pw_ty cI cB cE cL cZ) y_LA_feed w_LA_feed ({ frames := 7, cells := 1, slots := 6, locals := 106 }) [.ref (ad 0), .long x, .int k, .ref ob] (pn_o cL ob g ++ pw n ad cI cB cE S) (fun u : (Nat → Int64) × pdS => pn_o cL ob u.1 ++ pw n ad cI cB cE u.2) sz (fun r u => (r = nI 0 ∧ ∃ r0 : Int32, u.1 0 = r0.toInt64 ∧ hp_feed n S x k r0 u.2) ∨ (r = nI 1 ∧ hx_feed n S x k "java/lang/IllegalArgumentException" u.2) ∨ (r = nI 2 ∧ hx_feed n S x k "java/lang/IllegalStateException" u.2)) := by
  refine pn_ofWH (cc := b_LA_feed) (maxL := 6) (ret := (some .int)) (hh := [(0, 11, 14, 13), (0, 11, 18, 15)]) (by decide) rfl ?_
  intro p e s m args below meth c s₁ B hml hv
  obtain ⟨rfl, ⟨hsz, hP, hK, hD0⟩, hKK, hZ⟩ := hv
  have hx := B.exec
  have hb := B.bytes
  have hret := B.returns
  have hts := atoms_spec (ws := w_LA_feed) B.pre
  have htab := vx_table (x := y_LA_feed) B (hts _ List.mem_cons_self)
  have hg : ∀ w ∈ wsG, w.before _ s = true := fun w h => hts w (List.mem_cons_of_mem _ h)
  have hown : s.vm.findClass "PageDriveLaw" = some m.cls := findClass_of_methodNamed B.named
  have hlocks := B.notSynchronized
  subst hsz
  have hD := hD0.self (sz := s.heap.size)
  generalize hAe : va_A (pn_o cL ob g ++ pw n ad cI cB cE S) s.heap.size = A at hD hZ ⊢
  have hA : ∀ q : Nat, s.heap.size ≤ q → A q := fun q h => by rw [← hAe]; exact Or.inr h
  have hS : va_S A s.heap s.heap [] := va_S.rf
  have hl := lv_entry ([.ref (ad 0), .long x, .int k, .ref ob]) (n := 6) (Nat.le_of_ble_eq_true rfl)
  rw [lg_entry_eq]
  generalize (lg_sl ([.ref (ad 0), .long x, .int k, .ref ob]) ++ List.replicate (6 - (lg_sl ([.ref (ad 0), .long x, .int k, .ref ob])).length) Slot.unset).toArray = ls at hl ⊢
  have hl : lv_has ls 6 [(0, .ref (ad 0)), (1, .long x), (3, .int k), (4, .ref ob)] := hl
  have hF : ∀ q, va_A (pw n ad cI cB cE S) s.heap.size q → A q := pw_hF (pn_Dr hD) hS hA
  refine lv_aload hx hb d_LA_feed_0 (lv_at hl 3 rfl) ?_
  refine lv_iconst (v := nI 0) hx hb d_LA_feed_2 (by decide) ?_
  refine lv_aload_n hx hb d_LA_feed_3 rfl (lv_at hl 0 rfl) ?_
  refine lv_lload_n hx hb d_LA_feed_4 rfl (lv_at hl 1 rfl) ?_
  refine lv_iload_n hx hb d_LA_feed_5 rfl (lv_at hl 2 rfl) ?_
  refine pn_xcalli (post := hp_feed n S x k) (xp := hx_feed n S x k) (Wf := pw n ad cI cB cE) (tys := pw_ty cI cB cE cL cZ) (vx_runV (rm := { frames := 6, cells := 1, slots := 6, locals := 82 }) (mc := 1) (ms := 6) (As := [.long x, .int k]) (rest := [.int (nI 0), .ref ob]) ⟨hx, hb, hml, hown, hg⟩ (c_PD_feed l dC dI cI cB cE cL cZ hst n ad S x k h72 s.heap.size) (cwV 2 hg (gi_V (fun _ h => h) (wG_m5 (List.mem_of_getElem? (i := 1) rfl)) (wG_m5 (List.mem_of_getElem? (i := 2) rfl)) (wG_m5 (List.mem_of_getElem? (i := 3) rfl)) (wG_m1 (List.mem_of_getElem? (i := 1) rfl)) (wG_m5 (List.mem_of_getElem? (i := 4) rfl))) rfl rfl rfl (by decide +kernel) ⟨Nat.le_of_ble_eq_true rfl, Nat.le_of_ble_eq_true rfl⟩) (px_pv hK (pn_Pr hP) (pn_Dr hD) hKK (pn_Zc hZ hS hF) (va_recv hK (pn_Pr hP) (ci := 0) (q0 := 0) rfl pw_g0) [.long x, .int k]) rfl rfl hl.1 rfl (lv_room (Nat.le_of_ble_eq_true rfl)) d_LA_feed_6 ⟨Nat.le_of_ble_eq_true rfl, Nat.le_of_ble_eq_true rfl⟩) hP hD hS hA (fun E ce q9 S2 H locs hxp hP hD hS c1 c2 c3 => ?_) (fun r S2 H locs hr hP hD hS => ?_)
  · have hE : E = "java/lang/IllegalArgumentException" ∨ E = "java/lang/IllegalStateException" := hxp.elim (fun q => Or.inl q.1) (fun q => Or.inr q.1)
    rcases hE with rfl | rfl
    · refine vx_catch (own := "PageDriveLaw") (name := "java/lang/IllegalArgumentException") hown [] ⟨0, 11, 14, 13⟩ [⟨0, 11, 18, 15⟩] (htab.trans rfl) (fun z hz => absurd hz List.not_mem_nil) rfl (by decide) (hg (Cond.classLink "PageDriveLaw" 13 "java/lang/IllegalArgumentException") (wG_m4 (List.mem_of_getElem? (i := 39) rfl))) (va_Nw.use (pgB_ot _ (by decide +kernel)) (hKK.1 (Cond.castable "java/lang/IllegalArgumentException" "java/lang/IllegalArgumentException") (by decide +kernel))) c1 c2 c3 ?_
      show W _ _ _ _ _ _ _ _ _ _ _ _ _ _ _ (F0 m 14 ls [.ref q9])
      refine lv_astore (lv' := [(5, .ref q9), (0, .ref (ad 0)), (1, .long x), (3, .int k), (4, .ref ob)]) hx hb d_LA_feed_14 hl (by decide) rfl (fun ls hl => ?_)
      refine lv_iconst (v := nI 1) hx hb d_LA_feed_16 (by decide) ?_
      exact W.iret (v := nI 1) hx hb hret (fun t9 ht9 hW9 => ⟨⟨_, (g, S2), rfl, Or.inr (Or.inl ⟨rfl, hxp⟩), by rw [ht9]; exact hP, va_K.moved hW9.alike hK, hD⟩, hS.F ht9⟩) hS.2.2 d_LA_feed_17
    · refine vx_catch (own := "PageDriveLaw") (name := "java/lang/IllegalStateException") hown [⟨0, 11, 14, 13⟩] ⟨0, 11, 18, 15⟩ [] (htab.trans rfl) (fun z hz => by
          rcases List.mem_cons.mp hz with rfl | hz
          · exact Or.inr ⟨by decide, "java/lang/IllegalArgumentException", (hg (Cond.classLink "PageDriveLaw" 13 "java/lang/IllegalArgumentException") (wG_m4 (List.mem_of_getElem? (i := 39) rfl))), hKK.2.2 ("java/lang/IllegalStateException", "java/lang/IllegalArgumentException") (by decide +kernel)⟩
          exact absurd hz List.not_mem_nil) rfl (by decide) (hg (Cond.classLink "PageDriveLaw" 15 "java/lang/IllegalStateException") (wG_m5 (List.mem_of_getElem? (i := 0) rfl))) (va_Nw.use (pgB_ot _ (by decide +kernel)) (hKK.1 (Cond.castable "java/lang/IllegalStateException" "java/lang/IllegalStateException") (by decide +kernel))) c1 c2 c3 ?_
      show W _ _ _ _ _ _ _ _ _ _ _ _ _ _ _ (F0 m 18 ls [.ref q9])
      refine lv_astore (lv' := [(5, .ref q9), (0, .ref (ad 0)), (1, .long x), (3, .int k), (4, .ref ob)]) hx hb d_LA_feed_18 hl (by decide) rfl (fun ls hl => ?_)
      refine lv_iconst (v := nI 2) hx hb d_LA_feed_20 (by decide) ?_
      exact W.iret (v := nI 2) hx hb hret (fun t9 ht9 hW9 => ⟨⟨_, (g, S2), rfl, Or.inr (Or.inr (⟨rfl, hxp⟩)), by rw [ht9]; exact hP, va_K.moved hW9.alike hK, hD⟩, hS.F ht9⟩) hS.2.2 d_LA_feed_21
  · refine lv_i2l hx hb d_LA_feed_9 rfl ?_
    refine va_last hx hb hK hP hD hS 0 3 rfl rfl (vp_in_nI (by decide) (by decide)) d_LA_feed_10 (fun H locs hP hD hS => ?_)
    refine lv_goto (tgt := 22) hx hb d_LA_feed_11 (by decide) ?_
    refine lv_iconst (v := nI 0) hx hb d_LA_feed_22 (by decide) ?_
    exact W.iret (v := nI 0) hx hb hret (fun t9 ht9 hW9 => ⟨⟨_, (vp_updL g (nI 0).toNatClampNeg r.toInt64, S2), rfl, Or.inl ⟨rfl, r, pn_upd0 g (r.toInt64), hr⟩, by rw [ht9]; exact hP, va_K.moved hW9.alike hK, hD⟩, hS.F ht9⟩) hS.2.2 d_LA_feed_23
abbrev w_LA_append : List Cond := Cond.codeWith y_LA_append b_LA_append 5 (some .int) [(0, 10, 13, 21), (0, 10, 17, 23)] :: wsG
set_option maxHeartbeats 4000000 in
set_option maxRecDepth 100000 in
/-- append -/
theorem c_LA_append (l : Launch) (dC : Nat → ClassId) (dI : Nat → Nat → Nat) (cI cB cE cL cZ : ClassId) (hst : l.stackTraces = false) (ob : Nat) (g : Nat → Int64) (n : Nat) (ad : Nat → Nat) (S : pdS) (f t : Int32) (hn : n ≤ 1024) (hv : pd_v n S) (ho : pd_ok n S (pd_ct S)) (sz : Nat) : CMh l (dC, dI) (pw_ty cI cB cE cL cZ) y_LA_append w_LA_append ({ frames := 7, cells := 1, slots := 6, locals := 131 }) [.ref (ad 0), .int f, .int t, .ref ob] (pn_o cL ob g ++ pw n ad cI cB cE S) (fun u : (Nat → Int64) × pdS => pn_o cL ob u.1 ++ pw n ad cI cB cE u.2) sz (fun r u => (r = nI 0 ∧ ∃ r0 : Int32, u.1 0 = r0.toInt64 ∧ hp_append n S f t r0 u.2) ∨ (r = nI 1 ∧ hx_append n S f t "java/lang/IndexOutOfBoundsException" u.2) ∨ (r = nI 2 ∧ hx_append n S f t "java/lang/UnsupportedOperationException" u.2)) := by
  refine pn_ofWH (cc := b_LA_append) (maxL := 5) (ret := (some .int)) (hh := [(0, 10, 13, 21), (0, 10, 17, 23)]) (by decide) rfl ?_
  intro p e s m args below meth c s₁ B hml hv
  obtain ⟨rfl, ⟨hsz, hP, hK, hD0⟩, hKK, hZ⟩ := hv
  have hx := B.exec
  have hb := B.bytes
  have hret := B.returns
  have hts := atoms_spec (ws := w_LA_append) B.pre
  have htab := vx_table (x := y_LA_feed) B (hts _ List.mem_cons_self)
  have hg : ∀ w ∈ wsG, w.before _ s = true := fun w h => hts w (List.mem_cons_of_mem _ h)
  have hown : s.vm.findClass "PageDriveLaw" = some m.cls := findClass_of_methodNamed B.named
  have hlocks := B.notSynchronized
  subst hsz
  have hD := hD0.self (sz := s.heap.size)
  generalize hAe : va_A (pn_o cL ob g ++ pw n ad cI cB cE S) s.heap.size = A at hD hZ ⊢
  have hA : ∀ q : Nat, s.heap.size ≤ q → A q := fun q h => by rw [← hAe]; exact Or.inr h
  have hS : va_S A s.heap s.heap [] := va_S.rf
  have hl := lv_entry ([.ref (ad 0), .int f, .int t, .ref ob]) (n := 5) (Nat.le_of_ble_eq_true rfl)
  rw [lg_entry_eq]
  generalize (lg_sl ([.ref (ad 0), .int f, .int t, .ref ob]) ++ List.replicate (5 - (lg_sl ([.ref (ad 0), .int f, .int t, .ref ob])).length) Slot.unset).toArray = ls at hl ⊢
  have hl : lv_has ls 5 [(0, .ref (ad 0)), (1, .int f), (2, .int t), (3, .ref ob)] := hl
  have hF : ∀ q, va_A (pw n ad cI cB cE S) s.heap.size q → A q := pw_hF (pn_Dr hD) hS hA
  refine lv_aload_n hx hb d_LA_append_0 rfl (lv_at hl 3 rfl) ?_
  refine lv_iconst (v := nI 0) hx hb d_LA_append_1 (by decide) ?_
  refine lv_aload_n hx hb d_LA_append_2 rfl (lv_at hl 0 rfl) ?_
  refine lv_iload_n hx hb d_LA_append_3 rfl (lv_at hl 1 rfl) ?_
  refine lv_iload_n hx hb d_LA_append_4 rfl (lv_at hl 2 rfl) ?_
  refine pn_xcalli (post := hp_append n S f t) (xp := hx_append n S f t) (Wf := pw n ad cI cB cE) (tys := pw_ty cI cB cE cL cZ) (vx_runV (rm := { frames := 6, cells := 1, slots := 6, locals := 105 }) (mc := 1) (ms := 6) (As := [.int f, .int t]) (rest := [.int (nI 0), .ref ob]) ⟨hx, hb, hml, hown, hg⟩ (c_PD_append l dC dI cI cB cE cL cZ hst n ad S f t hn hv ho s.heap.size) (cwV 2 hg (gi_V (fun _ h => h) (wG_m7 (List.mem_of_getElem? (i := 1) rfl)) (wG_m7 (List.mem_of_getElem? (i := 2) rfl)) (wG_m7 (List.mem_of_getElem? (i := 3) rfl)) (wG_m1 (List.mem_of_getElem? (i := 1) rfl)) (wG_m7 (List.mem_of_getElem? (i := 4) rfl))) rfl rfl rfl (by decide +kernel) ⟨Nat.le_of_ble_eq_true rfl, Nat.le_of_ble_eq_true rfl⟩) (px_pv hK (pn_Pr hP) (pn_Dr hD) hKK (pn_Zc hZ hS hF) (va_recv hK (pn_Pr hP) (ci := 0) (q0 := 0) rfl pw_g0) [.int f, .int t]) rfl rfl hl.1 rfl (lv_room (Nat.le_of_ble_eq_true rfl)) d_LA_append_5 ⟨Nat.le_of_ble_eq_true rfl, Nat.le_of_ble_eq_true rfl⟩) hP hD hS hA (fun E ce q9 S2 H locs hxp hP hD hS c1 c2 c3 => ?_) (fun r S2 H locs hr hP hD hS => ?_)
  · have hE : E = "java/lang/IndexOutOfBoundsException" ∨ E = "java/lang/UnsupportedOperationException" := hxp.elim (fun q => Or.inl q.1) (fun q => Or.inr q.1)
    rcases hE with rfl | rfl
    · refine vx_catch (own := "PageDriveLaw") (name := "java/lang/IndexOutOfBoundsException") hown [] ⟨0, 10, 13, 21⟩ [⟨0, 10, 17, 23⟩] (htab.trans rfl) (fun z hz => absurd hz List.not_mem_nil) rfl (by decide) (hg (Cond.classLink "PageDriveLaw" 21 "java/lang/IndexOutOfBoundsException") (wG_m6 (List.mem_of_getElem? (i := 39) rfl))) (va_Nw.use (pgB_ot _ (by decide +kernel)) (hKK.1 (Cond.castable "java/lang/IndexOutOfBoundsException" "java/lang/IndexOutOfBoundsException") (by decide +kernel))) c1 c2 c3 ?_
      show W _ _ _ _ _ _ _ _ _ _ _ _ _ _ _ (F0 m 13 ls [.ref q9])
      refine lv_astore (lv' := [(4, .ref q9), (0, .ref (ad 0)), (1, .int f), (2, .int t), (3, .ref ob)]) hx hb d_LA_append_13 hl (by decide) rfl (fun ls hl => ?_)
      refine lv_iconst (v := nI 1) hx hb d_LA_append_15 (by decide) ?_
      exact W.iret (v := nI 1) hx hb hret (fun t9 ht9 hW9 => ⟨⟨_, (g, S2), rfl, Or.inr (Or.inl ⟨rfl, hxp⟩), by rw [ht9]; exact hP, va_K.moved hW9.alike hK, hD⟩, hS.F ht9⟩) hS.2.2 d_LA_append_16
    · refine vx_catch (own := "PageDriveLaw") (name := "java/lang/UnsupportedOperationException") hown [⟨0, 10, 13, 21⟩] ⟨0, 10, 17, 23⟩ [] (htab.trans rfl) (fun z hz => by
          rcases List.mem_cons.mp hz with rfl | hz
          · exact Or.inr ⟨by decide, "java/lang/IndexOutOfBoundsException", (hg (Cond.classLink "PageDriveLaw" 21 "java/lang/IndexOutOfBoundsException") (wG_m6 (List.mem_of_getElem? (i := 39) rfl))), hKK.2.2 ("java/lang/UnsupportedOperationException", "java/lang/IndexOutOfBoundsException") (by decide +kernel)⟩
          exact absurd hz List.not_mem_nil) rfl (by decide) (hg (Cond.classLink "PageDriveLaw" 23 "java/lang/UnsupportedOperationException") (wG_m7 (List.mem_of_getElem? (i := 0) rfl))) (va_Nw.use (pgB_ot _ (by decide +kernel)) (hKK.1 (Cond.castable "java/lang/UnsupportedOperationException" "java/lang/UnsupportedOperationException") (by decide +kernel))) c1 c2 c3 ?_
      show W _ _ _ _ _ _ _ _ _ _ _ _ _ _ _ (F0 m 17 ls [.ref q9])
      refine lv_astore (lv' := [(4, .ref q9), (0, .ref (ad 0)), (1, .int f), (2, .int t), (3, .ref ob)]) hx hb d_LA_append_17 hl (by decide) rfl (fun ls hl => ?_)
      refine lv_iconst (v := nI 2) hx hb d_LA_append_19 (by decide) ?_
      exact W.iret (v := nI 2) hx hb hret (fun t9 ht9 hW9 => ⟨⟨_, (g, S2), rfl, Or.inr (Or.inr (⟨rfl, hxp⟩)), by rw [ht9]; exact hP, va_K.moved hW9.alike hK, hD⟩, hS.F ht9⟩) hS.2.2 d_LA_append_20
  · refine lv_i2l hx hb d_LA_append_8 rfl ?_
    refine va_last hx hb hK hP hD hS 0 3 rfl rfl (vp_in_nI (by decide) (by decide)) d_LA_append_9 (fun H locs hP hD hS => ?_)
    refine lv_goto (tgt := 21) hx hb d_LA_append_10 (by decide) ?_
    refine lv_iconst (v := nI 0) hx hb d_LA_append_21 (by decide) ?_
    exact W.iret (v := nI 0) hx hb hret (fun t9 ht9 hW9 => ⟨⟨_, (vp_updL g (nI 0).toNatClampNeg r.toInt64, S2), rfl, Or.inl ⟨rfl, r, pn_upd0 g (r.toInt64), hr⟩, by rw [ht9]; exact hP, va_K.moved hW9.alike hK, hD⟩, hS.F ht9⟩) hS.2.2 d_LA_append_22
abbrev w_LA_cut : List Cond := Cond.codeWith y_LA_cut b_LA_cut 5 (some .int) [(0, 10, 13, 21), (0, 10, 17, 28), (0, 10, 21, 13)] :: wsG
set_option maxHeartbeats 4000000 in
set_option maxRecDepth 100000 in
/-- cut -/
theorem c_LA_cut (l : Launch) (dC : Nat → ClassId) (dI : Nat → Nat → Nat) (cI cB cE cL cZ : ClassId) (hst : l.stackTraces = false) (ob : Nat) (g : Nat → Int64) (n : Nat) (ad : Nat → Nat) (S : pdS) (f z : Int32) (hn : n ≤ 1024) (hv : pd_v n S) (ho : pd_ok n S (pd_ct S)) (hlw : pd_lo S) (sz : Nat) : CMh l (dC, dI) (pw_ty cI cB cE cL cZ) y_LA_cut w_LA_cut ({ frames := 7, cells := 1, slots := 6, locals := 106 }) [.ref (ad 0), .int f, .int z, .ref ob] (pn_o cL ob g ++ pw n ad cI cB cE S) (fun u : (Nat → Int64) × pdS => pn_o cL ob u.1 ++ pw n ad cI cB cE u.2) sz (fun r u => (r = nI 0 ∧ ∃ r0 : Int32, u.1 0 = r0.toInt64 ∧ hp_cut n S f z r0 u.2) ∨ (r = nI 1 ∧ hx_cut n S f z "java/lang/IndexOutOfBoundsException" u.2) ∨ (r = nI 2 ∧ hx_cut n S f z "java/util/NoSuchElementException" u.2) ∨ (r = nI 3 ∧ hx_cut n S f z "java/lang/IllegalArgumentException" u.2)) := by
  refine pn_ofWH (cc := b_LA_cut) (maxL := 5) (ret := (some .int)) (hh := [(0, 10, 13, 21), (0, 10, 17, 28), (0, 10, 21, 13)]) (by decide) rfl ?_
  intro p e s m args below meth c s₁ B hml hv
  obtain ⟨rfl, ⟨hsz, hP, hK, hD0⟩, hKK, hZ⟩ := hv
  have hx := B.exec
  have hb := B.bytes
  have hret := B.returns
  have hts := atoms_spec (ws := w_LA_cut) B.pre
  have htab := vx_table (x := y_LA_feed) B (hts _ List.mem_cons_self)
  have hg : ∀ w ∈ wsG, w.before _ s = true := fun w h => hts w (List.mem_cons_of_mem _ h)
  have hown : s.vm.findClass "PageDriveLaw" = some m.cls := findClass_of_methodNamed B.named
  have hlocks := B.notSynchronized
  subst hsz
  have hD := hD0.self (sz := s.heap.size)
  generalize hAe : va_A (pn_o cL ob g ++ pw n ad cI cB cE S) s.heap.size = A at hD hZ ⊢
  have hA : ∀ q : Nat, s.heap.size ≤ q → A q := fun q h => by rw [← hAe]; exact Or.inr h
  have hS : va_S A s.heap s.heap [] := va_S.rf
  have hl := lv_entry ([.ref (ad 0), .int f, .int z, .ref ob]) (n := 5) (Nat.le_of_ble_eq_true rfl)
  rw [lg_entry_eq]
  generalize (lg_sl ([.ref (ad 0), .int f, .int z, .ref ob]) ++ List.replicate (5 - (lg_sl ([.ref (ad 0), .int f, .int z, .ref ob])).length) Slot.unset).toArray = ls at hl ⊢
  have hl : lv_has ls 5 [(0, .ref (ad 0)), (1, .int f), (2, .int z), (3, .ref ob)] := hl
  have hF : ∀ q, va_A (pw n ad cI cB cE S) s.heap.size q → A q := pw_hF (pn_Dr hD) hS hA
  refine lv_aload_n hx hb d_LA_cut_0 rfl (lv_at hl 3 rfl) ?_
  refine lv_iconst (v := nI 0) hx hb d_LA_cut_1 (by decide) ?_
  refine lv_aload_n hx hb d_LA_cut_2 rfl (lv_at hl 0 rfl) ?_
  refine lv_iload_n hx hb d_LA_cut_3 rfl (lv_at hl 1 rfl) ?_
  refine lv_iload_n hx hb d_LA_cut_4 rfl (lv_at hl 2 rfl) ?_
  refine pn_xcalli (post := hp_cut n S f z) (xp := hx_cut n S f z) (Wf := pw n ad cI cB cE) (tys := pw_ty cI cB cE cL cZ) (vx_runV (rm := { frames := 6, cells := 1, slots := 6, locals := 82 }) (mc := 1) (ms := 6) (As := [.int f, .int z]) (rest := [.int (nI 0), .ref ob]) ⟨hx, hb, hml, hown, hg⟩ (c_PD_cut l dC dI cI cB cE cL cZ hst n ad S f z hn hv ho hlw s.heap.size) (cwV 2 hg (gi_V (fun _ h => h) (wG_m8 (List.mem_of_getElem? (i := 31) rfl)) (wG_m8 (List.mem_of_getElem? (i := 32) rfl)) (wG_m8 (List.mem_of_getElem? (i := 33) rfl)) (wG_m1 (List.mem_of_getElem? (i := 1) rfl)) (wG_m8 (List.mem_of_getElem? (i := 34) rfl))) rfl rfl rfl (by decide +kernel) ⟨Nat.le_of_ble_eq_true rfl, Nat.le_of_ble_eq_true rfl⟩) (px_pv hK (pn_Pr hP) (pn_Dr hD) hKK (pn_Zc hZ hS hF) (va_recv hK (pn_Pr hP) (ci := 0) (q0 := 0) rfl pw_g0) [.int f, .int z]) rfl rfl hl.1 rfl (lv_room (Nat.le_of_ble_eq_true rfl)) d_LA_cut_5 ⟨Nat.le_of_ble_eq_true rfl, Nat.le_of_ble_eq_true rfl⟩) hP hD hS hA (fun E ce q9 S2 H locs hxp hP hD hS c1 c2 c3 => ?_) (fun r S2 H locs hr hP hD hS => ?_)
  · have hE : E = "java/lang/IndexOutOfBoundsException" ∨ E = "java/util/NoSuchElementException" ∨ E = "java/lang/IllegalArgumentException" := hxp.2.elim (fun q => Or.inl q.1) (fun q => q.elim (fun q => Or.inr (Or.inl q.1)) (fun q => Or.inr (Or.inr q.1)))
    rcases hE with rfl | rfl | rfl
    · refine vx_catch (own := "PageDriveLaw") (name := "java/lang/IndexOutOfBoundsException") hown [] ⟨0, 10, 13, 21⟩ [⟨0, 10, 17, 28⟩, ⟨0, 10, 21, 13⟩] (htab.trans rfl) (fun z hz => absurd hz List.not_mem_nil) rfl (by decide) (hg (Cond.classLink "PageDriveLaw" 21 "java/lang/IndexOutOfBoundsException") (wG_m6 (List.mem_of_getElem? (i := 39) rfl))) (va_Nw.use (pgB_ot _ (by decide +kernel)) (hKK.1 (Cond.castable "java/lang/IndexOutOfBoundsException" "java/lang/IndexOutOfBoundsException") (by decide +kernel))) c1 c2 c3 ?_
      show W _ _ _ _ _ _ _ _ _ _ _ _ _ _ _ (F0 m 13 ls [.ref q9])
      refine lv_astore (lv' := [(4, .ref q9), (0, .ref (ad 0)), (1, .int f), (2, .int z), (3, .ref ob)]) hx hb d_LA_cut_13 hl (by decide) rfl (fun ls hl => ?_)
      refine lv_iconst (v := nI 1) hx hb d_LA_cut_15 (by decide) ?_
      exact W.iret (v := nI 1) hx hb hret (fun t9 ht9 hW9 => ⟨⟨_, (g, S2), rfl, Or.inr (Or.inl ⟨rfl, hxp⟩), by rw [ht9]; exact hP, va_K.moved hW9.alike hK, hD⟩, hS.F ht9⟩) hS.2.2 d_LA_cut_16
    · refine vx_catch (own := "PageDriveLaw") (name := "java/util/NoSuchElementException") hown [⟨0, 10, 13, 21⟩] ⟨0, 10, 17, 28⟩ [⟨0, 10, 21, 13⟩] (htab.trans rfl) (fun z hz => by
          rcases List.mem_cons.mp hz with rfl | hz
          · exact Or.inr ⟨by decide, "java/lang/IndexOutOfBoundsException", (hg (Cond.classLink "PageDriveLaw" 21 "java/lang/IndexOutOfBoundsException") (wG_m6 (List.mem_of_getElem? (i := 39) rfl))), hKK.2.2 ("java/util/NoSuchElementException", "java/lang/IndexOutOfBoundsException") (by decide +kernel)⟩
          exact absurd hz List.not_mem_nil) rfl (by decide) (hg (Cond.classLink "PageDriveLaw" 28 "java/util/NoSuchElementException") (wG_m8 (List.mem_of_getElem? (i := 30) rfl))) (va_Nw.use (pgB_ot _ (by decide +kernel)) (hKK.1 (Cond.castable "java/util/NoSuchElementException" "java/util/NoSuchElementException") (by decide +kernel))) c1 c2 c3 ?_
      show W _ _ _ _ _ _ _ _ _ _ _ _ _ _ _ (F0 m 17 ls [.ref q9])
      refine lv_astore (lv' := [(4, .ref q9), (0, .ref (ad 0)), (1, .int f), (2, .int z), (3, .ref ob)]) hx hb d_LA_cut_17 hl (by decide) rfl (fun ls hl => ?_)
      refine lv_iconst (v := nI 2) hx hb d_LA_cut_19 (by decide) ?_
      exact W.iret (v := nI 2) hx hb hret (fun t9 ht9 hW9 => ⟨⟨_, (g, S2), rfl, Or.inr (Or.inr (Or.inl ⟨rfl, hxp⟩)), by rw [ht9]; exact hP, va_K.moved hW9.alike hK, hD⟩, hS.F ht9⟩) hS.2.2 d_LA_cut_20
    · refine vx_catch (own := "PageDriveLaw") (name := "java/lang/IllegalArgumentException") hown [⟨0, 10, 13, 21⟩, ⟨0, 10, 17, 28⟩] ⟨0, 10, 21, 13⟩ [] (htab.trans rfl) (fun z hz => by
          rcases List.mem_cons.mp hz with rfl | hz
          · exact Or.inr ⟨by decide, "java/lang/IndexOutOfBoundsException", (hg (Cond.classLink "PageDriveLaw" 21 "java/lang/IndexOutOfBoundsException") (wG_m6 (List.mem_of_getElem? (i := 39) rfl))), hKK.2.2 ("java/lang/IllegalArgumentException", "java/lang/IndexOutOfBoundsException") (by decide +kernel)⟩
          rcases List.mem_cons.mp hz with rfl | hz
          · exact Or.inr ⟨by decide, "java/util/NoSuchElementException", (hg (Cond.classLink "PageDriveLaw" 28 "java/util/NoSuchElementException") (wG_m8 (List.mem_of_getElem? (i := 30) rfl))), hKK.2.2 ("java/lang/IllegalArgumentException", "java/util/NoSuchElementException") (by decide +kernel)⟩
          exact absurd hz List.not_mem_nil) rfl (by decide) (hg (Cond.classLink "PageDriveLaw" 13 "java/lang/IllegalArgumentException") (wG_m4 (List.mem_of_getElem? (i := 39) rfl))) (va_Nw.use (pgB_ot _ (by decide +kernel)) (hKK.1 (Cond.castable "java/lang/IllegalArgumentException" "java/lang/IllegalArgumentException") (by decide +kernel))) c1 c2 c3 ?_
      show W _ _ _ _ _ _ _ _ _ _ _ _ _ _ _ (F0 m 21 ls [.ref q9])
      refine lv_astore (lv' := [(4, .ref q9), (0, .ref (ad 0)), (1, .int f), (2, .int z), (3, .ref ob)]) hx hb d_LA_cut_21 hl (by decide) rfl (fun ls hl => ?_)
      refine lv_iconst (v := nI 3) hx hb d_LA_cut_23 (by decide) ?_
      exact W.iret (v := nI 3) hx hb hret (fun t9 ht9 hW9 => ⟨⟨_, (g, S2), rfl, Or.inr (Or.inr (Or.inr (⟨rfl, hxp⟩))), by rw [ht9]; exact hP, va_K.moved hW9.alike hK, hD⟩, hS.F ht9⟩) hS.2.2 d_LA_cut_24
  · refine lv_i2l hx hb d_LA_cut_8 rfl ?_
    refine va_last hx hb hK hP hD hS 0 3 rfl rfl (vp_in_nI (by decide) (by decide)) d_LA_cut_9 (fun H locs hP hD hS => ?_)
    refine lv_goto (tgt := 25) hx hb d_LA_cut_10 (by decide) ?_
    refine lv_iconst (v := nI 0) hx hb d_LA_cut_25 (by decide) ?_
    exact W.iret (v := nI 0) hx hb hret (fun t9 ht9 hW9 => ⟨⟨_, (vp_updL g (nI 0).toNatClampNeg r.toInt64, S2), rfl, Or.inl ⟨rfl, r, pn_upd0 g (r.toInt64), hr⟩, by rw [ht9]; exact hP, va_K.moved hW9.alike hK, hD⟩, hS.F ht9⟩) hS.2.2 d_LA_cut_26
abbrev w_LA_remove : List Cond := Cond.codeWith y_LA_remove b_LA_remove 4 (some .int) [(0, 16, 19, 21)] :: wsG
set_option maxHeartbeats 4000000 in
set_option maxRecDepth 100000 in
/-- remove -/
theorem c_LA_remove (l : Launch) (dC : Nat → ClassId) (dI : Nat → Nat → Nat) (cI cB cE cL cZ : ClassId) (hst : l.stackTraces = false) (ob : Nat) (g : Nat → Int64) (n : Nat) (ad : Nat → Nat) (S : pdS) (f : Int32) (hn : n ≤ 1024) (hv : pd_v n S) (ho : pd_ok n S (pd_ct S)) (sz : Nat) : CMh l (dC, dI) (pw_ty cI cB cE cL cZ) y_LA_remove w_LA_remove ({ frames := 7, cells := 1, slots := 6, locals := 105 }) [.ref (ad 0), .int f, .ref ob] (pn_o cL ob g ++ pw n ad cI cB cE S) (fun u : (Nat → Int64) × pdS => pn_o cL ob u.1 ++ pw n ad cI cB cE u.2) sz (fun r u => (r = nI 0 ∧ ∃ r0 : Int32, u.1 0 = r0.toInt64 ∧ hp_remove n S f r0 u.2) ∨ (r = nI 1 ∧ hx_remove n S f "java/lang/IndexOutOfBoundsException" u.2)) := by
  refine pn_ofWH (cc := b_LA_remove) (maxL := 4) (ret := (some .int)) (hh := [(0, 16, 19, 21)]) (by decide) rfl ?_
  intro p e s m args below meth c s₁ B hml hv
  obtain ⟨rfl, ⟨hsz, hP, hK, hD0⟩, hKK, hZ⟩ := hv
  have hx := B.exec
  have hb := B.bytes
  have hret := B.returns
  have hts := atoms_spec (ws := w_LA_remove) B.pre
  have htab := vx_table (x := y_LA_feed) B (hts _ List.mem_cons_self)
  have hg : ∀ w ∈ wsG, w.before _ s = true := fun w h => hts w (List.mem_cons_of_mem _ h)
  have hown : s.vm.findClass "PageDriveLaw" = some m.cls := findClass_of_methodNamed B.named
  have hlocks := B.notSynchronized
  subst hsz
  have hD := hD0.self (sz := s.heap.size)
  generalize hAe : va_A (pn_o cL ob g ++ pw n ad cI cB cE S) s.heap.size = A at hD hZ ⊢
  have hA : ∀ q : Nat, s.heap.size ≤ q → A q := fun q h => by rw [← hAe]; exact Or.inr h
  have hS : va_S A s.heap s.heap [] := va_S.rf
  have hl := lv_entry ([.ref (ad 0), .int f, .ref ob]) (n := 4) (Nat.le_of_ble_eq_true rfl)
  rw [lg_entry_eq]
  generalize (lg_sl ([.ref (ad 0), .int f, .ref ob]) ++ List.replicate (4 - (lg_sl ([.ref (ad 0), .int f, .ref ob])).length) Slot.unset).toArray = ls at hl ⊢
  have hl : lv_has ls 4 [(0, .ref (ad 0)), (1, .int f), (2, .ref ob)] := hl
  have hF : ∀ q, va_A (pw n ad cI cB cE S) s.heap.size q → A q := pw_hF (pn_Dr hD) hS hA
  refine lv_aload_n hx hb d_LA_remove_0 rfl (lv_at hl 2 rfl) ?_
  refine lv_iconst (v := nI 0) hx hb d_LA_remove_1 (by decide) ?_
  refine lv_aload_n hx hb d_LA_remove_2 rfl (lv_at hl 0 rfl) ?_
  refine lv_iload_n hx hb d_LA_remove_3 rfl (lv_at hl 1 rfl) ?_
  refine pn_xcalli (post := hp_remove n S f) (xp := hx_remove n S f) (Wf := pw n ad cI cB cE) (tys := pw_ty cI cB cE cL cZ) (vx_runV (rm := { frames := 6, cells := 1, slots := 6, locals := 82 }) (mc := 1) (ms := 6) (As := [.int f]) (rest := [.int (nI 0), .ref ob]) ⟨hx, hb, hml, hown, hg⟩ (c_PD_remove l dC dI cI cB cE cL cZ hst n ad S f hn hv ho s.heap.size) (cwV 1 hg (gi_V (fun _ h => h) (wG_m9 (List.mem_of_getElem? (i := 12) rfl)) (wG_m9 (List.mem_of_getElem? (i := 13) rfl)) (wG_m9 (List.mem_of_getElem? (i := 14) rfl)) (wG_m1 (List.mem_of_getElem? (i := 1) rfl)) (wG_m9 (List.mem_of_getElem? (i := 15) rfl))) rfl rfl rfl (by decide +kernel) ⟨Nat.le_of_ble_eq_true rfl, Nat.le_of_ble_eq_true rfl⟩) (px_pv hK (pn_Pr hP) (pn_Dr hD) hKK (pn_Zc hZ hS hF) (va_recv hK (pn_Pr hP) (ci := 0) (q0 := 0) rfl pw_g0) [.int f]) rfl rfl hl.1 rfl (lv_room (Nat.le_of_ble_eq_true rfl)) d_LA_remove_4 ⟨Nat.le_of_ble_eq_true rfl, Nat.le_of_ble_eq_true rfl⟩) hP hD hS hA (fun E ce q9 S2 H locs hxp hP hD hS c1 c2 c3 => ?_) (fun r S2 H locs hr hP hD hS => ?_)
  · have hE : E = "java/lang/IndexOutOfBoundsException" := hxp.2.1
    subst hE
    refine vx_catch (own := "PageDriveLaw") (name := "java/lang/IndexOutOfBoundsException") hown [] ⟨0, 16, 19, 21⟩ [] (htab.trans rfl) (fun z hz => absurd hz List.not_mem_nil) rfl (by decide) (hg (Cond.classLink "PageDriveLaw" 21 "java/lang/IndexOutOfBoundsException") (wG_m6 (List.mem_of_getElem? (i := 39) rfl))) (va_Nw.use (pgB_ot _ (by decide +kernel)) (hKK.1 (Cond.castable "java/lang/IndexOutOfBoundsException" "java/lang/IndexOutOfBoundsException") (by decide +kernel))) c1 c2 c3 ?_
    show W _ _ _ _ _ _ _ _ _ _ _ _ _ _ _ (F0 m 19 ls [.ref q9])
    refine lv_astore_n (lv' := [(3, .ref q9), (0, .ref (ad 0)), (1, .int f), (2, .ref ob)]) hx hb d_LA_remove_19 rfl hl (by decide) rfl (fun ls hl => ?_)
    refine lv_iconst (v := nI 1) hx hb d_LA_remove_20 (by decide) ?_
    exact W.iret (v := nI 1) hx hb hret (fun t9 ht9 hW9 => ⟨⟨_, (g, S2), rfl, Or.inr (⟨rfl, hxp⟩), by rw [ht9]; exact hP, va_K.moved hW9.alike hK, hD⟩, hS.F ht9⟩) hS.2.2 d_LA_remove_21
  · obtain ⟨i, hi, hfi, rfl, hrest⟩ := hr
    have h5 := (hv.1 (2 * i) (by omega)).2.1
    refine pq_if_eq (tgt := 14) hx hb (by omega) d_LA_remove_7 (by decide) (fun h0 => ?_) (fun h0 => ?_)
    · refine lv_lconst (v := 0) hx hb d_LA_remove_14 (by decide) ?_
      refine va_last hx hb hK hP hD hS 0 3 rfl rfl (vp_in_nI (by decide) (by decide)) d_LA_remove_15 (fun H locs hP hD hS => ?_)
      refine lv_goto (tgt := 22) hx hb d_LA_remove_16 (by decide) ?_
      refine lv_iconst (v := nI 0) hx hb d_LA_remove_22 (by decide) ?_
      exact W.iret (v := nI 0) hx hb hret (fun t9 ht9 hW9 => ⟨⟨_, (vp_updL g (nI 0).toNatClampNeg (0 : Int64), S2), rfl, Or.inl ⟨rfl, nI 0, (pn_upd0 g (0 : Int64)).trans (by decide), ⟨i, hi, hfi, by rw [h0], hrest⟩⟩, by rw [ht9]; exact hP, va_K.moved hW9.alike hK, hD⟩, hS.F ht9⟩) hS.2.2 d_LA_remove_23
    · refine lv_lconst (v := 1) hx hb d_LA_remove_10 (by decide) ?_
      refine lv_goto (tgt := 15) hx hb d_LA_remove_11 (by decide) ?_
      refine va_last hx hb hK hP hD hS 0 3 rfl rfl (vp_in_nI (by decide) (by decide)) d_LA_remove_15 (fun H locs hP hD hS => ?_)
      refine lv_goto (tgt := 22) hx hb d_LA_remove_16 (by decide) ?_
      refine lv_iconst (v := nI 0) hx hb d_LA_remove_22 (by decide) ?_
      exact W.iret (v := nI 0) hx hb hret (fun t9 ht9 hW9 => ⟨⟨_, (vp_updL g (nI 0).toNatClampNeg (1 : Int64), S2), rfl, Or.inl ⟨rfl, nI 1, (pn_upd0 g (1 : Int64)).trans (by decide), ⟨i, hi, hfi, by rw [show S 5 (2 * i) = 1 by omega], hrest⟩⟩, by rw [ht9]; exact hP, va_K.moved hW9.alike hK, hD⟩, hS.F ht9⟩) hS.2.2 d_LA_remove_23
abbrev w_LA_twin : List Cond := Cond.codeWith y_LA_twin b_LA_twin 5 (some .int) [(0, 10, 13, 21), (0, 10, 17, 28)] :: wsG
set_option maxHeartbeats 4000000 in
set_option maxRecDepth 100000 in
/-- twin -/
theorem c_LA_twin (l : Launch) (dC : Nat → ClassId) (dI : Nat → Nat → Nat) (cI cB cE cL cZ : ClassId) (hst : l.stackTraces = false) (ob : Nat) (g : Nat → Int64) (n : Nat) (ad : Nat → Nat) (S : pdS) (f z : Int32) (hn : n ≤ 1024) (hv : pd_v n S) (ho : pd_ok n S (pd_ct S)) (sz : Nat) : CMh l (dC, dI) (pw_ty cI cB cE cL cZ) y_LA_twin w_LA_twin ({ frames := 7, cells := 1, slots := 6, locals := 107 }) [.ref (ad 0), .int f, .int z, .ref ob] (pn_o cL ob g ++ pw n ad cI cB cE S) (fun u : (Nat → Int64) × pdS => pn_o cL ob u.1 ++ pw n ad cI cB cE u.2) sz (fun r u => (r = nI 0 ∧ ∃ r0 : Int32, u.1 0 = r0.toInt64 ∧ hp_twin n S f z r0 u.2) ∨ (r = nI 1 ∧ hx_twin n S f z "java/lang/IndexOutOfBoundsException" u.2) ∨ (r = nI 2 ∧ hx_twin n S f z "java/util/NoSuchElementException" u.2)) := by
  refine pn_ofWH (cc := b_LA_twin) (maxL := 5) (ret := (some .int)) (hh := [(0, 10, 13, 21), (0, 10, 17, 28)]) (by decide) rfl ?_
  intro p e s m args below meth c s₁ B hml hv
  obtain ⟨rfl, ⟨hsz, hP, hK, hD0⟩, hKK, hZ⟩ := hv
  have hx := B.exec
  have hb := B.bytes
  have hret := B.returns
  have hts := atoms_spec (ws := w_LA_twin) B.pre
  have htab := vx_table (x := y_LA_feed) B (hts _ List.mem_cons_self)
  have hg : ∀ w ∈ wsG, w.before _ s = true := fun w h => hts w (List.mem_cons_of_mem _ h)
  have hown : s.vm.findClass "PageDriveLaw" = some m.cls := findClass_of_methodNamed B.named
  have hlocks := B.notSynchronized
  subst hsz
  have hD := hD0.self (sz := s.heap.size)
  generalize hAe : va_A (pn_o cL ob g ++ pw n ad cI cB cE S) s.heap.size = A at hD hZ ⊢
  have hA : ∀ q : Nat, s.heap.size ≤ q → A q := fun q h => by rw [← hAe]; exact Or.inr h
  have hS : va_S A s.heap s.heap [] := va_S.rf
  have hl := lv_entry ([.ref (ad 0), .int f, .int z, .ref ob]) (n := 5) (Nat.le_of_ble_eq_true rfl)
  rw [lg_entry_eq]
  generalize (lg_sl ([.ref (ad 0), .int f, .int z, .ref ob]) ++ List.replicate (5 - (lg_sl ([.ref (ad 0), .int f, .int z, .ref ob])).length) Slot.unset).toArray = ls at hl ⊢
  have hl : lv_has ls 5 [(0, .ref (ad 0)), (1, .int f), (2, .int z), (3, .ref ob)] := hl
  have hF : ∀ q, va_A (pw n ad cI cB cE S) s.heap.size q → A q := pw_hF (pn_Dr hD) hS hA
  refine lv_aload_n hx hb d_LA_twin_0 rfl (lv_at hl 3 rfl) ?_
  refine lv_iconst (v := nI 0) hx hb d_LA_twin_1 (by decide) ?_
  refine lv_aload_n hx hb d_LA_twin_2 rfl (lv_at hl 0 rfl) ?_
  refine lv_iload_n hx hb d_LA_twin_3 rfl (lv_at hl 1 rfl) ?_
  refine lv_iload_n hx hb d_LA_twin_4 rfl (lv_at hl 2 rfl) ?_
  refine pn_xcalli (post := hp_twin n S f z) (xp := hx_twin n S f z) (Wf := pw n ad cI cB cE) (tys := pw_ty cI cB cE cL cZ) (vx_runV (rm := { frames := 6, cells := 1, slots := 6, locals := 84 }) (mc := 1) (ms := 6) (As := [.int f, .int z]) (rest := [.int (nI 0), .ref ob]) ⟨hx, hb, hml, hown, hg⟩ (c_PD_twin l dC dI cI cB cE cL cZ hst n ad S f z hn hv ho s.heap.size) (cwV 2 hg (gi_V (fun _ h => h) (wG_m9 (List.mem_of_getElem? (i := 19) rfl)) (wG_m9 (List.mem_of_getElem? (i := 20) rfl)) (wG_m9 (List.mem_of_getElem? (i := 21) rfl)) (wG_m1 (List.mem_of_getElem? (i := 1) rfl)) (wG_m9 (List.mem_of_getElem? (i := 22) rfl))) rfl rfl rfl (by decide +kernel) ⟨Nat.le_of_ble_eq_true rfl, Nat.le_of_ble_eq_true rfl⟩) (px_pv hK (pn_Pr hP) (pn_Dr hD) hKK (pn_Zc hZ hS hF) (va_recv hK (pn_Pr hP) (ci := 0) (q0 := 0) rfl pw_g0) [.int f, .int z]) rfl rfl hl.1 rfl (lv_room (Nat.le_of_ble_eq_true rfl)) d_LA_twin_5 ⟨Nat.le_of_ble_eq_true rfl, Nat.le_of_ble_eq_true rfl⟩) hP hD hS hA (fun E ce q9 S2 H locs hxp hP hD hS c1 c2 c3 => ?_) (fun r S2 H locs hr hP hD hS => ?_)
  · have hE : E = "java/lang/IndexOutOfBoundsException" ∨ E = "java/util/NoSuchElementException" := hxp.2.elim (fun q => Or.inl q.1) (fun q => Or.inr q.1)
    rcases hE with rfl | rfl
    · refine vx_catch (own := "PageDriveLaw") (name := "java/lang/IndexOutOfBoundsException") hown [] ⟨0, 10, 13, 21⟩ [⟨0, 10, 17, 28⟩] (htab.trans rfl) (fun z hz => absurd hz List.not_mem_nil) rfl (by decide) (hg (Cond.classLink "PageDriveLaw" 21 "java/lang/IndexOutOfBoundsException") (wG_m6 (List.mem_of_getElem? (i := 39) rfl))) (va_Nw.use (pgB_ot _ (by decide +kernel)) (hKK.1 (Cond.castable "java/lang/IndexOutOfBoundsException" "java/lang/IndexOutOfBoundsException") (by decide +kernel))) c1 c2 c3 ?_
      show W _ _ _ _ _ _ _ _ _ _ _ _ _ _ _ (F0 m 13 ls [.ref q9])
      refine lv_astore (lv' := [(4, .ref q9), (0, .ref (ad 0)), (1, .int f), (2, .int z), (3, .ref ob)]) hx hb d_LA_twin_13 hl (by decide) rfl (fun ls hl => ?_)
      refine lv_iconst (v := nI 1) hx hb d_LA_twin_15 (by decide) ?_
      exact W.iret (v := nI 1) hx hb hret (fun t9 ht9 hW9 => ⟨⟨_, (g, S2), rfl, Or.inr (Or.inl ⟨rfl, hxp⟩), by rw [ht9]; exact hP, va_K.moved hW9.alike hK, hD⟩, hS.F ht9⟩) hS.2.2 d_LA_twin_16
    · refine vx_catch (own := "PageDriveLaw") (name := "java/util/NoSuchElementException") hown [⟨0, 10, 13, 21⟩] ⟨0, 10, 17, 28⟩ [] (htab.trans rfl) (fun z hz => by
          rcases List.mem_cons.mp hz with rfl | hz
          · exact Or.inr ⟨by decide, "java/lang/IndexOutOfBoundsException", (hg (Cond.classLink "PageDriveLaw" 21 "java/lang/IndexOutOfBoundsException") (wG_m6 (List.mem_of_getElem? (i := 39) rfl))), hKK.2.2 ("java/util/NoSuchElementException", "java/lang/IndexOutOfBoundsException") (by decide +kernel)⟩
          exact absurd hz List.not_mem_nil) rfl (by decide) (hg (Cond.classLink "PageDriveLaw" 28 "java/util/NoSuchElementException") (wG_m8 (List.mem_of_getElem? (i := 30) rfl))) (va_Nw.use (pgB_ot _ (by decide +kernel)) (hKK.1 (Cond.castable "java/util/NoSuchElementException" "java/util/NoSuchElementException") (by decide +kernel))) c1 c2 c3 ?_
      show W _ _ _ _ _ _ _ _ _ _ _ _ _ _ _ (F0 m 17 ls [.ref q9])
      refine lv_astore (lv' := [(4, .ref q9), (0, .ref (ad 0)), (1, .int f), (2, .int z), (3, .ref ob)]) hx hb d_LA_twin_17 hl (by decide) rfl (fun ls hl => ?_)
      refine lv_iconst (v := nI 2) hx hb d_LA_twin_19 (by decide) ?_
      exact W.iret (v := nI 2) hx hb hret (fun t9 ht9 hW9 => ⟨⟨_, (g, S2), rfl, Or.inr (Or.inr (⟨rfl, hxp⟩)), by rw [ht9]; exact hP, va_K.moved hW9.alike hK, hD⟩, hS.F ht9⟩) hS.2.2 d_LA_twin_20
  · refine lv_i2l hx hb d_LA_twin_8 rfl ?_
    refine va_last hx hb hK hP hD hS 0 3 rfl rfl (vp_in_nI (by decide) (by decide)) d_LA_twin_9 (fun H locs hP hD hS => ?_)
    refine lv_goto (tgt := 21) hx hb d_LA_twin_10 (by decide) ?_
    refine lv_iconst (v := nI 0) hx hb d_LA_twin_21 (by decide) ?_
    exact W.iret (v := nI 0) hx hb hret (fun t9 ht9 hW9 => ⟨⟨_, (vp_updL g (nI 0).toNatClampNeg r.toInt64, S2), rfl, Or.inl ⟨rfl, r, pn_upd0 g (r.toInt64), hr⟩, by rw [ht9]; exact hP, va_K.moved hW9.alike hK, hD⟩, hS.F ht9⟩) hS.2.2 d_LA_twin_22
abbrev w_LA_sync : List Cond := Cond.codeWith y_LA_sync b_LA_sync 4 (some .int) [(0, 9, 12, 21)] :: wsG
set_option maxHeartbeats 4000000 in
set_option maxRecDepth 100000 in
/-- sync -/
theorem c_LA_sync (l : Launch) (dC : Nat → ClassId) (dI : Nat → Nat → Nat) (cI cB cE cL cZ : ClassId) (hst : l.stackTraces = false) (ob : Nat) (g : Nat → Int64) (n : Nat) (ad : Nat → Nat) (S : pdS) (f : Int32) (hn : n ≤ 1024) (hv : pd_v n S) (ho : pd_ok n S (pd_ct S)) (sz : Nat) : CMh l (dC, dI) (pw_ty cI cB cE cL cZ) y_LA_sync w_LA_sync ({ frames := 7, cells := 1, slots := 6, locals := 128 }) [.ref (ad 0), .int f, .ref ob] (pn_o cL ob g ++ pw n ad cI cB cE S) (fun u : (Nat → Int64) × pdS => pn_o cL ob u.1 ++ pw n ad cI cB cE u.2) sz (fun r u => (r = nI 0 ∧ ∃ r0 : Int32, u.1 0 = r0.toInt64 ∧ hp_sync n S f r0 u.2) ∨ (r = nI 1 ∧ hx_sync n S f "java/lang/IndexOutOfBoundsException" u.2)) := by
  refine pn_ofWH (cc := b_LA_sync) (maxL := 4) (ret := (some .int)) (hh := [(0, 9, 12, 21)]) (by decide) rfl ?_
  intro p e s m args below meth c s₁ B hml hv
  obtain ⟨rfl, ⟨hsz, hP, hK, hD0⟩, hKK, hZ⟩ := hv
  have hx := B.exec
  have hb := B.bytes
  have hret := B.returns
  have hts := atoms_spec (ws := w_LA_sync) B.pre
  have htab := vx_table (x := y_LA_feed) B (hts _ List.mem_cons_self)
  have hg : ∀ w ∈ wsG, w.before _ s = true := fun w h => hts w (List.mem_cons_of_mem _ h)
  have hown : s.vm.findClass "PageDriveLaw" = some m.cls := findClass_of_methodNamed B.named
  have hlocks := B.notSynchronized
  subst hsz
  have hD := hD0.self (sz := s.heap.size)
  generalize hAe : va_A (pn_o cL ob g ++ pw n ad cI cB cE S) s.heap.size = A at hD hZ ⊢
  have hA : ∀ q : Nat, s.heap.size ≤ q → A q := fun q h => by rw [← hAe]; exact Or.inr h
  have hS : va_S A s.heap s.heap [] := va_S.rf
  have hl := lv_entry ([.ref (ad 0), .int f, .ref ob]) (n := 4) (Nat.le_of_ble_eq_true rfl)
  rw [lg_entry_eq]
  generalize (lg_sl ([.ref (ad 0), .int f, .ref ob]) ++ List.replicate (4 - (lg_sl ([.ref (ad 0), .int f, .ref ob])).length) Slot.unset).toArray = ls at hl ⊢
  have hl : lv_has ls 4 [(0, .ref (ad 0)), (1, .int f), (2, .ref ob)] := hl
  have hF : ∀ q, va_A (pw n ad cI cB cE S) s.heap.size q → A q := pw_hF (pn_Dr hD) hS hA
  refine lv_aload_n hx hb d_LA_sync_0 rfl (lv_at hl 2 rfl) ?_
  refine lv_iconst (v := nI 0) hx hb d_LA_sync_1 (by decide) ?_
  refine lv_aload_n hx hb d_LA_sync_2 rfl (lv_at hl 0 rfl) ?_
  refine lv_iload_n hx hb d_LA_sync_3 rfl (lv_at hl 1 rfl) ?_
  refine pn_xcalli (post := hp_sync n S f) (xp := hx_sync n S f) (Wf := pw n ad cI cB cE) (tys := pw_ty cI cB cE cL cZ) (vx_runV (rm := { frames := 6, cells := 1, slots := 6, locals := 105 }) (mc := 1) (ms := 6) (As := [.int f]) (rest := [.int (nI 0), .ref ob]) ⟨hx, hb, hml, hown, hg⟩ (c_PD_sync l dC dI cI cB cE cL cZ hst n ad S f hn hv ho s.heap.size) (cwV 1 hg (gi_V (fun _ h => h) (wG_m9 (List.mem_of_getElem? (i := 26) rfl)) (wG_m9 (List.mem_of_getElem? (i := 27) rfl)) (wG_m9 (List.mem_of_getElem? (i := 28) rfl)) (wG_m1 (List.mem_of_getElem? (i := 1) rfl)) (wG_m9 (List.mem_of_getElem? (i := 29) rfl))) rfl rfl rfl (by decide +kernel) ⟨Nat.le_of_ble_eq_true rfl, Nat.le_of_ble_eq_true rfl⟩) (px_pv hK (pn_Pr hP) (pn_Dr hD) hKK (pn_Zc hZ hS hF) (va_recv hK (pn_Pr hP) (ci := 0) (q0 := 0) rfl pw_g0) [.int f]) rfl rfl hl.1 rfl (lv_room (Nat.le_of_ble_eq_true rfl)) d_LA_sync_4 ⟨Nat.le_of_ble_eq_true rfl, Nat.le_of_ble_eq_true rfl⟩) hP hD hS hA (fun E ce q9 S2 H locs hxp hP hD hS c1 c2 c3 => ?_) (fun r S2 H locs hr hP hD hS => ?_)
  · have hE : E = "java/lang/IndexOutOfBoundsException" := hxp.2.1
    subst hE
    refine vx_catch (own := "PageDriveLaw") (name := "java/lang/IndexOutOfBoundsException") hown [] ⟨0, 9, 12, 21⟩ [] (htab.trans rfl) (fun z hz => absurd hz List.not_mem_nil) rfl (by decide) (hg (Cond.classLink "PageDriveLaw" 21 "java/lang/IndexOutOfBoundsException") (wG_m6 (List.mem_of_getElem? (i := 39) rfl))) (va_Nw.use (pgB_ot _ (by decide +kernel)) (hKK.1 (Cond.castable "java/lang/IndexOutOfBoundsException" "java/lang/IndexOutOfBoundsException") (by decide +kernel))) c1 c2 c3 ?_
    show W _ _ _ _ _ _ _ _ _ _ _ _ _ _ _ (F0 m 12 ls [.ref q9])
    refine lv_astore_n (lv' := [(3, .ref q9), (0, .ref (ad 0)), (1, .int f), (2, .ref ob)]) hx hb d_LA_sync_12 rfl hl (by decide) rfl (fun ls hl => ?_)
    refine lv_iconst (v := nI 1) hx hb d_LA_sync_13 (by decide) ?_
    exact W.iret (v := nI 1) hx hb hret (fun t9 ht9 hW9 => ⟨⟨_, (g, S2), rfl, Or.inr (⟨rfl, hxp⟩), by rw [ht9]; exact hP, va_K.moved hW9.alike hK, hD⟩, hS.F ht9⟩) hS.2.2 d_LA_sync_14
  · refine lv_i2l hx hb d_LA_sync_7 rfl ?_
    refine va_last hx hb hK hP hD hS 0 3 rfl rfl (vp_in_nI (by decide) (by decide)) d_LA_sync_8 (fun H locs hP hD hS => ?_)
    refine lv_goto (tgt := 15) hx hb d_LA_sync_9 (by decide) ?_
    refine lv_iconst (v := nI 0) hx hb d_LA_sync_15 (by decide) ?_
    exact W.iret (v := nI 0) hx hb hret (fun t9 ht9 hW9 => ⟨⟨_, (vp_updL g (nI 0).toNatClampNeg r.toInt64, S2), rfl, Or.inl ⟨rfl, r, pn_upd0 g (r.toInt64), hr⟩, by rw [ht9]; exact hP, va_K.moved hW9.alike hK, hD⟩, hS.F ht9⟩) hS.2.2 d_LA_sync_16
abbrev w_LA_crash : List Cond := Cond.codeWith y_LA_crash b_LA_crash 5 (some .int) [(0, 10, 13, 21), (0, 10, 17, 13)] :: wsG
set_option maxHeartbeats 4000000 in
set_option maxRecDepth 100000 in
/-- crash -/
theorem c_LA_crash (l : Launch) (dC : Nat → ClassId) (dI : Nat → Nat → Nat) (cI cB cE cL cZ : ClassId) (hst : l.stackTraces = false) (ob : Nat) (g : Nat → Int64) (n : Nat) (ad : Nat → Nat) (S : pdS) (f z : Int32) (hn : n ≤ 1024) (hv : pd_v n S) (ho : pd_ok n S (pd_ct S)) (hlw : pd_lo S) (sz : Nat) : CMh l (dC, dI) (pw_ty cI cB cE cL cZ) y_LA_crash w_LA_crash ({ frames := 7, cells := 1, slots := 6, locals := 149 }) [.ref (ad 0), .int f, .int z, .ref ob] (pn_o cL ob g ++ pw n ad cI cB cE S) (fun u : (Nat → Int64) × pdS => pn_o cL ob u.1 ++ pw n ad cI cB cE u.2) sz (fun r u => (r = nI 0 ∧ ∃ r0 : Int32, u.1 0 = r0.toInt64 ∧ hp_crash n S f z r0 u.2) ∨ (r = nI 1 ∧ hx_crash n S f z "java/lang/IndexOutOfBoundsException" u.2) ∨ (r = nI 2 ∧ hx_crash n S f z "java/lang/IllegalArgumentException" u.2)) := by
  refine pn_ofWH (cc := b_LA_crash) (maxL := 5) (ret := (some .int)) (hh := [(0, 10, 13, 21), (0, 10, 17, 13)]) (by decide) rfl ?_
  intro p e s m args below meth c s₁ B hml hv
  obtain ⟨rfl, ⟨hsz, hP, hK, hD0⟩, hKK, hZ⟩ := hv
  have hx := B.exec
  have hb := B.bytes
  have hret := B.returns
  have hts := atoms_spec (ws := w_LA_crash) B.pre
  have htab := vx_table (x := y_LA_feed) B (hts _ List.mem_cons_self)
  have hg : ∀ w ∈ wsG, w.before _ s = true := fun w h => hts w (List.mem_cons_of_mem _ h)
  have hown : s.vm.findClass "PageDriveLaw" = some m.cls := findClass_of_methodNamed B.named
  have hlocks := B.notSynchronized
  subst hsz
  have hD := hD0.self (sz := s.heap.size)
  generalize hAe : va_A (pn_o cL ob g ++ pw n ad cI cB cE S) s.heap.size = A at hD hZ ⊢
  have hA : ∀ q : Nat, s.heap.size ≤ q → A q := fun q h => by rw [← hAe]; exact Or.inr h
  have hS : va_S A s.heap s.heap [] := va_S.rf
  have hl := lv_entry ([.ref (ad 0), .int f, .int z, .ref ob]) (n := 5) (Nat.le_of_ble_eq_true rfl)
  rw [lg_entry_eq]
  generalize (lg_sl ([.ref (ad 0), .int f, .int z, .ref ob]) ++ List.replicate (5 - (lg_sl ([.ref (ad 0), .int f, .int z, .ref ob])).length) Slot.unset).toArray = ls at hl ⊢
  have hl : lv_has ls 5 [(0, .ref (ad 0)), (1, .int f), (2, .int z), (3, .ref ob)] := hl
  have hF : ∀ q, va_A (pw n ad cI cB cE S) s.heap.size q → A q := pw_hF (pn_Dr hD) hS hA
  refine lv_aload_n hx hb d_LA_crash_0 rfl (lv_at hl 3 rfl) ?_
  refine lv_iconst (v := nI 0) hx hb d_LA_crash_1 (by decide) ?_
  refine lv_aload_n hx hb d_LA_crash_2 rfl (lv_at hl 0 rfl) ?_
  refine lv_iload_n hx hb d_LA_crash_3 rfl (lv_at hl 1 rfl) ?_
  refine lv_iload_n hx hb d_LA_crash_4 rfl (lv_at hl 2 rfl) ?_
  refine pn_xcalli (post := hp_crash n S f z) (xp := hx_crash n S f z) (Wf := pw n ad cI cB cE) (tys := pw_ty cI cB cE cL cZ) (vx_runV (rm := { frames := 6, cells := 1, slots := 6, locals := 127 }) (mc := 1) (ms := 6) (As := [.int f, .int z]) (rest := [.int (nI 0), .ref ob]) ⟨hx, hb, hml, hown, hg⟩ (c_PD_crash l dC dI cI cB cE cL cZ hst n ad S f z hn hv ho hlw s.heap.size) (cwV 2 hg (gi_V (fun _ h => h) (wG_m9 (List.mem_of_getElem? (i := 36) rfl)) (wG_m9 (List.mem_of_getElem? (i := 37) rfl)) (wG_m9 (List.mem_of_getElem? (i := 38) rfl)) (wG_m1 (List.mem_of_getElem? (i := 1) rfl)) (wG_m9 (List.mem_of_getElem? (i := 39) rfl))) rfl rfl rfl (by decide +kernel) ⟨Nat.le_of_ble_eq_true rfl, Nat.le_of_ble_eq_true rfl⟩) (px_pv hK (pn_Pr hP) (pn_Dr hD) hKK (pn_Zc hZ hS hF) (va_recv hK (pn_Pr hP) (ci := 0) (q0 := 0) rfl pw_g0) [.int f, .int z]) rfl rfl hl.1 rfl (lv_room (Nat.le_of_ble_eq_true rfl)) d_LA_crash_5 ⟨Nat.le_of_ble_eq_true rfl, Nat.le_of_ble_eq_true rfl⟩) hP hD hS hA (fun E ce q9 S2 H locs hxp hP hD hS c1 c2 c3 => ?_) (fun r S2 H locs hr hP hD hS => ?_)
  · have hE : E = "java/lang/IndexOutOfBoundsException" ∨ E = "java/lang/IllegalArgumentException" := hxp.2.elim (fun q => Or.inl q.1) (fun q => Or.inr q.1)
    rcases hE with rfl | rfl
    · refine vx_catch (own := "PageDriveLaw") (name := "java/lang/IndexOutOfBoundsException") hown [] ⟨0, 10, 13, 21⟩ [⟨0, 10, 17, 13⟩] (htab.trans rfl) (fun z hz => absurd hz List.not_mem_nil) rfl (by decide) (hg (Cond.classLink "PageDriveLaw" 21 "java/lang/IndexOutOfBoundsException") (wG_m6 (List.mem_of_getElem? (i := 39) rfl))) (va_Nw.use (pgB_ot _ (by decide +kernel)) (hKK.1 (Cond.castable "java/lang/IndexOutOfBoundsException" "java/lang/IndexOutOfBoundsException") (by decide +kernel))) c1 c2 c3 ?_
      show W _ _ _ _ _ _ _ _ _ _ _ _ _ _ _ (F0 m 13 ls [.ref q9])
      refine lv_astore (lv' := [(4, .ref q9), (0, .ref (ad 0)), (1, .int f), (2, .int z), (3, .ref ob)]) hx hb d_LA_crash_13 hl (by decide) rfl (fun ls hl => ?_)
      refine lv_iconst (v := nI 1) hx hb d_LA_crash_15 (by decide) ?_
      exact W.iret (v := nI 1) hx hb hret (fun t9 ht9 hW9 => ⟨⟨_, (g, S2), rfl, Or.inr (Or.inl ⟨rfl, hxp⟩), by rw [ht9]; exact hP, va_K.moved hW9.alike hK, hD⟩, hS.F ht9⟩) hS.2.2 d_LA_crash_16
    · refine vx_catch (own := "PageDriveLaw") (name := "java/lang/IllegalArgumentException") hown [⟨0, 10, 13, 21⟩] ⟨0, 10, 17, 13⟩ [] (htab.trans rfl) (fun z hz => by
          rcases List.mem_cons.mp hz with rfl | hz
          · exact Or.inr ⟨by decide, "java/lang/IndexOutOfBoundsException", (hg (Cond.classLink "PageDriveLaw" 21 "java/lang/IndexOutOfBoundsException") (wG_m6 (List.mem_of_getElem? (i := 39) rfl))), hKK.2.2 ("java/lang/IllegalArgumentException", "java/lang/IndexOutOfBoundsException") (by decide +kernel)⟩
          exact absurd hz List.not_mem_nil) rfl (by decide) (hg (Cond.classLink "PageDriveLaw" 13 "java/lang/IllegalArgumentException") (wG_m4 (List.mem_of_getElem? (i := 39) rfl))) (va_Nw.use (pgB_ot _ (by decide +kernel)) (hKK.1 (Cond.castable "java/lang/IllegalArgumentException" "java/lang/IllegalArgumentException") (by decide +kernel))) c1 c2 c3 ?_
      show W _ _ _ _ _ _ _ _ _ _ _ _ _ _ _ (F0 m 17 ls [.ref q9])
      refine lv_astore (lv' := [(4, .ref q9), (0, .ref (ad 0)), (1, .int f), (2, .int z), (3, .ref ob)]) hx hb d_LA_crash_17 hl (by decide) rfl (fun ls hl => ?_)
      refine lv_iconst (v := nI 2) hx hb d_LA_crash_19 (by decide) ?_
      exact W.iret (v := nI 2) hx hb hret (fun t9 ht9 hW9 => ⟨⟨_, (g, S2), rfl, Or.inr (Or.inr (⟨rfl, hxp⟩)), by rw [ht9]; exact hP, va_K.moved hW9.alike hK, hD⟩, hS.F ht9⟩) hS.2.2 d_LA_crash_20
  · refine lv_i2l hx hb d_LA_crash_8 rfl ?_
    refine va_last hx hb hK hP hD hS 0 3 rfl rfl (vp_in_nI (by decide) (by decide)) d_LA_crash_9 (fun H locs hP hD hS => ?_)
    refine lv_goto (tgt := 21) hx hb d_LA_crash_10 (by decide) ?_
    refine lv_iconst (v := nI 0) hx hb d_LA_crash_21 (by decide) ?_
    exact W.iret (v := nI 0) hx hb hret (fun t9 ht9 hW9 => ⟨⟨_, (vp_updL g (nI 0).toNatClampNeg r.toInt64, S2), rfl, Or.inl ⟨rfl, r, pn_upd0 g (r.toInt64), hr⟩, by rw [ht9]; exact hP, va_K.moved hW9.alike hK, hD⟩, hS.F ht9⟩) hS.2.2 d_LA_crash_22
abbrev w_LA_file : List Cond := Cond.codeWith y_LA_file b_LA_file 5 (some .int) [(0, 10, 13, 21)] :: wsG
set_option maxHeartbeats 4000000 in
set_option maxRecDepth 100000 in
/-- file -/
theorem c_LA_file (l : Launch) (dC : Nat → ClassId) (dI : Nat → Nat → Nat) (cI cB cE cL cZ : ClassId) (hst : l.stackTraces = false) (ob : Nat) (g : Nat → Int64) (n : Nat) (ad : Nat → Nat) (S : pdS) (f z : Int32) (hn : n ≤ 1024) (hv : pd_v n S) (ho : pd_ok n S (pd_ct S)) (sz : Nat) : CMh l (dC, dI) (pw_ty cI cB cE cL cZ) y_LA_file w_LA_file ({ frames := 7, cells := 1, slots := 6, locals := 105 }) [.ref (ad 0), .int f, .int z, .ref ob] (pn_o cL ob g ++ pw n ad cI cB cE S) (fun u : (Nat → Int64) × pdS => pn_o cL ob u.1 ++ pw n ad cI cB cE u.2) sz (fun r u => (r = nI 0 ∧ ∃ r0 : Int32, u.1 0 = r0.toInt64 ∧ hp_file n S f z r0 u.2) ∨ (r = nI 1 ∧ hx_file n S f z "java/lang/IndexOutOfBoundsException" u.2)) := by
  refine pn_ofWH (cc := b_LA_file) (maxL := 5) (ret := (some .int)) (hh := [(0, 10, 13, 21)]) (by decide) rfl ?_
  intro p e s m args below meth c s₁ B hml hv
  obtain ⟨rfl, ⟨hsz, hP, hK, hD0⟩, hKK, hZ⟩ := hv
  have hx := B.exec
  have hb := B.bytes
  have hret := B.returns
  have hts := atoms_spec (ws := w_LA_file) B.pre
  have htab := vx_table (x := y_LA_feed) B (hts _ List.mem_cons_self)
  have hg : ∀ w ∈ wsG, w.before _ s = true := fun w h => hts w (List.mem_cons_of_mem _ h)
  have hown : s.vm.findClass "PageDriveLaw" = some m.cls := findClass_of_methodNamed B.named
  have hlocks := B.notSynchronized
  subst hsz
  have hD := hD0.self (sz := s.heap.size)
  generalize hAe : va_A (pn_o cL ob g ++ pw n ad cI cB cE S) s.heap.size = A at hD hZ ⊢
  have hA : ∀ q : Nat, s.heap.size ≤ q → A q := fun q h => by rw [← hAe]; exact Or.inr h
  have hS : va_S A s.heap s.heap [] := va_S.rf
  have hl := lv_entry ([.ref (ad 0), .int f, .int z, .ref ob]) (n := 5) (Nat.le_of_ble_eq_true rfl)
  rw [lg_entry_eq]
  generalize (lg_sl ([.ref (ad 0), .int f, .int z, .ref ob]) ++ List.replicate (5 - (lg_sl ([.ref (ad 0), .int f, .int z, .ref ob])).length) Slot.unset).toArray = ls at hl ⊢
  have hl : lv_has ls 5 [(0, .ref (ad 0)), (1, .int f), (2, .int z), (3, .ref ob)] := hl
  have hF : ∀ q, va_A (pw n ad cI cB cE S) s.heap.size q → A q := pw_hF (pn_Dr hD) hS hA
  refine lv_aload_n hx hb d_LA_file_0 rfl (lv_at hl 3 rfl) ?_
  refine lv_iconst (v := nI 0) hx hb d_LA_file_1 (by decide) ?_
  refine lv_aload_n hx hb d_LA_file_2 rfl (lv_at hl 0 rfl) ?_
  refine lv_iload_n hx hb d_LA_file_3 rfl (lv_at hl 1 rfl) ?_
  refine lv_iload_n hx hb d_LA_file_4 rfl (lv_at hl 2 rfl) ?_
  refine pn_xcalli (post := hp_file n S f z) (xp := hx_file n S f z) (Wf := pw n ad cI cB cE) (tys := pw_ty cI cB cE cL cZ) (vx_runV (rm := { frames := 6, cells := 1, slots := 6, locals := 82 }) (mc := 1) (ms := 6) (As := [.int f, .int z]) (rest := [.int (nI 0), .ref ob]) ⟨hx, hb, hml, hown, hg⟩ (c_PD_file l dC dI cI cB cE cL cZ hst n ad S f z hn hv ho s.heap.size) (cwV 2 hg (gi_V (fun _ h => h) (wG_m10 (List.mem_of_getElem? (i := 3) rfl)) (wG_m10 (List.mem_of_getElem? (i := 4) rfl)) (wG_m10 (List.mem_of_getElem? (i := 5) rfl)) (wG_m1 (List.mem_of_getElem? (i := 1) rfl)) (wG_m10 (List.mem_of_getElem? (i := 6) rfl))) rfl rfl rfl (by decide +kernel) ⟨Nat.le_of_ble_eq_true rfl, Nat.le_of_ble_eq_true rfl⟩) (px_pv hK (pn_Pr hP) (pn_Dr hD) hKK (pn_Zc hZ hS hF) (va_recv hK (pn_Pr hP) (ci := 0) (q0 := 0) rfl pw_g0) [.int f, .int z]) rfl rfl hl.1 rfl (lv_room (Nat.le_of_ble_eq_true rfl)) d_LA_file_5 ⟨Nat.le_of_ble_eq_true rfl, Nat.le_of_ble_eq_true rfl⟩) hP hD hS hA (fun E ce q9 S2 H locs hxp hP hD hS c1 c2 c3 => ?_) (fun r S2 H locs hr hP hD hS => ?_)
  · have hE : E = "java/lang/IndexOutOfBoundsException" := hxp.2.1
    subst hE
    refine vx_catch (own := "PageDriveLaw") (name := "java/lang/IndexOutOfBoundsException") hown [] ⟨0, 10, 13, 21⟩ [] (htab.trans rfl) (fun z hz => absurd hz List.not_mem_nil) rfl (by decide) (hg (Cond.classLink "PageDriveLaw" 21 "java/lang/IndexOutOfBoundsException") (wG_m6 (List.mem_of_getElem? (i := 39) rfl))) (va_Nw.use (pgB_ot _ (by decide +kernel)) (hKK.1 (Cond.castable "java/lang/IndexOutOfBoundsException" "java/lang/IndexOutOfBoundsException") (by decide +kernel))) c1 c2 c3 ?_
    show W _ _ _ _ _ _ _ _ _ _ _ _ _ _ _ (F0 m 13 ls [.ref q9])
    refine lv_astore (lv' := [(4, .ref q9), (0, .ref (ad 0)), (1, .int f), (2, .int z), (3, .ref ob)]) hx hb d_LA_file_13 hl (by decide) rfl (fun ls hl => ?_)
    refine lv_iconst (v := nI 1) hx hb d_LA_file_15 (by decide) ?_
    exact W.iret (v := nI 1) hx hb hret (fun t9 ht9 hW9 => ⟨⟨_, (g, S2), rfl, Or.inr (⟨rfl, hxp⟩), by rw [ht9]; exact hP, va_K.moved hW9.alike hK, hD⟩, hS.F ht9⟩) hS.2.2 d_LA_file_16
  · refine lv_i2l hx hb d_LA_file_8 rfl ?_
    refine va_last hx hb hK hP hD hS 0 3 rfl rfl (vp_in_nI (by decide) (by decide)) d_LA_file_9 (fun H locs hP hD hS => ?_)
    refine lv_goto (tgt := 17) hx hb d_LA_file_10 (by decide) ?_
    refine lv_iconst (v := nI 0) hx hb d_LA_file_17 (by decide) ?_
    exact W.iret (v := nI 0) hx hb hret (fun t9 ht9 hW9 => ⟨⟨_, (vp_updL g (nI 0).toNatClampNeg r.toInt64, S2), rfl, Or.inl ⟨rfl, r, pn_upd0 g (r.toInt64), hr⟩, by rw [ht9]; exact hP, va_K.moved hW9.alike hK, hD⟩, hS.F ht9⟩) hS.2.2 d_LA_file_18
abbrev w_LA_byteAt : List Cond := Cond.codeWith y_LA_byteAt b_LA_byteAt 6 (some .int) [(0, 12, 15, 21)] :: wsG
set_option maxHeartbeats 4000000 in
set_option maxRecDepth 100000 in
/-- byteAt -/
theorem c_LA_byteAt (l : Launch) (dC : Nat → ClassId) (dI : Nat → Nat → Nat) (cI cB cE cL cZ : ClassId) (hst : l.stackTraces = false) (ob : Nat) (g : Nat → Int64) (n : Nat) (ad : Nat → Nat) (S : pdS) (f : Int32) (b : Nat) (z : Int32) (hb1 : b ≤ 1) (hn : n ≤ 1024) (hv : pd_v n S) (ho : pd_ok n S (pd_ct S)) (sz : Nat) : CMh l (dC, dI) (pw_ty cI cB cE cL cZ) y_LA_byteAt w_LA_byteAt ({ frames := 7, cells := 1, slots := 6, locals := 106 }) [.ref (ad 0), .int f, .int (nI b), .int z, .ref ob] (pn_o cL ob g ++ pw n ad cI cB cE S) (fun u : (Nat → Int64) × pdS => pn_o cL ob u.1 ++ pw n ad cI cB cE u.2) sz (fun r u => (r = nI 0 ∧ ∃ r0 : Int32, u.1 0 = r0.toInt64 ∧ hp_byteAt n S f b z r0 u.2) ∨ (r = nI 1 ∧ hx_byteAt n S f b z "java/lang/IndexOutOfBoundsException" u.2)) := by
  refine pn_ofWH (cc := b_LA_byteAt) (maxL := 6) (ret := (some .int)) (hh := [(0, 12, 15, 21)]) (by decide) rfl ?_
  intro p e s m args below meth c s₁ B hml hv
  obtain ⟨rfl, ⟨hsz, hP, hK, hD0⟩, hKK, hZ⟩ := hv
  have hx := B.exec
  have hb := B.bytes
  have hret := B.returns
  have hts := atoms_spec (ws := w_LA_byteAt) B.pre
  have htab := vx_table (x := y_LA_feed) B (hts _ List.mem_cons_self)
  have hg : ∀ w ∈ wsG, w.before _ s = true := fun w h => hts w (List.mem_cons_of_mem _ h)
  have hown : s.vm.findClass "PageDriveLaw" = some m.cls := findClass_of_methodNamed B.named
  have hlocks := B.notSynchronized
  subst hsz
  have hD := hD0.self (sz := s.heap.size)
  generalize hAe : va_A (pn_o cL ob g ++ pw n ad cI cB cE S) s.heap.size = A at hD hZ ⊢
  have hA : ∀ q : Nat, s.heap.size ≤ q → A q := fun q h => by rw [← hAe]; exact Or.inr h
  have hS : va_S A s.heap s.heap [] := va_S.rf
  have hl := lv_entry ([.ref (ad 0), .int f, .int (nI b), .int z, .ref ob]) (n := 6) (Nat.le_of_ble_eq_true rfl)
  rw [lg_entry_eq]
  generalize (lg_sl ([.ref (ad 0), .int f, .int (nI b), .int z, .ref ob]) ++ List.replicate (6 - (lg_sl ([.ref (ad 0), .int f, .int (nI b), .int z, .ref ob])).length) Slot.unset).toArray = ls at hl ⊢
  have hl : lv_has ls 6 [(0, .ref (ad 0)), (1, .int f), (2, .int (nI b)), (3, .int z), (4, .ref ob)] := hl
  have hF : ∀ q, va_A (pw n ad cI cB cE S) s.heap.size q → A q := pw_hF (pn_Dr hD) hS hA
  refine lv_aload hx hb d_LA_byteAt_0 (lv_at hl 4 rfl) ?_
  refine lv_iconst (v := nI 0) hx hb d_LA_byteAt_2 (by decide) ?_
  refine lv_aload_n hx hb d_LA_byteAt_3 rfl (lv_at hl 0 rfl) ?_
  refine lv_iload_n hx hb d_LA_byteAt_4 rfl (lv_at hl 1 rfl) ?_
  refine lv_iload_n hx hb d_LA_byteAt_5 rfl (lv_at hl 2 rfl) ?_
  refine lv_iload_n hx hb d_LA_byteAt_6 rfl (lv_at hl 3 rfl) ?_
  refine pn_xcalli (post := hp_byteAt n S f b z) (xp := hx_byteAt n S f b z) (Wf := pw n ad cI cB cE) (tys := pw_ty cI cB cE cL cZ) (vx_runV (rm := { frames := 6, cells := 1, slots := 6, locals := 82 }) (mc := 1) (ms := 6) (As := [.int f, .int (nI b), .int z]) (rest := [.int (nI 0), .ref ob]) ⟨hx, hb, hml, hown, hg⟩ (c_PD_byteAt l dC dI cI cB cE cL cZ hst n ad S f b z hb1 hn hv ho s.heap.size) (cwV 3 hg (gi_V (fun _ h => h) (wG_m10 (List.mem_of_getElem? (i := 13) rfl)) (wG_m10 (List.mem_of_getElem? (i := 14) rfl)) (wG_m10 (List.mem_of_getElem? (i := 15) rfl)) (wG_m1 (List.mem_of_getElem? (i := 1) rfl)) (wG_m10 (List.mem_of_getElem? (i := 16) rfl))) rfl rfl rfl (by decide +kernel) ⟨Nat.le_of_ble_eq_true rfl, Nat.le_of_ble_eq_true rfl⟩) (px_pv hK (pn_Pr hP) (pn_Dr hD) hKK (pn_Zc hZ hS hF) (va_recv hK (pn_Pr hP) (ci := 0) (q0 := 0) rfl pw_g0) [.int f, .int (nI b), .int z]) rfl rfl hl.1 rfl (lv_room (Nat.le_of_ble_eq_true rfl)) d_LA_byteAt_7 ⟨Nat.le_of_ble_eq_true rfl, Nat.le_of_ble_eq_true rfl⟩) hP hD hS hA (fun E ce q9 S2 H locs hxp hP hD hS c1 c2 c3 => ?_) (fun r S2 H locs hr hP hD hS => ?_)
  · have hE : E = "java/lang/IndexOutOfBoundsException" := hxp.2.1
    subst hE
    refine vx_catch (own := "PageDriveLaw") (name := "java/lang/IndexOutOfBoundsException") hown [] ⟨0, 12, 15, 21⟩ [] (htab.trans rfl) (fun z hz => absurd hz List.not_mem_nil) rfl (by decide) (hg (Cond.classLink "PageDriveLaw" 21 "java/lang/IndexOutOfBoundsException") (wG_m6 (List.mem_of_getElem? (i := 39) rfl))) (va_Nw.use (pgB_ot _ (by decide +kernel)) (hKK.1 (Cond.castable "java/lang/IndexOutOfBoundsException" "java/lang/IndexOutOfBoundsException") (by decide +kernel))) c1 c2 c3 ?_
    show W _ _ _ _ _ _ _ _ _ _ _ _ _ _ _ (F0 m 15 ls [.ref q9])
    refine lv_astore (lv' := [(5, .ref q9), (0, .ref (ad 0)), (1, .int f), (2, .int (nI b)), (3, .int z), (4, .ref ob)]) hx hb d_LA_byteAt_15 hl (by decide) rfl (fun ls hl => ?_)
    refine lv_iconst (v := nI 1) hx hb d_LA_byteAt_17 (by decide) ?_
    exact W.iret (v := nI 1) hx hb hret (fun t9 ht9 hW9 => ⟨⟨_, (g, S2), rfl, Or.inr (⟨rfl, hxp⟩), by rw [ht9]; exact hP, va_K.moved hW9.alike hK, hD⟩, hS.F ht9⟩) hS.2.2 d_LA_byteAt_18
  · refine lv_i2l hx hb d_LA_byteAt_10 rfl ?_
    refine va_last hx hb hK hP hD hS 0 3 rfl rfl (vp_in_nI (by decide) (by decide)) d_LA_byteAt_11 (fun H locs hP hD hS => ?_)
    refine lv_goto (tgt := 19) hx hb d_LA_byteAt_12 (by decide) ?_
    refine lv_iconst (v := nI 0) hx hb d_LA_byteAt_19 (by decide) ?_
    exact W.iret (v := nI 0) hx hb hret (fun t9 ht9 hW9 => ⟨⟨_, (vp_updL g (nI 0).toNatClampNeg r.toInt64, S2), rfl, Or.inl ⟨rfl, r, pn_upd0 g (r.toInt64), hr⟩, by rw [ht9]; exact hP, va_K.moved hW9.alike hK, hD⟩, hS.F ht9⟩) hS.2.2 d_LA_byteAt_20
