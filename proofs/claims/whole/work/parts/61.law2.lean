/-! THE LAW: the cases of its switch -/
def la_X (p : Program) (l : Launch) (s : State) (m : MethodId) (c : Code) (b L : Nat) (xs : Nat → Int32) (D : va_G) (tys : List (ClassId × FieldType)) : Prop := p.tables.exec = Jvm.exec ∧ c.code = code ∧ c.maxLocals = 7 ∧ s.vm.findClass "PageDriveLaw" = some m.cls ∧ (∀ w ∈ wsG, w.before #[Value.ref b] s = true) ∧ va_X b L xs s s.heap ∧ b < s.heap.size ∧ L ≤ 2049 ∧ l.stackTraces = false ∧ va_K D pwCl tys s ∧ pg_K s ∧ pg_Z (fun q : Nat => s.heap.size ≤ q) s s.heap
theorem la_cmp (x : Int64) : lg_cmp x x = 0 := by simp [lg_cmp]
theorem la_01 {r : Int32} (h : r = 0 ∨ r = 1) : (if r = 0 then (0 : Int64) else 1) = r.toInt64 := by
  rcases h with rfl | rfl <;> decide
set_option maxHeartbeats 4000000 in
set_option maxRecDepth 100000 in
theorem la_fin {p : Program} {l : Launch} {e : Env} {s : State} {m : MethodId} {below : List Frame} {meth : Method} {c : Code} {H : Heap} {locs : List Loc} {cells slots : Nat} {Q9 : State → Prop} {dC : Nat → ClassId} {dI : Nat → Nat → Nat} {cI cB cE cL cZ : ClassId} {b i n ob : Nat} {am ad : Nat → Nat} {g : Nat → Int64} {S Q : pdS} {ls : Array Slot} {pc : Nat} {kc r : Int32} (hx : p.tables.exec = Jvm.exec) (hb : c.code = code) (hml : c.maxLocals = 7) (hown : s.vm.findClass "PageDriveLaw" = some m.cls) (hg : ∀ w ∈ wsG, w.before #[Value.ref b] s = true) (hK : va_K (dC, dI) pwCl (pw_ty cI cB cE cL cZ) s) (hP : va_P (dC, dI) pwCl (la_w n am ad ob cI cB cE cL cZ Q S g) H) (hD : va_D (fun q : Nat => s.heap.size ≤ q) (la_w n am ad ob cI cB cE cL cZ Q S g)) (hS : va_S (fun q : Nat => s.heap.size ≤ q) s.heap H locs) (hl : lv_has ls 7 ((5, .int kc) :: la_lv i ob (am 0) (ad 0) b)) (hE : pj_C n kc (g 0) r S Q) (hc : cells ≤ 601024) (hs : slots ≤ 7293000) (d0 : decode code pc = .ok (.istore 6, 2)) (d2 : decode code (pc + 2) = .ok (.aload_n 2, 1)) (d3 : decode code (pc + 3) = .ok (.invokevirtual 69, 3)) (d6 : decode code (pc + 6) = .ok (.iload 5, 2)) (d8 : decode code (pc + 8) = .ok (.if_icmp .eq 5, 3)) (d13 : decode code (pc + 13) = .ok (.iload 5, 2)) (d15 : decode code (pc + 15) = .ok (.ifCond .ne 15, 3)) (d18 : decode code (pc + 18) = .ok (.aload_n 3, 1)) (d19 : decode code (pc + 19) = .ok (.iconst 0, 1)) (d20 : decode code (pc + 20) = .ok (.laload, 1)) (d21 : decode code (pc + 21) = .ok (.iload 6, 2)) (d23 : decode code (pc + 23) = .ok (.i2l, 1)) (d24 : decode code (pc + 24) = .ok (.lcmp, 1)) (d25 : decode code (pc + 25) = .ok (.ifCond .eq 5, 3))
    (kk : ∀ (H2 : Heap) (locs2 : List Loc) (ls2 : Array Slot), va_P (dC, dI) pwCl (la_w n am ad ob cI cB cE cL cZ Q S g) H2 → va_D (fun q : Nat => s.heap.size ≤ q) (la_w n am ad ob cI cB cE cL cZ Q S g) → va_S (fun q : Nat => s.heap.size ≤ q) s.heap H2 locs2 → lv_has ls2 7 (la_lv i ob (am 0) (ad 0) b) → W p l e room_1 s m #[Value.ref b] below meth c H2 locs2 (cells) (slots) Q9 (F0 m (pc + 30) ls2 [])) : W p l e room_1 s m #[Value.ref b] below meth c H locs (cells) (slots) Q9 (F0 m pc ls [.int r]) := by
  obtain ⟨e1, e2, e3, e4⟩ := hE
  have hA : ∀ q : Nat, s.heap.size ≤ q → (fun q : Nat => s.heap.size ≤ q) q := fun _ h => h
  refine lv_istore (lv' := (6, .int r) :: (5, .int kc) :: la_lv i ob (am 0) (ad 0) b) hx hb d0 hl (by decide) rfl (fun ls hl => ?_)
  refine lv_aload_n hx hb d2 rfl (lv_at hl 4 rfl) ?_
  refine pl_calli (post := fun r (_ : Unit) => r = nI (Q 7 3)) (Wf := fun _ : Unit => mw n am cI cL cZ Q) (tys := pw_ty cI cB cE cL cZ) (va_runV (rm := { frames := 0, cells := 0, slots := 0, locals := 0 }) (mc := 0) (ms := 0) (As := []) (rest := []) ⟨hx, hb, hml, hown, hg⟩ (c_MO_thrown l dC dI cI cB cE cL cZ n am Q H.size) (cwV 0 hg (gi_V (fun _ h => h) (wG_m11 (List.mem_of_getElem? (i := 19) rfl)) (wG_m11 (List.mem_of_getElem? (i := 20) rfl)) (wG_m11 (List.mem_of_getElem? (i := 21) rfl)) (wG_m1 (List.mem_of_getElem? (i := 6) rfl)) (wG_m11 (List.mem_of_getElem? (i := 22) rfl))) rfl rfl rfl (by decide +kernel) ⟨Nat.le_of_ble_eq_true rfl, Nat.le_of_ble_eq_true rfl⟩) (pw_pv hK (pn_Pl hP) (pn_Dl hD) (va_recv hK (pn_Pl hP) (ci := 4) (q0 := 0) rfl mw_g0) []) rfl rfl hl.1 rfl (lv_room (Nat.le_of_ble_eq_true rfl)) d3 ⟨hc, hs⟩) hP hD hS hA (fun r3 _ H locs hr3 hP hD hS => ?_)
  subst hr3
  refine lv_iload hx hb d6 (lv_at hl 1 rfl) ?_
  refine lv_icmp_eq (tgt := pc + 13) hx hb d8 (by omega) (fun _ => ?_) (fun h => absurd e1.symm h)
  refine lv_iload hx hb d13 (lv_at hl 1 rfl) ?_
  refine lv_if_ne (tgt := pc + 30) hx hb d15 (by omega) (fun h5 => ?_) (fun h5 => ?_)
  · exact kk H locs ls hP hD hS (lv_sub hl [2, 3, 4, 5, 6] rfl)
  have h0 : Q 7 3 = 0 := by
    rw [e1] at h5
    rcases Nat.eq_zero_or_pos (Q 7 3) with q | q
    · exact q
    · exact absurd h5 (nI_ne0 q (by omega))
  have e3 := e3 h0
  refine lv_aload_n hx hb d18 rfl (lv_at hl 3 rfl) ?_
  refine lv_iconst (v := nI 0) hx hb d19 (by decide) ?_
  refine va_lald hx hb hK hP ((mw n am cI cL cZ Q).length + 0) 3 (pn_gr rfl) rfl (vp_in_nI (by decide) (by decide)) d20 ?_
  rw [nI_clamp (show 0 < 2 ^ 31 by decide), e3]
  refine lv_iload hx hb d21 (lv_at hl 0 rfl) ?_
  refine lv_i2l hx hb d23 rfl ?_
  refine W.lcmp hx hb d24 ?_
  exact lv_if_eq (tgt := pc + 30) hx hb d25 (by omega) (fun _ => kk H locs ls hP hD hS (lv_sub hl [2, 3, 4, 5, 6] rfl)) (fun h => absurd (la_cmp _) h)
set_option maxHeartbeats 4000000 in
set_option maxRecDepth 100000 in
theorem la_finz {p : Program} {l : Launch} {e : Env} {s : State} {m : MethodId} {below : List Frame} {meth : Method} {c : Code} {H : Heap} {locs : List Loc} {cells slots : Nat} {Q9 : State → Prop} {dC : Nat → ClassId} {dI : Nat → Nat → Nat} {cI cB cE cL cZ : ClassId} {b i n ob : Nat} {am ad : Nat → Nat} {g : Nat → Int64} {S Q : pdS} {ls : Array Slot} {pc : Nat} {kc r : Int32} (hx : p.tables.exec = Jvm.exec) (hb : c.code = code) (hml : c.maxLocals = 7) (hown : s.vm.findClass "PageDriveLaw" = some m.cls) (hg : ∀ w ∈ wsG, w.before #[Value.ref b] s = true) (hK : va_K (dC, dI) pwCl (pw_ty cI cB cE cL cZ) s) (hP : va_P (dC, dI) pwCl (la_w n am ad ob cI cB cE cL cZ Q S g) H) (hD : va_D (fun q : Nat => s.heap.size ≤ q) (la_w n am ad ob cI cB cE cL cZ Q S g)) (hS : va_S (fun q : Nat => s.heap.size ≤ q) s.heap H locs) (hl : lv_has ls 7 ((5, .int kc) :: la_lv i ob (am 0) (ad 0) b)) (hE : pj_C n kc (g 0) r S Q) (hc : cells ≤ 601024) (hs : slots ≤ 7293000) (d0 : decode code pc = .ok (.istore 6, 2)) (d2 : decode code (pc + 2) = .ok (.aload_n 2, 1)) (d3 : decode code (pc + 3) = .ok (.invokevirtual 69, 3)) (d6 : decode code (pc + 6) = .ok (.iload 5, 2)) (d8 : decode code (pc + 8) = .ok (.if_icmp .eq 5, 3)) (d13 : decode code (pc + 13) = .ok (.iload 5, 2)) (d15 : decode code (pc + 15) = .ok (.ifCond .ne 22, 3)) (d18 : decode code (pc + 18) = .ok (.aload_n 3, 1)) (d19 : decode code (pc + 19) = .ok (.iconst 0, 1)) (d20 : decode code (pc + 20) = .ok (.laload, 1)) (d21 : decode code (pc + 21) = .ok (.iload 6, 2)) (d23 : decode code (pc + 23) = .ok (.ifCond .eq 7, 3)) (d26 : decode code (pc + 26) = .ok (.lconst 1, 1)) (d27 : decode code (pc + 27) = .ok (.goto 4, 3)) (d30 : decode code (pc + 30) = .ok (.lconst 0, 1)) (d31 : decode code (pc + 31) = .ok (.lcmp, 1)) (d32 : decode code (pc + 32) = .ok (.ifCond .eq 5, 3)) (h01 : Q 7 3 = 0 → r = 0 ∨ r = 1)
    (kk : ∀ (H2 : Heap) (locs2 : List Loc) (ls2 : Array Slot), va_P (dC, dI) pwCl (la_w n am ad ob cI cB cE cL cZ Q S g) H2 → va_D (fun q : Nat => s.heap.size ≤ q) (la_w n am ad ob cI cB cE cL cZ Q S g) → va_S (fun q : Nat => s.heap.size ≤ q) s.heap H2 locs2 → lv_has ls2 7 (la_lv i ob (am 0) (ad 0) b) → W p l e room_1 s m #[Value.ref b] below meth c H2 locs2 (cells) (slots) Q9 (F0 m (pc + 37) ls2 [])) : W p l e room_1 s m #[Value.ref b] below meth c H locs (cells) (slots) Q9 (F0 m pc ls [.int r]) := by
  obtain ⟨e1, e2, e3, e4⟩ := hE
  have hA : ∀ q : Nat, s.heap.size ≤ q → (fun q : Nat => s.heap.size ≤ q) q := fun _ h => h
  refine lv_istore (lv' := (6, .int r) :: (5, .int kc) :: la_lv i ob (am 0) (ad 0) b) hx hb d0 hl (by decide) rfl (fun ls hl => ?_)
  refine lv_aload_n hx hb d2 rfl (lv_at hl 4 rfl) ?_
  refine pl_calli (post := fun r (_ : Unit) => r = nI (Q 7 3)) (Wf := fun _ : Unit => mw n am cI cL cZ Q) (tys := pw_ty cI cB cE cL cZ) (va_runV (rm := { frames := 0, cells := 0, slots := 0, locals := 0 }) (mc := 0) (ms := 0) (As := []) (rest := []) ⟨hx, hb, hml, hown, hg⟩ (c_MO_thrown l dC dI cI cB cE cL cZ n am Q H.size) (cwV 0 hg (gi_V (fun _ h => h) (wG_m11 (List.mem_of_getElem? (i := 19) rfl)) (wG_m11 (List.mem_of_getElem? (i := 20) rfl)) (wG_m11 (List.mem_of_getElem? (i := 21) rfl)) (wG_m1 (List.mem_of_getElem? (i := 6) rfl)) (wG_m11 (List.mem_of_getElem? (i := 22) rfl))) rfl rfl rfl (by decide +kernel) ⟨Nat.le_of_ble_eq_true rfl, Nat.le_of_ble_eq_true rfl⟩) (pw_pv hK (pn_Pl hP) (pn_Dl hD) (va_recv hK (pn_Pl hP) (ci := 4) (q0 := 0) rfl mw_g0) []) rfl rfl hl.1 rfl (lv_room (Nat.le_of_ble_eq_true rfl)) d3 ⟨hc, hs⟩) hP hD hS hA (fun r3 _ H locs hr3 hP hD hS => ?_)
  subst hr3
  refine lv_iload hx hb d6 (lv_at hl 1 rfl) ?_
  refine lv_icmp_eq (tgt := pc + 13) hx hb d8 (by omega) (fun _ => ?_) (fun h => absurd e1.symm h)
  refine lv_iload hx hb d13 (lv_at hl 1 rfl) ?_
  refine lv_if_ne (tgt := pc + 37) hx hb d15 (by omega) (fun h5 => ?_) (fun h5 => ?_)
  · exact kk H locs ls hP hD hS (lv_sub hl [2, 3, 4, 5, 6] rfl)
  have h0 : Q 7 3 = 0 := by
    rw [e1] at h5
    rcases Nat.eq_zero_or_pos (Q 7 3) with q | q
    · exact q
    · exact absurd h5 (nI_ne0 q (by omega))
  have e3 := e3 h0
  refine lv_aload_n hx hb d18 rfl (lv_at hl 3 rfl) ?_
  refine lv_iconst (v := nI 0) hx hb d19 (by decide) ?_
  refine va_lald hx hb hK hP ((mw n am cI cL cZ Q).length + 0) 3 (pn_gr rfl) rfl (vp_in_nI (by decide) (by decide)) d20 ?_
  rw [nI_clamp (show 0 < 2 ^ 31 by decide), e3]
  refine lv_iload hx hb d21 (lv_at hl 0 rfl) ?_
  have e5 := la_01 (h01 h0)
  refine lv_if_eq (tgt := pc + 30) hx hb d23 (by omega) (fun h => ?_) (fun h => ?_)
  · rw [if_pos h] at e5
    refine lv_lconst (v := 0) hx hb d30 (by decide) ?_
    refine W.lcmp hx hb d31 ?_
    exact lv_if_eq (tgt := pc + 37) hx hb d32 (by omega) (fun _ => kk H locs ls hP hD hS (lv_sub hl [2, 3, 4, 5, 6] rfl)) (fun h => absurd (by rw [← e5]; exact la_cmp _) h)
  · rw [if_neg h] at e5
    refine lv_lconst (v := 1) hx hb d26 (by decide) ?_
    refine lv_goto (tgt := pc + 31) hx hb d27 (by omega) ?_
    refine W.lcmp hx hb d31 ?_
    exact lv_if_eq (tgt := pc + 37) hx hb d32 (by omega) (fun _ => kk H locs ls hP hD hS (lv_sub hl [2, 3, 4, 5, 6] rfl)) (fun h => absurd (by rw [← e5]; exact la_cmp _) h)
set_option maxHeartbeats 4000000 in
set_option maxRecDepth 100000 in
/-- feed -/
theorem la_feed {p : Program} {l : Launch} {e : Env} {s : State} {m : MethodId} {below : List Frame} {meth : Method} {c : Code} {H : Heap} {locs : List Loc} {cells slots : Nat} {Q9 : State → Prop} {dC : Nat → ClassId} {dI : Nat → Nat → Nat} {cI cB cE cL cZ : ClassId} {b L i n ob : Nat} {xs : Nat → Int32} {am ad : Nat → Nat} {g : Nat → Int64} {S Q : pdS} {ls : Array Slot} (C : la_X p l s m c b L xs (dC, dI) (pw_ty cI cB cE cL cZ)) (hi : i + 4 ≤ L) (J : pd_J n S Q) (hP : va_P (dC, dI) pwCl (la_w n am ad ob cI cB cE cL cZ Q S g) H) (hD : va_D (fun q : Nat => s.heap.size ≤ q) (la_w n am ad ob cI cB cE cL cZ Q S g)) (hS : va_S (fun q : Nat => s.heap.size ≤ q) s.heap H locs) (hl : lv_has ls 7 (la_lv i ob (am 0) (ad 0) b)) (hc : cells + 1 ≤ 601024) (hs : slots + 6 ≤ 7293000)
    (kk : ∀ (S2 Q2 : pdS) (g2 : Nat → Int64) (H2 : Heap) (locs2 : List Loc) (ls2 : Array Slot), pd_J n S2 Q2 → va_P (dC, dI) pwCl (la_w n am ad ob cI cB cE cL cZ Q2 S2 g2) H2 → va_D (fun q : Nat => s.heap.size ≤ q) (la_w n am ad ob cI cB cE cL cZ Q2 S2 g2) → va_S (fun q : Nat => s.heap.size ≤ q) s.heap H2 locs2 → lv_has ls2 7 (la_lv i ob (am 0) (ad 0) b) → W p l e room_1 s m #[Value.ref b] below meth c H2 locs2 (cells + 1) (slots + 6) Q9 (F0 m 845 ls2 [])) : W p l e room_1 s m #[Value.ref b] below meth c H locs (cells) (slots) Q9 (F0 m 108 ls []) := by
  obtain ⟨hx, hb, hml, hown, hg, hX, hbl, hL, hst, hK, hKK, hZ⟩ := C
  obtain ⟨j1, j2, j3, j4, j5, j6, j7, j8⟩ := id J
  have hA : ∀ q : Nat, s.heap.size ≤ q → (fun q : Nat => s.heap.size ≤ q) q := fun _ h => h
  have hbA : ¬ (fun q : Nat => s.heap.size ≤ q) b := Nat.not_le.mpr hbl
  have h72 : S 7 2 ≤ 4096 := j4.2.2.2.1
  have h72Q : Q 7 2 ≤ 4096 := j7.2.2.2.1
  refine lv_aload_n hx hb d_LA_law_108 rfl (lv_at hl 3 rfl) ?_
  refine la_wide hx hb hX hbl hbA hS hL (by omega) (lv_at hl 4 rfl) (lv_at hl 0 rfl) hown (hg (Cond.constantLong "PageDriveLaw" 63 (4294967295)) (wG_m13 (List.mem_of_getElem? (i := 38) rfl))) d_LA_law_109 d_LA_law_110 d_LA_law_112 d_LA_law_113 d_LA_law_114 d_LA_law_115 d_LA_law_116 d_LA_law_118 d_LA_law_119 d_LA_law_120 d_LA_law_122 d_LA_law_123 d_LA_law_124 d_LA_law_125 d_LA_law_126 d_LA_law_129 d_LA_law_130 ?_
  refine la_ld (j := 3) hx hb hX hbl hbA hS hL (by omega) (lv_at hl 4 rfl) (lv_at hl 0 rfl) (by decide) d_LA_law_131 d_LA_law_132 d_LA_law_134 d_LA_law_135 d_LA_law_136 ?_
  refine lv_aload_n hx hb d_LA_law_137 rfl (lv_at hl 1 rfl) ?_
  have hF := pw_hF (pn_Dr hD) hS hA
  refine pn_calli (wr := mw n am cI cL cZ Q) (wc := pn_o cL ob g ++ pw n ad cI cB cE S) (Wf := fun u : (Nat → Int64) × pdS => pn_o cL ob u.1 ++ pw n ad cI cB cE u.2) (tys := pw_ty cI cB cE cL cZ) (vx_runSW (rm := { frames := 7, cells := 1, slots := 6, locals := 106 }) (mc := 1) (ms := 6) (As := [.ref (ad 0), .long (la_x (xs (i + 1)) (xs (i + 2))), .int (xs (i + 3)), .ref ob]) (rest := []) ⟨hx, hb, hml, hown, hg⟩ (c_LA_feed l dC dI cI cB cE cL cZ hst ob g n ad S (la_x (xs (i + 1)) (xs (i + 2))) (xs (i + 3)) h72 H.size) (vx_cwSW 4 hg (gi_SW (fun _ h => h) (wG_m4 (List.mem_of_getElem? (i := 36) rfl)) (wG_m4 (List.mem_of_getElem? (i := 37) rfl)) (wG_m1 (List.mem_of_getElem? (i := 0) rfl)) (wG_m4 (List.mem_of_getElem? (i := 38) rfl))) rfl rfl rfl (by decide +kernel) ⟨Nat.le_of_ble_eq_true rfl, Nat.le_of_ble_eq_true rfl⟩) (pn_xps hK (pn_Pr hP) (pn_Dr hD) hKK (pn_Zc hZ hS hF) [.ref (ad 0), .long (la_x (xs (i + 1)) (xs (i + 2))), .int (xs (i + 3)), .ref ob]) rfl rfl hl.1 rfl (lv_room (Nat.le_of_ble_eq_true rfl)) d_LA_law_138 ⟨hc, hs⟩) hP hD hS hA (fun kc u H locs hC hP hD hS => ?_)
  obtain ⟨g2, S2⟩ := u
  refine lv_istore (lv' := (5, .int kc) :: la_lv i ob (am 0) (ad 0) b) hx hb d_LA_law_141 hl (by decide) rfl (fun ls hl => ?_)
  refine lv_aload_n hx hb d_LA_law_143 rfl (lv_at hl 3 rfl) ?_
  refine la_wide hx hb hX hbl hbA hS hL (by omega) (lv_at hl 5 rfl) (lv_at hl 1 rfl) hown (hg (Cond.constantLong "PageDriveLaw" 63 (4294967295)) (wG_m13 (List.mem_of_getElem? (i := 38) rfl))) d_LA_law_144 d_LA_law_145 d_LA_law_147 d_LA_law_148 d_LA_law_149 d_LA_law_150 d_LA_law_151 d_LA_law_153 d_LA_law_154 d_LA_law_155 d_LA_law_157 d_LA_law_158 d_LA_law_159 d_LA_law_160 d_LA_law_161 d_LA_law_164 d_LA_law_165 ?_
  refine la_ld (j := 3) hx hb hX hbl hbA hS hL (by omega) (lv_at hl 5 rfl) (lv_at hl 1 rfl) (by decide) d_LA_law_166 d_LA_law_167 d_LA_law_169 d_LA_law_170 d_LA_law_171 ?_
  refine pl_calli (wr := pn_o cL ob g2 ++ pw n ad cI cB cE S2) (wc := mw n am cI cL cZ Q) (Wf := mw n am cI cL cZ) (tys := pw_ty cI cB cE cL cZ) (va_runV (rm := { frames := 1, cells := 0, slots := 0, locals := 22 }) (mc := 0) (ms := 0) (As := [.long (la_x (xs (i + 1)) (xs (i + 2))), .int (xs (i + 3))]) (rest := []) ⟨hx, hb, hml, hown, hg⟩ (c_MO_feed l dC dI cI cB cE cL cZ n am Q (la_x (xs (i + 1)) (xs (i + 2))) (xs (i + 3)) h72Q H.size) (cwV 2 hg (gi_V (fun _ h => h) (wG_m11 (List.mem_of_getElem? (i := 23) rfl)) (wG_m11 (List.mem_of_getElem? (i := 24) rfl)) (wG_m11 (List.mem_of_getElem? (i := 25) rfl)) (wG_m1 (List.mem_of_getElem? (i := 6) rfl)) (wG_m11 (List.mem_of_getElem? (i := 26) rfl))) rfl rfl rfl (by decide +kernel) ⟨Nat.le_of_ble_eq_true rfl, Nat.le_of_ble_eq_true rfl⟩) (pw_pv hK (pn_Pl hP) (pn_Dl hD) (va_recv hK (pn_Pl hP) (ci := 4) (q0 := 0) rfl mw_g0) [.long (la_x (xs (i + 1)) (xs (i + 2))), .int (xs (i + 3))]) rfl rfl hl.1 rfl (lv_room (Nat.le_of_ble_eq_true rfl)) d_LA_law_172 ⟨hc, hs⟩) hP hD hS hA (fun r Q2 H locs hM hP hD hS => ?_)
  have hE := st_feed J hC hM
  refine la_fin hx hb hml hown hg hK hP hD hS hl hE hc hs d_LA_law_175 d_LA_law_177 d_LA_law_178 d_LA_law_181 d_LA_law_183 d_LA_law_188 d_LA_law_190 d_LA_law_193 d_LA_law_194 d_LA_law_195 d_LA_law_196 d_LA_law_198 d_LA_law_199 d_LA_law_200 (fun H locs ls hP hD hS hl => ?_)
  refine lv_goto (tgt := 845) hx hb d_LA_law_205 (by decide) ?_
  exact kk S2 Q2 g2 H locs ls hE.2.2.2 hP hD hS hl
set_option maxHeartbeats 4000000 in
set_option maxRecDepth 100000 in
/-- append -/
theorem la_append {p : Program} {l : Launch} {e : Env} {s : State} {m : MethodId} {below : List Frame} {meth : Method} {c : Code} {H : Heap} {locs : List Loc} {cells slots : Nat} {Q9 : State → Prop} {dC : Nat → ClassId} {dI : Nat → Nat → Nat} {cI cB cE cL cZ : ClassId} {b L i n ob : Nat} {xs : Nat → Int32} {am ad : Nat → Nat} {g : Nat → Int64} {S Q : pdS} {ls : Array Slot} (C : la_X p l s m c b L xs (dC, dI) (pw_ty cI cB cE cL cZ)) (hi : i + 4 ≤ L) (J : pd_J n S Q) (hP : va_P (dC, dI) pwCl (la_w n am ad ob cI cB cE cL cZ Q S g) H) (hD : va_D (fun q : Nat => s.heap.size ≤ q) (la_w n am ad ob cI cB cE cL cZ Q S g)) (hS : va_S (fun q : Nat => s.heap.size ≤ q) s.heap H locs) (hl : lv_has ls 7 (la_lv i ob (am 0) (ad 0) b)) (hc : cells + 1 ≤ 601024) (hs : slots + 6 ≤ 7293000)
    (kk : ∀ (S2 Q2 : pdS) (g2 : Nat → Int64) (H2 : Heap) (locs2 : List Loc) (ls2 : Array Slot), pd_J n S2 Q2 → va_P (dC, dI) pwCl (la_w n am ad ob cI cB cE cL cZ Q2 S2 g2) H2 → va_D (fun q : Nat => s.heap.size ≤ q) (la_w n am ad ob cI cB cE cL cZ Q2 S2 g2) → va_S (fun q : Nat => s.heap.size ≤ q) s.heap H2 locs2 → lv_has ls2 7 (la_lv i ob (am 0) (ad 0) b) → W p l e room_1 s m #[Value.ref b] below meth c H2 locs2 (cells + 1) (slots + 6) Q9 (F0 m 845 ls2 [])) : W p l e room_1 s m #[Value.ref b] below meth c H locs (cells) (slots) Q9 (F0 m 208 ls []) := by
  obtain ⟨hx, hb, hml, hown, hg, hX, hbl, hL, hst, hK, hKK, hZ⟩ := C
  obtain ⟨j1, j2, j3, j4, j5, j6, j7, j8⟩ := id J
  have hA : ∀ q : Nat, s.heap.size ≤ q → (fun q : Nat => s.heap.size ≤ q) q := fun _ h => h
  have hbA : ¬ (fun q : Nat => s.heap.size ≤ q) b := Nat.not_le.mpr hbl
  refine lv_aload_n hx hb d_LA_law_208 rfl (lv_at hl 3 rfl) ?_
  refine la_ld (j := 1) hx hb hX hbl hbA hS hL (by omega) (lv_at hl 4 rfl) (lv_at hl 0 rfl) (by decide) d_LA_law_209 d_LA_law_210 d_LA_law_212 d_LA_law_213 d_LA_law_214 ?_
  refine la_ld (j := 2) hx hb hX hbl hbA hS hL (by omega) (lv_at hl 4 rfl) (lv_at hl 0 rfl) (by decide) d_LA_law_215 d_LA_law_216 d_LA_law_218 d_LA_law_219 d_LA_law_220 ?_
  refine lv_aload_n hx hb d_LA_law_221 rfl (lv_at hl 1 rfl) ?_
  have hF := pw_hF (pn_Dr hD) hS hA
  refine pn_calli (wr := mw n am cI cL cZ Q) (wc := pn_o cL ob g ++ pw n ad cI cB cE S) (Wf := fun u : (Nat → Int64) × pdS => pn_o cL ob u.1 ++ pw n ad cI cB cE u.2) (tys := pw_ty cI cB cE cL cZ) (vx_runSW (rm := { frames := 7, cells := 1, slots := 6, locals := 131 }) (mc := 1) (ms := 6) (As := [.ref (ad 0), .int (xs (i + 1)), .int (xs (i + 2)), .ref ob]) (rest := []) ⟨hx, hb, hml, hown, hg⟩ (c_LA_append l dC dI cI cB cE cL cZ hst ob g n ad S (xs (i + 1)) (xs (i + 2)) j2 j4 j6 H.size) (vx_cwSW 4 hg (gi_SW (fun _ h => h) (wG_m6 (List.mem_of_getElem? (i := 36) rfl)) (wG_m6 (List.mem_of_getElem? (i := 37) rfl)) (wG_m1 (List.mem_of_getElem? (i := 0) rfl)) (wG_m6 (List.mem_of_getElem? (i := 38) rfl))) rfl rfl rfl (by decide +kernel) ⟨Nat.le_of_ble_eq_true rfl, Nat.le_of_ble_eq_true rfl⟩) (pn_xps hK (pn_Pr hP) (pn_Dr hD) hKK (pn_Zc hZ hS hF) [.ref (ad 0), .int (xs (i + 1)), .int (xs (i + 2)), .ref ob]) rfl rfl hl.1 rfl (lv_room (Nat.le_of_ble_eq_true rfl)) d_LA_law_222 ⟨hc, hs⟩) hP hD hS hA (fun kc u H locs hC hP hD hS => ?_)
  obtain ⟨g2, S2⟩ := u
  refine lv_istore (lv' := (5, .int kc) :: la_lv i ob (am 0) (ad 0) b) hx hb d_LA_law_225 hl (by decide) rfl (fun ls hl => ?_)
  refine lv_aload_n hx hb d_LA_law_227 rfl (lv_at hl 3 rfl) ?_
  refine la_ld (j := 1) hx hb hX hbl hbA hS hL (by omega) (lv_at hl 5 rfl) (lv_at hl 1 rfl) (by decide) d_LA_law_228 d_LA_law_229 d_LA_law_231 d_LA_law_232 d_LA_law_233 ?_
  refine la_ld (j := 2) hx hb hX hbl hbA hS hL (by omega) (lv_at hl 5 rfl) (lv_at hl 1 rfl) (by decide) d_LA_law_234 d_LA_law_235 d_LA_law_237 d_LA_law_238 d_LA_law_239 ?_
  refine pl_calli (wr := pn_o cL ob g2 ++ pw n ad cI cB cE S2) (wc := mw n am cI cL cZ Q) (Wf := mw n am cI cL cZ) (tys := pw_ty cI cB cE cL cZ) (va_runV (rm := { frames := 2, cells := 0, slots := 0, locals := 42 }) (mc := 0) (ms := 0) (As := [.int (xs (i + 1)), .int (xs (i + 2))]) (rest := []) ⟨hx, hb, hml, hown, hg⟩ (c_MO_append l dC dI cI cB cE cL cZ n am Q (xs (i + 1)) (xs (i + 2)) j7 j2 (pj_nz J).1 H.size) (cwV 2 hg (gi_V (fun _ h => h) (wG_m11 (List.mem_of_getElem? (i := 34) rfl)) (wG_m11 (List.mem_of_getElem? (i := 35) rfl)) (wG_m11 (List.mem_of_getElem? (i := 36) rfl)) (wG_m1 (List.mem_of_getElem? (i := 6) rfl)) (wG_m11 (List.mem_of_getElem? (i := 37) rfl))) rfl rfl rfl (by decide +kernel) ⟨Nat.le_of_ble_eq_true rfl, Nat.le_of_ble_eq_true rfl⟩) (pw_pv hK (pn_Pl hP) (pn_Dl hD) (va_recv hK (pn_Pl hP) (ci := 4) (q0 := 0) rfl mw_g0) [.int (xs (i + 1)), .int (xs (i + 2))]) rfl rfl hl.1 rfl (lv_room (Nat.le_of_ble_eq_true rfl)) d_LA_law_240 ⟨hc, hs⟩) hP hD hS hA (fun r Q2 H locs hM hP hD hS => ?_)
  have hE := st_append J hC hM
  refine la_fin hx hb hml hown hg hK hP hD hS hl hE hc hs d_LA_law_243 d_LA_law_245 d_LA_law_246 d_LA_law_249 d_LA_law_251 d_LA_law_256 d_LA_law_258 d_LA_law_261 d_LA_law_262 d_LA_law_263 d_LA_law_264 d_LA_law_266 d_LA_law_267 d_LA_law_268 (fun H locs ls hP hD hS hl => ?_)
  refine lv_goto (tgt := 845) hx hb d_LA_law_273 (by decide) ?_
  exact kk S2 Q2 g2 H locs ls hE.2.2.2 hP hD hS hl
set_option maxHeartbeats 4000000 in
set_option maxRecDepth 100000 in
/-- cut -/
theorem la_cut {p : Program} {l : Launch} {e : Env} {s : State} {m : MethodId} {below : List Frame} {meth : Method} {c : Code} {H : Heap} {locs : List Loc} {cells slots : Nat} {Q9 : State → Prop} {dC : Nat → ClassId} {dI : Nat → Nat → Nat} {cI cB cE cL cZ : ClassId} {b L i n ob : Nat} {xs : Nat → Int32} {am ad : Nat → Nat} {g : Nat → Int64} {S Q : pdS} {ls : Array Slot} (C : la_X p l s m c b L xs (dC, dI) (pw_ty cI cB cE cL cZ)) (hi : i + 4 ≤ L) (J : pd_J n S Q) (hP : va_P (dC, dI) pwCl (la_w n am ad ob cI cB cE cL cZ Q S g) H) (hD : va_D (fun q : Nat => s.heap.size ≤ q) (la_w n am ad ob cI cB cE cL cZ Q S g)) (hS : va_S (fun q : Nat => s.heap.size ≤ q) s.heap H locs) (hl : lv_has ls 7 (la_lv i ob (am 0) (ad 0) b)) (hc : cells + 1 ≤ 601024) (hs : slots + 6 ≤ 7293000)
    (kk : ∀ (S2 Q2 : pdS) (g2 : Nat → Int64) (H2 : Heap) (locs2 : List Loc) (ls2 : Array Slot), pd_J n S2 Q2 → va_P (dC, dI) pwCl (la_w n am ad ob cI cB cE cL cZ Q2 S2 g2) H2 → va_D (fun q : Nat => s.heap.size ≤ q) (la_w n am ad ob cI cB cE cL cZ Q2 S2 g2) → va_S (fun q : Nat => s.heap.size ≤ q) s.heap H2 locs2 → lv_has ls2 7 (la_lv i ob (am 0) (ad 0) b) → W p l e room_1 s m #[Value.ref b] below meth c H2 locs2 (cells + 1) (slots + 6) Q9 (F0 m 845 ls2 [])) : W p l e room_1 s m #[Value.ref b] below meth c H locs (cells) (slots) Q9 (F0 m 276 ls []) := by
  obtain ⟨hx, hb, hml, hown, hg, hX, hbl, hL, hst, hK, hKK, hZ⟩ := C
  obtain ⟨j1, j2, j3, j4, j5, j6, j7, j8⟩ := id J
  have hA : ∀ q : Nat, s.heap.size ≤ q → (fun q : Nat => s.heap.size ≤ q) q := fun _ h => h
  have hbA : ¬ (fun q : Nat => s.heap.size ≤ q) b := Nat.not_le.mpr hbl
  refine lv_aload_n hx hb d_LA_law_276 rfl (lv_at hl 3 rfl) ?_
  refine la_ld (j := 1) hx hb hX hbl hbA hS hL (by omega) (lv_at hl 4 rfl) (lv_at hl 0 rfl) (by decide) d_LA_law_277 d_LA_law_278 d_LA_law_280 d_LA_law_281 d_LA_law_282 ?_
  refine la_ld (j := 2) hx hb hX hbl hbA hS hL (by omega) (lv_at hl 4 rfl) (lv_at hl 0 rfl) (by decide) d_LA_law_283 d_LA_law_284 d_LA_law_286 d_LA_law_287 d_LA_law_288 ?_
  refine lv_aload_n hx hb d_LA_law_289 rfl (lv_at hl 1 rfl) ?_
  have hF := pw_hF (pn_Dr hD) hS hA
  refine pn_calli (wr := mw n am cI cL cZ Q) (wc := pn_o cL ob g ++ pw n ad cI cB cE S) (Wf := fun u : (Nat → Int64) × pdS => pn_o cL ob u.1 ++ pw n ad cI cB cE u.2) (tys := pw_ty cI cB cE cL cZ) (vx_runSW (rm := { frames := 7, cells := 1, slots := 6, locals := 106 }) (mc := 1) (ms := 6) (As := [.ref (ad 0), .int (xs (i + 1)), .int (xs (i + 2)), .ref ob]) (rest := []) ⟨hx, hb, hml, hown, hg⟩ (c_LA_cut l dC dI cI cB cE cL cZ hst ob g n ad S (xs (i + 1)) (xs (i + 2)) j2 j4 j6 j5 H.size) (vx_cwSW 4 hg (gi_SW (fun _ h => h) (wG_m8 (List.mem_of_getElem? (i := 27) rfl)) (wG_m8 (List.mem_of_getElem? (i := 28) rfl)) (wG_m1 (List.mem_of_getElem? (i := 0) rfl)) (wG_m8 (List.mem_of_getElem? (i := 29) rfl))) rfl rfl rfl (by decide +kernel) ⟨Nat.le_of_ble_eq_true rfl, Nat.le_of_ble_eq_true rfl⟩) (pn_xps hK (pn_Pr hP) (pn_Dr hD) hKK (pn_Zc hZ hS hF) [.ref (ad 0), .int (xs (i + 1)), .int (xs (i + 2)), .ref ob]) rfl rfl hl.1 rfl (lv_room (Nat.le_of_ble_eq_true rfl)) d_LA_law_290 ⟨hc, hs⟩) hP hD hS hA (fun kc u H locs hC hP hD hS => ?_)
  obtain ⟨g2, S2⟩ := u
  refine lv_istore (lv' := (5, .int kc) :: la_lv i ob (am 0) (ad 0) b) hx hb d_LA_law_293 hl (by decide) rfl (fun ls hl => ?_)
  refine lv_aload_n hx hb d_LA_law_295 rfl (lv_at hl 3 rfl) ?_
  refine la_ld (j := 1) hx hb hX hbl hbA hS hL (by omega) (lv_at hl 5 rfl) (lv_at hl 1 rfl) (by decide) d_LA_law_296 d_LA_law_297 d_LA_law_299 d_LA_law_300 d_LA_law_301 ?_
  refine la_ld (j := 2) hx hb hX hbl hbA hS hL (by omega) (lv_at hl 5 rfl) (lv_at hl 1 rfl) (by decide) d_LA_law_302 d_LA_law_303 d_LA_law_305 d_LA_law_306 d_LA_law_307 ?_
  refine pl_calli (wr := pn_o cL ob g2 ++ pw n ad cI cB cE S2) (wc := mw n am cI cL cZ Q) (Wf := mw n am cI cL cZ) (tys := pw_ty cI cB cE cL cZ) (va_runV (rm := { frames := 2, cells := 0, slots := 0, locals := 42 }) (mc := 0) (ms := 0) (As := [.int (xs (i + 1)), .int (xs (i + 2))]) (rest := []) ⟨hx, hb, hml, hown, hg⟩ (c_MO_cut l dC dI cI cB cE cL cZ n am Q (xs (i + 1)) (xs (i + 2)) j7 j8 H.size) (cwV 2 hg (gi_V (fun _ h => h) (wG_m12 (List.mem_of_getElem? (i := 14) rfl)) (wG_m12 (List.mem_of_getElem? (i := 15) rfl)) (wG_m12 (List.mem_of_getElem? (i := 16) rfl)) (wG_m1 (List.mem_of_getElem? (i := 6) rfl)) (wG_m12 (List.mem_of_getElem? (i := 17) rfl))) rfl rfl rfl (by decide +kernel) ⟨Nat.le_of_ble_eq_true rfl, Nat.le_of_ble_eq_true rfl⟩) (pw_pv hK (pn_Pl hP) (pn_Dl hD) (va_recv hK (pn_Pl hP) (ci := 4) (q0 := 0) rfl mw_g0) [.int (xs (i + 1)), .int (xs (i + 2))]) rfl rfl hl.1 rfl (lv_room (Nat.le_of_ble_eq_true rfl)) d_LA_law_308 ⟨hc, hs⟩) hP hD hS hA (fun r Q2 H locs hM hP hD hS => ?_)
  have hE := st_cut J hC hM
  refine la_fin hx hb hml hown hg hK hP hD hS hl hE hc hs d_LA_law_311 d_LA_law_313 d_LA_law_314 d_LA_law_317 d_LA_law_319 d_LA_law_324 d_LA_law_326 d_LA_law_329 d_LA_law_330 d_LA_law_331 d_LA_law_332 d_LA_law_334 d_LA_law_335 d_LA_law_336 (fun H locs ls hP hD hS hl => ?_)
  refine lv_goto (tgt := 845) hx hb d_LA_law_341 (by decide) ?_
  exact kk S2 Q2 g2 H locs ls hE.2.2.2 hP hD hS hl
set_option maxHeartbeats 4000000 in
set_option maxRecDepth 100000 in
/-- remove -/
theorem la_remove {p : Program} {l : Launch} {e : Env} {s : State} {m : MethodId} {below : List Frame} {meth : Method} {c : Code} {H : Heap} {locs : List Loc} {cells slots : Nat} {Q9 : State → Prop} {dC : Nat → ClassId} {dI : Nat → Nat → Nat} {cI cB cE cL cZ : ClassId} {b L i n ob : Nat} {xs : Nat → Int32} {am ad : Nat → Nat} {g : Nat → Int64} {S Q : pdS} {ls : Array Slot} (C : la_X p l s m c b L xs (dC, dI) (pw_ty cI cB cE cL cZ)) (hi : i + 4 ≤ L) (J : pd_J n S Q) (hP : va_P (dC, dI) pwCl (la_w n am ad ob cI cB cE cL cZ Q S g) H) (hD : va_D (fun q : Nat => s.heap.size ≤ q) (la_w n am ad ob cI cB cE cL cZ Q S g)) (hS : va_S (fun q : Nat => s.heap.size ≤ q) s.heap H locs) (hl : lv_has ls 7 (la_lv i ob (am 0) (ad 0) b)) (hc : cells + 1 ≤ 601024) (hs : slots + 6 ≤ 7293000)
    (kk : ∀ (S2 Q2 : pdS) (g2 : Nat → Int64) (H2 : Heap) (locs2 : List Loc) (ls2 : Array Slot), pd_J n S2 Q2 → va_P (dC, dI) pwCl (la_w n am ad ob cI cB cE cL cZ Q2 S2 g2) H2 → va_D (fun q : Nat => s.heap.size ≤ q) (la_w n am ad ob cI cB cE cL cZ Q2 S2 g2) → va_S (fun q : Nat => s.heap.size ≤ q) s.heap H2 locs2 → lv_has ls2 7 (la_lv i ob (am 0) (ad 0) b) → W p l e room_1 s m #[Value.ref b] below meth c H2 locs2 (cells + 1) (slots + 6) Q9 (F0 m 845 ls2 [])) : W p l e room_1 s m #[Value.ref b] below meth c H locs (cells) (slots) Q9 (F0 m 344 ls []) := by
  obtain ⟨hx, hb, hml, hown, hg, hX, hbl, hL, hst, hK, hKK, hZ⟩ := C
  obtain ⟨j1, j2, j3, j4, j5, j6, j7, j8⟩ := id J
  have hA : ∀ q : Nat, s.heap.size ≤ q → (fun q : Nat => s.heap.size ≤ q) q := fun _ h => h
  have hbA : ¬ (fun q : Nat => s.heap.size ≤ q) b := Nat.not_le.mpr hbl
  refine lv_aload_n hx hb d_LA_law_344 rfl (lv_at hl 3 rfl) ?_
  refine la_ld (j := 1) hx hb hX hbl hbA hS hL (by omega) (lv_at hl 4 rfl) (lv_at hl 0 rfl) (by decide) d_LA_law_345 d_LA_law_346 d_LA_law_348 d_LA_law_349 d_LA_law_350 ?_
  refine lv_aload_n hx hb d_LA_law_351 rfl (lv_at hl 1 rfl) ?_
  have hF := pw_hF (pn_Dr hD) hS hA
  refine pn_calli (wr := mw n am cI cL cZ Q) (wc := pn_o cL ob g ++ pw n ad cI cB cE S) (Wf := fun u : (Nat → Int64) × pdS => pn_o cL ob u.1 ++ pw n ad cI cB cE u.2) (tys := pw_ty cI cB cE cL cZ) (vx_runSW (rm := { frames := 7, cells := 1, slots := 6, locals := 105 }) (mc := 1) (ms := 6) (As := [.ref (ad 0), .int (xs (i + 1)), .ref ob]) (rest := []) ⟨hx, hb, hml, hown, hg⟩ (c_LA_remove l dC dI cI cB cE cL cZ hst ob g n ad S (xs (i + 1)) j2 j4 j6 H.size) (vx_cwSW 3 hg (gi_SW (fun _ h => h) (wG_m9 (List.mem_of_getElem? (i := 9) rfl)) (wG_m9 (List.mem_of_getElem? (i := 10) rfl)) (wG_m1 (List.mem_of_getElem? (i := 0) rfl)) (wG_m9 (List.mem_of_getElem? (i := 11) rfl))) rfl rfl rfl (by decide +kernel) ⟨Nat.le_of_ble_eq_true rfl, Nat.le_of_ble_eq_true rfl⟩) (pn_xps hK (pn_Pr hP) (pn_Dr hD) hKK (pn_Zc hZ hS hF) [.ref (ad 0), .int (xs (i + 1)), .ref ob]) rfl rfl hl.1 rfl (lv_room (Nat.le_of_ble_eq_true rfl)) d_LA_law_352 ⟨hc, hs⟩) hP hD hS hA (fun kc u H locs hC hP hD hS => ?_)
  obtain ⟨g2, S2⟩ := u
  refine lv_istore (lv' := (5, .int kc) :: la_lv i ob (am 0) (ad 0) b) hx hb d_LA_law_355 hl (by decide) rfl (fun ls hl => ?_)
  refine lv_aload_n hx hb d_LA_law_357 rfl (lv_at hl 3 rfl) ?_
  refine la_ld (j := 1) hx hb hX hbl hbA hS hL (by omega) (lv_at hl 5 rfl) (lv_at hl 1 rfl) (by decide) d_LA_law_358 d_LA_law_359 d_LA_law_361 d_LA_law_362 d_LA_law_363 ?_
  refine pl_calli (wr := pn_o cL ob g2 ++ pw n ad cI cB cE S2) (wc := mw n am cI cL cZ Q) (Wf := mw n am cI cL cZ) (tys := pw_ty cI cB cE cL cZ) (va_runV (rm := { frames := 2, cells := 0, slots := 0, locals := 42 }) (mc := 0) (ms := 0) (As := [.int (xs (i + 1))]) (rest := []) ⟨hx, hb, hml, hown, hg⟩ (c_MO_remove l dC dI cI cB cE cL cZ n am Q (xs (i + 1)) j7 j8 H.size) (cwV 1 hg (gi_V (fun _ h => h) (wG_m12 (List.mem_of_getElem? (i := 21) rfl)) (wG_m12 (List.mem_of_getElem? (i := 22) rfl)) (wG_m12 (List.mem_of_getElem? (i := 23) rfl)) (wG_m1 (List.mem_of_getElem? (i := 6) rfl)) (wG_m12 (List.mem_of_getElem? (i := 24) rfl))) rfl rfl rfl (by decide +kernel) ⟨Nat.le_of_ble_eq_true rfl, Nat.le_of_ble_eq_true rfl⟩) (pw_pv hK (pn_Pl hP) (pn_Dl hD) (va_recv hK (pn_Pl hP) (ci := 4) (q0 := 0) rfl mw_g0) [.int (xs (i + 1))]) rfl rfl hl.1 rfl (lv_room (Nat.le_of_ble_eq_true rfl)) d_LA_law_364 ⟨hc, hs⟩) hP hD hS hA (fun r Q2 H locs hM hP hD hS => ?_)
  have hE := st_remove J hC hM
  have h01 : Q2 7 3 = 0 → r = 0 ∨ r = 1 := fun q => by
    rcases hM with ⟨k1, -⟩ | ⟨-, a, k2, -, k4, -⟩
    · omega
    have h5 := (j7.1 (2 * a) (by omega)).2.1
    rcases (show Q 5 (2 * a) = 0 ∨ Q 5 (2 * a) = 1 by omega) with q | q
    · exact Or.inl (by rw [k4, q]; decide)
    · exact Or.inr (by rw [k4, q]; decide)
  refine la_finz hx hb hml hown hg hK hP hD hS hl hE hc hs d_LA_law_367 d_LA_law_369 d_LA_law_370 d_LA_law_373 d_LA_law_375 d_LA_law_380 d_LA_law_382 d_LA_law_385 d_LA_law_386 d_LA_law_387 d_LA_law_388 d_LA_law_390 d_LA_law_393 d_LA_law_394 d_LA_law_397 d_LA_law_398 d_LA_law_399 h01 (fun H locs ls hP hD hS hl => ?_)
  refine lv_goto (tgt := 845) hx hb d_LA_law_404 (by decide) ?_
  exact kk S2 Q2 g2 H locs ls hE.2.2.2 hP hD hS hl
set_option maxHeartbeats 4000000 in
set_option maxRecDepth 100000 in
/-- twin -/
theorem la_twin {p : Program} {l : Launch} {e : Env} {s : State} {m : MethodId} {below : List Frame} {meth : Method} {c : Code} {H : Heap} {locs : List Loc} {cells slots : Nat} {Q9 : State → Prop} {dC : Nat → ClassId} {dI : Nat → Nat → Nat} {cI cB cE cL cZ : ClassId} {b L i n ob : Nat} {xs : Nat → Int32} {am ad : Nat → Nat} {g : Nat → Int64} {S Q : pdS} {ls : Array Slot} (C : la_X p l s m c b L xs (dC, dI) (pw_ty cI cB cE cL cZ)) (hi : i + 4 ≤ L) (J : pd_J n S Q) (hP : va_P (dC, dI) pwCl (la_w n am ad ob cI cB cE cL cZ Q S g) H) (hD : va_D (fun q : Nat => s.heap.size ≤ q) (la_w n am ad ob cI cB cE cL cZ Q S g)) (hS : va_S (fun q : Nat => s.heap.size ≤ q) s.heap H locs) (hl : lv_has ls 7 (la_lv i ob (am 0) (ad 0) b)) (hc : cells + 1 ≤ 601024) (hs : slots + 6 ≤ 7293000)
    (kk : ∀ (S2 Q2 : pdS) (g2 : Nat → Int64) (H2 : Heap) (locs2 : List Loc) (ls2 : Array Slot), pd_J n S2 Q2 → va_P (dC, dI) pwCl (la_w n am ad ob cI cB cE cL cZ Q2 S2 g2) H2 → va_D (fun q : Nat => s.heap.size ≤ q) (la_w n am ad ob cI cB cE cL cZ Q2 S2 g2) → va_S (fun q : Nat => s.heap.size ≤ q) s.heap H2 locs2 → lv_has ls2 7 (la_lv i ob (am 0) (ad 0) b) → W p l e room_1 s m #[Value.ref b] below meth c H2 locs2 (cells + 1) (slots + 6) Q9 (F0 m 845 ls2 [])) : W p l e room_1 s m #[Value.ref b] below meth c H locs (cells) (slots) Q9 (F0 m 407 ls []) := by
  obtain ⟨hx, hb, hml, hown, hg, hX, hbl, hL, hst, hK, hKK, hZ⟩ := C
  obtain ⟨j1, j2, j3, j4, j5, j6, j7, j8⟩ := id J
  have hA : ∀ q : Nat, s.heap.size ≤ q → (fun q : Nat => s.heap.size ≤ q) q := fun _ h => h
  have hbA : ¬ (fun q : Nat => s.heap.size ≤ q) b := Nat.not_le.mpr hbl
  refine lv_aload_n hx hb d_LA_law_407 rfl (lv_at hl 3 rfl) ?_
  refine la_ld (j := 1) hx hb hX hbl hbA hS hL (by omega) (lv_at hl 4 rfl) (lv_at hl 0 rfl) (by decide) d_LA_law_408 d_LA_law_409 d_LA_law_411 d_LA_law_412 d_LA_law_413 ?_
  refine la_ld (j := 2) hx hb hX hbl hbA hS hL (by omega) (lv_at hl 4 rfl) (lv_at hl 0 rfl) (by decide) d_LA_law_414 d_LA_law_415 d_LA_law_417 d_LA_law_418 d_LA_law_419 ?_
  refine lv_aload_n hx hb d_LA_law_420 rfl (lv_at hl 1 rfl) ?_
  have hF := pw_hF (pn_Dr hD) hS hA
  refine pn_calli (wr := mw n am cI cL cZ Q) (wc := pn_o cL ob g ++ pw n ad cI cB cE S) (Wf := fun u : (Nat → Int64) × pdS => pn_o cL ob u.1 ++ pw n ad cI cB cE u.2) (tys := pw_ty cI cB cE cL cZ) (vx_runSW (rm := { frames := 7, cells := 1, slots := 6, locals := 107 }) (mc := 1) (ms := 6) (As := [.ref (ad 0), .int (xs (i + 1)), .int (xs (i + 2)), .ref ob]) (rest := []) ⟨hx, hb, hml, hown, hg⟩ (c_LA_twin l dC dI cI cB cE cL cZ hst ob g n ad S (xs (i + 1)) (xs (i + 2)) j2 j4 j6 H.size) (vx_cwSW 4 hg (gi_SW (fun _ h => h) (wG_m9 (List.mem_of_getElem? (i := 16) rfl)) (wG_m9 (List.mem_of_getElem? (i := 17) rfl)) (wG_m1 (List.mem_of_getElem? (i := 0) rfl)) (wG_m9 (List.mem_of_getElem? (i := 18) rfl))) rfl rfl rfl (by decide +kernel) ⟨Nat.le_of_ble_eq_true rfl, Nat.le_of_ble_eq_true rfl⟩) (pn_xps hK (pn_Pr hP) (pn_Dr hD) hKK (pn_Zc hZ hS hF) [.ref (ad 0), .int (xs (i + 1)), .int (xs (i + 2)), .ref ob]) rfl rfl hl.1 rfl (lv_room (Nat.le_of_ble_eq_true rfl)) d_LA_law_421 ⟨hc, hs⟩) hP hD hS hA (fun kc u H locs hC hP hD hS => ?_)
  obtain ⟨g2, S2⟩ := u
  refine lv_istore (lv' := (5, .int kc) :: la_lv i ob (am 0) (ad 0) b) hx hb d_LA_law_424 hl (by decide) rfl (fun ls hl => ?_)
  refine lv_aload_n hx hb d_LA_law_426 rfl (lv_at hl 3 rfl) ?_
  refine la_ld (j := 1) hx hb hX hbl hbA hS hL (by omega) (lv_at hl 5 rfl) (lv_at hl 1 rfl) (by decide) d_LA_law_427 d_LA_law_428 d_LA_law_430 d_LA_law_431 d_LA_law_432 ?_
  refine la_ld (j := 2) hx hb hX hbl hbA hS hL (by omega) (lv_at hl 5 rfl) (lv_at hl 1 rfl) (by decide) d_LA_law_433 d_LA_law_434 d_LA_law_436 d_LA_law_437 d_LA_law_438 ?_
  refine pl_calli (wr := pn_o cL ob g2 ++ pw n ad cI cB cE S2) (wc := mw n am cI cL cZ Q) (Wf := mw n am cI cL cZ) (tys := pw_ty cI cB cE cL cZ) (va_runV (rm := { frames := 2, cells := 0, slots := 0, locals := 42 }) (mc := 0) (ms := 0) (As := [.int (xs (i + 1)), .int (xs (i + 2))]) (rest := []) ⟨hx, hb, hml, hown, hg⟩ (c_MO_twin l dC dI cI cB cE cL cZ n am Q (xs (i + 1)) (xs (i + 2)) j7 H.size) (cwV 2 hg (gi_V (fun _ h => h) (wG_m12 (List.mem_of_getElem? (i := 25) rfl)) (wG_m12 (List.mem_of_getElem? (i := 26) rfl)) (wG_m12 (List.mem_of_getElem? (i := 27) rfl)) (wG_m1 (List.mem_of_getElem? (i := 6) rfl)) (wG_m12 (List.mem_of_getElem? (i := 28) rfl))) rfl rfl rfl (by decide +kernel) ⟨Nat.le_of_ble_eq_true rfl, Nat.le_of_ble_eq_true rfl⟩) (pw_pv hK (pn_Pl hP) (pn_Dl hD) (va_recv hK (pn_Pl hP) (ci := 4) (q0 := 0) rfl mw_g0) [.int (xs (i + 1)), .int (xs (i + 2))]) rfl rfl hl.1 rfl (lv_room (Nat.le_of_ble_eq_true rfl)) d_LA_law_439 ⟨hc, hs⟩) hP hD hS hA (fun r Q2 H locs hM hP hD hS => ?_)
  have hE := st_twin J hC hM
  refine la_fin hx hb hml hown hg hK hP hD hS hl hE hc hs d_LA_law_442 d_LA_law_444 d_LA_law_445 d_LA_law_448 d_LA_law_450 d_LA_law_455 d_LA_law_457 d_LA_law_460 d_LA_law_461 d_LA_law_462 d_LA_law_463 d_LA_law_465 d_LA_law_466 d_LA_law_467 (fun H locs ls hP hD hS hl => ?_)
  refine lv_goto (tgt := 845) hx hb d_LA_law_472 (by decide) ?_
  exact kk S2 Q2 g2 H locs ls hE.2.2.2 hP hD hS hl
set_option maxHeartbeats 4000000 in
set_option maxRecDepth 100000 in
/-- sync -/
theorem la_sync {p : Program} {l : Launch} {e : Env} {s : State} {m : MethodId} {below : List Frame} {meth : Method} {c : Code} {H : Heap} {locs : List Loc} {cells slots : Nat} {Q9 : State → Prop} {dC : Nat → ClassId} {dI : Nat → Nat → Nat} {cI cB cE cL cZ : ClassId} {b L i n ob : Nat} {xs : Nat → Int32} {am ad : Nat → Nat} {g : Nat → Int64} {S Q : pdS} {ls : Array Slot} (C : la_X p l s m c b L xs (dC, dI) (pw_ty cI cB cE cL cZ)) (hi : i + 4 ≤ L) (J : pd_J n S Q) (hP : va_P (dC, dI) pwCl (la_w n am ad ob cI cB cE cL cZ Q S g) H) (hD : va_D (fun q : Nat => s.heap.size ≤ q) (la_w n am ad ob cI cB cE cL cZ Q S g)) (hS : va_S (fun q : Nat => s.heap.size ≤ q) s.heap H locs) (hl : lv_has ls 7 (la_lv i ob (am 0) (ad 0) b)) (hc : cells + 1 ≤ 601024) (hs : slots + 6 ≤ 7293000)
    (kk : ∀ (S2 Q2 : pdS) (g2 : Nat → Int64) (H2 : Heap) (locs2 : List Loc) (ls2 : Array Slot), pd_J n S2 Q2 → va_P (dC, dI) pwCl (la_w n am ad ob cI cB cE cL cZ Q2 S2 g2) H2 → va_D (fun q : Nat => s.heap.size ≤ q) (la_w n am ad ob cI cB cE cL cZ Q2 S2 g2) → va_S (fun q : Nat => s.heap.size ≤ q) s.heap H2 locs2 → lv_has ls2 7 (la_lv i ob (am 0) (ad 0) b) → W p l e room_1 s m #[Value.ref b] below meth c H2 locs2 (cells + 1) (slots + 6) Q9 (F0 m 845 ls2 [])) : W p l e room_1 s m #[Value.ref b] below meth c H locs (cells) (slots) Q9 (F0 m 475 ls []) := by
  obtain ⟨hx, hb, hml, hown, hg, hX, hbl, hL, hst, hK, hKK, hZ⟩ := C
  obtain ⟨j1, j2, j3, j4, j5, j6, j7, j8⟩ := id J
  have hA : ∀ q : Nat, s.heap.size ≤ q → (fun q : Nat => s.heap.size ≤ q) q := fun _ h => h
  have hbA : ¬ (fun q : Nat => s.heap.size ≤ q) b := Nat.not_le.mpr hbl
  refine lv_aload_n hx hb d_LA_law_475 rfl (lv_at hl 3 rfl) ?_
  refine la_ld (j := 1) hx hb hX hbl hbA hS hL (by omega) (lv_at hl 4 rfl) (lv_at hl 0 rfl) (by decide) d_LA_law_476 d_LA_law_477 d_LA_law_479 d_LA_law_480 d_LA_law_481 ?_
  refine lv_aload_n hx hb d_LA_law_482 rfl (lv_at hl 1 rfl) ?_
  have hF := pw_hF (pn_Dr hD) hS hA
  refine pn_calli (wr := mw n am cI cL cZ Q) (wc := pn_o cL ob g ++ pw n ad cI cB cE S) (Wf := fun u : (Nat → Int64) × pdS => pn_o cL ob u.1 ++ pw n ad cI cB cE u.2) (tys := pw_ty cI cB cE cL cZ) (vx_runSW (rm := { frames := 7, cells := 1, slots := 6, locals := 128 }) (mc := 1) (ms := 6) (As := [.ref (ad 0), .int (xs (i + 1)), .ref ob]) (rest := []) ⟨hx, hb, hml, hown, hg⟩ (c_LA_sync l dC dI cI cB cE cL cZ hst ob g n ad S (xs (i + 1)) j2 j4 j6 H.size) (vx_cwSW 3 hg (gi_SW (fun _ h => h) (wG_m9 (List.mem_of_getElem? (i := 23) rfl)) (wG_m9 (List.mem_of_getElem? (i := 24) rfl)) (wG_m1 (List.mem_of_getElem? (i := 0) rfl)) (wG_m9 (List.mem_of_getElem? (i := 25) rfl))) rfl rfl rfl (by decide +kernel) ⟨Nat.le_of_ble_eq_true rfl, Nat.le_of_ble_eq_true rfl⟩) (pn_xps hK (pn_Pr hP) (pn_Dr hD) hKK (pn_Zc hZ hS hF) [.ref (ad 0), .int (xs (i + 1)), .ref ob]) rfl rfl hl.1 rfl (lv_room (Nat.le_of_ble_eq_true rfl)) d_LA_law_483 ⟨hc, hs⟩) hP hD hS hA (fun kc u H locs hC hP hD hS => ?_)
  obtain ⟨g2, S2⟩ := u
  refine lv_istore (lv' := (5, .int kc) :: la_lv i ob (am 0) (ad 0) b) hx hb d_LA_law_486 hl (by decide) rfl (fun ls hl => ?_)
  refine lv_aload_n hx hb d_LA_law_488 rfl (lv_at hl 3 rfl) ?_
  refine la_ld (j := 1) hx hb hX hbl hbA hS hL (by omega) (lv_at hl 5 rfl) (lv_at hl 1 rfl) (by decide) d_LA_law_489 d_LA_law_490 d_LA_law_492 d_LA_law_493 d_LA_law_494 ?_
  refine pl_calli (wr := pn_o cL ob g2 ++ pw n ad cI cB cE S2) (wc := mw n am cI cL cZ Q) (Wf := mw n am cI cL cZ) (tys := pw_ty cI cB cE cL cZ) (va_runV (rm := { frames := 2, cells := 0, slots := 0, locals := 44 }) (mc := 0) (ms := 0) (As := [.int (xs (i + 1))]) (rest := []) ⟨hx, hb, hml, hown, hg⟩ (c_MO_sync l dC dI cI cB cE cL cZ n am Q (xs (i + 1)) j7 H.size) (cwV 1 hg (gi_V (fun _ h => h) (wG_m12 (List.mem_of_getElem? (i := 32) rfl)) (wG_m12 (List.mem_of_getElem? (i := 33) rfl)) (wG_m12 (List.mem_of_getElem? (i := 34) rfl)) (wG_m1 (List.mem_of_getElem? (i := 6) rfl)) (wG_m12 (List.mem_of_getElem? (i := 35) rfl))) rfl rfl rfl (by decide +kernel) ⟨Nat.le_of_ble_eq_true rfl, Nat.le_of_ble_eq_true rfl⟩) (pw_pv hK (pn_Pl hP) (pn_Dl hD) (va_recv hK (pn_Pl hP) (ci := 4) (q0 := 0) rfl mw_g0) [.int (xs (i + 1))]) rfl rfl hl.1 rfl (lv_room (Nat.le_of_ble_eq_true rfl)) d_LA_law_495 ⟨hc, hs⟩) hP hD hS hA (fun r Q2 H locs hM hP hD hS => ?_)
  have hE := st_sync J hC hM
  refine la_fin hx hb hml hown hg hK hP hD hS hl hE hc hs d_LA_law_498 d_LA_law_500 d_LA_law_501 d_LA_law_504 d_LA_law_506 d_LA_law_511 d_LA_law_513 d_LA_law_516 d_LA_law_517 d_LA_law_518 d_LA_law_519 d_LA_law_521 d_LA_law_522 d_LA_law_523 (fun H locs ls hP hD hS hl => ?_)
  refine lv_goto (tgt := 845) hx hb d_LA_law_528 (by decide) ?_
  exact kk S2 Q2 g2 H locs ls hE.2.2.2 hP hD hS hl
set_option maxHeartbeats 4000000 in
set_option maxRecDepth 100000 in
/-- crash -/
theorem la_crash {p : Program} {l : Launch} {e : Env} {s : State} {m : MethodId} {below : List Frame} {meth : Method} {c : Code} {H : Heap} {locs : List Loc} {cells slots : Nat} {Q9 : State → Prop} {dC : Nat → ClassId} {dI : Nat → Nat → Nat} {cI cB cE cL cZ : ClassId} {b L i n ob : Nat} {xs : Nat → Int32} {am ad : Nat → Nat} {g : Nat → Int64} {S Q : pdS} {ls : Array Slot} (C : la_X p l s m c b L xs (dC, dI) (pw_ty cI cB cE cL cZ)) (hi : i + 4 ≤ L) (J : pd_J n S Q) (hP : va_P (dC, dI) pwCl (la_w n am ad ob cI cB cE cL cZ Q S g) H) (hD : va_D (fun q : Nat => s.heap.size ≤ q) (la_w n am ad ob cI cB cE cL cZ Q S g)) (hS : va_S (fun q : Nat => s.heap.size ≤ q) s.heap H locs) (hl : lv_has ls 7 (la_lv i ob (am 0) (ad 0) b)) (hc : cells + 1 ≤ 601024) (hs : slots + 6 ≤ 7293000)
    (kk : ∀ (S2 Q2 : pdS) (g2 : Nat → Int64) (H2 : Heap) (locs2 : List Loc) (ls2 : Array Slot), pd_J n S2 Q2 → va_P (dC, dI) pwCl (la_w n am ad ob cI cB cE cL cZ Q2 S2 g2) H2 → va_D (fun q : Nat => s.heap.size ≤ q) (la_w n am ad ob cI cB cE cL cZ Q2 S2 g2) → va_S (fun q : Nat => s.heap.size ≤ q) s.heap H2 locs2 → lv_has ls2 7 (la_lv i ob (am 0) (ad 0) b) → W p l e room_1 s m #[Value.ref b] below meth c H2 locs2 (cells + 1) (slots + 6) Q9 (F0 m 845 ls2 [])) : W p l e room_1 s m #[Value.ref b] below meth c H locs (cells) (slots) Q9 (F0 m 531 ls []) := by
  obtain ⟨hx, hb, hml, hown, hg, hX, hbl, hL, hst, hK, hKK, hZ⟩ := C
  obtain ⟨j1, j2, j3, j4, j5, j6, j7, j8⟩ := id J
  have hA : ∀ q : Nat, s.heap.size ≤ q → (fun q : Nat => s.heap.size ≤ q) q := fun _ h => h
  have hbA : ¬ (fun q : Nat => s.heap.size ≤ q) b := Nat.not_le.mpr hbl
  refine lv_aload_n hx hb d_LA_law_531 rfl (lv_at hl 3 rfl) ?_
  refine la_ld (j := 1) hx hb hX hbl hbA hS hL (by omega) (lv_at hl 4 rfl) (lv_at hl 0 rfl) (by decide) d_LA_law_532 d_LA_law_533 d_LA_law_535 d_LA_law_536 d_LA_law_537 ?_
  refine la_ld (j := 2) hx hb hX hbl hbA hS hL (by omega) (lv_at hl 4 rfl) (lv_at hl 0 rfl) (by decide) d_LA_law_538 d_LA_law_539 d_LA_law_541 d_LA_law_542 d_LA_law_543 ?_
  refine lv_aload_n hx hb d_LA_law_544 rfl (lv_at hl 1 rfl) ?_
  have hF := pw_hF (pn_Dr hD) hS hA
  refine pn_calli (wr := mw n am cI cL cZ Q) (wc := pn_o cL ob g ++ pw n ad cI cB cE S) (Wf := fun u : (Nat → Int64) × pdS => pn_o cL ob u.1 ++ pw n ad cI cB cE u.2) (tys := pw_ty cI cB cE cL cZ) (vx_runSW (rm := { frames := 7, cells := 1, slots := 6, locals := 149 }) (mc := 1) (ms := 6) (As := [.ref (ad 0), .int (xs (i + 1)), .int (xs (i + 2)), .ref ob]) (rest := []) ⟨hx, hb, hml, hown, hg⟩ (c_LA_crash l dC dI cI cB cE cL cZ hst ob g n ad S (xs (i + 1)) (xs (i + 2)) j2 j4 j6 j5 H.size) (vx_cwSW 4 hg (gi_SW (fun _ h => h) (wG_m9 (List.mem_of_getElem? (i := 33) rfl)) (wG_m9 (List.mem_of_getElem? (i := 34) rfl)) (wG_m1 (List.mem_of_getElem? (i := 0) rfl)) (wG_m9 (List.mem_of_getElem? (i := 35) rfl))) rfl rfl rfl (by decide +kernel) ⟨Nat.le_of_ble_eq_true rfl, Nat.le_of_ble_eq_true rfl⟩) (pn_xps hK (pn_Pr hP) (pn_Dr hD) hKK (pn_Zc hZ hS hF) [.ref (ad 0), .int (xs (i + 1)), .int (xs (i + 2)), .ref ob]) rfl rfl hl.1 rfl (lv_room (Nat.le_of_ble_eq_true rfl)) d_LA_law_545 ⟨hc, hs⟩) hP hD hS hA (fun kc u H locs hC hP hD hS => ?_)
  obtain ⟨g2, S2⟩ := u
  refine lv_istore (lv' := (5, .int kc) :: la_lv i ob (am 0) (ad 0) b) hx hb d_LA_law_548 hl (by decide) rfl (fun ls hl => ?_)
  refine lv_aload_n hx hb d_LA_law_550 rfl (lv_at hl 3 rfl) ?_
  refine la_ld (j := 1) hx hb hX hbl hbA hS hL (by omega) (lv_at hl 5 rfl) (lv_at hl 1 rfl) (by decide) d_LA_law_551 d_LA_law_552 d_LA_law_554 d_LA_law_555 d_LA_law_556 ?_
  refine la_ld (j := 2) hx hb hX hbl hbA hS hL (by omega) (lv_at hl 5 rfl) (lv_at hl 1 rfl) (by decide) d_LA_law_557 d_LA_law_558 d_LA_law_560 d_LA_law_561 d_LA_law_562 ?_
  refine pl_calli (wr := pn_o cL ob g2 ++ pw n ad cI cB cE S2) (wc := mw n am cI cL cZ Q) (Wf := mw n am cI cL cZ) (tys := pw_ty cI cB cE cL cZ) (va_runV (rm := { frames := 3, cells := 0, slots := 0, locals := 66 }) (mc := 0) (ms := 0) (As := [.int (xs (i + 1)), .int (xs (i + 2))]) (rest := []) ⟨hx, hb, hml, hown, hg⟩ (c_MO_crash l dC dI cI cB cE cL cZ n am Q (xs (i + 1)) (xs (i + 2)) j7 j8 H.size) (cwV 2 hg (gi_V (fun _ h => h) (wG_m13 (List.mem_of_getElem? (i := 2) rfl)) (wG_m13 (List.mem_of_getElem? (i := 3) rfl)) (wG_m13 (List.mem_of_getElem? (i := 4) rfl)) (wG_m1 (List.mem_of_getElem? (i := 6) rfl)) (wG_m13 (List.mem_of_getElem? (i := 5) rfl))) rfl rfl rfl (by decide +kernel) ⟨Nat.le_of_ble_eq_true rfl, Nat.le_of_ble_eq_true rfl⟩) (pw_pv hK (pn_Pl hP) (pn_Dl hD) (va_recv hK (pn_Pl hP) (ci := 4) (q0 := 0) rfl mw_g0) [.int (xs (i + 1)), .int (xs (i + 2))]) rfl rfl hl.1 rfl (lv_room (Nat.le_of_ble_eq_true rfl)) d_LA_law_563 ⟨hc, hs⟩) hP hD hS hA (fun r Q2 H locs hM hP hD hS => ?_)
  have hE := st_crash J hC hM
  refine la_fin hx hb hml hown hg hK hP hD hS hl hE hc hs d_LA_law_566 d_LA_law_568 d_LA_law_569 d_LA_law_572 d_LA_law_574 d_LA_law_579 d_LA_law_581 d_LA_law_584 d_LA_law_585 d_LA_law_586 d_LA_law_587 d_LA_law_589 d_LA_law_590 d_LA_law_591 (fun H locs ls hP hD hS hl => ?_)
  refine lv_goto (tgt := 845) hx hb d_LA_law_596 (by decide) ?_
  exact kk S2 Q2 g2 H locs ls hE.2.2.2 hP hD hS hl
set_option maxHeartbeats 4000000 in
set_option maxRecDepth 100000 in
/-- crashAll -/
theorem la_crashAll {p : Program} {l : Launch} {e : Env} {s : State} {m : MethodId} {below : List Frame} {meth : Method} {c : Code} {H : Heap} {locs : List Loc} {cells slots : Nat} {Q9 : State → Prop} {dC : Nat → ClassId} {dI : Nat → Nat → Nat} {cI cB cE cL cZ : ClassId} {b L i n ob : Nat} {xs : Nat → Int32} {am ad : Nat → Nat} {g : Nat → Int64} {S Q : pdS} {ls : Array Slot} (C : la_X p l s m c b L xs (dC, dI) (pw_ty cI cB cE cL cZ)) (hi : i + 4 ≤ L) (J : pd_J n S Q) (hP : va_P (dC, dI) pwCl (la_w n am ad ob cI cB cE cL cZ Q S g) H) (hD : va_D (fun q : Nat => s.heap.size ≤ q) (la_w n am ad ob cI cB cE cL cZ Q S g)) (hS : va_S (fun q : Nat => s.heap.size ≤ q) s.heap H locs) (hl : lv_has ls 7 (la_lv i ob (am 0) (ad 0) b)) (hc : cells + 1 ≤ 601024) (hs : slots + 6 ≤ 7293000)
    (kk : ∀ (S2 Q2 : pdS) (g2 : Nat → Int64) (H2 : Heap) (locs2 : List Loc) (ls2 : Array Slot), pd_J n S2 Q2 → va_P (dC, dI) pwCl (la_w n am ad ob cI cB cE cL cZ Q2 S2 g2) H2 → va_D (fun q : Nat => s.heap.size ≤ q) (la_w n am ad ob cI cB cE cL cZ Q2 S2 g2) → va_S (fun q : Nat => s.heap.size ≤ q) s.heap H2 locs2 → lv_has ls2 7 (la_lv i ob (am 0) (ad 0) b) → W p l e room_1 s m #[Value.ref b] below meth c H2 locs2 (cells + 1) (slots + 6) Q9 (F0 m 845 ls2 [])) : W p l e room_1 s m #[Value.ref b] below meth c H locs (cells) (slots) Q9 (F0 m 599 ls []) := by
  obtain ⟨hx, hb, hml, hown, hg, hX, hbl, hL, hst, hK, hKK, hZ⟩ := C
  obtain ⟨j1, j2, j3, j4, j5, j6, j7, j8⟩ := id J
  have hA : ∀ q : Nat, s.heap.size ≤ q → (fun q : Nat => s.heap.size ≤ q) q := fun _ h => h
  have hbA : ¬ (fun q : Nat => s.heap.size ≤ q) b := Nat.not_le.mpr hbl
  refine lv_aload_n hx hb d_LA_law_599 rfl (lv_at hl 3 rfl) ?_
  refine la_wide hx hb hX hbl hbA hS hL (by omega) (lv_at hl 4 rfl) (lv_at hl 0 rfl) hown (hg (Cond.constantLong "PageDriveLaw" 63 (4294967295)) (wG_m13 (List.mem_of_getElem? (i := 38) rfl))) d_LA_law_600 d_LA_law_601 d_LA_law_603 d_LA_law_604 d_LA_law_605 d_LA_law_606 d_LA_law_607 d_LA_law_609 d_LA_law_610 d_LA_law_611 d_LA_law_613 d_LA_law_614 d_LA_law_615 d_LA_law_616 d_LA_law_617 d_LA_law_620 d_LA_law_621 ?_
  have hP2 : va_P (dC, dI) pwCl ((mw n am cI cL cZ Q ++ pn_o cL ob g) ++ pw n ad cI cB cE S) H := by rw [List.append_assoc]; exact hP
  have hD2 : va_D (fun q : Nat => s.heap.size ≤ q) ((mw n am cI cL cZ Q ++ pn_o cL ob g) ++ pw n ad cI cB cE S) := by rw [List.append_assoc]; exact hD
  refine pn_calli (wr := mw n am cI cL cZ Q ++ pn_o cL ob g) (wc := pw n ad cI cB cE S) (Wf := pw n ad cI cB cE) (tys := pw_ty cI cB cE cL cZ) (va_runV (rm := { frames := 5, cells := 0, slots := 0, locals := 127 }) (mc := 0) (ms := 0) (As := [.long (la_x (xs (i + 1)) (xs (i + 2)))]) (rest := []) ⟨hx, hb, hml, hown, hg⟩ (c_PD_crashAll l dC dI cI cB cE cL cZ n ad S (la_x (xs (i + 1)) (xs (i + 2))) j2 j4 j6 j5 H.size) (cwV 1 hg (gi_V (fun _ h => h) (wG_m3 (List.mem_of_getElem? (i := 30) rfl)) (wG_m3 (List.mem_of_getElem? (i := 31) rfl)) (wG_m3 (List.mem_of_getElem? (i := 32) rfl)) (wG_m1 (List.mem_of_getElem? (i := 1) rfl)) (wG_m3 (List.mem_of_getElem? (i := 33) rfl))) rfl rfl rfl (by decide +kernel) ⟨Nat.le_of_ble_eq_true rfl, Nat.le_of_ble_eq_true rfl⟩) (pw_pv hK (pn_Pr hP2) (pn_Dr hD2) (va_recv hK (pn_Pr hP2) (ci := 0) (q0 := 0) rfl pw_g0) [.long (la_x (xs (i + 1)) (xs (i + 2)))]) rfl rfl hl.1 rfl (lv_room (Nat.le_of_ble_eq_true rfl)) d_LA_law_622 ⟨(by show cells ≤ 601024; omega), (by show slots ≤ 7293000; omega)⟩) hP2 hD2 hS hA (fun r1 S2 H locs hC hP hD hS => ?_)
  have hP : va_P (dC, dI) pwCl (la_w n am ad ob cI cB cE cL cZ Q S2 g) H := by rw [List.append_assoc] at hP; exact hP
  have hD : va_D (fun q : Nat => s.heap.size ≤ q) (la_w n am ad ob cI cB cE cL cZ Q S2 g) := by rw [List.append_assoc] at hD; exact hD
  refine lv_aload_n hx hb d_LA_law_625 rfl (lv_at hl 2 rfl) ?_
  refine la_wide hx hb hX hbl hbA hS hL (by omega) (lv_at hl 4 rfl) (lv_at hl 0 rfl) hown (hg (Cond.constantLong "PageDriveLaw" 63 (4294967295)) (wG_m13 (List.mem_of_getElem? (i := 38) rfl))) d_LA_law_626 d_LA_law_627 d_LA_law_629 d_LA_law_630 d_LA_law_631 d_LA_law_632 d_LA_law_633 d_LA_law_635 d_LA_law_636 d_LA_law_637 d_LA_law_639 d_LA_law_640 d_LA_law_641 d_LA_law_642 d_LA_law_643 d_LA_law_646 d_LA_law_647 ?_
  refine pl_calli (wr := pn_o cL ob g ++ pw n ad cI cB cE S2) (wc := mw n am cI cL cZ Q) (Wf := mw n am cI cL cZ) (tys := pw_ty cI cB cE cL cZ) (va_runV (rm := { frames := 3, cells := 0, slots := 0, locals := 66 }) (mc := 0) (ms := 0) (As := [.long (la_x (xs (i + 1)) (xs (i + 2)))]) (rest := [.int r1]) ⟨hx, hb, hml, hown, hg⟩ (c_MO_crashAll l dC dI cI cB cE cL cZ n am Q (la_x (xs (i + 1)) (xs (i + 2))) j7 j8 H.size) (cwV 1 hg (gi_V (fun _ h => h) (wG_m13 (List.mem_of_getElem? (i := 9) rfl)) (wG_m13 (List.mem_of_getElem? (i := 10) rfl)) (wG_m13 (List.mem_of_getElem? (i := 11) rfl)) (wG_m1 (List.mem_of_getElem? (i := 6) rfl)) (wG_m13 (List.mem_of_getElem? (i := 12) rfl))) rfl rfl rfl (by decide +kernel) ⟨Nat.le_of_ble_eq_true rfl, Nat.le_of_ble_eq_true rfl⟩) (pw_pv hK (pn_Pl hP) (pn_Dl hD) (va_recv hK (pn_Pl hP) (ci := 4) (q0 := 0) rfl mw_g0) [.long (la_x (xs (i + 1)) (xs (i + 2)))]) rfl rfl hl.1 rfl (lv_room (Nat.le_of_ble_eq_true rfl)) d_LA_law_648 ⟨(by show cells ≤ 601024; omega), (by show slots ≤ 7293000; omega)⟩) hP hD hS hA (fun r Q2 H locs hM hP hD hS => ?_)
  obtain ⟨hE, hJ⟩ := st_crashAll J hC hM
  refine lv_icmp_eq (tgt := 845) hx hb d_LA_law_651 (by decide) (fun _ => ?_) (fun h => absurd hE h)
  refine W.widen (k := cells + 1) (n := slots + 6) (Nat.le_succ _) (Nat.le_add_right _ 6) ?_
  exact kk S2 Q2 g H locs ls hJ hP hD hS hl
set_option maxHeartbeats 4000000 in
set_option maxRecDepth 100000 in
/-- file -/
theorem la_file {p : Program} {l : Launch} {e : Env} {s : State} {m : MethodId} {below : List Frame} {meth : Method} {c : Code} {H : Heap} {locs : List Loc} {cells slots : Nat} {Q9 : State → Prop} {dC : Nat → ClassId} {dI : Nat → Nat → Nat} {cI cB cE cL cZ : ClassId} {b L i n ob : Nat} {xs : Nat → Int32} {am ad : Nat → Nat} {g : Nat → Int64} {S Q : pdS} {ls : Array Slot} (C : la_X p l s m c b L xs (dC, dI) (pw_ty cI cB cE cL cZ)) (hi : i + 4 ≤ L) (J : pd_J n S Q) (hP : va_P (dC, dI) pwCl (la_w n am ad ob cI cB cE cL cZ Q S g) H) (hD : va_D (fun q : Nat => s.heap.size ≤ q) (la_w n am ad ob cI cB cE cL cZ Q S g)) (hS : va_S (fun q : Nat => s.heap.size ≤ q) s.heap H locs) (hl : lv_has ls 7 (la_lv i ob (am 0) (ad 0) b)) (hc : cells + 1 ≤ 601024) (hs : slots + 6 ≤ 7293000)
    (kk : ∀ (S2 Q2 : pdS) (g2 : Nat → Int64) (H2 : Heap) (locs2 : List Loc) (ls2 : Array Slot), pd_J n S2 Q2 → va_P (dC, dI) pwCl (la_w n am ad ob cI cB cE cL cZ Q2 S2 g2) H2 → va_D (fun q : Nat => s.heap.size ≤ q) (la_w n am ad ob cI cB cE cL cZ Q2 S2 g2) → va_S (fun q : Nat => s.heap.size ≤ q) s.heap H2 locs2 → lv_has ls2 7 (la_lv i ob (am 0) (ad 0) b) → W p l e room_1 s m #[Value.ref b] below meth c H2 locs2 (cells + 1) (slots + 6) Q9 (F0 m 845 ls2 [])) : W p l e room_1 s m #[Value.ref b] below meth c H locs (cells) (slots) Q9 (F0 m 656 ls []) := by
  obtain ⟨hx, hb, hml, hown, hg, hX, hbl, hL, hst, hK, hKK, hZ⟩ := C
  obtain ⟨j1, j2, j3, j4, j5, j6, j7, j8⟩ := id J
  have hA : ∀ q : Nat, s.heap.size ≤ q → (fun q : Nat => s.heap.size ≤ q) q := fun _ h => h
  have hbA : ¬ (fun q : Nat => s.heap.size ≤ q) b := Nat.not_le.mpr hbl
  refine lv_aload_n hx hb d_LA_law_656 rfl (lv_at hl 3 rfl) ?_
  refine la_ld (j := 1) hx hb hX hbl hbA hS hL (by omega) (lv_at hl 4 rfl) (lv_at hl 0 rfl) (by decide) d_LA_law_657 d_LA_law_658 d_LA_law_660 d_LA_law_661 d_LA_law_662 ?_
  refine la_ld (j := 2) hx hb hX hbl hbA hS hL (by omega) (lv_at hl 4 rfl) (lv_at hl 0 rfl) (by decide) d_LA_law_663 d_LA_law_664 d_LA_law_666 d_LA_law_667 d_LA_law_668 ?_
  refine lv_aload_n hx hb d_LA_law_669 rfl (lv_at hl 1 rfl) ?_
  have hF := pw_hF (pn_Dr hD) hS hA
  refine pn_calli (wr := mw n am cI cL cZ Q) (wc := pn_o cL ob g ++ pw n ad cI cB cE S) (Wf := fun u : (Nat → Int64) × pdS => pn_o cL ob u.1 ++ pw n ad cI cB cE u.2) (tys := pw_ty cI cB cE cL cZ) (vx_runSW (rm := { frames := 7, cells := 1, slots := 6, locals := 105 }) (mc := 1) (ms := 6) (As := [.ref (ad 0), .int (xs (i + 1)), .int (xs (i + 2)), .ref ob]) (rest := []) ⟨hx, hb, hml, hown, hg⟩ (c_LA_file l dC dI cI cB cE cL cZ hst ob g n ad S (xs (i + 1)) (xs (i + 2)) j2 j4 j6 H.size) (vx_cwSW 4 hg (gi_SW (fun _ h => h) (wG_m10 (List.mem_of_getElem? (i := 0) rfl)) (wG_m10 (List.mem_of_getElem? (i := 1) rfl)) (wG_m1 (List.mem_of_getElem? (i := 0) rfl)) (wG_m10 (List.mem_of_getElem? (i := 2) rfl))) rfl rfl rfl (by decide +kernel) ⟨Nat.le_of_ble_eq_true rfl, Nat.le_of_ble_eq_true rfl⟩) (pn_xps hK (pn_Pr hP) (pn_Dr hD) hKK (pn_Zc hZ hS hF) [.ref (ad 0), .int (xs (i + 1)), .int (xs (i + 2)), .ref ob]) rfl rfl hl.1 rfl (lv_room (Nat.le_of_ble_eq_true rfl)) d_LA_law_670 ⟨hc, hs⟩) hP hD hS hA (fun kc u H locs hC hP hD hS => ?_)
  obtain ⟨g2, S2⟩ := u
  refine lv_istore (lv' := (5, .int kc) :: la_lv i ob (am 0) (ad 0) b) hx hb d_LA_law_673 hl (by decide) rfl (fun ls hl => ?_)
  refine lv_aload_n hx hb d_LA_law_675 rfl (lv_at hl 3 rfl) ?_
  refine la_ld (j := 1) hx hb hX hbl hbA hS hL (by omega) (lv_at hl 5 rfl) (lv_at hl 1 rfl) (by decide) d_LA_law_676 d_LA_law_677 d_LA_law_679 d_LA_law_680 d_LA_law_681 ?_
  refine la_ld (j := 2) hx hb hX hbl hbA hS hL (by omega) (lv_at hl 5 rfl) (lv_at hl 1 rfl) (by decide) d_LA_law_682 d_LA_law_683 d_LA_law_685 d_LA_law_686 d_LA_law_687 ?_
  refine pl_calli (wr := pn_o cL ob g2 ++ pw n ad cI cB cE S2) (wc := mw n am cI cL cZ Q) (Wf := mw n am cI cL cZ) (tys := pw_ty cI cB cE cL cZ) (va_runV (rm := { frames := 3, cells := 0, slots := 0, locals := 65 }) (mc := 0) (ms := 0) (As := [.int (xs (i + 1)), .int (xs (i + 2))]) (rest := []) ⟨hx, hb, hml, hown, hg⟩ (c_MO_file l dC dI cI cB cE cL cZ n am Q (xs (i + 1)) (xs (i + 2)) j7 H.size) (cwV 2 hg (gi_V (fun _ h => h) (wG_m13 (List.mem_of_getElem? (i := 20) rfl)) (wG_m13 (List.mem_of_getElem? (i := 21) rfl)) (wG_m13 (List.mem_of_getElem? (i := 22) rfl)) (wG_m1 (List.mem_of_getElem? (i := 6) rfl)) (wG_m13 (List.mem_of_getElem? (i := 23) rfl))) rfl rfl rfl (by decide +kernel) ⟨Nat.le_of_ble_eq_true rfl, Nat.le_of_ble_eq_true rfl⟩) (pw_pv hK (pn_Pl hP) (pn_Dl hD) (va_recv hK (pn_Pl hP) (ci := 4) (q0 := 0) rfl mw_g0) [.int (xs (i + 1)), .int (xs (i + 2))]) rfl rfl hl.1 rfl (lv_room (Nat.le_of_ble_eq_true rfl)) d_LA_law_688 ⟨hc, hs⟩) hP hD hS hA (fun r Q2 H locs hM hP hD hS => ?_)
  have hE := st_file J hC hM
  refine la_fin hx hb hml hown hg hK hP hD hS hl hE hc hs d_LA_law_691 d_LA_law_693 d_LA_law_694 d_LA_law_697 d_LA_law_699 d_LA_law_704 d_LA_law_706 d_LA_law_709 d_LA_law_710 d_LA_law_711 d_LA_law_712 d_LA_law_714 d_LA_law_715 d_LA_law_716 (fun H locs ls hP hD hS hl => ?_)
  refine lv_goto (tgt := 845) hx hb d_LA_law_721 (by decide) ?_
  exact kk S2 Q2 g2 H locs ls hE.2.2.2 hP hD hS hl
set_option maxHeartbeats 4000000 in
set_option maxRecDepth 100000 in
/-- byteAt -/
theorem la_byteAt {p : Program} {l : Launch} {e : Env} {s : State} {m : MethodId} {below : List Frame} {meth : Method} {c : Code} {H : Heap} {locs : List Loc} {cells slots : Nat} {Q9 : State → Prop} {dC : Nat → ClassId} {dI : Nat → Nat → Nat} {cI cB cE cL cZ : ClassId} {b L i n ob : Nat} {xs : Nat → Int32} {am ad : Nat → Nat} {g : Nat → Int64} {S Q : pdS} {ls : Array Slot} (C : la_X p l s m c b L xs (dC, dI) (pw_ty cI cB cE cL cZ)) (hi : i + 4 ≤ L) (J : pd_J n S Q) (hP : va_P (dC, dI) pwCl (la_w n am ad ob cI cB cE cL cZ Q S g) H) (hD : va_D (fun q : Nat => s.heap.size ≤ q) (la_w n am ad ob cI cB cE cL cZ Q S g)) (hS : va_S (fun q : Nat => s.heap.size ≤ q) s.heap H locs) (hl : lv_has ls 7 (la_lv i ob (am 0) (ad 0) b)) (hc : cells + 1 ≤ 601024) (hs : slots + 6 ≤ 7293000)
    (kk : ∀ (S2 Q2 : pdS) (g2 : Nat → Int64) (H2 : Heap) (locs2 : List Loc) (ls2 : Array Slot), pd_J n S2 Q2 → va_P (dC, dI) pwCl (la_w n am ad ob cI cB cE cL cZ Q2 S2 g2) H2 → va_D (fun q : Nat => s.heap.size ≤ q) (la_w n am ad ob cI cB cE cL cZ Q2 S2 g2) → va_S (fun q : Nat => s.heap.size ≤ q) s.heap H2 locs2 → lv_has ls2 7 (la_lv i ob (am 0) (ad 0) b) → W p l e room_1 s m #[Value.ref b] below meth c H2 locs2 (cells + 1) (slots + 6) Q9 (F0 m 845 ls2 [])) : W p l e room_1 s m #[Value.ref b] below meth c H locs (cells) (slots) Q9 (F0 m 724 ls []) := by
  obtain ⟨hx, hb, hml, hown, hg, hX, hbl, hL, hst, hK, hKK, hZ⟩ := C
  obtain ⟨j1, j2, j3, j4, j5, j6, j7, j8⟩ := id J
  have hA : ∀ q : Nat, s.heap.size ≤ q → (fun q : Nat => s.heap.size ≤ q) q := fun _ h => h
  have hbA : ¬ (fun q : Nat => s.heap.size ≤ q) b := Nat.not_le.mpr hbl
  refine lv_aload_n hx hb d_LA_law_724 rfl (lv_at hl 3 rfl) ?_
  refine la_ld (j := 1) hx hb hX hbl hbA hS hL (by omega) (lv_at hl 4 rfl) (lv_at hl 0 rfl) (by decide) d_LA_law_725 d_LA_law_726 d_LA_law_728 d_LA_law_729 d_LA_law_730 ?_
  refine la_bool hx hb hX hbl hbA hS hL (by omega) (lv_at hl 4 rfl) (lv_at hl 0 rfl) d_LA_law_731 d_LA_law_732 d_LA_law_734 d_LA_law_735 d_LA_law_736 d_LA_law_737 d_LA_law_740 d_LA_law_741 d_LA_law_744 ?_
  refine la_ld (j := 3) hx hb hX hbl hbA hS hL (by omega) (lv_at hl 4 rfl) (lv_at hl 0 rfl) (by decide) d_LA_law_745 d_LA_law_746 d_LA_law_748 d_LA_law_749 d_LA_law_750 ?_
  refine lv_aload_n hx hb d_LA_law_751 rfl (lv_at hl 1 rfl) ?_
  have hF := pw_hF (pn_Dr hD) hS hA
  refine pn_calli (wr := mw n am cI cL cZ Q) (wc := pn_o cL ob g ++ pw n ad cI cB cE S) (Wf := fun u : (Nat → Int64) × pdS => pn_o cL ob u.1 ++ pw n ad cI cB cE u.2) (tys := pw_ty cI cB cE cL cZ) (vx_runSW (rm := { frames := 7, cells := 1, slots := 6, locals := 106 }) (mc := 1) (ms := 6) (As := [.ref (ad 0), .int (xs (i + 1)), .int (nI (la_b (xs (i + 2)))), .int (xs (i + 3)), .ref ob]) (rest := []) ⟨hx, hb, hml, hown, hg⟩ (c_LA_byteAt l dC dI cI cB cE cL cZ hst ob g n ad S (xs (i + 1)) (la_b (xs (i + 2))) (xs (i + 3)) (la_b1 _) j2 j4 j6 H.size) (vx_cwSW 5 hg (gi_SW (fun _ h => h) (wG_m10 (List.mem_of_getElem? (i := 10) rfl)) (wG_m10 (List.mem_of_getElem? (i := 11) rfl)) (wG_m1 (List.mem_of_getElem? (i := 0) rfl)) (wG_m10 (List.mem_of_getElem? (i := 12) rfl))) rfl rfl rfl (by decide +kernel) ⟨Nat.le_of_ble_eq_true rfl, Nat.le_of_ble_eq_true rfl⟩) (pn_xps hK (pn_Pr hP) (pn_Dr hD) hKK (pn_Zc hZ hS hF) [.ref (ad 0), .int (xs (i + 1)), .int (nI (la_b (xs (i + 2)))), .int (xs (i + 3)), .ref ob]) rfl rfl hl.1 rfl (lv_room (Nat.le_of_ble_eq_true rfl)) d_LA_law_752 ⟨hc, hs⟩) hP hD hS hA (fun kc u H locs hC hP hD hS => ?_)
  obtain ⟨g2, S2⟩ := u
  refine lv_istore (lv' := (5, .int kc) :: la_lv i ob (am 0) (ad 0) b) hx hb d_LA_law_755 hl (by decide) rfl (fun ls hl => ?_)
  refine lv_aload_n hx hb d_LA_law_757 rfl (lv_at hl 3 rfl) ?_
  refine la_ld (j := 1) hx hb hX hbl hbA hS hL (by omega) (lv_at hl 5 rfl) (lv_at hl 1 rfl) (by decide) d_LA_law_758 d_LA_law_759 d_LA_law_761 d_LA_law_762 d_LA_law_763 ?_
  refine la_bool hx hb hX hbl hbA hS hL (by omega) (lv_at hl 5 rfl) (lv_at hl 1 rfl) d_LA_law_764 d_LA_law_765 d_LA_law_767 d_LA_law_768 d_LA_law_769 d_LA_law_770 d_LA_law_773 d_LA_law_774 d_LA_law_777 ?_
  refine la_ld (j := 3) hx hb hX hbl hbA hS hL (by omega) (lv_at hl 5 rfl) (lv_at hl 1 rfl) (by decide) d_LA_law_778 d_LA_law_779 d_LA_law_781 d_LA_law_782 d_LA_law_783 ?_
  refine pl_calli (wr := pn_o cL ob g2 ++ pw n ad cI cB cE S2) (wc := mw n am cI cL cZ Q) (Wf := mw n am cI cL cZ) (tys := pw_ty cI cB cE cL cZ) (va_runV (rm := { frames := 2, cells := 0, slots := 0, locals := 42 }) (mc := 0) (ms := 0) (As := [.int (xs (i + 1)), .int (nI (la_b (xs (i + 2)))), .int (xs (i + 3))]) (rest := []) ⟨hx, hb, hml, hown, hg⟩ (c_MO_byteAt l dC dI cI cB cE cL cZ n am Q (xs (i + 1)) (la_b (xs (i + 2))) (xs (i + 3)) (la_b1 _) j7 H.size) (cwV 3 hg (gi_V (fun _ h => h) (wG_m13 (List.mem_of_getElem? (i := 27) rfl)) (wG_m13 (List.mem_of_getElem? (i := 28) rfl)) (wG_m13 (List.mem_of_getElem? (i := 29) rfl)) (wG_m1 (List.mem_of_getElem? (i := 6) rfl)) (wG_m13 (List.mem_of_getElem? (i := 30) rfl))) rfl rfl rfl (by decide +kernel) ⟨Nat.le_of_ble_eq_true rfl, Nat.le_of_ble_eq_true rfl⟩) (pw_pv hK (pn_Pl hP) (pn_Dl hD) (va_recv hK (pn_Pl hP) (ci := 4) (q0 := 0) rfl mw_g0) [.int (xs (i + 1)), .int (nI (la_b (xs (i + 2)))), .int (xs (i + 3))]) rfl rfl hl.1 rfl (lv_room (Nat.le_of_ble_eq_true rfl)) d_LA_law_784 ⟨hc, hs⟩) hP hD hS hA (fun r Q2 H locs hM hP hD hS => ?_)
  have hE := st_byteAt (la_b1 _) J hC hM
  refine la_fin hx hb hml hown hg hK hP hD hS hl hE hc hs d_LA_law_787 d_LA_law_789 d_LA_law_790 d_LA_law_793 d_LA_law_795 d_LA_law_800 d_LA_law_802 d_LA_law_805 d_LA_law_806 d_LA_law_807 d_LA_law_808 d_LA_law_810 d_LA_law_811 d_LA_law_812 (fun H locs ls hP hD hS hl => ?_)
  refine lv_goto (tgt := 845) hx hb d_LA_law_817 (by decide) ?_
  exact kk S2 Q2 g2 H locs ls hE.2.2.2 hP hD hS hl
set_option maxHeartbeats 4000000 in
set_option maxRecDepth 100000 in
/-- count -/
theorem la_count {p : Program} {l : Launch} {e : Env} {s : State} {m : MethodId} {below : List Frame} {meth : Method} {c : Code} {H : Heap} {locs : List Loc} {cells slots : Nat} {Q9 : State → Prop} {dC : Nat → ClassId} {dI : Nat → Nat → Nat} {cI cB cE cL cZ : ClassId} {b L i n ob : Nat} {xs : Nat → Int32} {am ad : Nat → Nat} {g : Nat → Int64} {S Q : pdS} {ls : Array Slot} (C : la_X p l s m c b L xs (dC, dI) (pw_ty cI cB cE cL cZ)) (hi : i + 4 ≤ L) (J : pd_J n S Q) (hP : va_P (dC, dI) pwCl (la_w n am ad ob cI cB cE cL cZ Q S g) H) (hD : va_D (fun q : Nat => s.heap.size ≤ q) (la_w n am ad ob cI cB cE cL cZ Q S g)) (hS : va_S (fun q : Nat => s.heap.size ≤ q) s.heap H locs) (hl : lv_has ls 7 (la_lv i ob (am 0) (ad 0) b)) (hc : cells + 1 ≤ 601024) (hs : slots + 6 ≤ 7293000)
    (kk : ∀ (S2 Q2 : pdS) (g2 : Nat → Int64) (H2 : Heap) (locs2 : List Loc) (ls2 : Array Slot), pd_J n S2 Q2 → va_P (dC, dI) pwCl (la_w n am ad ob cI cB cE cL cZ Q2 S2 g2) H2 → va_D (fun q : Nat => s.heap.size ≤ q) (la_w n am ad ob cI cB cE cL cZ Q2 S2 g2) → va_S (fun q : Nat => s.heap.size ≤ q) s.heap H2 locs2 → lv_has ls2 7 (la_lv i ob (am 0) (ad 0) b) → W p l e room_1 s m #[Value.ref b] below meth c H2 locs2 (cells + 1) (slots + 6) Q9 (F0 m 845 ls2 [])) : W p l e room_1 s m #[Value.ref b] below meth c H locs (cells) (slots) Q9 (F0 m 820 ls []) := by
  obtain ⟨hx, hb, hml, hown, hg, hX, hbl, hL, hst, hK, hKK, hZ⟩ := C
  obtain ⟨j1, j2, j3, j4, j5, j6, j7, j8⟩ := id J
  have hA : ∀ q : Nat, s.heap.size ≤ q → (fun q : Nat => s.heap.size ≤ q) q := fun _ h => h
  have hbA : ¬ (fun q : Nat => s.heap.size ≤ q) b := Nat.not_le.mpr hbl
  refine lv_aload_n hx hb d_LA_law_820 rfl (lv_at hl 3 rfl) ?_
  refine la_ld (j := 1) hx hb hX hbl hbA hS hL (by omega) (lv_at hl 4 rfl) (lv_at hl 0 rfl) (by decide) d_LA_law_821 d_LA_law_822 d_LA_law_824 d_LA_law_825 d_LA_law_826 ?_
  have hP2 : va_P (dC, dI) pwCl ((mw n am cI cL cZ Q ++ pn_o cL ob g) ++ pw n ad cI cB cE S) H := by rw [List.append_assoc]; exact hP
  have hD2 : va_D (fun q : Nat => s.heap.size ≤ q) ((mw n am cI cL cZ Q ++ pn_o cL ob g) ++ pw n ad cI cB cE S) := by rw [List.append_assoc]; exact hD
  refine pn_calli (wr := mw n am cI cL cZ Q ++ pn_o cL ob g) (wc := pw n ad cI cB cE S) (Wf := fun _ : Unit => pw n ad cI cB cE S) (tys := pw_ty cI cB cE cL cZ) (va_runV (rm := { frames := 1, cells := 0, slots := 0, locals := 22 }) (mc := 0) (ms := 0) (As := [.int (xs (i + 1))]) (rest := []) ⟨hx, hb, hml, hown, hg⟩ (c_PD_count l dC dI cI cB cE cL cZ n ad S (xs (i + 1)) (pj_nz J).2.2 (fun q h => (j4.1 q h).2.1) H.size) (cwV 1 hg (gi_V (fun _ h => h) (wG_m4 (List.mem_of_getElem? (i := 29) rfl)) (wG_m4 (List.mem_of_getElem? (i := 30) rfl)) (wG_m4 (List.mem_of_getElem? (i := 31) rfl)) (wG_m1 (List.mem_of_getElem? (i := 1) rfl)) (wG_m4 (List.mem_of_getElem? (i := 32) rfl))) rfl rfl rfl (by decide +kernel) ⟨Nat.le_of_ble_eq_true rfl, Nat.le_of_ble_eq_true rfl⟩) (pw_pv hK (pn_Pr hP2) (pn_Dr hD2) (va_recv hK (pn_Pr hP2) (ci := 0) (q0 := 0) rfl pw_g0) [.int (xs (i + 1))]) rfl rfl hl.1 rfl (lv_room (Nat.le_of_ble_eq_true rfl)) d_LA_law_827 ⟨(by show cells ≤ 601024; omega), (by show slots ≤ 7293000; omega)⟩) hP2 hD2 hS hA (fun r1 _ H locs hC hP hD hS => ?_)
  have hP : va_P (dC, dI) pwCl (la_w n am ad ob cI cB cE cL cZ Q S g) H := by rw [List.append_assoc] at hP; exact hP
  have hD : va_D (fun q : Nat => s.heap.size ≤ q) (la_w n am ad ob cI cB cE cL cZ Q S g) := by rw [List.append_assoc] at hD; exact hD
  refine lv_aload_n hx hb d_LA_law_830 rfl (lv_at hl 2 rfl) ?_
  refine la_ld (j := 1) hx hb hX hbl hbA hS hL (by omega) (lv_at hl 4 rfl) (lv_at hl 0 rfl) (by decide) d_LA_law_831 d_LA_law_832 d_LA_law_834 d_LA_law_835 d_LA_law_836 ?_
  refine pl_calli (wr := pn_o cL ob g ++ pw n ad cI cB cE S) (wc := mw n am cI cL cZ Q) (Wf := mw n am cI cL cZ) (tys := pw_ty cI cB cE cL cZ) (va_runV (rm := { frames := 2, cells := 0, slots := 0, locals := 42 }) (mc := 0) (ms := 0) (As := [.int (xs (i + 1))]) (rest := [.int r1]) ⟨hx, hb, hml, hown, hg⟩ (c_MO_count l dC dI cI cB cE cL cZ n am Q (xs (i + 1)) j7 H.size) (cwV 1 hg (gi_V (fun _ h => h) (wG_m13 (List.mem_of_getElem? (i := 34) rfl)) (wG_m13 (List.mem_of_getElem? (i := 35) rfl)) (wG_m13 (List.mem_of_getElem? (i := 36) rfl)) (wG_m1 (List.mem_of_getElem? (i := 6) rfl)) (wG_m13 (List.mem_of_getElem? (i := 37) rfl))) rfl rfl rfl (by decide +kernel) ⟨Nat.le_of_ble_eq_true rfl, Nat.le_of_ble_eq_true rfl⟩) (pw_pv hK (pn_Pl hP) (pn_Dl hD) (va_recv hK (pn_Pl hP) (ci := 4) (q0 := 0) rfl mw_g0) [.int (xs (i + 1))]) rfl rfl hl.1 rfl (lv_room (Nat.le_of_ble_eq_true rfl)) d_LA_law_837 ⟨(by show cells ≤ 601024; omega), (by show slots ≤ 7293000; omega)⟩) hP hD hS hA (fun r Q2 H locs hM hP hD hS => ?_)
  obtain ⟨hE, hJ⟩ := st_count J hC hM
  refine lv_icmp_eq (tgt := 845) hx hb d_LA_law_840 (by decide) (fun _ => ?_) (fun h => absurd hE h)
  refine W.widen (k := cells + 1) (n := slots + 6) (Nat.le_succ _) (Nat.le_add_right _ 6) ?_
  exact kk S Q2 g H locs ls hJ hP hD hS hl
