/-! THE LAW: its loop -/
theorem la_gt {L i : Nat} (hL : L ≤ 2049) (hi : i ≤ 4096) : (nI L - nI 4 < nI i) ↔ L < i + 4 := by
  by_cases h : 4 ≤ L
  · obtain ⟨q, rfl⟩ : ∃ q, L = q + 4 := ⟨L - 4, by omega⟩
    rw [← nI_add, Int32.add_sub_cancel, nI_ltI (by omega) (by omega)]
    omega
  · have h9 : nI L - nI 4 < 0 := by
      rcases (show L = 0 ∨ L = 1 ∨ L = 2 ∨ L = 3 by omega) with rfl | rfl | rfl | rfl <;> decide
    exact ⟨fun _ => by omega, fun _ => Int32.lt_of_lt_of_le h9 (nI_pos' (by omega))⟩
theorem la_sw (x : Int32) : (∃ j, j ≤ 10 ∧ x = nI j) ∨ (x.toInt < 0 ∨ 10 < x.toInt) := by
  by_cases h1 : x.toInt < 0
  · exact Or.inr (Or.inl h1)
  by_cases h2 : 10 < x.toInt
  · exact Or.inr (Or.inr h2)
  have a0 : (nI 0).toInt = 0 := by decide
  have a10 : (nI 10).toInt = 10 := by decide
  obtain ⟨j, -, hj, hx⟩ := pd_rng (k := x) (a := 0) (b := 10) (by decide) (by decide) (fun q => h1 (by have := Int32.lt_iff_toInt_lt.mp q; omega)) (fun q => h2 (by have := Int32.lt_iff_toInt_lt.mp q; omega))
  exact Or.inl ⟨j, hj, hx⟩
set_option maxHeartbeats 4000000 in
set_option maxRecDepth 100000 in
theorem la_loop {p : Program} {l : Launch} {e : Env} {s : State} {m : MethodId} {below : List Frame} {meth : Method} {c : Code} {dC : Nat → ClassId} {dI : Nat → Nat → Nat} {cI cB cE cL cZ : ClassId} {b L n ob : Nat} {xs : Nat → Int32} {am ad : Nat → Nat} (C : la_X p l s m c b L xs (dC, dI) (pw_ty cI cB cE cL cZ)) (hr : meth.sig.returnType = ret) (hlocks : meth.locks = false) :
    ∀ (k cs ss : Nat) (H : Heap) (locs : List Loc) (ls : Array Slot), (∃ (i : Nat) (S Q : pdS) (g : Nat → Int64), k = L + 4 - i ∧ i ≤ L + 4 ∧ cs + (L + 4 - i) ≤ 3000 ∧ ss + 6 * (L + 4 - i) ≤ 140000 ∧ pd_J n S Q ∧ va_P (dC, dI) pwCl (la_w n am ad ob cI cB cE cL cZ Q S g) H ∧ va_D (fun q : Nat => s.heap.size ≤ q) (la_w n am ad ob cI cB cE cL cZ Q S g) ∧ va_S (fun q : Nat => s.heap.size ≤ q) s.heap H locs ∧ lv_has ls 7 (la_lv i ob (am 0) (ad 0) b)) → W p l e room_1 s m #[Value.ref b] below meth c H locs cs ss (lw_Z below #[Value.ref b] s) (F0 m 33 ls []) := by
  obtain ⟨hx, hb, hml, hown, hg, hX, hbl, hL, hst, hK, hKK, hZ⟩ := id C
  have hbA : ¬ (fun q : Nat => s.heap.size ≤ q) b := Nat.not_le.mpr hbl
  refine pn_loop _ ?_
  rintro k cs ss H locs ls ⟨i, S, Q, g, hk, hi, hcs, hss, J, hP, hD, hS, hl⟩ ih
  refine lv_iload hx hb d_LA_law_33 (lv_at hl 0 rfl) ?_
  refine lv_aload_n hx hb d_LA_law_35 rfl (lv_at hl 4 rfl) ?_
  refine va_slen hx hb hX hbl hbA hS d_LA_law_36 ?_
  refine lv_iconst (v := nI 4) hx hb d_LA_law_37 (by decide) ?_
  refine lv_isub hx hb d_LA_law_38 ?_
  refine lv_icmp_gt (tgt := 851) hx hb d_LA_law_39 (by decide) (fun h => ?_) (fun h => ?_)
  · refine lv_iconst (v := 1) hx hb d_LA_law_851 (by decide) ?_
    refine va_forget (fun q hq => hS.2.2 q hq) ?_
    refine W.widen (k := 601024) (n := 7293000) (by omega) (by omega) ?_
    exact lw_ret hx hb hr hlocks d_LA_law_852
  have h4 : i + 4 ≤ L := Nat.not_lt.mp fun q => h ((la_gt hL (by omega)).mpr q)
  refine lv_aload_n hx hb d_LA_law_42 rfl (lv_at hl 4 rfl) ?_
  refine lv_iload hx hb d_LA_law_43 (lv_at hl 0 rfl) ?_
  refine va_sld hx hb hX hbl hbA hS (vp_in_nI (show i < L by omega) (by omega)) d_LA_law_45 ?_
  refine lv_bipush (v := nI 15) hx hb d_LA_law_46 (by decide) ?_
  refine lv_iand hx hb d_LA_law_48 ?_
  have next : ∀ (S2 Q2 : pdS) (g2 : Nat → Int64) (H2 : Heap) (locs2 : List Loc) (ls2 : Array Slot), pd_J n S2 Q2 → va_P (dC, dI) pwCl (la_w n am ad ob cI cB cE cL cZ Q2 S2 g2) H2 → va_D (fun q : Nat => s.heap.size ≤ q) (la_w n am ad ob cI cB cE cL cZ Q2 S2 g2) → va_S (fun q : Nat => s.heap.size ≤ q) s.heap H2 locs2 → lv_has ls2 7 (la_lv i ob (am 0) (ad 0) b) → W p l e room_1 s m #[Value.ref b] below meth c H2 locs2 (cs + 1) (ss + 6) (lw_Z below #[Value.ref b] s) (F0 m 845 ls2 []) := fun S2 Q2 g2 H2 locs2 ls2 J2 hP2 hD2 hS2 hl2 => by
    refine lv_iinc (v := nI (i + 4)) (lv' := la_lv (i + 4) ob (am 0) (ad 0) b) hx hb d_LA_law_845 hl2 (k := 0) rfl (by rw [show Int32.ofInt 4 = nI 4 by decide, nI_add]) (by decide) rfl (fun ls3 hl3 => ?_)
    refine lv_goto (tgt := 33) hx hb d_LA_law_848 (by decide) ?_
    exact ih (L + 4 - (i + 4)) _ _ _ _ _ (by omega) ⟨i + 4, S2, Q2, g2, rfl, by omega, by omega, by omega, J2, hP2, hD2, hS2, hl3⟩
  refine lv_topi (fun x _ => ?_)
  rcases la_sw x with ⟨j, hj, hxj⟩ | hx2
  · rcases (show j = 0 ∨ j = 1 ∨ j = 2 ∨ j = 3 ∨ j = 4 ∨ j = 5 ∨ j = 6 ∨ j = 7 ∨ j = 8 ∨ j = 9 ∨ j = 10 by omega) with rfl | rfl | rfl | rfl | rfl | rfl | rfl | rfl | rfl | rfl | rfl
    · rw [hxj]
      refine lv_tableIn (off := 59) (tgt := 108) hx hb d_LA_law_49 (by decide +kernel) (by decide +kernel) (by decide +kernel) (by decide) ?_
      exact la_feed C h4 J hP hD hS hl (by omega) (by omega) next
    · rw [hxj]
      refine lv_tableIn (off := 159) (tgt := 208) hx hb d_LA_law_49 (by decide +kernel) (by decide +kernel) (by decide +kernel) (by decide) ?_
      exact la_append C h4 J hP hD hS hl (by omega) (by omega) next
    · rw [hxj]
      refine lv_tableIn (off := 227) (tgt := 276) hx hb d_LA_law_49 (by decide +kernel) (by decide +kernel) (by decide +kernel) (by decide) ?_
      exact la_cut C h4 J hP hD hS hl (by omega) (by omega) next
    · rw [hxj]
      refine lv_tableIn (off := 295) (tgt := 344) hx hb d_LA_law_49 (by decide +kernel) (by decide +kernel) (by decide +kernel) (by decide) ?_
      exact la_remove C h4 J hP hD hS hl (by omega) (by omega) next
    · rw [hxj]
      refine lv_tableIn (off := 358) (tgt := 407) hx hb d_LA_law_49 (by decide +kernel) (by decide +kernel) (by decide +kernel) (by decide) ?_
      exact la_twin C h4 J hP hD hS hl (by omega) (by omega) next
    · rw [hxj]
      refine lv_tableIn (off := 426) (tgt := 475) hx hb d_LA_law_49 (by decide +kernel) (by decide +kernel) (by decide +kernel) (by decide) ?_
      exact la_sync C h4 J hP hD hS hl (by omega) (by omega) next
    · rw [hxj]
      refine lv_tableIn (off := 482) (tgt := 531) hx hb d_LA_law_49 (by decide +kernel) (by decide +kernel) (by decide +kernel) (by decide) ?_
      exact la_crash C h4 J hP hD hS hl (by omega) (by omega) next
    · rw [hxj]
      refine lv_tableIn (off := 550) (tgt := 599) hx hb d_LA_law_49 (by decide +kernel) (by decide +kernel) (by decide +kernel) (by decide) ?_
      exact la_crashAll C h4 J hP hD hS hl (by omega) (by omega) next
    · rw [hxj]
      refine lv_tableIn (off := 607) (tgt := 656) hx hb d_LA_law_49 (by decide +kernel) (by decide +kernel) (by decide +kernel) (by decide) ?_
      exact la_file C h4 J hP hD hS hl (by omega) (by omega) next
    · rw [hxj]
      refine lv_tableIn (off := 675) (tgt := 724) hx hb d_LA_law_49 (by decide +kernel) (by decide +kernel) (by decide +kernel) (by decide) ?_
      exact la_byteAt C h4 J hP hD hS hl (by omega) (by omega) next
    · rw [hxj]
      refine lv_tableIn (off := 771) (tgt := 820) hx hb d_LA_law_49 (by decide +kernel) (by decide +kernel) (by decide +kernel) (by decide) ?_
      exact la_count C h4 J hP hD hS hl (by omega) (by omega) next
  · refine lv_tableOut (tgt := 845) hx hb d_LA_law_49 hx2 (by decide) ?_
    refine W.widen (k := cs + 1) (n := ss + 6) (Nat.le_succ _) (Nat.le_add_right _ 6) ?_
    exact next S Q g H locs ls J hP hD hS hl
