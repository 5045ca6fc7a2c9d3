/-! THE MODEL, 5: append -/
section PJ
variable {p : Program} {l : Launch} {e : Env} {R : Room} {s : State} {m : MethodId} {args : Array Value} {below : List Frame} {meth : Method} {c : Code} {H : Heap} {locs : List Loc} {cells slots : Nat} {Q : State → Prop}
/-- roads that meet at pc -/
theorem pw_join {pc : Nat} {g : JFrame} (I : Heap → List Loc → Array Slot → Prop) (k : (∀ H locs ls, I H locs ls → W p l e R s m args below meth c H locs cells slots Q (F0 m pc ls [])) → W p l e R s m args below meth c H locs cells slots Q g) (body : ∀ H locs ls, I H locs ls → W p l e R s m args below meth c H locs cells slots Q (F0 m pc ls [])) : W p l e R s m args below meth c H locs cells slots Q g := k body
end PJ
set_option maxHeartbeats 4000000 in
set_option maxRecDepth 100000 in
/-- append -/
theorem c_MO_append (l : Launch) (dC : Nat → ClassId) (dI : Nat → Nat → Nat) (cI cB cE cL cZ : ClassId) (n : Nat) (am : Nat → Nat) (S : pdS) (f t : Int32) (hv : pd_v 1024 S) (hn : n ≤ 1024) (hnz : pd_nz (pd_ct S) 1024 ≤ n) (sz : Nat) : CMi l (dC, dI) (pw_ty cI cB cE cL cZ) y_MO_append w_MO_append ({ frames := 2, cells := 0, slots := 0, locals := 42 }) [.ref (am 0), .int f, .int t] (mw n am cI cL cZ S) (mw n am cI cL cZ) sz (fun r S2 => (S2 7 3 = 1 ∧ (pd_nof f ∨ ∀ j, 1 ≤ j → j ≤ 16 → t ≠ nI j) ∧ pd_sa S S2) ∨ (S2 7 3 = 2 ∧ (∃ i j, i < 16 ∧ f = nI i ∧ 1 ≤ j ∧ j ≤ 16 ∧ t = nI j ∧ ¬ pd_rr (n - pd_nz (pd_ct S) 1024) S (2 * i) (S 7 2 * j)) ∧ pd_sa (pd_st S 7 2 0) S2) ∨ (S2 7 3 = 0 ∧ ∃ i j, i < 16 ∧ f = nI i ∧ 1 ≤ j ∧ j ≤ 16 ∧ t = nI j ∧ pd_rr (n - pd_nz (pd_ct S) 1024) S (2 * i) (S 7 2 * j) ∧ r = nI (S 4 (2 * i) + S 7 2 * j) ∧ pd_ap 1024 S S2 (2 * i) (S 7 2 * j) (fun q => S 3 (q % S 7 2)))) := by
  refine Met.ofW (cc := b_MO_append) (maxL := 13) (ret := (some .int)) (by decide) rfl ?_
  intro p e s m args below meth c s₁ B hml hv
  obtain ⟨rfl, hsz, hP, hK, hD0⟩ := hv
  have hx := B.exec
  have hb := B.bytes
  have hret := B.returns
  have hts := atoms_spec (ws := w_MO_append) B.pre
  have hg : ∀ w ∈ wsG, w.before _ s = true := fun w h => hts w (List.mem_cons_of_mem _ h)
  have hown : s.vm.findClass "PageDriveModel" = some m.cls := findClass_of_methodNamed B.named
  have hlocks := B.notSynchronized
  subst hsz
  have hD := hD0.self (sz := s.heap.size)
  generalize hAe : va_A (mw n am cI cL cZ S) s.heap.size = A at hD ⊢
  have hA : ∀ q : Nat, s.heap.size ≤ q → A q := fun q h => by rw [← hAe]; exact Or.inr h
  have hS : va_S A s.heap s.heap [] := va_S.rf
  have hl := lv_entry ([.ref (am 0), .int f, .int t]) (n := 13) (Nat.le_of_ble_eq_true rfl)
  rw [lg_entry_eq]
  generalize (lg_sl ([.ref (am 0), .int f, .int t]) ++ List.replicate (13 - (lg_sl ([.ref (am 0), .int f, .int t])).length) Slot.unset).toArray = ls at hl ⊢
  have hl : lv_has ls 13 [(0, .ref (am 0)), (1, .int f), (2, .int t)] := hl
  refine lv_aload_n hx hb d_MO_append_0 rfl (lv_at hl 0 rfl) ?_
  refine lv_iconst (v := nI 0) hx hb d_MO_append_1 (by decide) ?_
  refine pm_thr hx hb hg hown hK hP hD hS (hg (Cond.fieldLink "PageDriveModel" 37 "PageDriveModel" "thrown" "I") (wG_m10 (List.mem_of_getElem? (i := 23) rfl))) d_MO_append_2 (fun H locs hP hD hS => ?_)
  generalize eS1 : pd_st S 7 3 0 = S1 at hP hD
  have hsa1 : pd_sa S S1 := by rw [← eS1]; exact pd_sa_73 S 0
  have hsa : ∀ v, pd_sa S (pd_st S1 7 3 v) := fun v => pd_sa_tr hsa1 (pd_sa_73 S1 v)
  have h173 : S1 7 3 = 0 := by rw [← eS1, pd_self]
  have hb1 : ∀ b, b ≠ 7 → S1 b = S b := fun b hb => by rw [← eS1, pd_bk _ hb]
  have hv1 := pd_sa_v hsa1 hv
  refine lv_iload_n hx hb d_MO_append_5 rfl (lv_at hl 1 rfl) ?_
  have h72 := hv.2.2.2.1
  have h172 : S1 7 2 = S 7 2 := hsa1.2.2.2.2.2.2.1
  refine pw_callip (va_runS (As := [.int f]) (rest := []) ⟨hx, hb, hml, hown, hg⟩ (c_MO_noFile l dC dI cI cB cE cL cZ (mw n am cI cL cZ S1) f H.size) (cwS 1 hg (gi_S (fun _ h => h) (wG_m11 (List.mem_of_getElem? (i := 38) rfl)) (wG_m11 (List.mem_of_getElem? (i := 39) rfl)) (wG_m1 (List.mem_of_getElem? (i := 6) rfl)) (wG_m12 (List.mem_of_getElem? (i := 0) rfl))) rfl rfl rfl (by decide +kernel) ⟨Nat.le_of_ble_eq_true rfl, Nat.le_of_ble_eq_true rfl⟩) (pw_ps hK hP hD [.int f]) rfl rfl hl.1 rfl (lv_room (Nat.le_of_ble_eq_true rfl)) d_MO_append_6 ⟨Nat.le_of_ble_eq_true rfl, Nat.le_of_ble_eq_true rfl⟩) hD hS hA (fun r2 H locs hr hP hD hS => ?_)
  rcases hr with ⟨i, hi, rfl, rfl⟩ | ⟨hno, rfl⟩
  · refine pq_if_ne (tgt := 22) hx hb (by omega) d_MO_append_9 (by decide) (fun h9 => absurd h9 (by omega)) (fun _ => ?_)
    refine lv_iload_n hx hb d_MO_append_12 rfl (lv_at hl 2 rfl) ?_
    refine lv_iconst (v := nI 1) hx hb d_MO_append_13 (by decide) ?_
    refine lv_bipush (v := nI 16) hx hb d_MO_append_14 (by decide) ?_
    refine pw_callip (va_runS (As := [.int t, .int (nI 1), .int (nI 16)]) (rest := []) ⟨hx, hb, hml, hown, hg⟩ (c_MO_within l dC dI cI cB cE cL cZ (mw n am cI cL cZ S1) t (nI 1) (nI 16) H.size) (cwS 3 hg (gi_S (fun _ h => h) (wG_m11 (List.mem_of_getElem? (i := 27) rfl)) (wG_m11 (List.mem_of_getElem? (i := 28) rfl)) (wG_m1 (List.mem_of_getElem? (i := 6) rfl)) (wG_m11 (List.mem_of_getElem? (i := 29) rfl))) rfl rfl rfl (by decide +kernel) ⟨Nat.le_of_ble_eq_true rfl, Nat.le_of_ble_eq_true rfl⟩) (pw_ps hK hP hD [.int t, .int (nI 1), .int (nI 16)]) rfl rfl hl.1 rfl (lv_room (Nat.le_of_ble_eq_true rfl)) d_MO_append_16 ⟨Nat.le_of_ble_eq_true rfl, Nat.le_of_ble_eq_true rfl⟩) hD hS hA (fun r3 H locs hr hP hD hS => ?_)
    rcases hr with ⟨hw1, hw2, rfl⟩ | ⟨hw1, rfl⟩
    · refine pq_if_ne (tgt := 28) hx hb (by omega) d_MO_append_19 (by decide) (fun _ => ?_) (fun h9 => absurd h9 (by omega))
      obtain ⟨j, hj1, hj2, rfl⟩ := pd_rng (a := 1) (b := 16) (by decide) (by decide) hw1 hw2
      have hmul : S 7 2 * j ≤ 4096 * 16 := Nat.mul_le_mul h72 hj2
      have hs4 := (hv.1 (2 * i) (by omega)).1
      refine lv_aload_n hx hb d_MO_append_28 rfl (lv_at hl 0 rfl) ?_
      refine va_get (C := "PageDriveModel") (T := F_MO) (N := 11) hx hb hg iw_MO hown hK hP (0) mw_g0 rfl 2 (by decide) (hg (Cond.fieldLink "PageDriveModel" 48 "PageDriveModel" "fed" "I") (wG_m10 (List.mem_of_getElem? (i := 25) rfl))) (fun _ h9 => h9) rfl d_MO_append_29 ?_
      refine pq_top (y := nI (S 7 2)) (by rw [h172]) ?_
      refine lv_iload_n hx hb d_MO_append_32 rfl (lv_at hl 2 rfl) ?_
      refine pq_imul hx hb d_MO_append_33 ?_
      refine lv_istore_n (lv' := [(3, .int (nI ((S 7 2) * j))), (0, .ref (am 0)), (1, .int (nI i)), (2, .int (nI j))]) hx hb d_MO_append_34 rfl hl (by decide) rfl (fun ls hl => ?_)
      refine lv_aload_n hx hb d_MO_append_35 rfl (lv_at hl 1 rfl) ?_
      refine va_get (C := "PageDriveModel") (T := F_MO) (N := 11) hx hb hg iw_MO hown hK hP (0) mw_g0 rfl 2 (by decide) (hg (Cond.fieldLink "PageDriveModel" 48 "PageDriveModel" "fed" "I") (wG_m10 (List.mem_of_getElem? (i := 25) rfl))) (fun _ h9 => h9) rfl d_MO_append_36 ?_
      refine pq_top (y := nI (S 7 2)) (by rw [h172]) ?_
      refine lv_istore (lv' := [(4, .int (nI (S 7 2))), (3, .int (nI ((S 7 2) * j))), (0, .ref (am 0)), (1, .int (nI i)), (2, .int (nI j))]) hx hb d_MO_append_39 hl (by decide) rfl (fun ls hl => ?_)
      refine lv_aload_n hx hb d_MO_append_41 rfl (lv_at hl 2 rfl) ?_
      refine lv_iconst (v := nI 0) hx hb d_MO_append_42 (by decide) ?_
      refine pm_fed hx hb hg hown hK hP hD hS (hg (Cond.fieldLink "PageDriveModel" 48 "PageDriveModel" "fed" "I") (wG_m10 (List.mem_of_getElem? (i := 25) rfl))) d_MO_append_43 (fun H locs hP hD hS => ?_)
      generalize eS4 : pd_st S1 7 2 0 = S4 at hP hD
      have hU : ∀ b, b ≠ 7 → S4 b = S b := fun b hb => by rw [← eS4, pd_bk _ hb, hb1 b hb]
      have hU72 : S4 7 2 = 0 := by rw [← eS4, pd_self]
      have hU71 : S4 7 1 = S 7 1 := by rw [← eS4, pd_ne _ (by decide)]; exact hsa1.2.2.2.2.2.1
      have hU73 : S4 7 3 = 0 := by rw [← eS4, pd_ne _ (by decide), h173]
      have hUct : ∀ q, pd_ct S4 q = pd_ct S q := fun q => pd_ct_congr (hU 4 (by decide)) (fun d _ k _ => by rw [hU (8 + d) (by omega)]) q
      have hUv : pd_v 1024 S4 := by
        obtain ⟨v1, v2, v3, v4, v5, v6⟩ := hv
        refine ⟨fun d hd => by rw [hU 4 (by decide), hU 5 (by decide)]; exact v1 d hd, fun d k hd hk => ?_, fun a d k z ha hd hk hz => ?_, by omega, by rw [hU 3 (by decide)]; exact v5, by rw [hU 0 (by decide)]; exact v6⟩
        · rw [hU 4 (by decide)] at hk
          rw [hU (8 + d) (by omega)]
          exact v2 d k hd hk
        · rw [hU 4 (by decide)] at hk hz
          rw [hU (8 + a) (by omega), hU (8 + d) (by omega)]
          exact v3 a d k z ha hd hk hz
      have hUz : S4 4 (2 * i) = S 4 (2 * i) := by rw [hU 4 (by decide)]
      have hUsa : pd_sa (pd_st S 7 2 0) S4 := by
        have hq : ∀ b, b ≠ 7 → S4 b = pd_st S 7 2 0 b := fun b hb => by rw [hU b hb, pd_bk _ hb]
        exact ⟨hq 0 (by decide), hq 3 (by decide), hq 4 (by decide), hq 5 (by decide), hq 6 (by decide), by rw [hU71, pd_ne _ (by decide)], by rw [hU72, pd_self], fun d _ => hq (8 + d) (by omega)⟩
      have hnzU : pd_nz (pd_ct S4) 1024 = pd_nz (pd_ct S) 1024 := pd_nz_congr (fun q _ => hUct q)
      have hcpU : pd_cp S4 (2 * i) (S 7 2 * j) ↔ pd_cp S (2 * i) (S 7 2 * j) := by
        unfold pd_cp
        rw [hU 4 (by decide), hU (8 + 2 * i) (by omega), hUct]
      refine lv_iconst (v := nI 2) hx hb d_MO_append_46 (by decide) ?_
      refine lv_iload_n hx hb d_MO_append_47 rfl (lv_at hl 3 rfl) ?_
      refine pq_imul hx hb d_MO_append_48 ?_
      refine lv_istore (lv' := [(5, .int (nI (2 * i))), (4, .int (nI (S 7 2))), (3, .int (nI ((S 7 2) * j))), (0, .ref (am 0)), (1, .int (nI i)), (2, .int (nI j))]) hx hb d_MO_append_49 hl (by decide) rfl (fun ls hl => ?_)
      refine lv_aload_n hx hb d_MO_append_51 rfl (lv_at hl 3 rfl) ?_
      refine va_get (C := "PageDriveModel") (T := F_MO) (N := 11) hx hb hg iw_MO hown hK hP (0) mw_g0 rfl 1 (by decide) (hg (Cond.fieldLink "PageDriveModel" 33 "PageDriveModel" "limit" "I") (wG_m10 (List.mem_of_getElem? (i := 24) rfl))) (fun _ h9 => h9) rfl d_MO_append_52 ?_
      refine lv_aload_n hx hb d_MO_append_55 rfl (lv_at hl 3 rfl) ?_
      refine pw_calli (va_runV (As := []) (rest := [.int (nI n)]) ⟨hx, hb, hml, hown, hg⟩ (c_MO_look l dC dI cI cB cE cL cZ n am S4 hUv H.size) (cwV 0 hg (gi_V (fun _ h => h) (wG_m12 (List.mem_of_getElem? (i := 1) rfl)) (wG_m12 (List.mem_of_getElem? (i := 2) rfl)) (wG_m14 (List.mem_of_getElem? (i := 12) rfl)) (wG_m1 (List.mem_of_getElem? (i := 6) rfl)) (wG_m12 (List.mem_of_getElem? (i := 3) rfl))) rfl rfl rfl (by decide +kernel) ⟨Nat.le_of_ble_eq_true rfl, Nat.le_of_ble_eq_true rfl⟩) (pw_pv hK hP hD (va_recv hK hP (ci := 4) (q0 := 0) rfl mw_g0) []) rfl rfl hl.1 rfl (lv_room (Nat.le_of_ble_eq_true rfl)) d_MO_append_56 ⟨Nat.le_of_ble_eq_true rfl, Nat.le_of_ble_eq_true rfl⟩) hD hS hA (fun rl T H locs hr hP hD hS => ?_)
      obtain ⟨rfl, hc1, hT⟩ := hr
      refine pq_top (y := nI (pd_nz (pd_ct S) 1024)) (by rw [hnzU]) ?_
      have hTU : ∀ b, b ≠ 1 → T b = S4 b := hT
      have hT4 : T 4 (2 * i) = S 4 (2 * i) := by rw [hT 4 (by decide), hUz]
      have hTr : T (8 + 2 * i) = S (8 + 2 * i) := by rw [hT _ (by omega), hU _ (by omega)]
      have hT1 : ∀ q, q < 1024 → T 1 q = pd_ct S q := fun q hq => by rw [hc1 q hq, hUct q]
      have hTb : ∀ q, q < 1024 → T 1 q < 1000000 := fun q hq => by
        have h8 := pd_ct_bd hv q
        rw [hT1 q hq]
        omega
      have hTz : pd_nz (T 1) 1024 = pd_nz (pd_ct S) 1024 := pd_nz_congr hT1
      have hpm := pd_pf_mono (show S 4 (2 * i) ≤ S 4 (2 * i) + S 7 2 * j by omega)
      have hpb : pd_pf (S 4 (2 * i) + S 7 2 * j) < 1000000 := by unfold pd_pf; omega
      refine pq_isub hx hb (by omega) d_MO_append_59 ?_
      refine lv_istore (lv' := [(6, .int (nI (n - (pd_nz (pd_ct S) 1024)))), (5, .int (nI (2 * i))), (4, .int (nI (S 7 2))), (3, .int (nI ((S 7 2) * j))), (0, .ref (am 0)), (1, .int (nI i)), (2, .int (nI j))]) hx hb d_MO_append_60 hl (by decide) rfl (fun ls hl => ?_)
      refine lv_aload_n hx hb d_MO_append_62 rfl (lv_at hl 4 rfl) ?_
      refine va_get (C := "PageDriveModel") (T := F_MO) (N := 11) hx hb hg iw_MO hown hK hP (0) mw_g0 rfl 6 (by decide) (hg (Cond.fieldLink "PageDriveModel" 20 "PageDriveModel" "sizes" "[I") (wG_m10 (List.mem_of_getElem? (i := 29) rfl))) (fun _ h9 => h9) rfl d_MO_append_63 ?_
      refine lv_iload hx hb d_MO_append_66 (lv_at hl 1 rfl) ?_
      refine pq_iald hx hb hK hP 4 0 mw_g4 rfl (by omega) (by omega) d_MO_append_68 ?_
      refine pq_top (y := nI (S 4 (2 * i))) (by rw [hT4]) ?_
      refine lv_istore (lv' := [(7, .int (nI (S 4 (2 * i)))), (6, .int (nI (n - (pd_nz (pd_ct S) 1024)))), (5, .int (nI (2 * i))), (4, .int (nI (S 7 2))), (3, .int (nI ((S 7 2) * j))), (0, .ref (am 0)), (1, .int (nI i)), (2, .int (nI j))]) hx hb d_MO_append_69 hl (by decide) rfl (fun ls hl => ?_)
      refine lv_iload hx hb d_MO_append_71 (lv_at hl 0 rfl) ?_
      refine lv_bipush (v := nI 64) hx hb d_MO_append_73 (by decide) ?_
      refine pq_idiv hx hb (by omega) (by omega) (by omega) d_MO_append_75 ?_
      refine lv_istore (lv' := [(8, .int (nI ((S 4 (2 * i)) / 64))), (7, .int (nI (S 4 (2 * i)))), (6, .int (nI (n - (pd_nz (pd_ct S) 1024)))), (5, .int (nI (2 * i))), (4, .int (nI (S 7 2))), (3, .int (nI ((S 7 2) * j))), (0, .ref (am 0)), (1, .int (nI i)), (2, .int (nI j))]) hx hb d_MO_append_76 hl (by decide) rfl (fun ls hl => ?_)
      refine pw_join (pc := 120) (fun H locs ls => ∃ v : Nat, ((pd_cp S (2 * i) (S 7 2 * j) ∧ v = 1) ∨ (¬ pd_cp S (2 * i) (S 7 2 * j) ∧ v = 0)) ∧ va_P (dC, dI) pwCl (mw n am cI cL cZ T) H ∧ va_D A (mw n am cI cL cZ T) ∧ va_S A s.heap H locs ∧ lv_has ls 13 [(9, .int (nI v)), (8, .int (nI ((S 4 (2 * i)) / 64))), (7, .int (nI (S 4 (2 * i)))), (6, .int (nI (n - (pd_nz (pd_ct S) 1024)))), (5, .int (nI (2 * i))), (4, .int (nI (S 7 2))), (3, .int (nI ((S 7 2) * j))), (0, .ref (am 0)), (1, .int (nI i)), (2, .int (nI j))]) (fun join => ?_) ?_
      · refine lv_iload_n hx hb d_MO_append_78 rfl (lv_at hl 5 rfl) ?_
        refine pq_if_le (tgt := 117) hx hb (by omega) d_MO_append_79 (by decide) (fun h1 => ?_) (fun h1 => ?_)
        · refine lv_iconst (v := nI 0) hx hb d_MO_append_117 (by decide) ?_
          refine lv_istore (lv' := [(9, .int (nI 0)), (8, .int (nI ((S 4 (2 * i)) / 64))), (7, .int (nI (S 4 (2 * i)))), (6, .int (nI (n - (pd_nz (pd_ct S) 1024)))), (5, .int (nI (2 * i))), (4, .int (nI (S 7 2))), (3, .int (nI ((S 7 2) * j))), (0, .ref (am 0)), (1, .int (nI i)), (2, .int (nI j))]) hx hb d_MO_append_118 hl (by decide) rfl (fun ls hl => ?_)
          exact join _ _ _ ⟨0, Or.inr ⟨fun q => by have := q.1; omega, rfl⟩, hP, hD, hS, hl⟩
        · refine lv_iload hx hb d_MO_append_82 (lv_at hl 1 rfl) ?_
          refine lv_bipush (v := nI 64) hx hb d_MO_append_84 (by decide) ?_
          refine pq_irem hx hb (by omega) (by omega) (by omega) d_MO_append_86 ?_
          refine pq_if_le (tgt := 117) hx hb (by omega) d_MO_append_87 (by decide) (fun h2 => ?_) (fun h2 => ?_)
          · refine lv_iconst (v := nI 0) hx hb d_MO_append_117 (by decide) ?_
            refine lv_istore (lv' := [(9, .int (nI 0)), (8, .int (nI ((S 4 (2 * i)) / 64))), (7, .int (nI (S 4 (2 * i)))), (6, .int (nI (n - (pd_nz (pd_ct S) 1024)))), (5, .int (nI (2 * i))), (4, .int (nI (S 7 2))), (3, .int (nI ((S 7 2) * j))), (0, .ref (am 0)), (1, .int (nI i)), (2, .int (nI j))]) hx hb d_MO_append_118 hl (by decide) rfl (fun ls hl => ?_)
            exact join _ _ _ ⟨0, Or.inr ⟨fun q => q.2.1 h2, rfl⟩, hP, hD, hS, hl⟩
          · have hl0 : S 4 (2 * i) / 64 < pd_pf (S 4 (2 * i)) := by unfold pd_pf; omega
            have hpg := hv.2.1 (2 * i) _ (by omega) hl0
            have ht1 := hT1 _ hpg
            have hbd := pd_ct_bd hv (S (8 + 2 * i) (S 4 (2 * i) / 64))
            refine lv_aload_n hx hb d_MO_append_90 rfl (lv_at hl 6 rfl) ?_
            refine va_get (C := "PageDriveModel") (T := F_MO) (N := 11) hx hb hg iw_MO hown hK hP (0) mw_g0 rfl 10 (by decide) (hg (Cond.fieldLink "PageDriveModel" 30 "PageDriveModel" "seen" "[I") (wG_m10 (List.mem_of_getElem? (i := 33) rfl))) (fun _ h9 => h9) rfl d_MO_append_91 ?_
            refine lv_aload_n hx hb d_MO_append_94 rfl (lv_at hl 6 rfl) ?_
            refine va_get (C := "PageDriveModel") (T := F_MO) (N := 11) hx hb hg iw_MO hown hK hP (0) mw_g0 rfl 5 (by decide) (hg (Cond.fieldLink "PageDriveModel" 17 "PageDriveModel" "rows" "[I") (wG_m10 (List.mem_of_getElem? (i := 28) rfl))) (fun _ h9 => h9) rfl d_MO_append_95 ?_
            refine lv_sipush (v := nI 400) hx hb d_MO_append_98 (by decide) ?_
            refine lv_iload hx hb d_MO_append_101 (lv_at hl 3 rfl) ?_
            refine pq_imul hx hb d_MO_append_103 ?_
            refine lv_iload hx hb d_MO_append_104 (lv_at hl 0 rfl) ?_
            refine pq_iadd hx hb d_MO_append_106 ?_
            refine pm_rowld (d := (2 * i)) (k := ((S 4 (2 * i)) / 64)) hx hb hK hP (by omega) (by omega) (by omega) rfl d_MO_append_107 ?_
            refine pq_top (y := nI (S (8 + 2 * i) (S 4 (2 * i) / 64))) (by rw [hTr]) ?_
            refine pq_iald hx hb hK hP 7 0 mw_g7 rfl (by omega) (by omega) d_MO_append_108 ?_
            refine lv_iconst (v := nI 1) hx hb d_MO_append_109 (by decide) ?_
            refine pq_icmp_le (tgt := 117) hx hb (by omega) (by omega) d_MO_append_110 (by decide) (fun h3 => ?_) (fun h3 => ?_)
            · refine lv_iconst (v := nI 0) hx hb d_MO_append_117 (by decide) ?_
              refine lv_istore (lv' := [(9, .int (nI 0)), (8, .int (nI ((S 4 (2 * i)) / 64))), (7, .int (nI (S 4 (2 * i)))), (6, .int (nI (n - (pd_nz (pd_ct S) 1024)))), (5, .int (nI (2 * i))), (4, .int (nI (S 7 2))), (3, .int (nI ((S 7 2) * j))), (0, .ref (am 0)), (1, .int (nI i)), (2, .int (nI j))]) hx hb d_MO_append_118 hl (by decide) rfl (fun ls hl => ?_)
              exact join _ _ _ ⟨0, Or.inr ⟨fun q => by have := q.2.2; omega, rfl⟩, hP, hD, hS, hl⟩
            · refine lv_iconst (v := nI 1) hx hb d_MO_append_113 (by decide) ?_
              refine lv_goto (tgt := 118) hx hb d_MO_append_114 (by decide) ?_
              refine lv_istore (lv' := [(9, .int (nI 1)), (8, .int (nI ((S 4 (2 * i)) / 64))), (7, .int (nI (S 4 (2 * i)))), (6, .int (nI (n - (pd_nz (pd_ct S) 1024)))), (5, .int (nI (2 * i))), (4, .int (nI (S 7 2))), (3, .int (nI ((S 7 2) * j))), (0, .ref (am 0)), (1, .int (nI i)), (2, .int (nI j))]) hx hb d_MO_append_118 hl (by decide) rfl (fun ls hl => ?_)
              exact join _ _ _ ⟨1, Or.inl ⟨⟨by omega, by omega, by omega⟩, rfl⟩, hP, hD, hS, hl⟩
      · rintro H locs ls ⟨v, hcv, hP, hD, hS, hl⟩
        refine lv_iload hx hb d_MO_append_120 (lv_at hl 2 rfl) ?_
        refine lv_iload_n hx hb d_MO_append_122 rfl (lv_at hl 6 rfl) ?_
        refine pq_iadd hx hb d_MO_append_123 ?_
        refine pw_callip (va_runS (As := [.int (nI ((S 4 (2 * i)) + ((S 7 2) * j)))]) (rest := []) ⟨hx, hb, hml, hown, hg⟩ (c_MO_needed l dC dI cI cB cE cL cZ (mw n am cI cL cZ T) (S 4 (2 * i) + S 7 2 * j) (by omega) H.size) (cwS 1 hg (gi_S (fun _ h => h) (wG_m12 (List.mem_of_getElem? (i := 4) rfl)) (wG_m12 (List.mem_of_getElem? (i := 5) rfl)) (wG_m1 (List.mem_of_getElem? (i := 6) rfl)) (wG_m12 (List.mem_of_getElem? (i := 6) rfl))) rfl rfl rfl (by decide +kernel) ⟨Nat.le_of_ble_eq_true rfl, Nat.le_of_ble_eq_true rfl⟩) (pw_ps hK hP hD [.int (nI ((S 4 (2 * i)) + ((S 7 2) * j)))]) rfl rfl hl.1 rfl (lv_room (Nat.le_of_ble_eq_true rfl)) d_MO_append_124 ⟨Nat.le_of_ble_eq_true rfl, Nat.le_of_ble_eq_true rfl⟩) hD hS hA (fun r5 H locs hr hP hD hS => ?_)
        subst hr
        refine lv_iload hx hb d_MO_append_127 (lv_at hl 2 rfl) ?_
        refine pw_callip (va_runS (As := [.int (nI (S 4 (2 * i)))]) (rest := [.int (nI (pd_pf (S 4 (2 * i) + S 7 2 * j)))]) ⟨hx, hb, hml, hown, hg⟩ (c_MO_needed l dC dI cI cB cE cL cZ (mw n am cI cL cZ T) (S 4 (2 * i)) (by omega) H.size) (cwS 1 hg (gi_S (fun _ h => h) (wG_m12 (List.mem_of_getElem? (i := 4) rfl)) (wG_m12 (List.mem_of_getElem? (i := 5) rfl)) (wG_m1 (List.mem_of_getElem? (i := 6) rfl)) (wG_m12 (List.mem_of_getElem? (i := 6) rfl))) rfl rfl rfl (by decide +kernel) ⟨Nat.le_of_ble_eq_true rfl, Nat.le_of_ble_eq_true rfl⟩) (pw_ps hK hP hD [.int (nI (S 4 (2 * i)))]) rfl rfl hl.1 rfl (lv_room (Nat.le_of_ble_eq_true rfl)) d_MO_append_129 ⟨Nat.le_of_ble_eq_true rfl, Nat.le_of_ble_eq_true rfl⟩) hD hS hA (fun r6 H locs hr hP hD hS => ?_)
        subst hr
        refine pq_isub hx hb (by omega) d_MO_append_132 ?_
        refine lv_iload hx hb d_MO_append_133 (lv_at hl 0 rfl) ?_
        rcases hcv with ⟨hcp, rfl⟩ | ⟨hcp, rfl⟩
        · refine pq_if_eq (tgt := 142) hx hb (by omega) d_MO_append_135 (by decide) (fun h9 => absurd h9 (by omega)) (fun _ => ?_)
          refine lv_iconst (v := nI 1) hx hb d_MO_append_138 (by decide) ?_
          refine lv_goto (tgt := 143) hx hb d_MO_append_139 (by decide) ?_
          refine pq_iadd hx hb d_MO_append_143 ?_
          refine lv_istore (lv' := [(10, .int (nI (((pd_pf (S 4 (2 * i) + S 7 2 * j)) - (pd_pf (S 4 (2 * i)))) + 1))), (9, .int (nI 1)), (8, .int (nI ((S 4 (2 * i)) / 64))), (7, .int (nI (S 4 (2 * i)))), (6, .int (nI (n - (pd_nz (pd_ct S) 1024)))), (5, .int (nI (2 * i))), (4, .int (nI (S 7 2))), (3, .int (nI ((S 7 2) * j))), (0, .ref (am 0)), (1, .int (nI i)), (2, .int (nI j))]) hx hb d_MO_append_144 hl (by decide) rfl (fun ls hl => ?_)
          refine lv_iload hx hb d_MO_append_146 (lv_at hl 0 rfl) ?_
          refine lv_iload hx hb d_MO_append_148 (lv_at hl 4 rfl) ?_
          refine pq_icmp_gt (tgt := 166) hx hb (by omega) (by omega) d_MO_append_150 (by decide) (fun h4 => ?_) (fun h4 => ?_)
          · refine lv_aload_n hx hb d_MO_append_166 rfl (lv_at hl 8 rfl) ?_
            refine lv_iconst (v := nI 2) hx hb d_MO_append_167 (by decide) ?_
            refine pw_calli (va_runV (As := [.int (nI 2)]) (rest := []) ⟨hx, hb, hml, hown, hg⟩ (c_MO_fail l dC dI cI cB cE cL cZ n am T 2 H.size) (cwV 1 hg (gi_V (fun _ h => h) (wG_m11 (List.mem_of_getElem? (i := 30) rfl)) (wG_m11 (List.mem_of_getElem? (i := 31) rfl)) (wG_m14 (List.mem_of_getElem? (i := 11) rfl)) (wG_m1 (List.mem_of_getElem? (i := 6) rfl)) (wG_m11 (List.mem_of_getElem? (i := 32) rfl))) rfl rfl rfl (by decide +kernel) ⟨Nat.le_of_ble_eq_true rfl, Nat.le_of_ble_eq_true rfl⟩) (pw_pv hK hP hD (va_recv hK hP (ci := 4) (q0 := 0) rfl mw_g0) [.int (nI 2)]) rfl rfl hl.1 rfl (lv_room (Nat.le_of_ble_eq_true rfl)) d_MO_append_168 ⟨Nat.le_of_ble_eq_true rfl, Nat.le_of_ble_eq_true rfl⟩) hD hS hA (fun rf S2 H locs hr hP hD hS => ?_)
            obtain ⟨rfl, eS2⟩ := hr
            exact W.iret (v := (nI 0)) hx hb hret (fun t9 ht9 hW9 => ⟨⟨_, S2, rfl, Or.inr (Or.inl ⟨by rw [eS2, pd_self], ⟨i, j, hi, rfl, hj1, hj2, rfl, fun q => by rcases q.2 with ⟨q1, q2⟩ | ⟨q1, q2⟩ <;> first | exact absurd hcp q1 | exact absurd q1 hcp | omega⟩, by rw [eS2]; exact pd_sa_tr hUsa (pd_sa_tr (pd_sa_1 hT) (pd_sa_73 T 2))⟩), by rw [ht9]; exact hP, va_K.moved hW9.alike hK, hD⟩, hS.F ht9⟩) hS.2.2 d_MO_append_171
          · refine lv_iload hx hb d_MO_append_153 (lv_at hl 3 rfl) ?_
            refine lv_iload_n hx hb d_MO_append_155 rfl (lv_at hl 7 rfl) ?_
            refine pq_iadd hx hb d_MO_append_156 ?_
            refine pw_callip (va_runS (As := [.int (nI ((S 4 (2 * i)) + ((S 7 2) * j)))]) (rest := []) ⟨hx, hb, hml, hown, hg⟩ (c_MO_needed l dC dI cI cB cE cL cZ (mw n am cI cL cZ T) (S 4 (2 * i) + S 7 2 * j) (by omega) H.size) (cwS 1 hg (gi_S (fun _ h => h) (wG_m12 (List.mem_of_getElem? (i := 4) rfl)) (wG_m12 (List.mem_of_getElem? (i := 5) rfl)) (wG_m1 (List.mem_of_getElem? (i := 6) rfl)) (wG_m12 (List.mem_of_getElem? (i := 6) rfl))) rfl rfl rfl (by decide +kernel) ⟨Nat.le_of_ble_eq_true rfl, Nat.le_of_ble_eq_true rfl⟩) (pw_ps hK hP hD [.int (nI ((S 4 (2 * i)) + ((S 7 2) * j)))]) rfl rfl hl.1 rfl (lv_room (Nat.le_of_ble_eq_true rfl)) d_MO_append_157 ⟨Nat.le_of_ble_eq_true rfl, Nat.le_of_ble_eq_true rfl⟩) hD hS hA (fun r7 H locs hr hP hD hS => ?_)
            subst hr
            refine lv_sipush (v := nI 400) hx hb d_MO_append_160 (by decide) ?_
            refine pq_icmp_le (tgt := 172) hx hb (by omega) (by omega) d_MO_append_163 (by decide) (fun h5 => ?_) (fun h5 => ?_)
            · have hrr : pd_rr (n - pd_nz (pd_ct S) 1024) S (2 * i) (S 7 2 * j) := ⟨h5, Or.inl ⟨hcp, by omega⟩⟩
              have hz : S 4 (2 * i) + S 7 2 * j ≤ 25600 := by unfold pd_pf at h5; omega
              refine lv_aload_n hx hb d_MO_append_172 rfl (lv_at hl 8 rfl) ?_
              refine va_get (C := "PageDriveModel") (T := F_MO) (N := 11) hx hb hg iw_MO hown hK hP (0) mw_g0 rfl 7 (by decide) (hg (Cond.fieldLink "PageDriveModel" 23 "PageDriveModel" "there" "[Z") (wG_m10 (List.mem_of_getElem? (i := 30) rfl))) (fun _ h9 => h9) rfl d_MO_append_173 ?_
              refine lv_iload hx hb d_MO_append_176 (lv_at hl 5 rfl) ?_
              refine lv_iconst (v := nI 1) hx hb d_MO_append_178 (by decide) ?_
              refine pm_there hx hb hK hP hD hS (Nat.le_refl 1) (by omega) rfl d_MO_append_179 (fun H locs hP hD hS => ?_)
              generalize eS8 : pd_st T 5 (2 * i) 1 = S8 at hP hD
              have h4b : ∀ b, b ≠ 5 → S8 b = T b := fun b hb => by rw [← eS8, pd_bk _ hb]
              refine lv_iload hx hb d_MO_append_180 (lv_at hl 1 rfl) ?_
              refine pq_if_eq (tgt := 271) hx hb (by omega) d_MO_append_182 (by decide) (fun h9 => absurd h9 (by omega)) (fun _ => ?_)
              have hl0 : S 4 (2 * i) / 64 < pd_pf (S 4 (2 * i)) := by have := hcp.2.1; unfold pd_pf; omega
              have h400 : pd_pf (S 4 (2 * i)) ≤ 400 := by omega
              have hpg := hv.2.1 (2 * i) _ (by omega) hl0
              refine lv_aload_n hx hb d_MO_append_185 rfl (lv_at hl 8 rfl) ?_
              refine pw_calli (va_runV (As := []) (rest := []) ⟨hx, hb, hml, hown, hg⟩ (c_MO_fresh l dC dI cI cB cE cL cZ n am S8 (fun q hq => by rw [h4b 1 (by decide)]; exact hTb q hq) (by rw [h4b 1 (by decide), hTz]; omega) H.size) (cwV 0 hg (gi_V (fun _ h => h) (wG_m12 (List.mem_of_getElem? (i := 7) rfl)) (wG_m12 (List.mem_of_getElem? (i := 8) rfl)) (wG_m14 (List.mem_of_getElem? (i := 13) rfl)) (wG_m1 (List.mem_of_getElem? (i := 6) rfl)) (wG_m12 (List.mem_of_getElem? (i := 9) rfl))) rfl rfl rfl (by decide +kernel) ⟨Nat.le_of_ble_eq_true rfl, Nat.le_of_ble_eq_true rfl⟩) (pw_pv hK hP hD (va_recv hK hP (ci := 4) (q0 := 0) rfl mw_g0) []) rfl rfl hl.1 rfl (lv_room (Nat.le_of_ble_eq_true rfl)) d_MO_append_186 ⟨Nat.le_of_ble_eq_true rfl, Nat.le_of_ble_eq_true rfl⟩) hD hS hA (fun rq V5 H locs hr hP hD hS => ?_)
              obtain ⟨q0, hq0, hqz, rfl, eV5⟩ := hr
              have hqct : pd_ct S q0 = 0 := by rw [← hT1 q0 hq0, ← hqz, h4b 1 (by decide)]
              have hqne : S (8 + 2 * i) (S 4 (2 * i) / 64) ≠ q0 := pd_ct_live hqct (by omega) hl0
              have hV0 : V5 0 = S 0 := by rw [eV5, pd_bk _ (by decide), h4b 0 (by decide), hT 0 (by decide), hU 0 (by decide)]
              have hVr : V5 (8 + 2 * i) = S (8 + 2 * i) := by rw [eV5, pd_bk _ (by omega), h4b _ (by omega), hTr]
              generalize hold : S (8 + 2 * i) (S 4 (2 * i) / 64) = old at hpg hqne
              refine lv_istore (lv' := [(11, .int (nI q0)), (10, .int (nI (((pd_pf (S 4 (2 * i) + S 7 2 * j)) - (pd_pf (S 4 (2 * i)))) + 1))), (9, .int (nI 1)), (8, .int (nI ((S 4 (2 * i)) / 64))), (7, .int (nI (S 4 (2 * i)))), (6, .int (nI (n - (pd_nz (pd_ct S) 1024)))), (5, .int (nI (2 * i))), (4, .int (nI (S 7 2))), (3, .int (nI ((S 7 2) * j))), (0, .ref (am 0)), (1, .int (nI i)), (2, .int (nI j))]) hx hb d_MO_append_189 hl (by decide) rfl (fun ls hl => ?_)
              refine lv_iconst (v := nI 0) hx hb d_MO_append_191 (by decide) ?_
              refine lv_istore (lv' := [(12, .int (nI 0)), (11, .int (nI q0)), (10, .int (nI (((pd_pf (S 4 (2 * i) + S 7 2 * j)) - (pd_pf (S 4 (2 * i)))) + 1))), (9, .int (nI 1)), (8, .int (nI ((S 4 (2 * i)) / 64))), (7, .int (nI (S 4 (2 * i)))), (6, .int (nI (n - (pd_nz (pd_ct S) 1024)))), (5, .int (nI (2 * i))), (4, .int (nI (S 7 2))), (3, .int (nI ((S 7 2) * j))), (0, .ref (am 0)), (1, .int (nI i)), (2, .int (nI j))]) hx hb d_MO_append_192 hl (by decide) rfl (fun ls hl => ?_)
              refine pw_loop (fun mm H locs ls => ∃ (C : pdS) (k : Nat), mm = 8 - k ∧ k ≤ 8 ∧ C = va_up V5 0 (va_cpy (S 0) (S 0) (64 * old) (64 * q0) (8 * k)) ∧ va_P (dC, dI) pwCl (mw n am cI cL cZ C) H ∧ va_D A (mw n am cI cL cZ C) ∧ va_S A s.heap H locs ∧ lv_has ls 13 [(12, .int (nI k)), (11, .int (nI q0)), (10, .int (nI (((pd_pf (S 4 (2 * i) + S 7 2 * j)) - (pd_pf (S 4 (2 * i)))) + 1))), (9, .int (nI 1)), (8, .int (nI ((S 4 (2 * i)) / 64))), (7, .int (nI (S 4 (2 * i)))), (6, .int (nI (n - (pd_nz (pd_ct S) 1024)))), (5, .int (nI (2 * i))), (4, .int (nI (S 7 2))), (3, .int (nI ((S 7 2) * j))), (0, .ref (am 0)), (1, .int (nI i)), (2, .int (nI j))]) ?_ _ _ _ _ ⟨V5, 0, rfl, by omega, ?_, hP, hD, hS, hl⟩
              · rintro mm H locs ls ⟨C, k, hmm, hk, hC, hP, hD, hS, hl⟩ ih
                have hC0 : C 0 = va_cpy (S 0) (S 0) (64 * old) (64 * q0) (8 * k) := by rw [hC, va_up_self]
                have hCr : C (8 + 2 * i) (S 4 (2 * i) / 64) = old := by rw [hC, va_up_ne _ _ (by omega), hVr, hold]
                refine lv_iload hx hb d_MO_append_194 (lv_at hl 0 rfl) ?_
                refine lv_bipush (v := nI 8) hx hb d_MO_append_196 (by decide) ?_
                refine pq_icmp_ge (tgt := 245) hx hb (by omega) (by omega) d_MO_append_198 (by decide) (fun h6 => ?_) (fun h6 => ?_)
                · have hk8 : k = 8 := by omega
                  subst hk8
                  refine lv_aload_n hx hb d_MO_append_245 rfl (lv_at hl 10 rfl) ?_
                  refine va_get (C := "PageDriveModel") (T := F_MO) (N := 11) hx hb hg iw_MO hown hK hP (0) mw_g0 rfl 5 (by decide) (hg (Cond.fieldLink "PageDriveModel" 17 "PageDriveModel" "rows" "[I") (wG_m10 (List.mem_of_getElem? (i := 28) rfl))) (fun _ h9 => h9) rfl d_MO_append_246 ?_
                  refine lv_sipush (v := nI 400) hx hb d_MO_append_249 (by decide) ?_
                  refine lv_iload hx hb d_MO_append_252 (lv_at hl 7 rfl) ?_
                  refine pq_imul hx hb d_MO_append_254 ?_
                  refine lv_iload hx hb d_MO_append_255 (lv_at hl 4 rfl) ?_
                  refine pq_iadd hx hb d_MO_append_257 ?_
                  refine lv_iload hx hb d_MO_append_258 (lv_at hl 1 rfl) ?_
                  refine pm_row (d := (2 * i)) (k := ((S 4 (2 * i)) / 64)) hx hb hK hP hD hS (by omega) (by omega) (by omega) rfl d_MO_append_260 (fun H locs hP hD hS => ?_)
                  generalize eS9 : pd_st C (8 + (2 * i)) ((S 4 (2 * i)) / 64) q0 = S9 at hP hD
                  refine lv_aload_n hx hb d_MO_append_261 rfl (lv_at hl 10 rfl) ?_
                  refine lv_dup hx hb d_MO_append_262 rfl ?_
                  refine va_get (C := "PageDriveModel") (T := F_MO) (N := 11) hx hb hg iw_MO hown hK hP (0) mw_g0 rfl 9 (by decide) (hg (Cond.fieldLink "PageDriveModel" 69 "PageDriveModel" "copied" "I") (wG_m10 (List.mem_of_getElem? (i := 32) rfl))) (fun _ h9 => h9) rfl d_MO_append_263 ?_
                  refine lv_iconst (v := nI 1) hx hb d_MO_append_266 (by decide) ?_
                  refine pq_iadd hx hb d_MO_append_267 ?_
                  refine pm_cop hx hb hg hown hK hP hD hS (hg (Cond.fieldLink "PageDriveModel" 69 "PageDriveModel" "copied" "I") (wG_m10 (List.mem_of_getElem? (i := 32) rfl))) d_MO_append_268 (fun H locs hP hD hS => ?_)
                  generalize eS10 : pd_st S9 7 1 ((S9 7 1) + 1) = S10 at hP hD
                  have hC7 : ∀ b, b ≠ 0 → C b = V5 b := fun b hb => by rw [hC, va_up_ne _ _ hb]
                  have hB : ∀ b, b ≠ 0 → b ≠ 1 → b ≠ 5 → b ≠ 7 → b ≠ 8 + 2 * i → S10 b = S4 b := fun b b0 b1 b5 b7 br => by rw [← eS10, pd_bk _ b7, ← eS9, pd_bk _ br, hC7 b b0, eV5, pd_bk _ b1, h4b b b5, hT b b1]
                  have hB1 : S10 1 = va_up (T 1) q0 1 := by rw [← eS10, pd_bk _ (by decide), ← eS9, pd_bk _ (by omega), hC7 1 (by decide), eV5, pd_own, h4b 1 (by decide)]
                  have hB71 : S10 7 1 = S4 7 1 + 1 := by rw [← eS10, pd_self, ← eS9, pd_bk _ (by omega), hC7 7 (by decide), eV5, pd_bk _ (by decide), h4b 7 (by decide), hT 7 (by decide)]
                  have hB7 : ∀ z, z ≠ 1 → S10 7 z = S4 7 z := fun z hz => by rw [← eS10, pd_ne _ hz, ← eS9, pd_bk _ (by omega), hC7 7 (by decide), eV5, pd_bk _ (by decide), h4b 7 (by decide), hT 7 (by decide)]
                  have hBr : S10 (8 + 2 * i) = va_up (S4 (8 + 2 * i)) (S 4 (2 * i) / 64) q0 := by rw [← eS10, pd_bk _ (by omega), ← eS9, pd_own, hC7 _ (by omega), hVr, hU _ (by omega)]
                  have hB0 : S10 0 = va_cpy (S 0) (S 0) (64 * old) (64 * q0) 64 := by rw [← eS10, pd_bk _ (by decide), ← eS9, pd_bk _ (by omega), hC0]
                  have hxm : pd_xm S4 S10 (2 * i) (S 7 2 * j) := by
                    refine ⟨hB 3 (by decide) (by decide) (by decide) (by decide) (by omega), hB 4 (by decide) (by decide) (by decide) (by decide) (by omega), ?_, hB 6 (by decide) (by decide) (by decide) (by decide) (by omega), by rw [hB7 2 (by decide), hU72], by rw [hB7 3 (by decide), hU73], fun d hd _ => hB (8 + d) (by omega) (by omega) (by omega) (by omega) (by omega), fun z => ?_, fun q hq => ?_, fun q hq hz => ?_, ?_, Or.inr ⟨hcpU.mpr hcp, hB71, q0, hq0, by rw [hUct]; exact hqct, by rw [hBr, hUz], ?_⟩⟩
                    · rw [← eS10, pd_bk _ (by decide), ← eS9, pd_bk _ (by omega), hC7 5 (by decide), eV5, pd_bk _ (by decide), ← eS8, pd_own, hT 5 (by decide)]
                    · rw [hB0]
                      unfold va_cpy
                      by_cases q : 64 * q0 ≤ z ∧ z < 64 * q0 + 64
                      · rw [if_pos q]
                        exact hv.2.2.2.2.2 _
                      · rw [if_neg q]
                        exact hv.2.2.2.2.2 _
                    · rw [hB1]
                      by_cases hqq : q = q0
                      · subst hqq
                        rw [va_up_self]
                        decide
                      · rw [va_up_ne _ _ hqq]
                        exact hTb q hq
                    · rw [hB1] at hz
                      have hqq : q ≠ q0 := fun w => by
                        subst w
                        rw [va_up_self] at hz
                        omega
                      rw [va_up_ne _ _ hqq, hT1 q hq] at hz
                      refine ⟨by rw [hUct]; exact hz, fun _ => ?_⟩
                      rw [hBr, hUz, va_up_self]
                      exact fun w => hqq w.symm
                    · rw [hB1, pd_nz_in (by rw [← h4b 1 (by decide)]; exact hqz) (by decide) hq0, hTz, hUz]
                      omega
                    · rw [hB0, hU 0 (by decide), hU (8 + 2 * i) (by omega), hUz, hold]
                  refine lv_iconst (v := nI 0) hx hb d_MO_append_271 (by decide) ?_
                  refine lv_istore (lv' := [(11, .int (nI 0)), (12, .int (nI 8)), (10, .int (nI (((pd_pf (S 4 (2 * i) + S 7 2 * j)) - (pd_pf (S 4 (2 * i)))) + 1))), (9, .int (nI 1)), (8, .int (nI ((S 4 (2 * i)) / 64))), (7, .int (nI (S 4 (2 * i)))), (6, .int (nI (n - (pd_nz (pd_ct S) 1024)))), (5, .int (nI (2 * i))), (4, .int (nI (S 7 2))), (3, .int (nI ((S 7 2) * j))), (0, .ref (am 0)), (1, .int (nI i)), (2, .int (nI j))]) hx hb d_MO_append_272 hl (by decide) rfl (fun ls hl => ?_)
                  have hl := lv_sub hl [0, 5, 7, 8, 9, 10, 11, 12] rfl
                  have hl : lv_has ls 13 [(11, .int (nI 0)), (7, .int (nI (S 4 (2 * i)))), (5, .int (nI (2 * i))), (4, .int (nI (S 7 2))), (3, .int (nI ((S 7 2) * j))), (0, .ref (am 0)), (1, .int (nI i)), (2, .int (nI j))] := hl
                  refine pw_loop (fun mm H locs ls => ∃ (X : pdS) (k : Nat), mm = S 7 2 * j - k ∧ k ≤ S 7 2 * j ∧ pd_ml S4 S10 X (2 * i) (S 7 2 * j) (fun q => S 3 (q % S 7 2)) k ∧ va_P (dC, dI) pwCl (mw n am cI cL cZ X) H ∧ va_D A (mw n am cI cL cZ X) ∧ va_S A s.heap H locs ∧ lv_has ls 13 [(11, .int (nI k)), (7, .int (nI (S 4 (2 * i)))), (5, .int (nI (2 * i))), (4, .int (nI (S 7 2))), (3, .int (nI ((S 7 2) * j))), (0, .ref (am 0)), (1, .int (nI i)), (2, .int (nI j))]) ?_ _ _ _ _ ⟨S10, 0, rfl, by omega, pd_ml_0 hxm, hP, hD, hS, hl⟩
                  rintro mm2 H locs ls ⟨X, k, hmm2, hk, hml2, hP, hD, hS, hl⟩ ih3
                  have hXb : ∀ d, d ≠ 0 → d ≠ 1 → d ≠ 8 + 2 * i → X d = S10 d := hml2.1
                  have hX3 : X 3 = S 3 := by rw [hXb 3 (by decide) (by decide) (by omega), hxm.1, hU 3 (by decide)]
                  have hX4 : X 4 (2 * i) = S 4 (2 * i) := by rw [hXb 4 (by decide) (by decide) (by omega), hxm.2.1, hUz]
                  refine lv_iload hx hb d_MO_append_274 (lv_at hl 0 rfl) ?_
                  refine lv_iload_n hx hb d_MO_append_276 rfl (lv_at hl 4 rfl) ?_
                  refine pq_icmp_ge (tgt := 358) hx hb (by omega) (by omega) d_MO_append_277 (by decide) (fun h7 => ?_) (fun h7 => ?_)
                  · have hkk : k = S 7 2 * j := by omega
                    subst hkk
                    refine lv_aload_n hx hb d_MO_append_358 rfl (lv_at hl 5 rfl) ?_
                    refine va_get (C := "PageDriveModel") (T := F_MO) (N := 11) hx hb hg iw_MO hown hK hP (0) mw_g0 rfl 6 (by decide) (hg (Cond.fieldLink "PageDriveModel" 20 "PageDriveModel" "sizes" "[I") (wG_m10 (List.mem_of_getElem? (i := 29) rfl))) (fun _ h9 => h9) rfl d_MO_append_359 ?_
                    refine lv_iload hx hb d_MO_append_362 (lv_at hl 2 rfl) ?_
                    refine lv_iload hx hb d_MO_append_364 (lv_at hl 1 rfl) ?_
                    refine lv_iload_n hx hb d_MO_append_366 rfl (lv_at hl 4 rfl) ?_
                    refine pq_iadd hx hb d_MO_append_367 ?_
                    refine pm_size hx hb hK hP hD hS (by omega) rfl d_MO_append_368 (fun H locs hP hD hS => ?_)
                    generalize eS11 : pd_st X 4 (2 * i) ((S 4 (2 * i)) + ((S 7 2) * j)) = S11 at hP hD
                    have hZ4 : S11 4 (2 * i) = S 4 (2 * i) + S 7 2 * j := by rw [← eS11, pd_self]
                    refine lv_aload_n hx hb d_MO_append_369 rfl (lv_at hl 5 rfl) ?_
                    refine va_get (C := "PageDriveModel") (T := F_MO) (N := 11) hx hb hg iw_MO hown hK hP (0) mw_g0 rfl 6 (by decide) (hg (Cond.fieldLink "PageDriveModel" 20 "PageDriveModel" "sizes" "[I") (wG_m10 (List.mem_of_getElem? (i := 29) rfl))) (fun _ h9 => h9) rfl d_MO_append_370 ?_
                    refine lv_iload hx hb d_MO_append_373 (lv_at hl 2 rfl) ?_
                    refine pq_iald hx hb hK hP 4 0 mw_g4 rfl (by omega) (by omega) d_MO_append_375 ?_
                    refine pq_top (y := nI (S 4 (2 * i) + S 7 2 * j)) (by rw [hZ4]) ?_
                    obtain ⟨hap, hZ73⟩ := pd_ml_end (Z := S11) (by omega) hUv hxm hml2 hU72 (fun q => hv.2.2.2.2.1 _) (by rw [← eS11, hUz])
                    exact W.iret (v := (nI (S 4 (2 * i) + S 7 2 * j))) hx hb hret (fun t9 ht9 hW9 => ⟨⟨_, _, rfl, Or.inr (Or.inr ⟨hZ73, i, j, hi, rfl, hj1, hj2, rfl, hrr, rfl, pd_ap_0 hU hU71 hap⟩), by rw [ht9]; exact hP, va_K.moved hW9.alike hK, hD⟩, hS.F ht9⟩) hS.2.2 d_MO_append_376
                  · have hF : 0 < S 7 2 := by rcases Nat.eq_zero_or_pos (S 7 2) with q | q; rw [q, Nat.zero_mul] at h7; omega; exact q
                    have hmodk := Nat.mod_lt k hF
                    have hk400 : (S 4 (2 * i) + k) / 64 < 400 := by omega
                    refine lv_iload hx hb d_MO_append_280 (lv_at hl 1 rfl) ?_
                    refine lv_iload hx hb d_MO_append_282 (lv_at hl 0 rfl) ?_
                    refine pq_iadd hx hb d_MO_append_284 ?_
                    refine lv_istore (lv' := [(12, .int (nI ((S 4 (2 * i)) + k))), (11, .int (nI k)), (7, .int (nI (S 4 (2 * i)))), (5, .int (nI (2 * i))), (4, .int (nI (S 7 2))), (3, .int (nI ((S 7 2) * j))), (0, .ref (am 0)), (1, .int (nI i)), (2, .int (nI j))]) hx hb d_MO_append_285 hl (by decide) rfl (fun ls hl => ?_)
                    refine lv_iload hx hb d_MO_append_287 (lv_at hl 0 rfl) ?_
                    refine lv_bipush (v := nI 64) hx hb d_MO_append_289 (by decide) ?_
                    refine pq_irem hx hb (by omega) (by omega) (by omega) d_MO_append_291 ?_
                    refine pq_if_ne (tgt := 316) hx hb (by omega) d_MO_append_292 (by decide) (fun h8 => ?_) (fun h8 => ?_)
                    · have hx0 : ∀ z, X 0 z < 256 := fun z => by rw [hml2.2.2.2.2.1]; exact pd_wt_lt hxm.2.2.2.2.2.2.2.1 (fun q => hv.2.2.2.2.1 _) k z
                      have hxp : X (8 + 2 * i) ((S 4 (2 * i) + k) / 64) < 1024 := by
                        by_cases hlt : (S 4 (2 * i) + k) / 64 < pd_pf (S 4 (2 * i))
                        · rw [hml2.2.1 _ (by rw [hUz]; exact hlt)]
                          rcases hxm.2.2.2.2.2.2.2.2.2.2.2 with ⟨-, -, -, q4⟩ | ⟨-, -, nw, q3, -, q5, -⟩
                          · rw [q4]
                            exact hUv.2.1 (2 * i) _ (by omega) (by rw [hUz]; exact hlt)
                          · rw [q5]
                            unfold va_up
                            by_cases hq : (S 4 (2 * i) + k) / 64 = S4 4 (2 * i) / 64
                            · rw [if_pos hq]
                              exact q3
                            · rw [if_neg hq]
                              exact hUv.2.1 (2 * i) _ (by omega) (by rw [hUz]; exact hlt)
                        · exact (hml2.2.2.1 _ (by rw [hUz]; omega) (by rw [hUz]; unfold pd_pf; omega)).1
                      have hY3 : X 3 = S 3 := by exact hX3
                      refine lv_aload_n hx hb d_MO_append_316 rfl (lv_at hl 6 rfl) ?_
                      refine lv_aload_n hx hb d_MO_append_317 rfl (lv_at hl 6 rfl) ?_
                      refine va_get (C := "PageDriveModel") (T := F_MO) (N := 11) hx hb hg iw_MO hown hK hP (0) mw_g0 rfl 5 (by decide) (hg (Cond.fieldLink "PageDriveModel" 17 "PageDriveModel" "rows" "[I") (wG_m10 (List.mem_of_getElem? (i := 28) rfl))) (fun _ h9 => h9) rfl d_MO_append_318 ?_
                      refine lv_sipush (v := nI 400) hx hb d_MO_append_321 (by decide) ?_
                      refine lv_iload hx hb d_MO_append_324 (lv_at hl 3 rfl) ?_
                      refine pq_imul hx hb d_MO_append_326 ?_
                      refine lv_iload hx hb d_MO_append_327 (lv_at hl 0 rfl) ?_
                      refine lv_bipush (v := nI 64) hx hb d_MO_append_329 (by decide) ?_
                      refine pq_idiv hx hb (by omega) (by omega) (by omega) d_MO_append_331 ?_
                      refine pq_iadd hx hb d_MO_append_332 ?_
                      refine pm_rowld (d := (2 * i)) (k := (((S 4 (2 * i)) + k) / 64)) hx hb hK hP (by omega) (by omega) (by omega) rfl d_MO_append_333 ?_
                      refine lv_iload hx hb d_MO_append_334 (lv_at hl 0 rfl) ?_
                      refine lv_bipush (v := nI 64) hx hb d_MO_append_336 (by decide) ?_
                      refine pq_irem hx hb (by omega) (by omega) (by omega) d_MO_append_338 ?_
                      refine lv_aload_n hx hb d_MO_append_339 rfl (lv_at hl 6 rfl) ?_
                      refine va_get (C := "PageDriveModel") (T := F_MO) (N := 11) hx hb hg iw_MO hown hK hP (0) mw_g0 rfl 3 (by decide) (hg (Cond.fieldLink "PageDriveModel" 7 "PageDriveModel" "tape" "[I") (wG_m10 (List.mem_of_getElem? (i := 26) rfl))) (fun _ h9 => h9) rfl d_MO_append_340 ?_
                      refine lv_iload hx hb d_MO_append_343 (lv_at hl 1 rfl) ?_
                      refine lv_iload hx hb d_MO_append_345 (lv_at hl 4 rfl) ?_
                      refine pq_irem hx hb (by omega) (by omega) (by omega) d_MO_append_347 ?_
                      refine pq_iald hx hb hK hP 1 0 mw_g1 rfl (by omega) (by omega) d_MO_append_348 ?_
                      refine pq_top (y := nI (S 3 (k % S 7 2))) (by rw [hY3]) ?_
                      refine pw_callv (va_runV (As := [.int (nI (X (8 + (2 * i)) (((S 4 (2 * i)) + k) / 64))), .int (nI (((S 4 (2 * i)) + k) % 64)), .int (nI (S 3 (k % S 7 2)))]) (rest := []) ⟨hx, hb, hml, hown, hg⟩ (c_MO_write l dC dI cI cB cE cL cZ n am X (X (8 + (2 * i)) (((S 4 (2 * i)) + k) / 64)) ((S 4 (2 * i) + k) % 64) (S 3 (k % S 7 2)) (hxp) (by omega) (hv.2.2.2.2.1 _) (fun z => by have h9 := hx0 z; exact h9) H.size) (cwV 3 hg (gi_V (fun _ h => h) (wG_m12 (List.mem_of_getElem? (i := 10) rfl)) (wG_m12 (List.mem_of_getElem? (i := 11) rfl)) (wG_m14 (List.mem_of_getElem? (i := 14) rfl)) (wG_m1 (List.mem_of_getElem? (i := 6) rfl)) (wG_m12 (List.mem_of_getElem? (i := 12) rfl))) rfl rfl rfl (by decide +kernel) ⟨Nat.le_of_ble_eq_true rfl, Nat.le_of_ble_eq_true rfl⟩) (pw_pv hK hP hD (va_recv hK hP (ci := 4) (q0 := 0) rfl mw_g0) [.int (nI (X (8 + (2 * i)) (((S 4 (2 * i)) + k) / 64))), .int (nI (((S 4 (2 * i)) + k) % 64)), .int (nI (S 3 (k % S 7 2)))]) rfl rfl hl.1 rfl (lv_room (Nat.le_of_ble_eq_true rfl)) d_MO_append_349 ⟨Nat.le_of_ble_eq_true rfl, Nat.le_of_ble_eq_true rfl⟩) hD hS hA (fun Z H locs hr hP hD hS => ?_)
                      refine lv_iinc (v := (nI (k + 1))) (lv' := [(11, .int (nI (k + 1))), (12, .int (nI ((S 4 (2 * i)) + k))), (7, .int (nI (S 4 (2 * i)))), (5, .int (nI (2 * i))), (4, .int (nI (S 7 2))), (3, .int (nI ((S 7 2) * j))), (0, .ref (am 0)), (1, .int (nI i)), (2, .int (nI j))]) hx hb d_MO_append_352 hl (k := 1) rfl (pq_inc _) (by decide) rfl (fun ls hl => ?_)
                      refine lv_goto (tgt := 274) hx hb d_MO_append_355 (by decide) ?_
                      exact ih3 _ _ _ _ (by omega) ⟨Z, k + 1, rfl, by omega, pd_ml_b hml2 (by rw [hUz]; exact h8) (by rw [hr, hUz]), hP, hD, hS, lv_sub hl [0, 2, 3, 4, 5, 6, 7, 8] rfl⟩
                    · refine lv_aload_n hx hb d_MO_append_295 rfl (lv_at hl 6 rfl) ?_
                      refine va_get (C := "PageDriveModel") (T := F_MO) (N := 11) hx hb hg iw_MO hown hK hP (0) mw_g0 rfl 5 (by decide) (hg (Cond.fieldLink "PageDriveModel" 17 "PageDriveModel" "rows" "[I") (wG_m10 (List.mem_of_getElem? (i := 28) rfl))) (fun _ h9 => h9) rfl d_MO_append_296 ?_
                      refine lv_sipush (v := nI 400) hx hb d_MO_append_299 (by decide) ?_
                      refine lv_iload hx hb d_MO_append_302 (lv_at hl 3 rfl) ?_
                      refine pq_imul hx hb d_MO_append_304 ?_
                      refine lv_iload hx hb d_MO_append_305 (lv_at hl 0 rfl) ?_
                      refine lv_bipush (v := nI 64) hx hb d_MO_append_307 (by decide) ?_
                      refine pq_idiv hx hb (by omega) (by omega) (by omega) d_MO_append_309 ?_
                      refine pq_iadd hx hb d_MO_append_310 ?_
                      refine lv_aload_n hx hb d_MO_append_311 rfl (lv_at hl 6 rfl) ?_
                      refine pw_calli (va_runV (As := []) (rest := [.int (nI ((400 * (2 * i)) + (((S 4 (2 * i)) + k) / 64))), .ref (am 3)]) ⟨hx, hb, hml, hown, hg⟩ (c_MO_fresh l dC dI cI cB cE cL cZ n am X hml2.2.2.2.2.2.1 (by have h9 := hml2.2.2.2.2.2.2.2; rw [hUz] at h9; have h10 : pd_pf (S 4 (2 * i) + k) < pd_pf (S 4 (2 * i) + S 7 2 * j) := (by unfold pd_pf; omega); omega) H.size) (cwV 0 hg (gi_V (fun _ h => h) (wG_m12 (List.mem_of_getElem? (i := 7) rfl)) (wG_m12 (List.mem_of_getElem? (i := 8) rfl)) (wG_m14 (List.mem_of_getElem? (i := 13) rfl)) (wG_m1 (List.mem_of_getElem? (i := 6) rfl)) (wG_m12 (List.mem_of_getElem? (i := 9) rfl))) rfl rfl rfl (by decide +kernel) ⟨Nat.le_of_ble_eq_true rfl, Nat.le_of_ble_eq_true rfl⟩) (pw_pv hK hP hD (va_recv hK hP (ci := 4) (q0 := 0) rfl mw_g0) []) rfl rfl hl.1 rfl (lv_room (Nat.le_of_ble_eq_true rfl)) d_MO_append_312 ⟨Nat.le_of_ble_eq_true rfl, Nat.le_of_ble_eq_true rfl⟩) hD hS hA (fun rq X1 H locs hr hP hD hS => ?_)
                      obtain ⟨q1, hq1, hqz1, rfl, eX1⟩ := hr
                      refine pm_row (d := (2 * i)) (k := (((S 4 (2 * i)) + k) / 64)) hx hb hK hP hD hS (by omega) (by omega) (by omega) rfl d_MO_append_315 (fun H locs hP hD hS => ?_)
                      generalize eS12 : pd_st X1 (8 + (2 * i)) (((S 4 (2 * i)) + k) / 64) q1 = S12 at hP hD
                      have hx0 : ∀ z, S12 0 z < 256 := fun z => by rw [← eS12, pd_bk _ (by omega), eX1, pd_bk _ (by decide), hml2.2.2.2.2.1]; exact pd_wt_lt hxm.2.2.2.2.2.2.2.1 (fun q => hv.2.2.2.2.1 _) k z
                      have hYr : S12 (8 + 2 * i) ((S 4 (2 * i) + k) / 64) = q1 := by rw [← eS12, pd_self]
                      have hY3 : S12 3 = S 3 := by rw [← eS12, pd_bk _ (by omega), eX1, pd_bk _ (by decide), hX3]
                      refine lv_aload_n hx hb d_MO_append_316 rfl (lv_at hl 6 rfl) ?_
                      refine lv_aload_n hx hb d_MO_append_317 rfl (lv_at hl 6 rfl) ?_
                      refine va_get (C := "PageDriveModel") (T := F_MO) (N := 11) hx hb hg iw_MO hown hK hP (0) mw_g0 rfl 5 (by decide) (hg (Cond.fieldLink "PageDriveModel" 17 "PageDriveModel" "rows" "[I") (wG_m10 (List.mem_of_getElem? (i := 28) rfl))) (fun _ h9 => h9) rfl d_MO_append_318 ?_
                      refine lv_sipush (v := nI 400) hx hb d_MO_append_321 (by decide) ?_
                      refine lv_iload hx hb d_MO_append_324 (lv_at hl 3 rfl) ?_
                      refine pq_imul hx hb d_MO_append_326 ?_
                      refine lv_iload hx hb d_MO_append_327 (lv_at hl 0 rfl) ?_
                      refine lv_bipush (v := nI 64) hx hb d_MO_append_329 (by decide) ?_
                      refine pq_idiv hx hb (by omega) (by omega) (by omega) d_MO_append_331 ?_
                      refine pq_iadd hx hb d_MO_append_332 ?_
                      refine pm_rowld (d := (2 * i)) (k := (((S 4 (2 * i)) + k) / 64)) hx hb hK hP (by omega) (by omega) (by omega) rfl d_MO_append_333 ?_
                      refine lv_iload hx hb d_MO_append_334 (lv_at hl 0 rfl) ?_
                      refine lv_bipush (v := nI 64) hx hb d_MO_append_336 (by decide) ?_
                      refine pq_irem hx hb (by omega) (by omega) (by omega) d_MO_append_338 ?_
                      refine lv_aload_n hx hb d_MO_append_339 rfl (lv_at hl 6 rfl) ?_
                      refine va_get (C := "PageDriveModel") (T := F_MO) (N := 11) hx hb hg iw_MO hown hK hP (0) mw_g0 rfl 3 (by decide) (hg (Cond.fieldLink "PageDriveModel" 7 "PageDriveModel" "tape" "[I") (wG_m10 (List.mem_of_getElem? (i := 26) rfl))) (fun _ h9 => h9) rfl d_MO_append_340 ?_
                      refine lv_iload hx hb d_MO_append_343 (lv_at hl 1 rfl) ?_
                      refine lv_iload hx hb d_MO_append_345 (lv_at hl 4 rfl) ?_
                      refine pq_irem hx hb (by omega) (by omega) (by omega) d_MO_append_347 ?_
                      refine pq_iald hx hb hK hP 1 0 mw_g1 rfl (by omega) (by omega) d_MO_append_348 ?_
                      refine pq_top (y := nI (S 3 (k % S 7 2))) (by rw [hY3]) ?_
                      refine pw_callv (va_runV (As := [.int (nI (S12 (8 + (2 * i)) (((S 4 (2 * i)) + k) / 64))), .int (nI (((S 4 (2 * i)) + k) % 64)), .int (nI (S 3 (k % S 7 2)))]) (rest := []) ⟨hx, hb, hml, hown, hg⟩ (c_MO_write l dC dI cI cB cE cL cZ n am S12 (S12 (8 + (2 * i)) (((S 4 (2 * i)) + k) / 64)) ((S 4 (2 * i) + k) % 64) (S 3 (k % S 7 2)) (by rw [hYr]; exact hq1) (by omega) (hv.2.2.2.2.1 _) (fun z => by have h9 := hx0 z; exact h9) H.size) (cwV 3 hg (gi_V (fun _ h => h) (wG_m12 (List.mem_of_getElem? (i := 10) rfl)) (wG_m12 (List.mem_of_getElem? (i := 11) rfl)) (wG_m14 (List.mem_of_getElem? (i := 14) rfl)) (wG_m1 (List.mem_of_getElem? (i := 6) rfl)) (wG_m12 (List.mem_of_getElem? (i := 12) rfl))) rfl rfl rfl (by decide +kernel) ⟨Nat.le_of_ble_eq_true rfl, Nat.le_of_ble_eq_true rfl⟩) (pw_pv hK hP hD (va_recv hK hP (ci := 4) (q0 := 0) rfl mw_g0) [.int (nI (S12 (8 + (2 * i)) (((S 4 (2 * i)) + k) / 64))), .int (nI (((S 4 (2 * i)) + k) % 64)), .int (nI (S 3 (k % S 7 2)))]) rfl rfl hl.1 rfl (lv_room (Nat.le_of_ble_eq_true rfl)) d_MO_append_349 ⟨Nat.le_of_ble_eq_true rfl, Nat.le_of_ble_eq_true rfl⟩) hD hS hA (fun Z H locs hr hP hD hS => ?_)
                      refine lv_iinc (v := (nI (k + 1))) (lv' := [(11, .int (nI (k + 1))), (12, .int (nI ((S 4 (2 * i)) + k))), (7, .int (nI (S 4 (2 * i)))), (5, .int (nI (2 * i))), (4, .int (nI (S 7 2))), (3, .int (nI ((S 7 2) * j))), (0, .ref (am 0)), (1, .int (nI i)), (2, .int (nI j))]) hx hb d_MO_append_352 hl (k := 1) rfl (pq_inc _) (by decide) rfl (fun ls hl => ?_)
                      refine lv_goto (tgt := 274) hx hb d_MO_append_355 (by decide) ?_
                      exact ih3 _ _ _ _ (by omega) ⟨Z, k + 1, rfl, by omega, pd_ml_n hml2 h7 (by rw [hUz]; exact h8) hq1 hqz1 (by rw [hr, hYr, ← eS12, eX1, hUz]), hP, hD, hS, lv_sub hl [0, 2, 3, 4, 5, 6, 7, 8] rfl⟩
                · refine lv_aload_n hx hb d_MO_append_201 rfl (lv_at hl 10 rfl) ?_
                  refine va_get (C := "PageDriveModel") (T := F_MO) (N := 11) hx hb hg iw_MO hown hK hP (0) mw_g0 rfl 4 (by decide) (hg (Cond.fieldLink "PageDriveModel" 13 "PageDriveModel" "pages" "[J") (wG_m10 (List.mem_of_getElem? (i := 27) rfl))) (fun _ h9 => h9) rfl d_MO_append_202 ?_
                  refine lv_bipush (v := nI 8) hx hb d_MO_append_205 (by decide) ?_
                  refine lv_iload hx hb d_MO_append_207 (lv_at hl 1 rfl) ?_
                  refine pq_imul hx hb d_MO_append_209 ?_
                  refine lv_iload hx hb d_MO_append_210 (lv_at hl 0 rfl) ?_
                  refine pq_iadd hx hb d_MO_append_212 ?_
                  refine lv_aload_n hx hb d_MO_append_213 rfl (lv_at hl 10 rfl) ?_
                  refine va_get (C := "PageDriveModel") (T := F_MO) (N := 11) hx hb hg iw_MO hown hK hP (0) mw_g0 rfl 4 (by decide) (hg (Cond.fieldLink "PageDriveModel" 13 "PageDriveModel" "pages" "[J") (wG_m10 (List.mem_of_getElem? (i := 27) rfl))) (fun _ h9 => h9) rfl d_MO_append_214 ?_
                  refine lv_bipush (v := nI 8) hx hb d_MO_append_217 (by decide) ?_
                  refine lv_aload_n hx hb d_MO_append_219 rfl (lv_at hl 10 rfl) ?_
                  refine va_get (C := "PageDriveModel") (T := F_MO) (N := 11) hx hb hg iw_MO hown hK hP (0) mw_g0 rfl 5 (by decide) (hg (Cond.fieldLink "PageDriveModel" 17 "PageDriveModel" "rows" "[I") (wG_m10 (List.mem_of_getElem? (i := 28) rfl))) (fun _ h9 => h9) rfl d_MO_append_220 ?_
                  refine lv_sipush (v := nI 400) hx hb d_MO_append_223 (by decide) ?_
                  refine lv_iload hx hb d_MO_append_226 (lv_at hl 7 rfl) ?_
                  refine pq_imul hx hb d_MO_append_228 ?_
                  refine lv_iload hx hb d_MO_append_229 (lv_at hl 4 rfl) ?_
                  refine pq_iadd hx hb d_MO_append_231 ?_
                  refine pm_rowld (d := (2 * i)) (k := ((S 4 (2 * i)) / 64)) hx hb hK hP (by omega) (by omega) (by omega) rfl d_MO_append_232 ?_
                  refine pq_top (y := nI old) (by rw [hCr]) ?_
                  refine pq_imul hx hb d_MO_append_233 ?_
                  refine lv_iload hx hb d_MO_append_234 (lv_at hl 0 rfl) ?_
                  refine pq_iadd hx hb d_MO_append_236 ?_
                  refine pm_pgld hx hb hK hP (by omega) rfl d_MO_append_237 ?_
                  refine pm_pgst (g := va_cpy (S 0) (S 0) (64 * old) (64 * q0) (8 * (k + 1))) hx hb hK hP hD hS (by omega) (by rw [hC0]; exact pd_cp8 hqne h6) (fun w hw => by rw [hC0]; exact pd_cp8o h6 hw) rfl d_MO_append_238 (fun H locs hP hD hS => ?_)
                  refine lv_iinc (v := (nI (k + 1))) (lv' := [(12, .int (nI (k + 1))), (11, .int (nI q0)), (10, .int (nI (((pd_pf (S 4 (2 * i) + S 7 2 * j)) - (pd_pf (S 4 (2 * i)))) + 1))), (9, .int (nI 1)), (8, .int (nI ((S 4 (2 * i)) / 64))), (7, .int (nI (S 4 (2 * i)))), (6, .int (nI (n - (pd_nz (pd_ct S) 1024)))), (5, .int (nI (2 * i))), (4, .int (nI (S 7 2))), (3, .int (nI ((S 7 2) * j))), (0, .ref (am 0)), (1, .int (nI i)), (2, .int (nI j))]) hx hb d_MO_append_239 hl (k := 0) rfl (pq_inc _) (by decide) rfl (fun ls hl => ?_)
                  refine lv_goto (tgt := 194) hx hb d_MO_append_242 (by decide) ?_
                  exact ih _ _ _ _ (by omega) ⟨_, k + 1, rfl, by omega, by rw [hC, bx_uu], hP, hD, hS, hl⟩
              · funext b
                by_cases hb : b = 0
                · subst hb
                  rw [va_up_self, hV0]
                  funext z
                  rw [pk_cpy_out (by omega)]
                · rw [va_up_ne _ _ hb]
            · refine lv_aload_n hx hb d_MO_append_166 rfl (lv_at hl 8 rfl) ?_
              refine lv_iconst (v := nI 2) hx hb d_MO_append_167 (by decide) ?_
              refine pw_calli (va_runV (As := [.int (nI 2)]) (rest := []) ⟨hx, hb, hml, hown, hg⟩ (c_MO_fail l dC dI cI cB cE cL cZ n am T 2 H.size) (cwV 1 hg (gi_V (fun _ h => h) (wG_m11 (List.mem_of_getElem? (i := 30) rfl)) (wG_m11 (List.mem_of_getElem? (i := 31) rfl)) (wG_m14 (List.mem_of_getElem? (i := 11) rfl)) (wG_m1 (List.mem_of_getElem? (i := 6) rfl)) (wG_m11 (List.mem_of_getElem? (i := 32) rfl))) rfl rfl rfl (by decide +kernel) ⟨Nat.le_of_ble_eq_true rfl, Nat.le_of_ble_eq_true rfl⟩) (pw_pv hK hP hD (va_recv hK hP (ci := 4) (q0 := 0) rfl mw_g0) [.int (nI 2)]) rfl rfl hl.1 rfl (lv_room (Nat.le_of_ble_eq_true rfl)) d_MO_append_168 ⟨Nat.le_of_ble_eq_true rfl, Nat.le_of_ble_eq_true rfl⟩) hD hS hA (fun rf S2 H locs hr hP hD hS => ?_)
              obtain ⟨rfl, eS2⟩ := hr
              exact W.iret (v := (nI 0)) hx hb hret (fun t9 ht9 hW9 => ⟨⟨_, S2, rfl, Or.inr (Or.inl ⟨by rw [eS2, pd_self], ⟨i, j, hi, rfl, hj1, hj2, rfl, fun q => by have := q.1; omega⟩, by rw [eS2]; exact pd_sa_tr hUsa (pd_sa_tr (pd_sa_1 hT) (pd_sa_73 T 2))⟩), by rw [ht9]; exact hP, va_K.moved hW9.alike hK, hD⟩, hS.F ht9⟩) hS.2.2 d_MO_append_171
        · refine pq_if_eq (tgt := 142) hx hb (by omega) d_MO_append_135 (by decide) (fun _ => ?_) (fun h9 => absurd h9 (by omega))
          refine lv_iconst (v := nI 0) hx hb d_MO_append_142 (by decide) ?_
          refine pq_iadd hx hb d_MO_append_143 ?_
          refine lv_istore (lv' := [(10, .int (nI (((pd_pf (S 4 (2 * i) + S 7 2 * j)) - (pd_pf (S 4 (2 * i)))) + 0))), (9, .int (nI 0)), (8, .int (nI ((S 4 (2 * i)) / 64))), (7, .int (nI (S 4 (2 * i)))), (6, .int (nI (n - (pd_nz (pd_ct S) 1024)))), (5, .int (nI (2 * i))), (4, .int (nI (S 7 2))), (3, .int (nI ((S 7 2) * j))), (0, .ref (am 0)), (1, .int (nI i)), (2, .int (nI j))]) hx hb d_MO_append_144 hl (by decide) rfl (fun ls hl => ?_)
          refine lv_iload hx hb d_MO_append_146 (lv_at hl 0 rfl) ?_
          refine lv_iload hx hb d_MO_append_148 (lv_at hl 4 rfl) ?_
          refine pq_icmp_gt (tgt := 166) hx hb (by omega) (by omega) d_MO_append_150 (by decide) (fun h4 => ?_) (fun h4 => ?_)
          · refine lv_aload_n hx hb d_MO_append_166 rfl (lv_at hl 8 rfl) ?_
            refine lv_iconst (v := nI 2) hx hb d_MO_append_167 (by decide) ?_
            refine pw_calli (va_runV (As := [.int (nI 2)]) (rest := []) ⟨hx, hb, hml, hown, hg⟩ (c_MO_fail l dC dI cI cB cE cL cZ n am T 2 H.size) (cwV 1 hg (gi_V (fun _ h => h) (wG_m11 (List.mem_of_getElem? (i := 30) rfl)) (wG_m11 (List.mem_of_getElem? (i := 31) rfl)) (wG_m14 (List.mem_of_getElem? (i := 11) rfl)) (wG_m1 (List.mem_of_getElem? (i := 6) rfl)) (wG_m11 (List.mem_of_getElem? (i := 32) rfl))) rfl rfl rfl (by decide +kernel) ⟨Nat.le_of_ble_eq_true rfl, Nat.le_of_ble_eq_true rfl⟩) (pw_pv hK hP hD (va_recv hK hP (ci := 4) (q0 := 0) rfl mw_g0) [.int (nI 2)]) rfl rfl hl.1 rfl (lv_room (Nat.le_of_ble_eq_true rfl)) d_MO_append_168 ⟨Nat.le_of_ble_eq_true rfl, Nat.le_of_ble_eq_true rfl⟩) hD hS hA (fun rf S2 H locs hr hP hD hS => ?_)
            obtain ⟨rfl, eS2⟩ := hr
            exact W.iret (v := (nI 0)) hx hb hret (fun t9 ht9 hW9 => ⟨⟨_, S2, rfl, Or.inr (Or.inl ⟨by rw [eS2, pd_self], ⟨i, j, hi, rfl, hj1, hj2, rfl, fun q => by rcases q.2 with ⟨q1, q2⟩ | ⟨q1, q2⟩ <;> first | exact absurd hcp q1 | exact absurd q1 hcp | omega⟩, by rw [eS2]; exact pd_sa_tr hUsa (pd_sa_tr (pd_sa_1 hT) (pd_sa_73 T 2))⟩), by rw [ht9]; exact hP, va_K.moved hW9.alike hK, hD⟩, hS.F ht9⟩) hS.2.2 d_MO_append_171
          · refine lv_iload hx hb d_MO_append_153 (lv_at hl 3 rfl) ?_
            refine lv_iload_n hx hb d_MO_append_155 rfl (lv_at hl 7 rfl) ?_
            refine pq_iadd hx hb d_MO_append_156 ?_
            refine pw_callip (va_runS (As := [.int (nI ((S 4 (2 * i)) + ((S 7 2) * j)))]) (rest := []) ⟨hx, hb, hml, hown, hg⟩ (c_MO_needed l dC dI cI cB cE cL cZ (mw n am cI cL cZ T) (S 4 (2 * i) + S 7 2 * j) (by omega) H.size) (cwS 1 hg (gi_S (fun _ h => h) (wG_m12 (List.mem_of_getElem? (i := 4) rfl)) (wG_m12 (List.mem_of_getElem? (i := 5) rfl)) (wG_m1 (List.mem_of_getElem? (i := 6) rfl)) (wG_m12 (List.mem_of_getElem? (i := 6) rfl))) rfl rfl rfl (by decide +kernel) ⟨Nat.le_of_ble_eq_true rfl, Nat.le_of_ble_eq_true rfl⟩) (pw_ps hK hP hD [.int (nI ((S 4 (2 * i)) + ((S 7 2) * j)))]) rfl rfl hl.1 rfl (lv_room (Nat.le_of_ble_eq_true rfl)) d_MO_append_157 ⟨Nat.le_of_ble_eq_true rfl, Nat.le_of_ble_eq_true rfl⟩) hD hS hA (fun r13 H locs hr hP hD hS => ?_)
            subst hr
            refine lv_sipush (v := nI 400) hx hb d_MO_append_160 (by decide) ?_
            refine pq_icmp_le (tgt := 172) hx hb (by omega) (by omega) d_MO_append_163 (by decide) (fun h5 => ?_) (fun h5 => ?_)
            · have hrr : pd_rr (n - pd_nz (pd_ct S) 1024) S (2 * i) (S 7 2 * j) := ⟨h5, Or.inr ⟨hcp, by omega⟩⟩
              have hz : S 4 (2 * i) + S 7 2 * j ≤ 25600 := by unfold pd_pf at h5; omega
              refine lv_aload_n hx hb d_MO_append_172 rfl (lv_at hl 8 rfl) ?_
              refine va_get (C := "PageDriveModel") (T := F_MO) (N := 11) hx hb hg iw_MO hown hK hP (0) mw_g0 rfl 7 (by decide) (hg (Cond.fieldLink "PageDriveModel" 23 "PageDriveModel" "there" "[Z") (wG_m10 (List.mem_of_getElem? (i := 30) rfl))) (fun _ h9 => h9) rfl d_MO_append_173 ?_
              refine lv_iload hx hb d_MO_append_176 (lv_at hl 5 rfl) ?_
              refine lv_iconst (v := nI 1) hx hb d_MO_append_178 (by decide) ?_
              refine pm_there hx hb hK hP hD hS (Nat.le_refl 1) (by omega) rfl d_MO_append_179 (fun H locs hP hD hS => ?_)
              generalize eS14 : pd_st T 5 (2 * i) 1 = S14 at hP hD
              have h4b : ∀ b, b ≠ 5 → S14 b = T b := fun b hb => by rw [← eS14, pd_bk _ hb]
              refine lv_iload hx hb d_MO_append_180 (lv_at hl 1 rfl) ?_
              refine pq_if_eq (tgt := 271) hx hb (by omega) d_MO_append_182 (by decide) (fun _ => ?_) (fun h9 => absurd h9 (by omega))
              have hB : ∀ b, b ≠ 1 → b ≠ 5 → S14 b = S4 b := fun b b1 b5 => by rw [h4b b b5, hT b b1]
              have hxm : pd_xm S4 S14 (2 * i) (S 7 2 * j) := by
                refine ⟨hB 3 (by decide) (by decide), hB 4 (by decide) (by decide), ?_, hB 6 (by decide) (by decide), by rw [hB 7 (by decide) (by decide), hU72], by rw [hB 7 (by decide) (by decide), hU73], fun d _ _ => hB (8 + d) (by omega) (by omega), fun z => ?_, fun q hq => ?_, fun q hq hz => ?_, ?_, Or.inl ⟨fun q => hcp (hcpU.mp q), hB 0 (by decide) (by decide), by rw [hB 7 (by decide) (by decide)], hB (8 + 2 * i) (by omega) (by omega)⟩⟩
                · rw [← eS14, pd_own, hT 5 (by decide)]
                · rw [hB 0 (by decide) (by decide), hU 0 (by decide)]
                  exact hv.2.2.2.2.2 _
                · rw [h4b 1 (by decide)]
                  exact hTb q hq
                · rw [h4b 1 (by decide), hT1 q hq] at hz
                  exact ⟨by rw [hUct]; exact hz, fun q => absurd (hcpU.mp q) hcp⟩
                · rw [h4b 1 (by decide), hTz, hUz]
                  omega
              refine lv_iconst (v := nI 0) hx hb d_MO_append_271 (by decide) ?_
              refine lv_istore (lv' := [(11, .int (nI 0)), (10, .int (nI (((pd_pf (S 4 (2 * i) + S 7 2 * j)) - (pd_pf (S 4 (2 * i)))) + 0))), (9, .int (nI 0)), (8, .int (nI ((S 4 (2 * i)) / 64))), (7, .int (nI (S 4 (2 * i)))), (6, .int (nI (n - (pd_nz (pd_ct S) 1024)))), (5, .int (nI (2 * i))), (4, .int (nI (S 7 2))), (3, .int (nI ((S 7 2) * j))), (0, .ref (am 0)), (1, .int (nI i)), (2, .int (nI j))]) hx hb d_MO_append_272 hl (by decide) rfl (fun ls hl => ?_)
              have hl := lv_sub hl [0, 4, 6, 7, 8, 9, 10, 11] rfl
              have hl : lv_has ls 13 [(11, .int (nI 0)), (7, .int (nI (S 4 (2 * i)))), (5, .int (nI (2 * i))), (4, .int (nI (S 7 2))), (3, .int (nI ((S 7 2) * j))), (0, .ref (am 0)), (1, .int (nI i)), (2, .int (nI j))] := hl
              refine pw_loop (fun mm H locs ls => ∃ (X : pdS) (k : Nat), mm = S 7 2 * j - k ∧ k ≤ S 7 2 * j ∧ pd_ml S4 S14 X (2 * i) (S 7 2 * j) (fun q => S 3 (q % S 7 2)) k ∧ va_P (dC, dI) pwCl (mw n am cI cL cZ X) H ∧ va_D A (mw n am cI cL cZ X) ∧ va_S A s.heap H locs ∧ lv_has ls 13 [(11, .int (nI k)), (7, .int (nI (S 4 (2 * i)))), (5, .int (nI (2 * i))), (4, .int (nI (S 7 2))), (3, .int (nI ((S 7 2) * j))), (0, .ref (am 0)), (1, .int (nI i)), (2, .int (nI j))]) ?_ _ _ _ _ ⟨S14, 0, rfl, by omega, pd_ml_0 hxm, hP, hD, hS, hl⟩
              rintro mm2 H locs ls ⟨X, k, hmm2, hk, hml2, hP, hD, hS, hl⟩ ih3
              have hXb : ∀ d, d ≠ 0 → d ≠ 1 → d ≠ 8 + 2 * i → X d = S14 d := hml2.1
              have hX3 : X 3 = S 3 := by rw [hXb 3 (by decide) (by decide) (by omega), hxm.1, hU 3 (by decide)]
              have hX4 : X 4 (2 * i) = S 4 (2 * i) := by rw [hXb 4 (by decide) (by decide) (by omega), hxm.2.1, hUz]
              refine lv_iload hx hb d_MO_append_274 (lv_at hl 0 rfl) ?_
              refine lv_iload_n hx hb d_MO_append_276 rfl (lv_at hl 4 rfl) ?_
              refine pq_icmp_ge (tgt := 358) hx hb (by omega) (by omega) d_MO_append_277 (by decide) (fun h7 => ?_) (fun h7 => ?_)
              · have hkk : k = S 7 2 * j := by omega
                subst hkk
                refine lv_aload_n hx hb d_MO_append_358 rfl (lv_at hl 5 rfl) ?_
                refine va_get (C := "PageDriveModel") (T := F_MO) (N := 11) hx hb hg iw_MO hown hK hP (0) mw_g0 rfl 6 (by decide) (hg (Cond.fieldLink "PageDriveModel" 20 "PageDriveModel" "sizes" "[I") (wG_m10 (List.mem_of_getElem? (i := 29) rfl))) (fun _ h9 => h9) rfl d_MO_append_359 ?_
                refine lv_iload hx hb d_MO_append_362 (lv_at hl 2 rfl) ?_
                refine lv_iload hx hb d_MO_append_364 (lv_at hl 1 rfl) ?_
                refine lv_iload_n hx hb d_MO_append_366 rfl (lv_at hl 4 rfl) ?_
                refine pq_iadd hx hb d_MO_append_367 ?_
                refine pm_size hx hb hK hP hD hS (by omega) rfl d_MO_append_368 (fun H locs hP hD hS => ?_)
                generalize eS15 : pd_st X 4 (2 * i) ((S 4 (2 * i)) + ((S 7 2) * j)) = S15 at hP hD
                have hZ4 : S15 4 (2 * i) = S 4 (2 * i) + S 7 2 * j := by rw [← eS15, pd_self]
                refine lv_aload_n hx hb d_MO_append_369 rfl (lv_at hl 5 rfl) ?_
                refine va_get (C := "PageDriveModel") (T := F_MO) (N := 11) hx hb hg iw_MO hown hK hP (0) mw_g0 rfl 6 (by decide) (hg (Cond.fieldLink "PageDriveModel" 20 "PageDriveModel" "sizes" "[I") (wG_m10 (List.mem_of_getElem? (i := 29) rfl))) (fun _ h9 => h9) rfl d_MO_append_370 ?_
                refine lv_iload hx hb d_MO_append_373 (lv_at hl 2 rfl) ?_
                refine pq_iald hx hb hK hP 4 0 mw_g4 rfl (by omega) (by omega) d_MO_append_375 ?_
                refine pq_top (y := nI (S 4 (2 * i) + S 7 2 * j)) (by rw [hZ4]) ?_
                obtain ⟨hap, hZ73⟩ := pd_ml_end (Z := S15) (by omega) hUv hxm hml2 hU72 (fun q => hv.2.2.2.2.1 _) (by rw [← eS15, hUz])
                exact W.iret (v := (nI (S 4 (2 * i) + S 7 2 * j))) hx hb hret (fun t9 ht9 hW9 => ⟨⟨_, _, rfl, Or.inr (Or.inr ⟨hZ73, i, j, hi, rfl, hj1, hj2, rfl, hrr, rfl, pd_ap_0 hU hU71 hap⟩), by rw [ht9]; exact hP, va_K.moved hW9.alike hK, hD⟩, hS.F ht9⟩) hS.2.2 d_MO_append_376
              · have hF : 0 < S 7 2 := by rcases Nat.eq_zero_or_pos (S 7 2) with q | q; rw [q, Nat.zero_mul] at h7; omega; exact q
                have hmodk := Nat.mod_lt k hF
                have hk400 : (S 4 (2 * i) + k) / 64 < 400 := by omega
                refine lv_iload hx hb d_MO_append_280 (lv_at hl 1 rfl) ?_
                refine lv_iload hx hb d_MO_append_282 (lv_at hl 0 rfl) ?_
                refine pq_iadd hx hb d_MO_append_284 ?_
                refine lv_istore (lv' := [(12, .int (nI ((S 4 (2 * i)) + k))), (11, .int (nI k)), (7, .int (nI (S 4 (2 * i)))), (5, .int (nI (2 * i))), (4, .int (nI (S 7 2))), (3, .int (nI ((S 7 2) * j))), (0, .ref (am 0)), (1, .int (nI i)), (2, .int (nI j))]) hx hb d_MO_append_285 hl (by decide) rfl (fun ls hl => ?_)
                refine lv_iload hx hb d_MO_append_287 (lv_at hl 0 rfl) ?_
                refine lv_bipush (v := nI 64) hx hb d_MO_append_289 (by decide) ?_
                refine pq_irem hx hb (by omega) (by omega) (by omega) d_MO_append_291 ?_
                refine pq_if_ne (tgt := 316) hx hb (by omega) d_MO_append_292 (by decide) (fun h8 => ?_) (fun h8 => ?_)
                · have hx0 : ∀ z, X 0 z < 256 := fun z => by rw [hml2.2.2.2.2.1]; exact pd_wt_lt hxm.2.2.2.2.2.2.2.1 (fun q => hv.2.2.2.2.1 _) k z
                  have hxp : X (8 + 2 * i) ((S 4 (2 * i) + k) / 64) < 1024 := by
                    by_cases hlt : (S 4 (2 * i) + k) / 64 < pd_pf (S 4 (2 * i))
                    · rw [hml2.2.1 _ (by rw [hUz]; exact hlt)]
                      rcases hxm.2.2.2.2.2.2.2.2.2.2.2 with ⟨-, -, -, q4⟩ | ⟨-, -, nw, q3, -, q5, -⟩
                      · rw [q4]
                        exact hUv.2.1 (2 * i) _ (by omega) (by rw [hUz]; exact hlt)
                      · rw [q5]
                        unfold va_up
                        by_cases hq : (S 4 (2 * i) + k) / 64 = S4 4 (2 * i) / 64
                        · rw [if_pos hq]
                          exact q3
                        · rw [if_neg hq]
                          exact hUv.2.1 (2 * i) _ (by omega) (by rw [hUz]; exact hlt)
                    · exact (hml2.2.2.1 _ (by rw [hUz]; omega) (by rw [hUz]; unfold pd_pf; omega)).1
                  have hY3 : X 3 = S 3 := by exact hX3
                  refine lv_aload_n hx hb d_MO_append_316 rfl (lv_at hl 6 rfl) ?_
                  refine lv_aload_n hx hb d_MO_append_317 rfl (lv_at hl 6 rfl) ?_
                  refine va_get (C := "PageDriveModel") (T := F_MO) (N := 11) hx hb hg iw_MO hown hK hP (0) mw_g0 rfl 5 (by decide) (hg (Cond.fieldLink "PageDriveModel" 17 "PageDriveModel" "rows" "[I") (wG_m10 (List.mem_of_getElem? (i := 28) rfl))) (fun _ h9 => h9) rfl d_MO_append_318 ?_
                  refine lv_sipush (v := nI 400) hx hb d_MO_append_321 (by decide) ?_
                  refine lv_iload hx hb d_MO_append_324 (lv_at hl 3 rfl) ?_
                  refine pq_imul hx hb d_MO_append_326 ?_
                  refine lv_iload hx hb d_MO_append_327 (lv_at hl 0 rfl) ?_
                  refine lv_bipush (v := nI 64) hx hb d_MO_append_329 (by decide) ?_
                  refine pq_idiv hx hb (by omega) (by omega) (by omega) d_MO_append_331 ?_
                  refine pq_iadd hx hb d_MO_append_332 ?_
                  refine pm_rowld (d := (2 * i)) (k := (((S 4 (2 * i)) + k) / 64)) hx hb hK hP (by omega) (by omega) (by omega) rfl d_MO_append_333 ?_
                  refine lv_iload hx hb d_MO_append_334 (lv_at hl 0 rfl) ?_
                  refine lv_bipush (v := nI 64) hx hb d_MO_append_336 (by decide) ?_
                  refine pq_irem hx hb (by omega) (by omega) (by omega) d_MO_append_338 ?_
                  refine lv_aload_n hx hb d_MO_append_339 rfl (lv_at hl 6 rfl) ?_
                  refine va_get (C := "PageDriveModel") (T := F_MO) (N := 11) hx hb hg iw_MO hown hK hP (0) mw_g0 rfl 3 (by decide) (hg (Cond.fieldLink "PageDriveModel" 7 "PageDriveModel" "tape" "[I") (wG_m10 (List.mem_of_getElem? (i := 26) rfl))) (fun _ h9 => h9) rfl d_MO_append_340 ?_
                  refine lv_iload hx hb d_MO_append_343 (lv_at hl 1 rfl) ?_
                  refine lv_iload hx hb d_MO_append_345 (lv_at hl 4 rfl) ?_
                  refine pq_irem hx hb (by omega) (by omega) (by omega) d_MO_append_347 ?_
                  refine pq_iald hx hb hK hP 1 0 mw_g1 rfl (by omega) (by omega) d_MO_append_348 ?_
                  refine pq_top (y := nI (S 3 (k % S 7 2))) (by rw [hY3]) ?_
                  refine pw_callv (va_runV (As := [.int (nI (X (8 + (2 * i)) (((S 4 (2 * i)) + k) / 64))), .int (nI (((S 4 (2 * i)) + k) % 64)), .int (nI (S 3 (k % S 7 2)))]) (rest := []) ⟨hx, hb, hml, hown, hg⟩ (c_MO_write l dC dI cI cB cE cL cZ n am X (X (8 + (2 * i)) (((S 4 (2 * i)) + k) / 64)) ((S 4 (2 * i) + k) % 64) (S 3 (k % S 7 2)) (hxp) (by omega) (hv.2.2.2.2.1 _) (fun z => by have h9 := hx0 z; exact h9) H.size) (cwV 3 hg (gi_V (fun _ h => h) (wG_m12 (List.mem_of_getElem? (i := 10) rfl)) (wG_m12 (List.mem_of_getElem? (i := 11) rfl)) (wG_m14 (List.mem_of_getElem? (i := 14) rfl)) (wG_m1 (List.mem_of_getElem? (i := 6) rfl)) (wG_m12 (List.mem_of_getElem? (i := 12) rfl))) rfl rfl rfl (by decide +kernel) ⟨Nat.le_of_ble_eq_true rfl, Nat.le_of_ble_eq_true rfl⟩) (pw_pv hK hP hD (va_recv hK hP (ci := 4) (q0 := 0) rfl mw_g0) [.int (nI (X (8 + (2 * i)) (((S 4 (2 * i)) + k) / 64))), .int (nI (((S 4 (2 * i)) + k) % 64)), .int (nI (S 3 (k % S 7 2)))]) rfl rfl hl.1 rfl (lv_room (Nat.le_of_ble_eq_true rfl)) d_MO_append_349 ⟨Nat.le_of_ble_eq_true rfl, Nat.le_of_ble_eq_true rfl⟩) hD hS hA (fun Z H locs hr hP hD hS => ?_)
                  refine lv_iinc (v := (nI (k + 1))) (lv' := [(11, .int (nI (k + 1))), (12, .int (nI ((S 4 (2 * i)) + k))), (7, .int (nI (S 4 (2 * i)))), (5, .int (nI (2 * i))), (4, .int (nI (S 7 2))), (3, .int (nI ((S 7 2) * j))), (0, .ref (am 0)), (1, .int (nI i)), (2, .int (nI j))]) hx hb d_MO_append_352 hl (k := 1) rfl (pq_inc _) (by decide) rfl (fun ls hl => ?_)
                  refine lv_goto (tgt := 274) hx hb d_MO_append_355 (by decide) ?_
                  exact ih3 _ _ _ _ (by omega) ⟨Z, k + 1, rfl, by omega, pd_ml_b hml2 (by rw [hUz]; exact h8) (by rw [hr, hUz]), hP, hD, hS, lv_sub hl [0, 2, 3, 4, 5, 6, 7, 8] rfl⟩
                · refine lv_aload_n hx hb d_MO_append_295 rfl (lv_at hl 6 rfl) ?_
                  refine va_get (C := "PageDriveModel") (T := F_MO) (N := 11) hx hb hg iw_MO hown hK hP (0) mw_g0 rfl 5 (by decide) (hg (Cond.fieldLink "PageDriveModel" 17 "PageDriveModel" "rows" "[I") (wG_m10 (List.mem_of_getElem? (i := 28) rfl))) (fun _ h9 => h9) rfl d_MO_append_296 ?_
                  refine lv_sipush (v := nI 400) hx hb d_MO_append_299 (by decide) ?_
                  refine lv_iload hx hb d_MO_append_302 (lv_at hl 3 rfl) ?_
                  refine pq_imul hx hb d_MO_append_304 ?_
                  refine lv_iload hx hb d_MO_append_305 (lv_at hl 0 rfl) ?_
                  refine lv_bipush (v := nI 64) hx hb d_MO_append_307 (by decide) ?_
                  refine pq_idiv hx hb (by omega) (by omega) (by omega) d_MO_append_309 ?_
                  refine pq_iadd hx hb d_MO_append_310 ?_
                  refine lv_aload_n hx hb d_MO_append_311 rfl (lv_at hl 6 rfl) ?_
                  refine pw_calli (va_runV (As := []) (rest := [.int (nI ((400 * (2 * i)) + (((S 4 (2 * i)) + k) / 64))), .ref (am 3)]) ⟨hx, hb, hml, hown, hg⟩ (c_MO_fresh l dC dI cI cB cE cL cZ n am X hml2.2.2.2.2.2.1 (by have h9 := hml2.2.2.2.2.2.2.2; rw [hUz] at h9; have h10 : pd_pf (S 4 (2 * i) + k) < pd_pf (S 4 (2 * i) + S 7 2 * j) := (by unfold pd_pf; omega); omega) H.size) (cwV 0 hg (gi_V (fun _ h => h) (wG_m12 (List.mem_of_getElem? (i := 7) rfl)) (wG_m12 (List.mem_of_getElem? (i := 8) rfl)) (wG_m14 (List.mem_of_getElem? (i := 13) rfl)) (wG_m1 (List.mem_of_getElem? (i := 6) rfl)) (wG_m12 (List.mem_of_getElem? (i := 9) rfl))) rfl rfl rfl (by decide +kernel) ⟨Nat.le_of_ble_eq_true rfl, Nat.le_of_ble_eq_true rfl⟩) (pw_pv hK hP hD (va_recv hK hP (ci := 4) (q0 := 0) rfl mw_g0) []) rfl rfl hl.1 rfl (lv_room (Nat.le_of_ble_eq_true rfl)) d_MO_append_312 ⟨Nat.le_of_ble_eq_true rfl, Nat.le_of_ble_eq_true rfl⟩) hD hS hA (fun rq X1 H locs hr hP hD hS => ?_)
                  obtain ⟨q1, hq1, hqz1, rfl, eX1⟩ := hr
                  refine pm_row (d := (2 * i)) (k := (((S 4 (2 * i)) + k) / 64)) hx hb hK hP hD hS (by omega) (by omega) (by omega) rfl d_MO_append_315 (fun H locs hP hD hS => ?_)
                  generalize eS16 : pd_st X1 (8 + (2 * i)) (((S 4 (2 * i)) + k) / 64) q1 = S16 at hP hD
                  have hx0 : ∀ z, S16 0 z < 256 := fun z => by rw [← eS16, pd_bk _ (by omega), eX1, pd_bk _ (by decide), hml2.2.2.2.2.1]; exact pd_wt_lt hxm.2.2.2.2.2.2.2.1 (fun q => hv.2.2.2.2.1 _) k z
                  have hYr : S16 (8 + 2 * i) ((S 4 (2 * i) + k) / 64) = q1 := by rw [← eS16, pd_self]
                  have hY3 : S16 3 = S 3 := by rw [← eS16, pd_bk _ (by omega), eX1, pd_bk _ (by decide), hX3]
                  refine lv_aload_n hx hb d_MO_append_316 rfl (lv_at hl 6 rfl) ?_
                  refine lv_aload_n hx hb d_MO_append_317 rfl (lv_at hl 6 rfl) ?_
                  refine va_get (C := "PageDriveModel") (T := F_MO) (N := 11) hx hb hg iw_MO hown hK hP (0) mw_g0 rfl 5 (by decide) (hg (Cond.fieldLink "PageDriveModel" 17 "PageDriveModel" "rows" "[I") (wG_m10 (List.mem_of_getElem? (i := 28) rfl))) (fun _ h9 => h9) rfl d_MO_append_318 ?_
                  refine lv_sipush (v := nI 400) hx hb d_MO_append_321 (by decide) ?_
                  refine lv_iload hx hb d_MO_append_324 (lv_at hl 3 rfl) ?_
                  refine pq_imul hx hb d_MO_append_326 ?_
                  refine lv_iload hx hb d_MO_append_327 (lv_at hl 0 rfl) ?_
                  refine lv_bipush (v := nI 64) hx hb d_MO_append_329 (by decide) ?_
                  refine pq_idiv hx hb (by omega) (by omega) (by omega) d_MO_append_331 ?_
                  refine pq_iadd hx hb d_MO_append_332 ?_
                  refine pm_rowld (d := (2 * i)) (k := (((S 4 (2 * i)) + k) / 64)) hx hb hK hP (by omega) (by omega) (by omega) rfl d_MO_append_333 ?_
                  refine lv_iload hx hb d_MO_append_334 (lv_at hl 0 rfl) ?_
                  refine lv_bipush (v := nI 64) hx hb d_MO_append_336 (by decide) ?_
                  refine pq_irem hx hb (by omega) (by omega) (by omega) d_MO_append_338 ?_
                  refine lv_aload_n hx hb d_MO_append_339 rfl (lv_at hl 6 rfl) ?_
                  refine va_get (C := "PageDriveModel") (T := F_MO) (N := 11) hx hb hg iw_MO hown hK hP (0) mw_g0 rfl 3 (by decide) (hg (Cond.fieldLink "PageDriveModel" 7 "PageDriveModel" "tape" "[I") (wG_m10 (List.mem_of_getElem? (i := 26) rfl))) (fun _ h9 => h9) rfl d_MO_append_340 ?_
                  refine lv_iload hx hb d_MO_append_343 (lv_at hl 1 rfl) ?_
                  refine lv_iload hx hb d_MO_append_345 (lv_at hl 4 rfl) ?_
                  refine pq_irem hx hb (by omega) (by omega) (by omega) d_MO_append_347 ?_
                  refine pq_iald hx hb hK hP 1 0 mw_g1 rfl (by omega) (by omega) d_MO_append_348 ?_
                  refine pq_top (y := nI (S 3 (k % S 7 2))) (by rw [hY3]) ?_
                  refine pw_callv (va_runV (As := [.int (nI (S16 (8 + (2 * i)) (((S 4 (2 * i)) + k) / 64))), .int (nI (((S 4 (2 * i)) + k) % 64)), .int (nI (S 3 (k % S 7 2)))]) (rest := []) ⟨hx, hb, hml, hown, hg⟩ (c_MO_write l dC dI cI cB cE cL cZ n am S16 (S16 (8 + (2 * i)) (((S 4 (2 * i)) + k) / 64)) ((S 4 (2 * i) + k) % 64) (S 3 (k % S 7 2)) (by rw [hYr]; exact hq1) (by omega) (hv.2.2.2.2.1 _) (fun z => by have h9 := hx0 z; exact h9) H.size) (cwV 3 hg (gi_V (fun _ h => h) (wG_m12 (List.mem_of_getElem? (i := 10) rfl)) (wG_m12 (List.mem_of_getElem? (i := 11) rfl)) (wG_m14 (List.mem_of_getElem? (i := 14) rfl)) (wG_m1 (List.mem_of_getElem? (i := 6) rfl)) (wG_m12 (List.mem_of_getElem? (i := 12) rfl))) rfl rfl rfl (by decide +kernel) ⟨Nat.le_of_ble_eq_true rfl, Nat.le_of_ble_eq_true rfl⟩) (pw_pv hK hP hD (va_recv hK hP (ci := 4) (q0 := 0) rfl mw_g0) [.int (nI (S16 (8 + (2 * i)) (((S 4 (2 * i)) + k) / 64))), .int (nI (((S 4 (2 * i)) + k) % 64)), .int (nI (S 3 (k % S 7 2)))]) rfl rfl hl.1 rfl (lv_room (Nat.le_of_ble_eq_true rfl)) d_MO_append_349 ⟨Nat.le_of_ble_eq_true rfl, Nat.le_of_ble_eq_true rfl⟩) hD hS hA (fun Z H locs hr hP hD hS => ?_)
                  refine lv_iinc (v := (nI (k + 1))) (lv' := [(11, .int (nI (k + 1))), (12, .int (nI ((S 4 (2 * i)) + k))), (7, .int (nI (S 4 (2 * i)))), (5, .int (nI (2 * i))), (4, .int (nI (S 7 2))), (3, .int (nI ((S 7 2) * j))), (0, .ref (am 0)), (1, .int (nI i)), (2, .int (nI j))]) hx hb d_MO_append_352 hl (k := 1) rfl (pq_inc _) (by decide) rfl (fun ls hl => ?_)
                  refine lv_goto (tgt := 274) hx hb d_MO_append_355 (by decide) ?_
                  exact ih3 _ _ _ _ (by omega) ⟨Z, k + 1, rfl, by omega, pd_ml_n hml2 h7 (by rw [hUz]; exact h8) hq1 hqz1 (by rw [hr, hYr, ← eS16, eX1, hUz]), hP, hD, hS, lv_sub hl [0, 2, 3, 4, 5, 6, 7, 8] rfl⟩
            · refine lv_aload_n hx hb d_MO_append_166 rfl (lv_at hl 8 rfl) ?_
              refine lv_iconst (v := nI 2) hx hb d_MO_append_167 (by decide) ?_
              refine pw_calli (va_runV (As := [.int (nI 2)]) (rest := []) ⟨hx, hb, hml, hown, hg⟩ (c_MO_fail l dC dI cI cB cE cL cZ n am T 2 H.size) (cwV 1 hg (gi_V (fun _ h => h) (wG_m11 (List.mem_of_getElem? (i := 30) rfl)) (wG_m11 (List.mem_of_getElem? (i := 31) rfl)) (wG_m14 (List.mem_of_getElem? (i := 11) rfl)) (wG_m1 (List.mem_of_getElem? (i := 6) rfl)) (wG_m11 (List.mem_of_getElem? (i := 32) rfl))) rfl rfl rfl (by decide +kernel) ⟨Nat.le_of_ble_eq_true rfl, Nat.le_of_ble_eq_true rfl⟩) (pw_pv hK hP hD (va_recv hK hP (ci := 4) (q0 := 0) rfl mw_g0) [.int (nI 2)]) rfl rfl hl.1 rfl (lv_room (Nat.le_of_ble_eq_true rfl)) d_MO_append_168 ⟨Nat.le_of_ble_eq_true rfl, Nat.le_of_ble_eq_true rfl⟩) hD hS hA (fun rf S2 H locs hr hP hD hS => ?_)
              obtain ⟨rfl, eS2⟩ := hr
              exact W.iret (v := (nI 0)) hx hb hret (fun t9 ht9 hW9 => ⟨⟨_, S2, rfl, Or.inr (Or.inl ⟨by rw [eS2, pd_self], ⟨i, j, hi, rfl, hj1, hj2, rfl, fun q => by have := q.1; omega⟩, by rw [eS2]; exact pd_sa_tr hUsa (pd_sa_tr (pd_sa_1 hT) (pd_sa_73 T 2))⟩), by rw [ht9]; exact hP, va_K.moved hW9.alike hK, hD⟩, hS.F ht9⟩) hS.2.2 d_MO_append_171
    · refine pq_if_ne (tgt := 28) hx hb (by omega) d_MO_append_19 (by decide) (fun h9 => absurd h9 (by omega)) (fun _ => ?_)
      refine lv_aload_n hx hb d_MO_append_22 rfl (lv_at hl 0 rfl) ?_
      refine lv_iconst (v := nI 1) hx hb d_MO_append_23 (by decide) ?_
      refine pw_calli (va_runV (As := [.int (nI 1)]) (rest := []) ⟨hx, hb, hml, hown, hg⟩ (c_MO_fail l dC dI cI cB cE cL cZ n am S1 1 H.size) (cwV 1 hg (gi_V (fun _ h => h) (wG_m11 (List.mem_of_getElem? (i := 30) rfl)) (wG_m11 (List.mem_of_getElem? (i := 31) rfl)) (wG_m14 (List.mem_of_getElem? (i := 11) rfl)) (wG_m1 (List.mem_of_getElem? (i := 6) rfl)) (wG_m11 (List.mem_of_getElem? (i := 32) rfl))) rfl rfl rfl (by decide +kernel) ⟨Nat.le_of_ble_eq_true rfl, Nat.le_of_ble_eq_true rfl⟩) (pw_pv hK hP hD (va_recv hK hP (ci := 4) (q0 := 0) rfl mw_g0) [.int (nI 1)]) rfl rfl hl.1 rfl (lv_room (Nat.le_of_ble_eq_true rfl)) d_MO_append_24 ⟨Nat.le_of_ble_eq_true rfl, Nat.le_of_ble_eq_true rfl⟩) hD hS hA (fun rf S2 H locs hr hP hD hS => ?_)
      obtain ⟨rfl, eS2⟩ := hr
      exact W.iret (v := (nI 0)) hx hb hret (fun t9 ht9 hW9 => ⟨⟨_, S2, rfl, Or.inl ⟨by rw [eS2, pd_self], Or.inr (fun x hx1 hx2 => hw1.elim (fun q => pd_below q x hx1 (by omega)) (fun q => pd_above (b := 16) (by decide) q x hx2)), by rw [eS2]; exact hsa 1⟩, by rw [ht9]; exact hP, va_K.moved hW9.alike hK, hD⟩, hS.F ht9⟩) hS.2.2 d_MO_append_27
  · refine pq_if_ne (tgt := 22) hx hb (by omega) d_MO_append_9 (by decide) (fun _ => ?_) (fun h9 => absurd h9 (by omega))
    refine lv_aload_n hx hb d_MO_append_22 rfl (lv_at hl 0 rfl) ?_
    refine lv_iconst (v := nI 1) hx hb d_MO_append_23 (by decide) ?_
    refine pw_calli (va_runV (As := [.int (nI 1)]) (rest := []) ⟨hx, hb, hml, hown, hg⟩ (c_MO_fail l dC dI cI cB cE cL cZ n am S1 1 H.size) (cwV 1 hg (gi_V (fun _ h => h) (wG_m11 (List.mem_of_getElem? (i := 30) rfl)) (wG_m11 (List.mem_of_getElem? (i := 31) rfl)) (wG_m14 (List.mem_of_getElem? (i := 11) rfl)) (wG_m1 (List.mem_of_getElem? (i := 6) rfl)) (wG_m11 (List.mem_of_getElem? (i := 32) rfl))) rfl rfl rfl (by decide +kernel) ⟨Nat.le_of_ble_eq_true rfl, Nat.le_of_ble_eq_true rfl⟩) (pw_pv hK hP hD (va_recv hK hP (ci := 4) (q0 := 0) rfl mw_g0) [.int (nI 1)]) rfl rfl hl.1 rfl (lv_room (Nat.le_of_ble_eq_true rfl)) d_MO_append_24 ⟨Nat.le_of_ble_eq_true rfl, Nat.le_of_ble_eq_true rfl⟩) hD hS hA (fun rf S2 H locs hr hP hD hS => ?_)
    obtain ⟨rfl, eS2⟩ := hr
    exact W.iret (v := (nI 0)) hx hb hret (fun t9 ht9 hW9 => ⟨⟨_, S2, rfl, Or.inl ⟨by rw [eS2, pd_self], Or.inl hno, by rw [eS2]; exact hsa 1⟩, by rw [ht9]; exact hP, va_K.moved hW9.alike hK, hD⟩, hS.F ht9⟩) hS.2.2 d_MO_append_27
