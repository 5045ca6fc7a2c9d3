/-! THE LAW: rows -/
theorem pl_swP {D : va_G} {cl : List vw_C} {w1 w2 : va_W} {H : Heap} (h : va_P D cl (w1 ++ w2) H) : va_P D cl (w2 ++ w1) H := va_P.app (pn_Pr h) (pn_Pl h)
theorem pl_swD {A : Nat → Prop} {w1 w2 : va_W} (h : va_D A (w1 ++ w2)) : va_D A (w2 ++ w1) := va_D.app (pn_Dr h) (pn_Dl h) (fun i j x y hi hj q => pn_apart h j i y x hj hi q.symm)
def la_c (L : Nat) (xs : Nat → Int32) : Int32 := if 0 < L then xs 0 else 0
def la_x (a b : Int32) : Int64 := (a.toInt64 <<< ((nI 32).toInt64 &&& 63)) ||| (b.toInt64 &&& 4294967295)
def la_b (a : Int32) : Nat := if a = 0 then 0 else 1
theorem la_b1 (a : Int32) : la_b a ≤ 1 := by
  unfold la_b
  split <;> omega
def la_lv (i ob a2 a1 b : Nat) : List (Nat × Value) := [(4, .int (nI i)), (3, .ref ob), (2, .ref a2), (1, .ref a1), (0, .ref b)]
theorem gi_SW {Ts : List Cond} {own : String} {idx : Nat} {y : MethodName} {x : Cond} (hs : ∀ w ∈ wsG, w ∈ Ts) (h1 : Cond.methodLink own idx y ∈ wsG) (h2 : Cond.static y ∈ wsG) (h4 : Cond.initialized y.cls ∈ wsG) (h : x ∈ wsG) : GoodIn Ts (va_wsS own idx y (x :: wsG)) := gi_1 hs h1 (gi_1 hs h2 (gi_1 hs h4 (gi_in hs h)))
abbrev la_w (n : Nat) (am ad : Nat → Nat) (ob : Nat) (cI cB cE cL cZ : ClassId) (Q S : pdS) (g : Nat → Int64) : va_W := mw n am cI cL cZ Q ++ (pn_o cL ob g ++ pw n ad cI cB cE S)
section PL1
variable {p : Program} {l : Launch} {e : Env} {R : Room} {s : State} {m : MethodId} {args : Array Value} {below : List Frame} {meth : Method} {c : Code} {H : Heap} {locs : List Loc} {cells slots : Nat} {Q : State → Prop}
variable {D : va_G} {tys : List (ClassId × FieldType)} {Wd : va_W} {A : Nat → Prop} {H0 : Heap} {pc : Nat} {ls : Array Slot} {rest st0 : List Value} {a : Array Value} {mc ms : Nat} {cc : ByteArray}
theorem pl_calli {σ : Type} {post : Int32 → σ → Prop} {Wf : σ → va_W} {wr wc : va_W} (hr : va_Run p l e R s m args below meth c H locs cells slots mc ms (F0 m pc ls st0) rest (va_Qi post (pw_pos D tys Wf (va_A wc H.size)) (va_A wc H.size) a) (va_A wc H.size)) (hP : va_P D pwCl (wc ++ wr) H) (hD : va_D A (wc ++ wr)) (hS : va_S A H0 H locs) (hA : ∀ q, H0.size ≤ q → A q) (kk : ∀ (r : Int32) (u : σ) (H1 : Heap) (locs1 : List Loc), post r u → va_P D pwCl (Wf u ++ wr) H1 → va_D A (Wf u ++ wr) → va_S A H0 H1 locs1 → W p l e R s m args below meth c H1 locs1 (cells + mc) (slots + ms) Q (F0 m (pc + 3) ls (.int r :: rest))) : W p l e R s m args below meth c H locs cells slots Q (F0 m pc ls st0) := pn_calli hr (pl_swP hP) (pl_swD hD) hS hA (fun r u H1 locs1 h1 h2 h3 h4 => kk r u H1 locs1 h1 (pl_swP h2) (pl_swD h3) h4)
/-- script[i + j] -/
theorem la_ld (hx : p.tables.exec = Jvm.exec) (hb : c.code = cc) {b L i j : Nat} {xs : Nat → Int32} (hX : va_X b L xs s H0) (hbl : b < H0.size) (hbA : ¬ A b) (hS : va_S A H0 H locs) (hL : L ≤ 2049) (hj : i + j < L) (h0 : ls[0]? = some (.val (.ref b))) (h4 : ls[4]? = some (.val (.int (nI i)))) {z : Int} (hz : Int32.ofInt z = nI j)
    (d0 : decode cc pc = .ok (.aload_n 0, 1)) (d1 : decode cc (pc + 1) = .ok (.iload 4, 2)) (d3 : decode cc (pc + 3) = .ok (.iconst z, 1)) (d4 : decode cc (pc + 4) = .ok (.iadd, 1)) (d5 : decode cc (pc + 5) = .ok (.iaload, 1))
    (kk : W p l e R s m args below meth c H locs cells slots Q (F0 m (pc + 6) ls (.int (xs (i + j)) :: rest))) : W p l e R s m args below meth c H locs cells slots Q (F0 m pc ls rest) := by
  refine lv_aload_n hx hb d0 rfl h0 ?_
  refine lv_iload hx hb d1 h4 ?_
  refine lv_iconst (v := nI j) hx hb d3 hz ?_
  refine lv_iadd hx hb d4 ?_
  rw [nI_add]
  refine va_sld hx hb hX hbl hbA hS (vp_in_nI hj (by omega)) d5 ?_
  rw [nI_clamp (show i + j < 2 ^ 31 by omega)]
  exact kk
/-- (long) script[i + 1] << 32 | script[i + 2] & 0xffffffffL -/
theorem la_wide (hx : p.tables.exec = Jvm.exec) (hb : c.code = cc) {b L i : Nat} {xs : Nat → Int32} (hX : va_X b L xs s H0) (hbl : b < H0.size) (hbA : ¬ A b) (hS : va_S A H0 H locs) (hL : L ≤ 2049) (hj : i + 2 < L) (h0 : ls[0]? = some (.val (.ref b))) (h4 : ls[4]? = some (.val (.int (nI i)))) {own : String} {index : Nat} (hown : s.vm.findClass own = some m.cls) (hconst : (Cond.constantLong own index 4294967295).before args s = true)
    (d0 : decode cc pc = .ok (.aload_n 0, 1)) (d1 : decode cc (pc + 1) = .ok (.iload 4, 2)) (d3 : decode cc (pc + 3) = .ok (.iconst 1, 1)) (d4 : decode cc (pc + 4) = .ok (.iadd, 1)) (d5 : decode cc (pc + 5) = .ok (.iaload, 1)) (d6 : decode cc (pc + 6) = .ok (.i2l, 1)) (d7 : decode cc (pc + 7) = .ok (.bipush 32, 2)) (d9 : decode cc (pc + 9) = .ok (.lshl, 1))
    (e0 : decode cc (pc + 10) = .ok (.aload_n 0, 1)) (e1 : decode cc (pc + 11) = .ok (.iload 4, 2)) (e3 : decode cc (pc + 13) = .ok (.iconst 2, 1)) (e4 : decode cc (pc + 14) = .ok (.iadd, 1)) (e5 : decode cc (pc + 15) = .ok (.iaload, 1)) (e6 : decode cc (pc + 16) = .ok (.i2l, 1)) (e7 : decode cc (pc + 17) = .ok (.ldc2_w index, 3)) (e8 : decode cc (pc + 20) = .ok (.land, 1)) (e9 : decode cc (pc + 21) = .ok (.lor, 1))
    (kk : W p l e R s m args below meth c H locs cells slots Q (F0 m (pc + 22) ls (.long (la_x (xs (i + 1)) (xs (i + 2))) :: rest))) : W p l e R s m args below meth c H locs cells slots Q (F0 m pc ls rest) := by
  refine la_ld (j := 1) hx hb hX hbl hbA hS hL (by omega) h0 h4 (by decide) d0 d1 d3 d4 d5 ?_
  refine lv_i2l hx hb d6 rfl ?_
  refine lv_bipush (v := nI 32) hx hb d7 (by decide) ?_
  refine lv_lshl hx hb d9 rfl ?_
  refine la_ld (j := 2) hx hb hX hbl hbA hS hL (by omega) h0 h4 (by decide) e0 e1 e3 e4 e5 ?_
  refine lv_i2l hx hb e6 rfl ?_
  refine lv_ldc2 hx hb hown hconst e7 ?_
  refine lv_land hx hb e8 ?_
  refine lv_lor hx hb e9 ?_
  exact kk
/-- script[i + 2] != 0 -/
theorem la_bool (hx : p.tables.exec = Jvm.exec) (hb : c.code = cc) {b L i : Nat} {xs : Nat → Int32} (hX : va_X b L xs s H0) (hbl : b < H0.size) (hbA : ¬ A b) (hS : va_S A H0 H locs) (hL : L ≤ 2049) (hj : i + 2 < L) (h0 : ls[0]? = some (.val (.ref b))) (h4 : ls[4]? = some (.val (.int (nI i))))
    (d0 : decode cc pc = .ok (.aload_n 0, 1)) (d1 : decode cc (pc + 1) = .ok (.iload 4, 2)) (d3 : decode cc (pc + 3) = .ok (.iconst 2, 1)) (d4 : decode cc (pc + 4) = .ok (.iadd, 1)) (d5 : decode cc (pc + 5) = .ok (.iaload, 1)) (d6 : decode cc (pc + 6) = .ok (.ifCond .eq 7, 3)) (d9 : decode cc (pc + 9) = .ok (.iconst 1, 1)) (d10 : decode cc (pc + 10) = .ok (.goto 4, 3)) (d13 : decode cc (pc + 13) = .ok (.iconst 0, 1))
    (kk : W p l e R s m args below meth c H locs cells slots Q (F0 m (pc + 14) ls (.int (nI (la_b (xs (i + 2)))) :: rest))) : W p l e R s m args below meth c H locs cells slots Q (F0 m pc ls rest) := by
  refine la_ld (j := 2) hx hb hX hbl hbA hS hL (by omega) h0 h4 (by decide) d0 d1 d3 d4 d5 ?_
  refine lv_if_eq (tgt := pc + 13) hx hb d6 (by omega) (fun h => ?_) (fun h => ?_)
  · refine lv_iconst (v := nI (la_b (xs (i + 2)))) hx hb d13 (by unfold la_b; rw [if_pos h]; decide) ?_
    exact kk
  · refine lv_iconst (v := nI (la_b (xs (i + 2)))) hx hb d9 (by unfold la_b; rw [if_neg h]; decide) ?_
    refine lv_goto (tgt := pc + 14) hx hb d10 (by omega) ?_
    exact kk
end PL1
set_option maxHeartbeats 4000000 in
set_option maxRecDepth 100000 in
/-- cell(script, 0) -/
theorem c_LA_cell (l : Launch) (b L : Nat) (xs : Nat → Int32) (hL : L ≤ 2049) (sz : Nat) : Met l y_LA_cell w_LA_cell ({ frames := 0, cells := 0, slots := 0, locals := 0 }) (va_Pc [.ref b, .int (nI 0)] (fun U => U.heap.size = sz ∧ va_X b L xs U U.heap ∧ b < sz)) (va_Qi (fun (r : Int32) (_ : Unit) => r = la_c L xs) (fun _ _ => True) (fun q => sz ≤ q)) 0 0 (fun q => sz ≤ q) := by
  refine Met.ofW (cc := b_LA_cell) (maxL := 2) (ret := (some .int)) (by decide) rfl ?_
  intro p e s m args below meth c s₁ B hml hv
  obtain ⟨rfl, hsz, hX, hbl⟩ := hv
  have hx := B.exec
  have hb := B.bytes
  have hret := B.returns
  have hlocks := B.notSynchronized
  subst hsz
  have hS : va_S (fun q => s.heap.size ≤ q) s.heap s.heap [] := va_S.rf
  have hbA : ¬ (fun q : Nat => s.heap.size ≤ q) b := Nat.not_le.mpr hbl
  have hl := lv_entry ([.ref b, .int (nI 0)]) (n := 2) (Nat.le_of_ble_eq_true rfl)
  rw [lg_entry_eq]
  generalize (lg_sl ([.ref b, .int (nI 0)]) ++ List.replicate (2 - (lg_sl ([.ref b, .int (nI 0)])).length) Slot.unset).toArray = ls at hl ⊢
  have hl : lv_has ls 2 [(0, .ref b), (1, .int (nI 0))] := hl
  refine lv_iload_n hx hb d_LA_cell_0 rfl (lv_at hl 1 rfl) ?_
  refine lv_aload_n hx hb d_LA_cell_1 rfl (lv_at hl 0 rfl) ?_
  refine va_slen hx hb hX hbl hbA hS d_LA_cell_2 ?_
  refine lv_icmp_ge (tgt := 12) hx hb d_LA_cell_3 (by decide) (fun h => ?_) (fun h => ?_)
  · have h0 : ¬ 0 < L := fun q => absurd h (nI_ge q (by omega))
    refine lv_iconst (v := 0) hx hb d_LA_cell_12 (by decide) ?_
    exact W.iret (v := 0) hx hb hret (fun t9 ht9 hW9 => ⟨⟨_, (), rfl, by unfold la_c; rw [if_neg h0], trivial⟩, hS.F ht9⟩) hS.2.2 d_LA_cell_13
  · have h0 : 0 < L := by
      rcases Nat.eq_zero_or_pos L with q | q
      · exact absurd (show nI L ≤ nI 0 from by rw [q]; exact nI_le (Nat.le_refl _) (by decide)) h
      · exact q
    refine lv_aload_n hx hb d_LA_cell_6 rfl (lv_at hl 0 rfl) ?_
    refine lv_iload_n hx hb d_LA_cell_7 rfl (lv_at hl 1 rfl) ?_
    refine va_sld hx hb hX hbl hbA hS (vp_in_nI h0 (by omega)) d_LA_cell_8 ?_
    refine lv_goto (tgt := 13) hx hb d_LA_cell_9 (by decide) ?_
    exact W.iret (v := xs (nI 0).toNatClampNeg) hx hb hret (fun t9 ht9 hW9 => ⟨⟨_, (), rfl, by unfold la_c; rw [if_pos h0, nI_clamp (by decide)], trivial⟩, hS.F ht9⟩) hS.2.2 d_LA_cell_13
