/-! NEW CELLS: worlds that grow, calls with the rest of the caller's world left as it is -/
theorem pn_Pr {D : va_G} {cl : List vw_C} {w1 w2 : va_W} {H : Heap} (h : va_P D cl (w1 ++ w2) H) : va_P D cl w2 H := fun k q hk => h (w1.length + k) q (by rw [List.getElem?_append_right (Nat.le_add_right _ _), Nat.add_sub_cancel_left]; exact hk)
theorem pn_gl {w1 w2 : va_W} {k : Nat} {q : Nat × va_E} (hk : w1[k]? = some q) : (w1 ++ w2)[k]? = some q := by
  rw [List.getElem?_append_left (List.getElem?_eq_some_iff.mp hk).1]
  exact hk
theorem pn_gr {w1 w2 : va_W} {k : Nat} {q : Nat × va_E} (hk : w2[k]? = some q) : (w1 ++ w2)[w1.length + k]? = some q := by
  rw [List.getElem?_append_right (Nat.le_add_right _ _), Nat.add_sub_cancel_left]
  exact hk
theorem pn_Pl {D : va_G} {cl : List vw_C} {w1 w2 : va_W} {H : Heap} (h : va_P D cl (w1 ++ w2) H) : va_P D cl w1 H := fun k q hk => h k q (pn_gl hk)
theorem pn_Dr {A : Nat → Prop} {w1 w2 : va_W} (h : va_D A (w1 ++ w2)) : va_D A w2 := ⟨fun i j x y hi hj e => by
  have := h.1 (w1.length + i) (w1.length + j) x y (pn_gr hi) (pn_gr hj) e
  omega, fun k q hk => h.2 _ q (pn_gr hk)⟩
theorem pn_Dl {A : Nat → Prop} {w1 w2 : va_W} (h : va_D A (w1 ++ w2)) : va_D A w1 := ⟨fun i j x y hi hj e => h.1 i j x y (pn_gl hi) (pn_gl hj) e, fun k q hk => h.2 _ q (pn_gl hk)⟩
theorem pn_apart {A : Nat → Prop} {w1 w2 : va_W} (h : va_D A (w1 ++ w2)) (i j : Nat) (x y : Nat × va_E) (hi : w1[i]? = some x) (hj : w2[j]? = some y) : x.1 ≠ y.1 := fun e => by
  have h1 := h.1 i (w1.length + j) x y (pn_gl hi) (pn_gr hj) e
  have h2 := (List.getElem?_eq_some_iff.mp hi).1
  omega
def pg_N (U : State) : Prop := va_Nw (.methodLinkNest "PageDrive" 33 ⟨"PageDrive$Entry", "<init>", "()V"⟩ "PageDrive") U ∧ va_Nw (.methodLinkNest "PageDrive$Entry" 9 ⟨"PageDrive$Content", "<init>", "()V"⟩ "PageDrive") U ∧ va_AO "PageDrive$Entry" U
theorem pg_N.warm {s U : State} (hW : s.WarmedH U.vm) (h : pg_N s) : pg_N U := ⟨va_Nw.warmM hW h.1, va_Nw.warmM hW h.2.1, va_AO.moved hW.alike h.2.2⟩
theorem pg_N.same {u U : State} (hv : u.vm = U.vm) (h : pg_N u) : pg_N U := ⟨va_Nw.same rfl hv h.1, va_Nw.same rfl hv h.2.1, va_AO.moved (by rw [hv]; exact Vm.Alike.refl U.vm) h.2.2⟩
def pn_pre (D : va_G) (tys : List (ClassId × FieldType)) (Wd : va_W) (sz : Nat) : State → Prop := fun U => pw_pre D tys Wd sz U ∧ pg_N U
abbrev CMn (l : Launch) (D : va_G) (tys : List (ClassId × FieldType)) (y : MethodName) (w : List Cond) (rm : Room) (av : List Value) (Wd : va_W) {σ : Type} (Wf : σ → va_W) (sz : Nat) (post : σ → Prop) (mc ms : Nat) : Prop := Met l y w rm (va_Pc av (pn_pre D tys Wd sz)) (va_Qv post (pw_pos D tys Wf (va_A Wd sz)) (va_A Wd sz)) mc ms (va_A Wd sz)
section PN
variable {p : Program} {l : Launch} {e : Env} {R : Room} {s : State} {m : MethodId} {args : Array Value} {below : List Frame} {meth : Method} {c : Code} {H : Heap} {locs : List Loc} {cells slots : Nat} {Q : State → Prop}
variable {D : va_G} {tys : List (ClassId × FieldType)} {Wd : va_W} {A : Nat → Prop} {H0 : Heap} {pc : Nat} {ls : Array Slot} {rest st0 : List Value} {a : Array Value} {mc ms : Nat} {cc : ByteArray}
theorem pn_blind (av : List Value) (sz : Nat) : FrameBlind (va_Pc av (pn_pre D tys Wd sz)) := fun a U g mk q => by
  obtain ⟨q0, q1, q2⟩ := q
  exact ⟨q0, (pw_blind av sz a U g mk ⟨q0, q1⟩).2, pg_N.same (u := U) (U := U.calling g mk a) rfl q2⟩
theorem pn_ps (hK : va_K D pwCl tys s) (hP : va_P D pwCl Wd H) (hD : va_D A Wd) (hN : pg_N s) (av : List Value) : PreS s H (va_Pc av (pn_pre D tys Wd H.size)) av := ⟨pn_blind av _, fun U hU hW => ⟨rfl, ⟨by rw [hU], by rw [hU]; exact hP, va_K.moved hW.alike hK, hD.weaken (fun _ _ _ _ => trivial)⟩, pg_N.warm hW hN⟩⟩
theorem pn_out {wr wc : va_W} (hP : va_P D pwCl (wr ++ wc) H) (hD : va_D A (wr ++ wc)) : ∀ (k : Nat) (q : Nat × va_E), wr[k]? = some q → q.1 < H.size ∧ ¬ va_A wc H.size q.1 := fun k q hk => by
  have hl := (pn_Pl hP k q hk).lt
  refine ⟨hl, fun h => ?_⟩
  rcases h with ⟨j, x, h⟩ | h
  · exact pn_apart hD k j q (q.1, x) hk h rfl
  · omega
theorem pn_callv {σ : Type} {post : σ → Prop} {Wf : σ → va_W} {wr wc : va_W} (hr : va_Run p l e R s m args below meth c H locs cells slots mc ms (F0 m pc ls st0) rest (va_Qv post (pw_pos D tys Wf (va_A wc H.size)) (va_A wc H.size) a) (va_A wc H.size)) (hP : va_P D pwCl (wr ++ wc) H) (hD : va_D A (wr ++ wc)) (hS : va_S A H0 H locs) (hA : ∀ q, H0.size ≤ q → A q) (kk : ∀ (u : σ) (H1 : Heap) (locs1 : List Loc), post u → va_P D pwCl (wr ++ Wf u) H1 → va_D A (wr ++ Wf u) → va_S A H0 H1 locs1 → W p l e R s m args below meth c H1 locs1 (cells + mc) (slots + ms) Q (F0 m (pc + 3) ls (rest))) : W p l e R s m args below meth c H locs cells slots Q (F0 m pc ls st0) := by
  have hF : ∀ q, va_A wc H.size q → A q := pw_hF (pn_Dr hD) hS hA
  have hap := pn_out hP hD
  refine va_callv hr hS (fun q _ h => hF q h) hF (fun u t H1 locs1 ht hvm hw hB hz1 hk1 hS1 => ?_)
  obtain ⟨hP1, hK1, hD1⟩ := hB
  exact kk u H1 locs1 hw (va_P.app (fun k q hk => (pn_Pl hP k q hk).kept (hk1 q.1 (hap k q hk).1 (hap k q hk).2)) (by rw [← ht]; exact hP1)) (va_D.app (pn_Dl hD) (hD1.weaken (fun k q _ h => hF q.1 h)) (fun i j x y hx hy hxy => (hap i x hx).2 (by rw [hxy]; exact hD1.2 j y hy))) hS1
theorem pn_newa (hexec : p.tables.exec = Jvm.exec) (hb : c.code = cc) {atype : ArrayType} (harr : (Cond.arrayClass (newarray.typeOf atype)).before args s = true) {ty : FieldType} (hty : newarray.typeOf atype = ty) (hK : va_K D pwCl tys s) (hP : va_P D pwCl Wd H) (hD : va_D A Wd) (hS : va_S A H0 H locs) (hA : ∀ q, H0.size ≤ q → A q)
    (t0 : Nat) {cA0 : ClassId} (ht : tys[t0]? = some (cA0, ty)) {nm : String} (hR : ∀ x, va_RA s x ty → s.vm.findClass nm = some x)
    {n : Int32} {N' : Nat} (a0 : vp_A) (ha : ∀ cA : ClassId, vp_cell cA a0 = arrV cA N' (fun _ => defaultValue ty)) (hn : ¬ n < 0) (hN : n.toNatClampNeg = N') (hbytes : N' * componentBytes ty ≤ 536870912) (hcells : cells + 1 ≤ R.cells) (hslots : slots + N' ≤ R.slots) (hdg : decode cc pc = .ok (.newarray atype, 2))
    (kk : ∀ (q : Nat) (H1 : Heap), va_P D pwCl (Wd ++ [(q, .inl (cA0, a0))]) H1 → va_D A (Wd ++ [(q, .inl (cA0, a0))]) → va_S A H0 H1 locs →
      W p l e R s m args below meth c H1 locs (cells + 1) (slots + N') Q (F0 m (pc + 2) ls (.ref q :: rest))) : W p l e R s m args below meth c H locs cells slots Q (F0 m pc ls (.int n :: rest)) := by
  refine va_newa hexec hb harr hty hK hP hD hS hA ha hn hN hbytes hcells hslots hdg (fun q cA H1 hK1 hP1 hD1 hS1 => ?_)
  have h1 := (hK1.2 tys.length (cA, ty) (by rw [List.getElem?_append_right (Nat.le_refl _), Nat.sub_self]; rfl)).2
  have h2 := (hK.2 t0 _ ht).2
  have h3 : cA = cA0 := Option.some.inj ((hR cA h1).symm.trans (hR cA0 h2))
  subst h3
  exact kk q H1 hP1 hD1 hS1
theorem pn_newq (hexec : p.tables.exec = Jvm.exec) (hb : c.code = cc) {own C : String} {index : Nat} (hown : s.vm.findClass own = some m.cls) (hclink : (Cond.classLink own index C).before args s = true) (hover : va_AO C s) (hK : va_K D pwCl tys s) (hP : va_P D pwCl Wd H) (hD : va_D A Wd) (hS : va_S A H0 H locs) (hA : ∀ q, H0.size ≤ q → A q)
    (t0 : Nat) {cA0 : ClassId} (ht : tys[t0]? = some (cA0, .object C))
    {n : Int32} {N' : Nat} (hn : ¬ n < 0) (hN : n.toNatClampNeg = N') (hbytes : N' * 4 ≤ 536870912) (hcells : cells + 1 ≤ R.cells) (hslots : slots + N' ≤ R.slots) (hdg : decode cc pc = .ok (.anewarray index, 3))
    (kk : ∀ (q : Nat) (H1 : Heap), va_P D pwCl (Wd ++ [(q, .inl (cA0, N', .inr (.inr (.inr (.inr (fun _ => none))))))]) H1 → va_D A (Wd ++ [(q, .inl (cA0, N', .inr (.inr (.inr (.inr (fun _ => none))))))]) → va_S A H0 H1 locs →
      W p l e R s m args below meth c H1 locs (cells + 1) (slots + N') Q (F0 m (pc + 3) ls (.ref q :: rest))) : W p l e R s m args below meth c H locs cells slots Q (F0 m pc ls (.int n :: rest)) := by
  refine va_newq hexec hb hown hclink hover hK hP hD hS hA hn hN hbytes hcells hslots hdg (fun q cA H1 hK1 hP1 hD1 hS1 => ?_)
  have h1 := (hK1.2 tys.length (cA, .object C) (by rw [List.getElem?_append_right (Nat.le_refl _), Nat.sub_self]; rfl)).2
  have h2 := (hK.2 t0 _ ht).2
  have h3 : cA = cA0 := Option.some.inj ((va_nmO h1 rfl).symm.trans (va_nmO h2 rfl))
  subst h3
  exact kk q H1 hP1 hD1 hS1
theorem pn_mq {Qc : Array Value → State → Outcome → State → Prop} {free : Addr → Prop} {c1 s1 : Nat} {g : JFrame} (h1 : c1 ≤ mc) (h2 : s1 ≤ ms) (k : W p l e R s m args below meth c H locs cells slots (MQ below Qc args s c1 s1 free) g) : W p l e R s m args below meth c H locs cells slots (MQ below Qc args s mc ms free) g := fun T hT X => by
  obtain ⟨t, a1, o, b1, b2, b3, L, ⟨f1, f2, f3⟩, b5⟩ := k T hT X
  exact ⟨t, a1, o, b1, b2, b3, L, ⟨f1, f2, f3.mono h1 h2⟩, b5⟩
end PN
def pn_is (x : Int32) (n : Nat) : Prop := 4 ≤ n ∧ n ≤ 1024 ∧ ((x < nI 4 ∧ n = 4) ∨ (¬ x < nI 4 ∧ nI 1024 < x ∧ n = 1024) ∨ (¬ x < nI 4 ∧ ¬ nI 1024 < x ∧ x = nI n))
theorem pn_is_ex (x : Int32) : ∃ n, pn_is x n := by
  by_cases h1 : x < nI 4
  · exact ⟨4, by omega, by omega, Or.inl ⟨h1, rfl⟩⟩
  by_cases h2 : nI 1024 < x
  · exact ⟨1024, by omega, by omega, Or.inr (Or.inl ⟨h1, h2, rfl⟩)⟩
  obtain ⟨j, h3, h4, h5⟩ := pd_rng (a := 4) (b := 1024) (by decide) (by decide) h1 h2
  exact ⟨j, h3, h4, Or.inr (Or.inr ⟨h1, h2, h5⟩)⟩
