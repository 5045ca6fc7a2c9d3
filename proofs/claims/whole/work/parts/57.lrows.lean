/-! THE LAW'S HELPERS: rows -/
theorem pn_ofWH {l : Launch} {y : MethodName} {ws ws' : List Cond} {rm : Room} {Pc : Array Value → State → Prop} {Qc : Array Value → State → Outcome → State → Prop} {mc ms : Nat} {free : Addr → Prop} {cc : ByteArray} {maxL : Nat} {ret : Option FieldType} {hh : List (Nat × Nat × Nat × Nat)}
    (hy : plainName y.cls = true) (hw : ws = Cond.codeWith y cc maxL ret hh :: ws')
    (body : ∀ p e s m args below meth c s₁, BodyLoose p l y (headSpec ws rm) cc maxL ret e s m args below meth c s₁ → c.maxLocals = maxL → Pc args s →
      W p l e (headSpec ws rm).room s m args below meth c s.heap [] 0 0 (MQ below Qc args s mc ms free) (entryFrame m args maxL)) : Met l y ws rm Pc Qc mc ms free := by
  refine MetFree.of_bodyS (code := cc) (maxLocals := maxL) (ret := ret) hy ?_ ?_
  · intro args s m h hn
    obtain ⟨m9, meth, c, hn9, h1, h2, h3, h4, -, h5, h6, -⟩ := Cond.codeWith_spec (atoms_spec (ws := ws) h _ (by rw [hw]; exact List.mem_cons_self))
    cases hn.symm.trans hn9
    exact ⟨meth, c, h1, h2, h3, h4, h5, h6⟩
  · intro p e s m args below meth c s₁ B hml hP _
    have hh0 : s₁.heap = s.heap := by rw [B.state]; rfl
    obtain ⟨t, a1, o, b1, b2, b3⟩ := body p e s m args below meth c s₁ B hml hP s₁ hh0 (Stand.of_body B)
    exact ⟨t, o, a1, b1, b2, ⟨b3.1, b3.2⟩⟩
abbrev CMh (l : Launch) (D : va_G) (tys : List (ClassId × FieldType)) (y : MethodName) (w : List Cond) (rm : Room) (av : List Value) (Wd : va_W) {σ : Type} (Wf : σ → va_W) (sz : Nat) (post : Int32 → σ → Prop) : Prop := Met l y w rm (va_Pc av (px_pre D tys Wd sz)) (va_Qi post (pw_pos D tys Wf (va_A Wd sz)) (va_A Wd sz)) 1 6 (va_A Wd sz)
abbrev pn_o (cL : ClassId) (ob : Nat) (f : Nat → Int64) : va_W := [(ob, .inl (cL, 1, .inr (.inl f)))]
theorem pn_upd0 (f : Nat → Int64) (x : Int64) : vp_updL f (nI 0).toNatClampNeg x 0 = x := by
  rw [nI_clamp (by decide)]
  unfold vp_updL
  exact if_pos rfl
theorem pn_Zc {A : Nat → Prop} {s : State} {H0 H : Heap} {locs : List Loc} {wc : va_W} (h : pg_Z A s H0) (hS : va_S A H0 H locs) (hF : ∀ q, va_A wc H.size q → A q) : pg_Z (va_A wc H.size) s H := (h.kept hS.2.1).narrow hF
section PXF
variable {p : Program} {l : Launch} {e : Env} {R : Room} {s : State} {m : MethodId} {args : Array Value} {below : List Frame} {meth : Method} {c : Code} {H : Heap} {locs : List Loc} {cells slots : Nat} {Q : State → Prop}
variable {D : va_G} {tys : List (ClassId × FieldType)} {Wd : va_W} {A : Nat → Prop} {H0 : Heap} {pc : Nat} {ls : Array Slot} {rest st0 : List Value} {a : Array Value} {mc ms : Nat} {cc : ByteArray}
theorem pn_xps (hK : va_K D pwCl tys s) (hP : va_P D pwCl Wd H) (hD : va_D A Wd) (hKK : pg_K s) (hZ : pg_Z (va_A Wd H.size) s H) (av : List Value) : PreS s H (va_Pc av (px_pre D tys Wd H.size)) av := ⟨px_blind _ _, fun U hU hW => ⟨rfl, ⟨by rw [hU], by rw [hU]; exact hP, va_K.moved hW.alike hK, hD.weaken (fun _ _ _ _ => trivial)⟩, pg_K.warm hW hKK, by rw [hU]; exact hZ.moved hW.alike⟩⟩
theorem pn_calli {σ : Type} {post : Int32 → σ → Prop} {Wf : σ → va_W} {wr wc : va_W} (hr : va_Run p l e R s m args below meth c H locs cells slots mc ms (F0 m pc ls st0) rest (va_Qi post (pw_pos D tys Wf (va_A wc H.size)) (va_A wc H.size) a) (va_A wc H.size)) (hP : va_P D pwCl (wr ++ wc) H) (hD : va_D A (wr ++ wc)) (hS : va_S A H0 H locs) (hA : ∀ q, H0.size ≤ q → A q) (kk : ∀ (r : Int32) (u : σ) (H1 : Heap) (locs1 : List Loc), post r u → va_P D pwCl (wr ++ Wf u) H1 → va_D A (wr ++ Wf u) → va_S A H0 H1 locs1 → W p l e R s m args below meth c H1 locs1 (cells + mc) (slots + ms) Q (F0 m (pc + 3) ls (.int r :: rest))) : W p l e R s m args below meth c H locs cells slots Q (F0 m pc ls st0) := by
  have hF : ∀ q, va_A wc H.size q → A q := pw_hF (pn_Dr hD) hS hA
  have hap := pn_out hP hD
  refine va_calli hr hS (fun q _ h => hF q h) hF (fun r u t H1 locs1 ht hvm hw hB hz1 hk1 hS1 => ?_)
  obtain ⟨hP1, hK1, hD1⟩ := hB
  exact kk r u H1 locs1 hw (va_P.app (fun k q hk => (pn_Pl hP k q hk).kept (hk1 q.1 (hap k q hk).1 (hap k q hk).2)) (by rw [← ht]; exact hP1)) (va_D.app (pn_Dl hD) (hD1.weaken (fun k q _ h => hF q.1 h)) (fun i j x y hx hy hxy => (hap i x hx).2 (by rw [hxy]; exact hD1.2 j y hy))) hS1
theorem pn_xcalli {σ : Type} {post : Int32 → σ → Prop} {xp : String → σ → Prop} {Wf : σ → va_W} {wr wc : va_W} (hr : vx_Run p l e R s m args below meth c H locs cells slots mc ms (F0 m pc ls st0) rest (va_Qi post (pw_pos D tys Wf (va_A wc H.size)) (va_A wc H.size) a) (vx_X (fun u : String × σ => xp u.1 u.2) (fun E u t => E = u.1 ∧ pw_pos D tys Wf (va_A wc H.size) u.2 t) (va_A wc H.size)) (va_A wc H.size)) (hP : va_P D pwCl (wr ++ wc) H) (hD : va_D A (wr ++ wc)) (hS : va_S A H0 H locs) (hA : ∀ q, H0.size ≤ q → A q)
    (kx : ∀ (E : String) (ce : Cell) (q9 : Addr) (u : σ) (H1 : Heap) (locs1 : List Loc), xp E u → va_P D pwCl (wr ++ Wf u) H1 → va_D A (wr ++ Wf u) → va_S A H0 H1 locs1 → H1[q9]? = some ce → ce.vm = .none → s.vm.findClass E = some ce.cls → vx_W p l e R s m args below meth c H1 locs1 (cells + mc) (slots + ms) Q (F0 m pc ls rest) q9)
    (kk : ∀ (r : Int32) (u : σ) (H1 : Heap) (locs1 : List Loc), post r u → va_P D pwCl (wr ++ Wf u) H1 → va_D A (wr ++ Wf u) → va_S A H0 H1 locs1 → W p l e R s m args below meth c H1 locs1 (cells + mc) (slots + ms) Q (F0 m (pc + 3) ls (.int r :: rest))) : W p l e R s m args below meth c H locs cells slots Q (F0 m pc ls st0) := by
  have hF : ∀ q, va_A wc H.size q → A q := pw_hF (pn_Dr hD) hS hA
  have hap := pn_out hP hD
  refine vx_calli hr hS (fun q _ h => hF q h) hF (fun q _ h => hF q h) (fun E ce q9 u t H1 locs1 ht hvm hx1 hB hz1 hk1 hS1 c1 c2 c3 => ?_) (fun r u t H1 locs1 ht hvm hw hB hz1 hk1 hS1 => ?_)
  · obtain ⟨hE, hP1, hK1, hD1⟩ := hB
    subst hE
    exact kx _ ce q9 u.2 H1 locs1 hx1 (va_P.app (fun k q hk => (pn_Pl hP k q hk).kept (hk1 q.1 (hap k q hk).1 (hap k q hk).2)) (by rw [← ht]; exact hP1)) (va_D.app (pn_Dl hD) (hD1.weaken (fun k q _ h => hF q.1 h)) (fun i j x y hx hy hxy => (hap i x hx).2 (by rw [hxy]; exact hD1.2 j y hy))) hS1 c1 c2 c3
  · obtain ⟨hP1, hK1, hD1⟩ := hB
    exact kk r u H1 locs1 hw (va_P.app (fun k q hk => (pn_Pl hP k q hk).kept (hk1 q.1 (hap k q hk).1 (hap k q hk).2)) (by rw [← ht]; exact hP1)) (va_D.app (pn_Dl hD) (hD1.weaken (fun k q _ h => hF q.1 h)) (fun i j x y hx hy hxy => (hap i x hx).2 (by rw [hxy]; exact hD1.2 j y hy))) hS1
end PXF
