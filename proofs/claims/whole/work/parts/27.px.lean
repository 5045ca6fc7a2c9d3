/-! WHAT THROWS: premises of the start; shapes -/
def pgB : List Cond := [Cond.declares ⟨"java/lang/RuntimeException", "<init>", "(Ljava/lang/String;)V"⟩, Cond.declares ⟨"java/lang/Exception", "<init>", "(Ljava/lang/String;)V"⟩, Cond.declares ⟨"java/lang/Throwable", "<init>", "(Ljava/lang/String;)V"⟩, Cond.castable "java/lang/IllegalArgumentException" "java/lang/IllegalArgumentException", Cond.castable "java/lang/IllegalStateException" "java/lang/IllegalStateException", Cond.castable "java/lang/IndexOutOfBoundsException" "java/lang/IndexOutOfBoundsException", Cond.castable "java/lang/UnsupportedOperationException" "java/lang/UnsupportedOperationException", Cond.castable "java/util/NoSuchElementException" "java/util/NoSuchElementException"]
def pgT : List (Nat × String) := [(44, "not 1 to 8 bytes"), (51, "the tape has no place for these bytes"), (60, "no such file, or not 1 to 16 times"), (78, "not enough pages for these bytes"), (89, "no such file number"), (97, "the file is not there"), (100, "not 0 to the file's size"), (123, "keep is below 0"), (141, "no such file number, or nothing to be asked of it"), (151, "no such byte")]
def pgN : List (String × String) := [("java/lang/IllegalArgumentException", "java/lang/IllegalStateException"), ("java/lang/IllegalArgumentException", "java/lang/IndexOutOfBoundsException"), ("java/lang/IllegalArgumentException", "java/lang/UnsupportedOperationException"), ("java/lang/IllegalArgumentException", "java/util/NoSuchElementException"), ("java/lang/IllegalStateException", "java/lang/IllegalArgumentException"), ("java/lang/IllegalStateException", "java/lang/IndexOutOfBoundsException"), ("java/lang/IllegalStateException", "java/lang/UnsupportedOperationException"), ("java/lang/IllegalStateException", "java/util/NoSuchElementException"), ("java/lang/IndexOutOfBoundsException", "java/lang/IllegalArgumentException"), ("java/lang/IndexOutOfBoundsException", "java/lang/IllegalStateException"), ("java/lang/IndexOutOfBoundsException", "java/lang/UnsupportedOperationException"), ("java/lang/IndexOutOfBoundsException", "java/util/NoSuchElementException"), ("java/lang/UnsupportedOperationException", "java/lang/IllegalArgumentException"), ("java/lang/UnsupportedOperationException", "java/lang/IllegalStateException"), ("java/lang/UnsupportedOperationException", "java/lang/IndexOutOfBoundsException"), ("java/lang/UnsupportedOperationException", "java/util/NoSuchElementException"), ("java/util/NoSuchElementException", "java/lang/IllegalArgumentException"), ("java/util/NoSuchElementException", "java/lang/IllegalStateException"), ("java/util/NoSuchElementException", "java/lang/IndexOutOfBoundsException"), ("java/util/NoSuchElementException", "java/lang/UnsupportedOperationException")]
abbrev pgNm : List String := ["java/lang/RuntimeException", "java/lang/Exception"]
def pg_K (U : State) : Prop := (∀ w ∈ pgB, va_Nw w U) ∧ (∀ q ∈ pgT, ∃ a, vk_R "PageDrive" q.1 q.2 a U) ∧ ∀ q ∈ pgN, va_Nc q.1 q.2 U
theorem pgB_ot : ∀ w ∈ pgB, w.onTables = true := by decide +kernel
theorem pgB_warm {s U : State} (hW : s.WarmedH U.vm) (h : ∀ w ∈ pgB, va_Nw w s) : ∀ w ∈ pgB, va_Nw w U := by
  intro w hw
  have h0 := h w hw
  unfold pgB at hw
  rcases List.mem_cons.mp hw with e | hw
  · rw [e] at h0 ⊢
    exact va_Nw.warmD hW h0
  rcases List.mem_cons.mp hw with e | hw
  · rw [e] at h0 ⊢
    exact va_Nw.warmD hW h0
  rcases List.mem_cons.mp hw with e | hw
  · rw [e] at h0 ⊢
    exact va_Nw.warmD hW h0
  rcases List.mem_cons.mp hw with e | hw
  · rw [e] at h0 ⊢
    exact va_Nw.warmC hW h0
  rcases List.mem_cons.mp hw with e | hw
  · rw [e] at h0 ⊢
    exact va_Nw.warmC hW h0
  rcases List.mem_cons.mp hw with e | hw
  · rw [e] at h0 ⊢
    exact va_Nw.warmC hW h0
  rcases List.mem_cons.mp hw with e | hw
  · rw [e] at h0 ⊢
    exact va_Nw.warmC hW h0
  rcases List.mem_cons.mp hw with e | hw
  · rw [e] at h0 ⊢
    exact va_Nw.warmC hW h0
  exact absurd hw List.not_mem_nil
theorem pg_K.warm {s U : State} (hW : s.WarmedH U.vm) (h : pg_K s) : pg_K U := ⟨pgB_warm hW h.1, fun q hq => by
  obtain ⟨a, ha⟩ := h.2.1 q hq
  exact ⟨a, vk_R.warm hW ha⟩, fun q hq => va_Nc.moved hW.alike (h.2.2 q hq)⟩
theorem pg_K.same {u U : State} (hv : U.vm = u.vm) (h : pg_K u) : pg_K U := ⟨fun w hw => va_Nw.same (pgB_ot w hw) hv.symm (h.1 w hw), fun q hq => by
  obtain ⟨a, ha⟩ := h.2.1 q hq
  exact ⟨a, vk_R.same hv ha⟩, fun q hq => va_Nc.moved (by rw [hv]; exact Vm.Alike.refl u.vm) (h.2.2 q hq)⟩
def pg_Z (A : Nat → Prop) (U : State) (H : Heap) : Prop := vx_Zq Bundle.tN "UNASSIGNED_STACK" Bundle.steD A U H ∧ vx_Zq Bundle.tN "SUPPRESSED_SENTINEL" Bundle.listD A U H
theorem pg_Z.moved {A : Nat → Prop} {u U : State} {H : Heap} (hvm : u.vm.Alike U.vm) (h : pg_Z A u H) : pg_Z A U H := ⟨vx_Zq.moved hvm h.1, vx_Zq.moved hvm h.2⟩
theorem pg_Z.kept {A : Nat → Prop} {U : State} {H H1 : Heap} (h : pg_Z A U H) (hq : ∀ a : Nat, a < H.size → ¬ A a → H1[a]? = H[a]?) : pg_Z A U H1 := ⟨vx_Zq.kept h.1 hq, vx_Zq.kept h.2 hq⟩
theorem pg_Z.narrow {A B : Nat → Prop} {U : State} {H : Heap} (h : pg_Z A U H) (hAB : ∀ q, B q → A q) : pg_Z B U H := ⟨vx_Zq.narrow h.1 hAB, vx_Zq.narrow h.2 hAB⟩
theorem xa_46 : ∀ w ∈ vx_atS "PageDrive" 46 "java/lang/IllegalArgumentException" pgNm, w ∈ wsG ∨ w ∈ pgB := by decide +kernel
theorem xo_46 : ∀ w ∈ Cond.classLink "PageDrive" 42 "java/lang/IllegalArgumentException" :: Cond.initialized "java/lang/IllegalArgumentException" :: vx_atS "PageDrive" 46 "java/lang/IllegalArgumentException" pgNm, vx_ot w = true := by decide +kernel
theorem xf_46 : Bundle.fit "java/lang/IllegalArgumentException" = true := by decide +kernel
theorem xa_53 : ∀ w ∈ vx_atS "PageDrive" 53 "java/lang/IllegalStateException" pgNm, w ∈ wsG ∨ w ∈ pgB := by decide +kernel
theorem xo_53 : ∀ w ∈ Cond.classLink "PageDrive" 49 "java/lang/IllegalStateException" :: Cond.initialized "java/lang/IllegalStateException" :: vx_atS "PageDrive" 53 "java/lang/IllegalStateException" pgNm, vx_ot w = true := by decide +kernel
theorem xf_53 : Bundle.fit "java/lang/IllegalStateException" = true := by decide +kernel
theorem xa_62 : ∀ w ∈ vx_atS "PageDrive" 62 "java/lang/IndexOutOfBoundsException" pgNm, w ∈ wsG ∨ w ∈ pgB := by decide +kernel
theorem xo_62 : ∀ w ∈ Cond.classLink "PageDrive" 58 "java/lang/IndexOutOfBoundsException" :: Cond.initialized "java/lang/IndexOutOfBoundsException" :: vx_atS "PageDrive" 62 "java/lang/IndexOutOfBoundsException" pgNm, vx_ot w = true := by decide +kernel
theorem xf_62 : Bundle.fit "java/lang/IndexOutOfBoundsException" = true := by decide +kernel
theorem xa_80 : ∀ w ∈ vx_atS "PageDrive" 80 "java/lang/UnsupportedOperationException" pgNm, w ∈ wsG ∨ w ∈ pgB := by decide +kernel
theorem xo_80 : ∀ w ∈ Cond.classLink "PageDrive" 76 "java/lang/UnsupportedOperationException" :: Cond.initialized "java/lang/UnsupportedOperationException" :: vx_atS "PageDrive" 80 "java/lang/UnsupportedOperationException" pgNm, vx_ot w = true := by decide +kernel
theorem xf_80 : Bundle.fit "java/lang/UnsupportedOperationException" = true := by decide +kernel
theorem xn_nm : ∀ n ∈ pgNm, Bundle.fit n = true := by decide +kernel
theorem pg_hat {args : Array Value} {s : State} {L : List Cond} (hL : ∀ w ∈ L, w ∈ wsG ∨ w ∈ pgB) (hg : ∀ w ∈ wsG, w.before args s = true) (hB : ∀ w ∈ pgB, va_Nw w s) : ∀ w ∈ L, w.before args s = true := fun w h => (hL w h).elim (hg w) (fun h => va_Nw.use (pgB_ot w h) (hB w h))
def px_pre (D : va_G) (tys : List (ClassId × FieldType)) (Wd : va_W) (sz : Nat) : State → Prop := fun U => pw_pre D tys Wd sz U ∧ pg_K U ∧ pg_Z (va_A Wd sz) U U.heap
section PX
variable {p : Program} {l : Launch} {e : Env} {R : Room} {s : State} {m : MethodId} {args : Array Value} {below : List Frame} {meth : Method} {c : Code} {H : Heap} {locs : List Loc} {cells slots : Nat} {Q : State → Prop}
variable {D : va_G} {tys : List (ClassId × FieldType)} {Wd : va_W} {A : Nat → Prop} {H0 : Heap}
theorem px_blind (av : List Value) (sz : Nat) : FrameBlind (va_Pc av (px_pre D tys Wd sz)) := fun a U g mk q => by
  obtain ⟨q0, q1, q2, q3⟩ := q
  exact ⟨q0, (pw_blind av sz a U g mk ⟨q0, q1⟩).2, pg_K.same (u := U) (U := U.calling g mk a) rfl q2, q3.moved (u := U) (U := U.calling g mk a) (Vm.Alike.refl U.vm)⟩
theorem px_pv (hK : va_K D pwCl tys s) (hP : va_P D pwCl Wd H) (hD : va_D A Wd) (hKK : pg_K s) (hZ : pg_Z (va_A Wd H.size) s H) {C : String} {b : Addr} (hrec : ∃ cell : Cell, H[b]? = some cell ∧ cell.vm.isStatics = false ∧ s.vm.findClass C = some cell.cls) (As : List Value) : PreV s H C b (va_Pc (.ref b :: As) (px_pre D tys Wd H.size)) As := ⟨px_blind _ _, hrec, fun U hU hW => ⟨rfl, ⟨by rw [hU], by rw [hU]; exact hP, va_K.moved hW.alike hK, hD.weaken (fun _ _ _ _ => trivial)⟩, pg_K.warm hW hKK, by rw [hU]; exact hZ.moved hW.alike⟩⟩
theorem px_end {σ : Type} {Wf : σ → va_W} {u : σ} (hK : va_K D pwCl tys s) (hP : va_P D pwCl (Wf u) H) (hD : va_D A (Wf u)) (hS : va_S A s.heap H locs) (t : State) (hvm : s.vm.Alike t.vm) (hz : H.size ≤ t.heap.size) (hk : ∀ q : Nat, q < H.size → t.heap[q]? = H[q]?) : pw_pos D tys Wf A u t ∧ va_F A s t := by
  refine ⟨⟨hP.kept (fun k q h => hk q.1 (hP k q h).lt), va_K.moved hvm hK, hD⟩, Nat.le_trans hS.1 hz, fun q h1 h2 => ?_⟩
  rw [hk q (Nat.lt_of_lt_of_le h1 hS.1)]
  exact hS.2.1 q h1 h2
end PX
abbrev CXi (l : Launch) (D : va_G) (tys : List (ClassId × FieldType)) (y : MethodName) (w : List Cond) (rm : Room) (av : List Value) (Wd : va_W) {σ : Type} (Wf : σ → va_W) (sz : Nat) (post : Int32 → σ → Prop) (xp : String → σ → Prop) : Prop := vx_Met l y w rm (va_Pc av (px_pre D tys Wd sz)) (va_Qi post (pw_pos D tys Wf (va_A Wd sz)) (va_A Wd sz)) (vx_X (fun u : String × σ => xp u.1 u.2) (fun E u t => E = u.1 ∧ pw_pos D tys Wf (va_A Wd sz) u.2 t) (va_A Wd sz)) 1 6 (va_A Wd sz)
