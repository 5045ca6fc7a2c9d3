/-! COPIES in the class's world; bounds of counts -/
theorem pd_rc_le (r : Nat → Nat) (p : Nat) : ∀ m, pd_rc r p m ≤ m
  | 0 => Nat.le_refl 0
  | m + 1 => by
    have := pd_rc_le r p m
    simp only [pd_rc]
    by_cases h : r m = p
    · rw [if_pos h]; omega
    · rw [if_neg h]; omega
theorem pd_sm_bd {f : Nat → Nat} {B : Nat} : ∀ {m : Nat}, (∀ k, k < m → f k ≤ B) → pd_sm f m ≤ m * B
  | 0, _ => by simp only [pd_sm]; omega
  | m + 1, h => by
    have h1 := pd_sm_bd (f := f) (B := B) (m := m) (fun k hk => h k (by omega))
    have h2 := h m (by omega)
    simp only [pd_sm]
    rw [Nat.succ_mul]
    omega
theorem pd_ct_bd {N : Nat} {S : pdS} (hv : pd_v N S) (p : Nat) : pd_ct S p ≤ 12800 := by
  have := pd_sm_bd (f := fun c => pd_rc (S (8 + c)) p (pd_pf (S 4 c))) (B := 400) (m := 32) (fun c hc => by
    have h1 := pd_rc_le (S (8 + c)) p (pd_pf (S 4 c))
    have h2 := (hv.1 c hc).1
    have h3 : pd_pf (S 4 c) ≤ 400 := by unfold pd_pf; omega
    omega)
  unfold pd_ct
  omega
theorem pr_cpI (f g : Nat → Nat) (a b k : Nat) : va_cpy (fun j => nI (f j)) (fun j => nI (g j)) a b k = fun j => nI (va_cpy f g a b k j) := by
  funext j
  unfold va_cpy
  by_cases h : b ≤ j ∧ j < b + k
  · rw [if_pos h, if_pos h]
  · rw [if_neg h, if_neg h]
theorem pr_cpBy (f g : Nat → Nat) (a b k : Nat) : va_cpy (fun j => sb_b (f j)) (fun j => sb_b (g j)) a b k = fun j => sb_b (va_cpy f g a b k j) := by
  funext j
  unfold va_cpy
  by_cases h : b ≤ j ∧ j < b + k
  · rw [if_pos h, if_pos h]
  · rw [if_neg h, if_neg h]
section PP2
variable {p : Program} {l : Launch} {e : Env} {R : Room} {s : State} {m : MethodId} {args : Array Value} {below : List Frame} {meth : Method} {c : Code} {H : Heap} {locs : List Loc} {cells slots : Nat} {Q : State → Prop}
variable {cc : ByteArray} {pc : Nat} {ls : Array Slot} {rest : List Value} {D : va_G} {A : Nat → Prop} {tys : List (ClassId × FieldType)} {H0 : Heap} {n : Nat} {ad : Nat → Nat} {cI cB cE : ClassId} {S : pdS} {own : String} {index : Nat}
theorem pr_cpB (hx : p.tables.exec = Jvm.exec) (hb : c.code = cc) (hml : c.maxLocals = ls.size) (hown : s.vm.findClass own = some m.cls) (hlink : (Cond.methodLink own index arraycopyName).before args s = true) (hnat : (Cond.native arraycopyName).before args s = true) (hstat : (Cond.static arraycopyName).before args s = true) (hini : (Cond.initialized "java/lang/System").before args s = true) (hK : va_K D pwCl tys s) (hP : va_P D pwCl (pw n ad cI cB cE S) H) (hD : va_D A (pw n ad cI cB cE S)) (hS : va_S A H0 H locs) {a b k : Nat} (hn : n ≤ 1024) (ha : a + k ≤ n * 64) (hb2 : b + k ≤ n * 64) (ht : tys[1]? = some (cB, .byte)) (hframes : 1 ≤ R.frames) (hlocals : (rest.map fun v => v.category).sum + (nativeFrameWords "java/lang/System" "arraycopy" 5 + 11) ≤ R.locals) (hdg : decode cc pc = .ok (.invokestatic index, 3)) (kk : ∀ (H1 : Heap) (locs1 : List Loc), va_P D pwCl (pw n ad cI cB cE (va_up S 0 (va_cpy (S 0) (S 0) a b k))) H1 → va_D A (pw n ad cI cB cE (va_up S 0 (va_cpy (S 0) (S 0) a b k))) → va_S A H0 H1 locs1 → W p l e R s m args below meth c H1 locs1 cells slots Q (F0 m (pc + 3) ls rest)) : W p l e R s m args below meth c H locs cells slots Q (F0 m pc ls (.int (nI k) :: .int (nI b) :: .ref (ad 4) :: .int (nI a) :: .ref (ad 4) :: rest)) := va_copyi hx hb hml hown hlink hnat hstat hini hK hP hD hS 4 4 1 1 pw_g4 pw_g4 ht ht rfl (nI_pos (by omega)) (nI_pos (by omega)) (nI_pos (by omega)) (by rw [nI_clamp (by omega), nI_clamp (by omega)]; exact ha) (by rw [nI_clamp (by omega), nI_clamp (by omega)]; exact hb2) (fun i _ => sb_fitB _) hframes hlocals hdg (fun H1 locs1 hP hD hS => by
    rw [nI_clamp (by omega), nI_clamp (by omega), nI_clamp (by omega), pr_cpBy, pw_bbyte] at hP hD
    exact kk H1 locs1 hP hD hS)
theorem pr_cpR (hx : p.tables.exec = Jvm.exec) (hb : c.code = cc) (hml : c.maxLocals = ls.size) (hown : s.vm.findClass own = some m.cls) (hlink : (Cond.methodLink own index arraycopyName).before args s = true) (hnat : (Cond.native arraycopyName).before args s = true) (hstat : (Cond.static arraycopyName).before args s = true) (hini : (Cond.initialized "java/lang/System").before args s = true) (hK : va_K D pwCl tys s) (hP : va_P D pwCl (pw n ad cI cB cE S) H) (hD : va_D A (pw n ad cI cB cE S)) (hS : va_S A H0 H locs) {fr to a b k : Nat} (hfr : fr < 32) (hto : to < 32) (ha : a + k ≤ 400) (hb2 : b + k ≤ 400) (ht : tys[0]? = some (cI, .int)) (hframes : 1 ≤ R.frames) (hlocals : (rest.map fun v => v.category).sum + (nativeFrameWords "java/lang/System" "arraycopy" 5 + 11) ≤ R.locals) (hdg : decode cc pc = .ok (.invokestatic index, 3)) (kk : ∀ (H1 : Heap) (locs1 : List Loc), va_P D pwCl (pw n ad cI cB cE (va_up S (8 + to) (va_cpy (S (8 + fr)) (S (8 + to)) a b k))) H1 → va_D A (pw n ad cI cB cE (va_up S (8 + to) (va_cpy (S (8 + fr)) (S (8 + to)) a b k))) → va_S A H0 H1 locs1 → W p l e R s m args below meth c H1 locs1 cells slots Q (F0 m (pc + 3) ls rest)) : W p l e R s m args below meth c H locs cells slots Q (F0 m pc ls (.int (nI k) :: .int (nI b) :: .ref (ad (55 + to)) :: .int (nI a) :: .ref (ad (55 + fr)) :: rest)) := va_copyi hx hb hml hown hlink hnat hstat hini hK hP hD hS (55 + fr) (55 + to) 0 0 (pw_gR hfr) (pw_gR hto) ht ht rfl (nI_pos (by omega)) (nI_pos (by omega)) (nI_pos (by omega)) (by rw [nI_clamp (by omega), nI_clamp (by omega)]; exact ha) (by rw [nI_clamp (by omega), nI_clamp (by omega)]; exact hb2) (fun i _ => rfl) hframes hlocals hdg (fun H1 locs1 hP hD hS => by
    rw [nI_clamp (by omega), nI_clamp (by omega), nI_clamp (by omega), pr_cpI, pw_brow hto] at hP hD
    exact kk H1 locs1 hP hD hS)
end PP2
