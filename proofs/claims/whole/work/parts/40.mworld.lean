/-! THE MODEL'S WORLD: 8 cells -/
def mwx (n : Nat) (am : Nat → Nat) (cI cL cZ : ClassId) (t f k : Nat) (tp b0 rw s4 s5 s6 s1 : Nat → Nat) : va_W := [(am 0, .inr (4, [.int (nI t), .int (nI n), .int (nI f), .ref (am 1), .ref (am 2), .ref (am 3), .ref (am 4), .ref (am 5), .ref (am 6), .int (nI k), .ref (am 7)])), (am 1, .inl (cI, 4096, .inl (fun j => nI (tp j)))), (am 2, .inl (cL, 8192, .inr (.inl (fun w => pd_lw b0 w)))), (am 3, .inl (cI, 12800, .inl (fun j => nI (rw j)))), (am 4, .inl (cI, 32, .inl (fun j => nI (s4 j)))), (am 5, .inl (cZ, 32, .inl (fun j => nI (s5 j)))), (am 6, .inl (cI, 16, .inl (fun j => nI (s6 j)))), (am 7, .inl (cI, 1024, .inl (fun j => nI (s1 j))))]
def mw (n : Nat) (am : Nat → Nat) (cI cL cZ : ClassId) (S : pdS) : va_W := mwx n am cI cL cZ (S 7 3) (S 7 2) (S 7 1) (S 3) (S 0) (fun j => S (8 + j / 400) (j % 400)) (S 4) (S 5) (S 6) (S 1)
section MW
variable {n : Nat} {am : Nat → Nat} {cI cL cZ : ClassId} {S : pdS}
theorem mw_g0 : (mw n am cI cL cZ S)[0]? = some (am 0, .inr (4, [.int (nI (S 7 3)), .int (nI n), .int (nI (S 7 2)), .ref (am 1), .ref (am 2), .ref (am 3), .ref (am 4), .ref (am 5), .ref (am 6), .int (nI (S 7 1)), .ref (am 7)])) := rfl
theorem mw_g1 : (mw n am cI cL cZ S)[1]? = some (am 1, .inl (cI, 4096, .inl (fun j => nI (S 3 j)))) := rfl
theorem mw_g2 : (mw n am cI cL cZ S)[2]? = some (am 2, .inl (cL, 8192, .inr (.inl (fun w => pd_lw (S 0) w)))) := rfl
theorem mw_g3 : (mw n am cI cL cZ S)[3]? = some (am 3, .inl (cI, 12800, .inl (fun j => nI (S (8 + j / 400) (j % 400))))) := rfl
theorem mw_g4 : (mw n am cI cL cZ S)[4]? = some (am 4, .inl (cI, 32, .inl (fun j => nI (S 4 j)))) := rfl
theorem mw_g5 : (mw n am cI cL cZ S)[5]? = some (am 5, .inl (cZ, 32, .inl (fun j => nI (S 5 j)))) := rfl
theorem mw_g6 : (mw n am cI cL cZ S)[6]? = some (am 6, .inl (cI, 16, .inl (fun j => nI (S 6 j)))) := rfl
theorem mw_g7 : (mw n am cI cL cZ S)[7]? = some (am 7, .inl (cI, 1024, .inl (fun j => nI (S 1 j)))) := rfl
theorem mw_sthr (v : Nat) : (mw n am cI cL cZ S).set 0 (am 0, .inr (4, [.int (nI v), .int (nI n), .int (nI (S 7 2)), .ref (am 1), .ref (am 2), .ref (am 3), .ref (am 4), .ref (am 5), .ref (am 6), .int (nI (S 7 1)), .ref (am 7)])) = mw n am cI cL cZ (pd_st S 7 3 v) := by
  have hr : (fun j => pd_st S 7 3 v (8 + j / 400) (j % 400)) = fun j => S (8 + j / 400) (j % 400) := funext fun j => by rw [pd_bk _ (by omega)]
  unfold mw
  rw [hr, pd_bk _ (show (3 : Nat) ≠ 7 by decide), pd_bk _ (show (0 : Nat) ≠ 7 by decide), pd_bk _ (show (4 : Nat) ≠ 7 by decide), pd_bk _ (show (5 : Nat) ≠ 7 by decide), pd_bk _ (show (6 : Nat) ≠ 7 by decide), pd_bk _ (show (1 : Nat) ≠ 7 by decide), pd_self, pd_ne S (b := 7) (j := 3) (v := v) (show (2 : Nat) ≠ 3 by decide), pd_ne S (b := 7) (j := 3) (v := v) (show (1 : Nat) ≠ 3 by decide)]
  rfl
theorem mw_sfed (v : Nat) : (mw n am cI cL cZ S).set 0 (am 0, .inr (4, [.int (nI (S 7 3)), .int (nI n), .int (nI v), .ref (am 1), .ref (am 2), .ref (am 3), .ref (am 4), .ref (am 5), .ref (am 6), .int (nI (S 7 1)), .ref (am 7)])) = mw n am cI cL cZ (pd_st S 7 2 v) := by
  have hr : (fun j => pd_st S 7 2 v (8 + j / 400) (j % 400)) = fun j => S (8 + j / 400) (j % 400) := funext fun j => by rw [pd_bk _ (by omega)]
  unfold mw
  rw [hr, pd_bk _ (show (3 : Nat) ≠ 7 by decide), pd_bk _ (show (0 : Nat) ≠ 7 by decide), pd_bk _ (show (4 : Nat) ≠ 7 by decide), pd_bk _ (show (5 : Nat) ≠ 7 by decide), pd_bk _ (show (6 : Nat) ≠ 7 by decide), pd_bk _ (show (1 : Nat) ≠ 7 by decide), pd_self, pd_ne S (b := 7) (j := 2) (v := v) (show (3 : Nat) ≠ 2 by decide), pd_ne S (b := 7) (j := 2) (v := v) (show (1 : Nat) ≠ 2 by decide)]
  rfl
theorem mw_scop (v : Nat) : (mw n am cI cL cZ S).set 0 (am 0, .inr (4, [.int (nI (S 7 3)), .int (nI n), .int (nI (S 7 2)), .ref (am 1), .ref (am 2), .ref (am 3), .ref (am 4), .ref (am 5), .ref (am 6), .int (nI v), .ref (am 7)])) = mw n am cI cL cZ (pd_st S 7 1 v) := by
  have hr : (fun j => pd_st S 7 1 v (8 + j / 400) (j % 400)) = fun j => S (8 + j / 400) (j % 400) := funext fun j => by rw [pd_bk _ (by omega)]
  unfold mw
  rw [hr, pd_bk _ (show (3 : Nat) ≠ 7 by decide), pd_bk _ (show (0 : Nat) ≠ 7 by decide), pd_bk _ (show (4 : Nat) ≠ 7 by decide), pd_bk _ (show (5 : Nat) ≠ 7 by decide), pd_bk _ (show (6 : Nat) ≠ 7 by decide), pd_bk _ (show (1 : Nat) ≠ 7 by decide), pd_self, pd_ne S (b := 7) (j := 1) (v := v) (show (3 : Nat) ≠ 1 by decide), pd_ne S (b := 7) (j := 1) (v := v) (show (2 : Nat) ≠ 1 by decide)]
  rfl
theorem mw_stape (k v : Nat) : (mw n am cI cL cZ S).set 1 (am 1, .inl (cI, 4096, .inl (fun j => nI (va_up (S 3) k v j)))) = mw n am cI cL cZ (pd_st S 3 k v) := by
  have hr : (fun j => pd_st S 3 k v (8 + j / 400) (j % 400)) = fun j => S (8 + j / 400) (j % 400) := funext fun j => by rw [pd_bk _ (by omega)]
  unfold mw
  rw [hr, pd_bk _ (show (7 : Nat) ≠ 3 by decide), pd_bk _ (show (0 : Nat) ≠ 3 by decide), pd_bk _ (show (4 : Nat) ≠ 3 by decide), pd_bk _ (show (5 : Nat) ≠ 3 by decide), pd_bk _ (show (6 : Nat) ≠ 3 by decide), pd_bk _ (show (1 : Nat) ≠ 3 by decide), pd_own]
  rfl
theorem mw_ssize (k v : Nat) : (mw n am cI cL cZ S).set 4 (am 4, .inl (cI, 32, .inl (fun j => nI (va_up (S 4) k v j)))) = mw n am cI cL cZ (pd_st S 4 k v) := by
  have hr : (fun j => pd_st S 4 k v (8 + j / 400) (j % 400)) = fun j => S (8 + j / 400) (j % 400) := funext fun j => by rw [pd_bk _ (by omega)]
  unfold mw
  rw [hr, pd_bk _ (show (7 : Nat) ≠ 4 by decide), pd_bk _ (show (3 : Nat) ≠ 4 by decide), pd_bk _ (show (0 : Nat) ≠ 4 by decide), pd_bk _ (show (5 : Nat) ≠ 4 by decide), pd_bk _ (show (6 : Nat) ≠ 4 by decide), pd_bk _ (show (1 : Nat) ≠ 4 by decide), pd_own]
  rfl
theorem mw_sthere (k v : Nat) : (mw n am cI cL cZ S).set 5 (am 5, .inl (cZ, 32, .inl (fun j => nI (va_up (S 5) k v j)))) = mw n am cI cL cZ (pd_st S 5 k v) := by
  have hr : (fun j => pd_st S 5 k v (8 + j / 400) (j % 400)) = fun j => S (8 + j / 400) (j % 400) := funext fun j => by rw [pd_bk _ (by omega)]
  unfold mw
  rw [hr, pd_bk _ (show (7 : Nat) ≠ 5 by decide), pd_bk _ (show (3 : Nat) ≠ 5 by decide), pd_bk _ (show (0 : Nat) ≠ 5 by decide), pd_bk _ (show (4 : Nat) ≠ 5 by decide), pd_bk _ (show (6 : Nat) ≠ 5 by decide), pd_bk _ (show (1 : Nat) ≠ 5 by decide), pd_own]
  rfl
theorem mw_slow (k v : Nat) : (mw n am cI cL cZ S).set 6 (am 6, .inl (cI, 16, .inl (fun j => nI (va_up (S 6) k v j)))) = mw n am cI cL cZ (pd_st S 6 k v) := by
  have hr : (fun j => pd_st S 6 k v (8 + j / 400) (j % 400)) = fun j => S (8 + j / 400) (j % 400) := funext fun j => by rw [pd_bk _ (by omega)]
  unfold mw
  rw [hr, pd_bk _ (show (7 : Nat) ≠ 6 by decide), pd_bk _ (show (3 : Nat) ≠ 6 by decide), pd_bk _ (show (0 : Nat) ≠ 6 by decide), pd_bk _ (show (4 : Nat) ≠ 6 by decide), pd_bk _ (show (5 : Nat) ≠ 6 by decide), pd_bk _ (show (1 : Nat) ≠ 6 by decide), pd_own]
  rfl
theorem mw_sseen (k v : Nat) : (mw n am cI cL cZ S).set 7 (am 7, .inl (cI, 1024, .inl (fun j => nI (va_up (S 1) k v j)))) = mw n am cI cL cZ (pd_st S 1 k v) := by
  have hr : (fun j => pd_st S 1 k v (8 + j / 400) (j % 400)) = fun j => S (8 + j / 400) (j % 400) := funext fun j => by rw [pd_bk _ (by omega)]
  unfold mw
  rw [hr, pd_bk _ (show (7 : Nat) ≠ 1 by decide), pd_bk _ (show (3 : Nat) ≠ 1 by decide), pd_bk _ (show (0 : Nat) ≠ 1 by decide), pd_bk _ (show (4 : Nat) ≠ 1 by decide), pd_bk _ (show (5 : Nat) ≠ 1 by decide), pd_bk _ (show (6 : Nat) ≠ 1 by decide), pd_own]
  rfl
theorem mw_srow {d k : Nat} (hk : k < 400) (v : Nat) : (mw n am cI cL cZ S).set 3 (am 3, .inl (cI, 12800, .inl (fun j => nI (va_up (fun j => S (8 + j / 400) (j % 400)) (400 * d + k) v j)))) = mw n am cI cL cZ (pd_st S (8 + d) k v) := by
  have hr : (fun j => pd_st S (8 + d) k v (8 + j / 400) (j % 400)) = va_up (fun j => S (8 + j / 400) (j % 400)) (400 * d + k) v := funext fun j => by
    rw [pd_at]
    unfold va_up
    by_cases h : j = 400 * d + k
    · rw [if_pos h, if_pos (by omega)]
    · rw [if_neg h, if_neg (by omega)]
  unfold mw
  rw [hr, pd_bk _ (show (7 : Nat) ≠ 8 + d by omega), pd_bk _ (show (3 : Nat) ≠ 8 + d by omega), pd_bk _ (show (0 : Nat) ≠ 8 + d by omega), pd_bk _ (show (4 : Nat) ≠ 8 + d by omega), pd_bk _ (show (5 : Nat) ≠ 8 + d by omega), pd_bk _ (show (6 : Nat) ≠ 8 + d by omega), pd_bk _ (show (1 : Nat) ≠ 8 + d by omega)]
  rfl
theorem mw_b0 (g : Nat → Nat) : (mw n am cI cL cZ S).set 2 (am 2, .inl (cL, 8192, .inr (.inl (fun w => pd_lw g w)))) = mw n am cI cL cZ (va_up S 0 g) := by
  have hr : (fun j => va_up S 0 g (8 + j / 400) (j % 400)) = fun j => S (8 + j / 400) (j % 400) := funext fun j => by rw [va_up_ne _ _ (by omega)]
  unfold mw
  rw [hr, va_up_self, va_up_ne _ _ (show (7 : Nat) ≠ 0 by decide), va_up_ne _ _ (show (3 : Nat) ≠ 0 by decide), va_up_ne _ _ (show (4 : Nat) ≠ 0 by decide), va_up_ne _ _ (show (5 : Nat) ≠ 0 by decide), va_up_ne _ _ (show (6 : Nat) ≠ 0 by decide), va_up_ne _ _ (show (1 : Nat) ≠ 0 by decide)]
  rfl
end MW
section MP
variable {p : Program} {l : Launch} {e : Env} {R : Room} {s : State} {m : MethodId} {args : Array Value} {below : List Frame} {meth : Method} {c : Code} {H : Heap} {locs : List Loc} {cells slots : Nat} {Q : State → Prop}
variable {cc : ByteArray} {pc : Nat} {ls : Array Slot} {rest : List Value} {D : va_G} {A : Nat → Prop} {tys : List (ClassId × FieldType)} {H0 : Heap} {n : Nat} {am : Nat → Nat} {cI cL cZ : ClassId} {S : pdS} {own : String} {index : Nat}
theorem pm_thr (hx : p.tables.exec = Jvm.exec) (hb : c.code = cc) (hg : ∀ w ∈ wsG, w.before args s = true) (hown : s.vm.findClass own = some m.cls) (hK : va_K D pwCl tys s) (hP : va_P D pwCl (mw n am cI cL cZ S) H) (hD : va_D A (mw n am cI cL cZ S)) (hS : va_S A H0 H locs) {v : Nat} (hlink : (Cond.fieldLink own index "PageDriveModel" "thrown" "I").before args s = true) (hdg : decode cc pc = .ok (.putfield index, 3)) (kk : ∀ (H1 : Heap) (locs1 : List Loc), va_P D pwCl (mw n am cI cL cZ (pd_st S 7 3 v)) H1 → va_D A (mw n am cI cL cZ (pd_st S 7 3 v)) → va_S A H0 H1 locs1 → W p l e R s m args below meth c H1 locs1 cells slots Q (F0 m (pc + 3) ls rest)) : W p l e R s m args below meth c H locs cells slots Q (F0 m pc ls (.int (nI v) :: .ref (am 0) :: rest)) := va_put (ty := .int) (C := "PageDriveModel") (T := F_MO) (N := 11) hx hb hg iw_MO t_MO tok_MO n_MO hown hK hP hD hS 0 mw_g0 rfl 0 (by decide) hlink (fun _ h => h) rfl (by decide +kernel) pw_nI rfl (Nat.le_of_ble_eq_true rfl) hdg (fun H1 locs1 hP hD hS => kk H1 locs1 (by rw [← mw_sthr v]; exact hP) (by rw [← mw_sthr v]; exact hD) hS)
theorem pm_fed (hx : p.tables.exec = Jvm.exec) (hb : c.code = cc) (hg : ∀ w ∈ wsG, w.before args s = true) (hown : s.vm.findClass own = some m.cls) (hK : va_K D pwCl tys s) (hP : va_P D pwCl (mw n am cI cL cZ S) H) (hD : va_D A (mw n am cI cL cZ S)) (hS : va_S A H0 H locs) {v : Nat} (hlink : (Cond.fieldLink own index "PageDriveModel" "fed" "I").before args s = true) (hdg : decode cc pc = .ok (.putfield index, 3)) (kk : ∀ (H1 : Heap) (locs1 : List Loc), va_P D pwCl (mw n am cI cL cZ (pd_st S 7 2 v)) H1 → va_D A (mw n am cI cL cZ (pd_st S 7 2 v)) → va_S A H0 H1 locs1 → W p l e R s m args below meth c H1 locs1 cells slots Q (F0 m (pc + 3) ls rest)) : W p l e R s m args below meth c H locs cells slots Q (F0 m pc ls (.int (nI v) :: .ref (am 0) :: rest)) := va_put (ty := .int) (C := "PageDriveModel") (T := F_MO) (N := 11) hx hb hg iw_MO t_MO tok_MO n_MO hown hK hP hD hS 0 mw_g0 rfl 2 (by decide) hlink (fun _ h => h) rfl (by decide +kernel) pw_nI rfl (Nat.le_of_ble_eq_true rfl) hdg (fun H1 locs1 hP hD hS => kk H1 locs1 (by rw [← mw_sfed v]; exact hP) (by rw [← mw_sfed v]; exact hD) hS)
theorem pm_cop (hx : p.tables.exec = Jvm.exec) (hb : c.code = cc) (hg : ∀ w ∈ wsG, w.before args s = true) (hown : s.vm.findClass own = some m.cls) (hK : va_K D pwCl tys s) (hP : va_P D pwCl (mw n am cI cL cZ S) H) (hD : va_D A (mw n am cI cL cZ S)) (hS : va_S A H0 H locs) {v : Nat} (hlink : (Cond.fieldLink own index "PageDriveModel" "copied" "I").before args s = true) (hdg : decode cc pc = .ok (.putfield index, 3)) (kk : ∀ (H1 : Heap) (locs1 : List Loc), va_P D pwCl (mw n am cI cL cZ (pd_st S 7 1 v)) H1 → va_D A (mw n am cI cL cZ (pd_st S 7 1 v)) → va_S A H0 H1 locs1 → W p l e R s m args below meth c H1 locs1 cells slots Q (F0 m (pc + 3) ls rest)) : W p l e R s m args below meth c H locs cells slots Q (F0 m pc ls (.int (nI v) :: .ref (am 0) :: rest)) := va_put (ty := .int) (C := "PageDriveModel") (T := F_MO) (N := 11) hx hb hg iw_MO t_MO tok_MO n_MO hown hK hP hD hS 0 mw_g0 rfl 9 (by decide) hlink (fun _ h => h) rfl (by decide +kernel) pw_nI rfl (Nat.le_of_ble_eq_true rfl) hdg (fun H1 locs1 hP hD hS => kk H1 locs1 (by rw [← mw_scop v]; exact hP) (by rw [← mw_scop v]; exact hD) hS)
theorem pm_tape (hx : p.tables.exec = Jvm.exec) (hb : c.code = cc) (hK : va_K D pwCl tys s) (hP : va_P D pwCl (mw n am cI cL cZ S) H) (hD : va_D A (mw n am cI cL cZ S)) (hS : va_S A H0 H locs) {k v : Nat} (hk : k < 4096) (ht : tys[0]? = some (cI, .int)) (hdg : decode cc pc = .ok (.iastore, 1)) (kk : ∀ (H1 : Heap) (locs1 : List Loc), va_P D pwCl (mw n am cI cL cZ (pd_st S 3 k v)) H1 → va_D A (mw n am cI cL cZ (pd_st S 3 k v)) → va_S A H0 H1 locs1 → W p l e R s m args below meth c H1 locs1 cells slots Q (F0 m (pc + 1) ls rest)) : W p l e R s m args below meth c H locs cells slots Q (F0 m pc ls (.int (nI v) :: .int (nI k) :: .ref (am 1) :: rest)) := va_iast hx hb hK hP hD hS 1 0 mw_g1 ht (vp_in_nI hk (by decide)) hdg (fun H1 locs1 hP hD hS => by
    rw [nI_clamp (by omega), pq_updI, mw_stape] at hP hD
    exact kk H1 locs1 hP hD hS)
theorem pm_size (hx : p.tables.exec = Jvm.exec) (hb : c.code = cc) (hK : va_K D pwCl tys s) (hP : va_P D pwCl (mw n am cI cL cZ S) H) (hD : va_D A (mw n am cI cL cZ S)) (hS : va_S A H0 H locs) {k v : Nat} (hk : k < 32) (ht : tys[0]? = some (cI, .int)) (hdg : decode cc pc = .ok (.iastore, 1)) (kk : ∀ (H1 : Heap) (locs1 : List Loc), va_P D pwCl (mw n am cI cL cZ (pd_st S 4 k v)) H1 → va_D A (mw n am cI cL cZ (pd_st S 4 k v)) → va_S A H0 H1 locs1 → W p l e R s m args below meth c H1 locs1 cells slots Q (F0 m (pc + 1) ls rest)) : W p l e R s m args below meth c H locs cells slots Q (F0 m pc ls (.int (nI v) :: .int (nI k) :: .ref (am 4) :: rest)) := va_iast hx hb hK hP hD hS 4 0 mw_g4 ht (vp_in_nI hk (by decide)) hdg (fun H1 locs1 hP hD hS => by
    rw [nI_clamp (by omega), pq_updI, mw_ssize] at hP hD
    exact kk H1 locs1 hP hD hS)
theorem pm_there (hx : p.tables.exec = Jvm.exec) (hb : c.code = cc) (hK : va_K D pwCl tys s) (hP : va_P D pwCl (mw n am cI cL cZ S) H) (hD : va_D A (mw n am cI cL cZ S)) (hS : va_S A H0 H locs) {k v : Nat} (hv : v ≤ 1) (hk : k < 32) (ht : tys[4]? = some (cZ, .boolean)) (hdg : decode cc pc = .ok (.bastore, 1)) (kk : ∀ (H1 : Heap) (locs1 : List Loc), va_P D pwCl (mw n am cI cL cZ (pd_st S 5 k v)) H1 → va_D A (mw n am cI cL cZ (pd_st S 5 k v)) → va_S A H0 H1 locs1 → W p l e R s m args below meth c H1 locs1 cells slots Q (F0 m (pc + 1) ls rest)) : W p l e R s m args below meth c H locs cells slots Q (F0 m pc ls (.int (nI v) :: .int (nI k) :: .ref (am 5) :: rest)) := va_zast hx hb hK hP hD hS 5 4 mw_g5 ht (vp_in_nI hk (by decide)) hdg (fun H1 locs1 hP hD hS => by
    rw [nI_clamp (by omega), show vp_nar .boolean (nI v) = nI v from by rcases (show v = 0 ∨ v = 1 by omega) with rfl | rfl <;> rfl, pq_updI, mw_sthere] at hP hD
    exact kk H1 locs1 hP hD hS)
theorem pm_low (hx : p.tables.exec = Jvm.exec) (hb : c.code = cc) (hK : va_K D pwCl tys s) (hP : va_P D pwCl (mw n am cI cL cZ S) H) (hD : va_D A (mw n am cI cL cZ S)) (hS : va_S A H0 H locs) {k v : Nat} (hk : k < 16) (ht : tys[0]? = some (cI, .int)) (hdg : decode cc pc = .ok (.iastore, 1)) (kk : ∀ (H1 : Heap) (locs1 : List Loc), va_P D pwCl (mw n am cI cL cZ (pd_st S 6 k v)) H1 → va_D A (mw n am cI cL cZ (pd_st S 6 k v)) → va_S A H0 H1 locs1 → W p l e R s m args below meth c H1 locs1 cells slots Q (F0 m (pc + 1) ls rest)) : W p l e R s m args below meth c H locs cells slots Q (F0 m pc ls (.int (nI v) :: .int (nI k) :: .ref (am 6) :: rest)) := va_iast hx hb hK hP hD hS 6 0 mw_g6 ht (vp_in_nI hk (by decide)) hdg (fun H1 locs1 hP hD hS => by
    rw [nI_clamp (by omega), pq_updI, mw_slow] at hP hD
    exact kk H1 locs1 hP hD hS)
theorem pm_seen (hx : p.tables.exec = Jvm.exec) (hb : c.code = cc) (hK : va_K D pwCl tys s) (hP : va_P D pwCl (mw n am cI cL cZ S) H) (hD : va_D A (mw n am cI cL cZ S)) (hS : va_S A H0 H locs) {k v : Nat} (hk : k < 1024) (ht : tys[0]? = some (cI, .int)) (hdg : decode cc pc = .ok (.iastore, 1)) (kk : ∀ (H1 : Heap) (locs1 : List Loc), va_P D pwCl (mw n am cI cL cZ (pd_st S 1 k v)) H1 → va_D A (mw n am cI cL cZ (pd_st S 1 k v)) → va_S A H0 H1 locs1 → W p l e R s m args below meth c H1 locs1 cells slots Q (F0 m (pc + 1) ls rest)) : W p l e R s m args below meth c H locs cells slots Q (F0 m pc ls (.int (nI v) :: .int (nI k) :: .ref (am 7) :: rest)) := va_iast hx hb hK hP hD hS 7 0 mw_g7 ht (vp_in_nI hk (by decide)) hdg (fun H1 locs1 hP hD hS => by
    rw [nI_clamp (by omega), pq_updI, mw_sseen] at hP hD
    exact kk H1 locs1 hP hD hS)
theorem pm_row (hx : p.tables.exec = Jvm.exec) (hb : c.code = cc) (hK : va_K D pwCl tys s) (hP : va_P D pwCl (mw n am cI cL cZ S) H) (hD : va_D A (mw n am cI cL cZ S)) (hS : va_S A H0 H locs) {i d k v : Nat} (hi : i = 400 * d + k) (hd : d < 32) (hk : k < 400) (ht : tys[0]? = some (cI, .int)) (hdg : decode cc pc = .ok (.iastore, 1)) (kk : ∀ (H1 : Heap) (locs1 : List Loc), va_P D pwCl (mw n am cI cL cZ (pd_st S (8 + d) k v)) H1 → va_D A (mw n am cI cL cZ (pd_st S (8 + d) k v)) → va_S A H0 H1 locs1 → W p l e R s m args below meth c H1 locs1 cells slots Q (F0 m (pc + 1) ls rest)) : W p l e R s m args below meth c H locs cells slots Q (F0 m pc ls (.int (nI v) :: .int (nI i) :: .ref (am 3) :: rest)) := va_iast hx hb hK hP hD hS 3 0 mw_g3 ht (vp_in_nI (by omega) (by decide)) hdg (fun H1 locs1 hP hD hS => by
    rw [nI_clamp (by omega), pq_updI, hi, mw_srow hk] at hP hD
    exact kk H1 locs1 hP hD hS)
theorem pm_rowld (hx : p.tables.exec = Jvm.exec) (hb : c.code = cc) (hK : va_K D pwCl tys s) (hP : va_P D pwCl (mw n am cI cL cZ S) H) {i d k : Nat} (hi : i = 400 * d + k) (hd : d < 32) (hk : k < 400) (ht : tys[0]? = some (cI, .int)) (hdg : decode cc pc = .ok (.iaload, 1)) (kk : W p l e R s m args below meth c H locs cells slots Q (F0 m (pc + 1) ls (.int (nI (S (8 + d) k)) :: rest))) : W p l e R s m args below meth c H locs cells slots Q (F0 m pc ls (.int (nI i) :: .ref (am 3) :: rest)) := pq_iald (f := fun j => S (8 + j / 400) (j % 400)) hx hb hK hP 3 0 mw_g3 ht (by omega) (by decide) hdg (by rw [show i / 400 = d by omega, show i % 400 = k by omega]; exact kk)
theorem pm_pgld (hx : p.tables.exec = Jvm.exec) (hb : c.code = cc) (hK : va_K D pwCl tys s) (hP : va_P D pwCl (mw n am cI cL cZ S) H) {i : Nat} (hi : i < 8192) (ht : tys[3]? = some (cL, .long)) (hdg : decode cc pc = .ok (.laload, 1)) (kk : W p l e R s m args below meth c H locs cells slots Q (F0 m (pc + 1) ls (.long (pd_lw (S 0) i) :: rest))) : W p l e R s m args below meth c H locs cells slots Q (F0 m pc ls (.int (nI i) :: .ref (am 2) :: rest)) := va_lald hx hb hK hP 2 3 mw_g2 ht (vp_in_nI hi (by decide)) hdg (by rw [nI_clamp (by omega)]; exact kk)
theorem pm_pgst (hx : p.tables.exec = Jvm.exec) (hb : c.code = cc) (hK : va_K D pwCl tys s) (hP : va_P D pwCl (mw n am cI cL cZ S) H) (hD : va_D A (mw n am cI cL cZ S)) (hS : va_S A H0 H locs) {i : Nat} {x : Int64} (g : Nat → Nat) (hi : i < 8192) (h1 : x = pd_lw g i) (h2 : ∀ w, w ≠ i → pd_lw g w = pd_lw (S 0) w) (ht : tys[3]? = some (cL, .long)) (hdg : decode cc pc = .ok (.lastore, 1)) (kk : ∀ (H1 : Heap) (locs1 : List Loc), va_P D pwCl (mw n am cI cL cZ (va_up S 0 g)) H1 → va_D A (mw n am cI cL cZ (va_up S 0 g)) → va_S A H0 H1 locs1 → W p l e R s m args below meth c H1 locs1 cells slots Q (F0 m (pc + 1) ls rest)) : W p l e R s m args below meth c H locs cells slots Q (F0 m pc ls (.long x :: .int (nI i) :: .ref (am 2) :: rest)) := va_last hx hb hK hP hD hS 2 3 mw_g2 ht (vp_in_nI hi (by decide)) hdg (fun H1 locs1 hP hD hS => by
    have e : vp_updL (fun w => pd_lw (S 0) w) (nI i).toNatClampNeg x = fun w => pd_lw g w := by
      funext w
      unfold vp_updL
      rw [nI_clamp (by omega)]
      by_cases h : w = i
      · rw [if_pos h, h1, h]
      · rw [if_neg h, h2 w h]
    rw [e, mw_b0] at hP hD
    exact kk H1 locs1 hP hD hS)
end MP
