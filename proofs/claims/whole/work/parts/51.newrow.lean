section RK
variable {p : Program} {l : Launch} {e : Env} {R : Room} {s : State} {m : MethodId} {args : Array Value} {below : List Frame} {meth : Method} {c : Code} {Q : State → Prop} {D : va_G} {cy : Nat → ClassId} {A : Nat → Prop} {nL ce sl pc : Nat} {lv lv2 : List (Nat × Value)} {st : List Value} {ws : va_W} {cc : ByteArray} {own : String} {a b : Int}
theorem n_dup (X : CC p s m args meth c cc own nL D cy A) {va : Value} (hdg : decode cc pc = .ok (.dup, 1)) (hva : va.category = 1) (k : GC p l e R s m args below meth c Q D A nL ce sl (pc + 1) lv (va :: va :: st) ws) : GC p l e R s m args below meth c Q D A nL ce sl pc lv (va :: st) ws := fun H locs ls hP hD hS hl => lv_dup X.1 X.2.1 hdg hva (k H locs ls hP hD hS hl)
theorem n_goto (X : CC p s m args meth c cc own nL D cy A) {off : Int} {tgt : Nat} (hdg : decode cc pc = .ok (.goto off, 3)) (ht : (pc : Int) + off = (tgt : Int)) (k : GC p l e R s m args below meth c Q D A nL ce sl tgt lv st ws) : GC p l e R s m args below meth c Q D A nL ce sl pc lv st ws := fun H locs ls hP hD hS hl => lv_goto X.1 X.2.1 hdg ht (k H locs ls hP hD hS hl)
theorem n_iload_n (X : CC p s m args meth c cc own nL D cy A) {k0 : Fin 4} {i : Nat} (q : Nat) (hdg : decode cc pc = .ok (.iload_n k0, 1)) (hi : (k0 : Nat) = i) (hq : lv[q]? = some (i, mI a)) (k : GC p l e R s m args below meth c Q D A nL ce sl (pc + 1) lv (mI a :: st) ws) : GC p l e R s m args below meth c Q D A nL ce sl pc lv st ws := fun H locs ls hP hD hS hl => lv_iload_n X.1 X.2.1 hdg hi (lv_at hl q hq) (k H locs ls hP hD hS hl)
theorem n_istore_n (X : CC p s m args meth c cc own nL D cy A) {k0 : Fin 4} {i : Nat} (hdg : decode cc pc = .ok (.istore_n k0, 1)) (hi : (k0 : Nat) = i) (hn : i < nL) (hl2 : (i, mI a) :: lv.filter (fun q => !(q.1 == i) && !(q.1 + 1 == i && q.2.category == 2)) = lv2) (k : GC p l e R s m args below meth c Q D A nL ce sl (pc + 1) lv2 st ws) : GC p l e R s m args below meth c Q D A nL ce sl pc lv (mI a :: st) ws := fun H locs ls hP hD hS hl => lv_istore_n X.1 X.2.1 hdg hi hl hn hl2 (fun ls hl => k H locs ls hP hD hS hl)
theorem n_iinc (X : CC p s m args meth c cc own nL D cy A) {i : Nat} {n : Int} (q : Nat) (hdg : decode cc pc = .ok (.iinc i n, 3)) (hq : lv[q]? = some (i, mI a)) (hn : i < nL) (hl2 : (i, mI (a + n)) :: lv.filter (fun q => !(q.1 == i) && !(q.1 + 1 == i && q.2.category == 2)) = lv2) (k : GC p l e R s m args below meth c Q D A nL ce sl (pc + 3) lv2 st ws) : GC p l e R s m args below meth c Q D A nL ce sl pc lv st ws := fun H locs ls hP hD hS hl => lv_iinc X.1 X.2.1 hdg hl hq (Int32.ofInt_add a n).symm hn hl2 (fun ls hl => k H locs ls hP hD hS hl)
theorem n_icmp_ge (X : CC p s m args meth c cc own nL D cy A) {off : Int} {tgt : Nat} (hdg : decode cc pc = .ok (.if_icmp .ge off, 3)) (ht : (pc : Int) + off = (tgt : Int)) (kt : w32 b ≤ w32 a → GC p l e R s m args below meth c Q D A nL ce sl tgt lv st ws) (kf : ¬ w32 b ≤ w32 a → GC p l e R s m args below meth c Q D A nL ce sl (pc + 3) lv st ws) : GC p l e R s m args below meth c Q D A nL ce sl pc lv (mI b :: mI a :: st) ws := fun H locs ls hP hD hS hl => lv_icmp_ge X.1 X.2.1 hdg ht (fun q => kt (le_w.mp q) H locs ls hP hD hS hl) (fun q => kf (fun z => q (le_w.mpr z)) H locs ls hP hD hS hl)
/-- the class number ci can be made at own's pool entry idx -/
def NW (own : String) (idx ci : Nat) (fs : List Value) : Prop := ∃ (C : String) (T : u_T) (N : Nat) (ty0 : Nat → FieldType), vwCl[ci]? = some (C, T, N) ∧ (∀ w ∈ u_ws C T N, w ∈ gt) ∧ (∀ k, k < N → parseFieldDescriptor (T k).2.2.1 = some (ty0 k)) ∧ Cond.classLink own idx C ∈ gt ∧ Cond.instantiable C N ∈ gt ∧ Cond.initialized C ∈ gt ∧ (∀ j, j < N → defaultValue (ty0 j) = vp_V fs j) ∧ fs.length = N
theorem n_new (X : CC p s m args meth c cc own nL D cy A) {c0 : Nat × va_E} {idx ci N : Nat} {fs : List Value} (hW : NW own idx ci fs) (hN : fs.length = N) (hcc : ce + 1 ≤ R.cells) (hss : sl + N ≤ R.slots) (hdg : decode cc pc = .ok (.new idx, 3)) (k : ∀ q : Nat, GC p l e R s m args below meth c Q D A nL (ce + 1) (sl + N) (pc + 3) lv (.ref q :: st) (c0 :: (ws ++ [(q, .inr (ci, fs))]))) : GC p l e R s m args below meth c Q D A nL ce sl pc lv st (c0 :: ws) := by
  obtain ⟨C, T, N2, ty0, h1, h2, h3, h4, h5, h6, h7, h8⟩ := hW
  subst hN
  subst h8
  intro H locs ls hP hD hS hl
  exact va_new (ci := ci) (fs := fs) (C := C) (T := T) (N := fs.length) X.1 X.2.1 X.2.2.2.2.1 h2 ty0 h3 X.2.2.2.1 (X.2.2.2.2.1 _ h4) (X.2.2.2.2.1 _ h5) (X.2.2.2.2.1 _ h6) X.2.2.2.2.2.1 hP hD hS X.2.2.2.2.2.2.1 h1 h7 hcc hss hdg (fun q H1 hP1 hD1 hS1 => k q H1 locs ls hP1 hD1 hS1 hl)
theorem n_callI (X : CC p s m args meth c cc own nL D cy A) {c0 : Nat × va_E} {idx ci q : Nat} {fs0 : List Value} {wl : (Nat → ClassId) → Nat → (Nat → Nat) → va_W} {y : MethodName} {cc2 : ByteArray} {nL2 : Nat} {rm2 : Room} (hM : MC l y cc2 nL2 rm2 ci fs0 wl) (hY : YW y cc2 nL2 none 0) (hi : Cond.instanceMethod y ∈ gt) (hnest : (own, idx, y) ∈ nwL) (hyn : y.name = "<init>") (hR : rm2.frames + 1 ≤ R.frames ∧ 8 + (nL2 + 11) + rm2.locals ≤ R.locals) (hcs : ce + rm2.cells ≤ R.cells ∧ sl + rm2.slots ≤ R.slots) (hw : (st.map fun v => v.category).sum ≤ 8) (hdg : decode cc pc = .ok (.invokespecial idx, 3)) (k : ∀ u : Nat → Nat, GC p l e R s m args below meth c Q D A nL (ce + rm2.cells) (sl + rm2.slots) (pc + 3) lv st (c0 :: (ws ++ wl cy q u))) : GC p l e R s m args below meth c Q D A nL ce sl pc lv (.ref q :: st) (c0 :: (ws ++ [(q, .inr (ci, fs0))])) := by
  intro H locs ls hP hD hS hl
  have hM2 := hM D cy q H.size
  have hq : ((c0 :: ws) ++ [(q, (Sum.inr (ci, fs0) : va_E))])[(c0 :: ws).length]? = some (q, .inr (ci, fs0)) := by rw [List.getElem?_append_right (Nat.le_refl _), Nat.sub_self]; rfl
  have hP0 : va_P D vwCl [(q, .inr (ci, fs0))] H := by
    intro k x hx
    have hk : k < 1 := (List.getElem?_eq_some_iff.mp hx).1
    rw [show k = 0 by omega] at hx
    cases hx
    exact hP (c0 :: ws).length _ hq
  have hAq : A q := hD.2 (c0 :: ws).length _ hq
  have hfree : ∀ x, va_A [(q, .inr (ci, fs0))] H.size x → A x := by
    rintro x (⟨j, e9, hj⟩ | hj)
    · have hj0 : j < 1 := (List.getElem?_eq_some_iff.mp hj).1
      rw [show j = 0 by omega] at hj
      cases hj
      exact hAq
    · exact X.2.2.2.2.2.2.1 x (Nat.le_trans hS.1 hj)
  have hpre : PreS s H (va_Pc [.ref q] (fun U => U.heap.size = H.size ∧ va_P D vwCl [(q, .inr (ci, fs0))] U.heap ∧ va_K D vwCl (tyl cy) U ∧ va_D (fun _ => True) [(q, .inr (ci, fs0))] ∧ EX U)) [.ref q] := by
    refine ⟨fun a2 U g mk z => ?_, fun U hU hW => ⟨rfl, by rw [hU], by rw [hU]; exact hP0, va_K.moved hW.alike X.2.2.2.2.2.1, ⟨fun i j x y hx hy _ => ?_, fun _ _ _ => trivial⟩, X.2.2.2.2.2.2.2.2.2.2.warm hW⟩⟩
    · obtain ⟨z0, z1, z2, z3, z4, z5⟩ := z
      exact ⟨z0, z1, z2, va_K.moved (u := U) (U := U.calling g mk a2) (Vm.Alike.refl U.vm) z3, z4, z5.calling⟩
    · have h1 : i < 1 := (List.getElem?_eq_some_iff.mp hx).1
      have h2 : j < 1 := (List.getElem?_eq_some_iff.mp hy).1
      omega
  refine va_callv (va_runIN (As := []) (rest := st) (host := "FairHall") ⟨X.1, X.2.1, X.2.2.1, X.2.2.2.1, X.2.2.2.2.1⟩ hM2 ⟨va_cnB 0 X.2.2.2.2.1 (good_gt hY.1) rfl rfl rfl (X.2.2.2.2.2.2.2.2.2.2.2.2.2 _ hnest) (X.2.2.2.2.1 _ hY.2.1) hY.2.2 hR, hyn, X.2.2.2.2.1 _ hi⟩ hpre rfl rfl hl.1 rfl (lv_room hw) hdg hcs) hS (fun x _ h => hfree x h) hfree (fun u t H1 locs1 ht hvm hw1 hB hz1 hk1 hS1 => ?_)
  obtain ⟨hP1, hD1⟩ := hB
  rw [ht] at hP1
  exact k u H1 locs1 ls (join_P (ws := c0 :: ws) hP hD hk1 hP1) (join_D (ws := c0 :: ws) hP hD (fun x hx => X.2.2.2.2.2.2.1 x (Nat.le_trans hS.1 hx)) hD1) hS1 hl
end RK
