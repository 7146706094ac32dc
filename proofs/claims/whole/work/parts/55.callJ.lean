section RJ
variable {p : Program} {l : Launch} {e : Env} {R : Room} {s : State} {m : MethodId} {args : Array Value} {below : List Frame} {meth : Method} {c : Code} {Q : State → Prop} {D : va_G} {cy : Nat → ClassId} {A : Nat → Prop} {nL ce sl pc : Nat} {lv lv2 : List (Nat × Value)} {st : List Value} {ws : va_W} {cc : ByteArray} {own : String} {a b : Int}
theorem n_callJ (X : CC p s m args meth c cc own nL D cy A) {c0 : Nat × va_E} {idx ci q : Nat} {fs0 : List Value} {wl : (Nat → ClassId) → Nat → (Nat → Nat) → va_W} {y : MethodName} {cc2 : ByteArray} {nL2 : Nat} {rm2 : Room} (hM : MC l y cc2 nL2 rm2 ci fs0 wl) (hY : YW y cc2 nL2 none 0) (hi : Cond.instanceMethod y ∈ gt) (hlk : Cond.methodLink own idx y ∈ gt) (hyn : y.name = "<init>") (hR : rm2.frames + 1 ≤ R.frames ∧ 8 + (nL2 + 11) + rm2.locals ≤ R.locals) (hcs : ce + rm2.cells ≤ R.cells ∧ sl + rm2.slots ≤ R.slots) (hw : (st.map fun v => v.category).sum ≤ 8) (hdg : decode cc pc = .ok (.invokespecial idx, 3)) (k : ∀ u : Nat → Nat, GC p l e R s m args below meth c Q D A nL (ce + rm2.cells) (sl + rm2.slots) (pc + 3) lv st (c0 :: (ws ++ wl cy q u))) : GC p l e R s m args below meth c Q D A nL ce sl pc lv (.ref q :: st) (c0 :: (ws ++ [(q, .inr (ci, fs0))])) := by
  intro H locs ls hP hD hS hl
  have hM2 := hM D cy q H.size
  have hq : ((c0 :: ws) ++ [(q, (Sum.inr (ci, fs0) : va_E))])[(c0 :: ws).length]? = some (q, .inr (ci, fs0)) := by rw [List.getElem?_append_right (Nat.le_refl _), Nat.sub_self]; rfl
  have hP0 : va_P D vwCl [(q, .inr (ci, fs0))] H := by
    intro k x hx
    have hk : k < 1 := (List.getElem?_eq_some_iff.mp hx).1
    rw [show k = 0 by omega] at hx
    cases hx
    exact hP (c0 :: ws).length _ hq
  have hAq : A q := hD.2 (c0 :: ws).length _ hq
  have hfree : ∀ x, va_A [(q, .inr (ci, fs0))] H.size x → A x := by
    rintro x (⟨j, e9, hj⟩ | hj)
    · have hj0 : j < 1 := (List.getElem?_eq_some_iff.mp hj).1
      rw [show j = 0 by omega] at hj
      cases hj
      exact hAq
    · exact X.2.2.2.2.2.2.1 x (Nat.le_trans hS.1 hj)
  have hpre : PreS s H (va_Pc [.ref q] (fun U => U.heap.size = H.size ∧ va_P D vwCl [(q, .inr (ci, fs0))] U.heap ∧ va_K D vwCl (tyl cy) U ∧ va_D (fun _ => True) [(q, .inr (ci, fs0))] ∧ EX U)) [.ref q] := by
    refine ⟨fun a2 U g mk z => ?_, fun U hU hW => ⟨rfl, by rw [hU], by rw [hU]; exact hP0, va_K.moved hW.alike X.2.2.2.2.2.1, ⟨fun i j x y hx hy _ => ?_, fun _ _ _ => trivial⟩, X.2.2.2.2.2.2.2.2.2.2.warm hW⟩⟩
    · obtain ⟨z0, z1, z2, z3, z4, z5⟩ := z
      exact ⟨z0, z1, z2, va_K.moved (u := U) (U := U.calling g mk a2) (Vm.Alike.refl U.vm) z3, z4, z5.calling⟩
    · have h1 : i < 1 := (List.getElem?_eq_some_iff.mp hx).1
      have h2 : j < 1 := (List.getElem?_eq_some_iff.mp hy).1
      omega
  refine va_callv (va_runI (As := []) (rest := st) ⟨X.1, X.2.1, X.2.2.1, X.2.2.2.1, X.2.2.2.2.1⟩ hM2 ⟨callB_of 0 X.2.2.2.2.1 (good_gt hY.1) rfl rfl rfl (X.2.2.2.2.1 _ hY.2.1) (X.2.2.2.2.1 _ hlk) hY.2.2 hR, hyn, X.2.2.2.2.1 _ hi⟩ hpre rfl rfl hl.1 rfl (lv_room hw) hdg hcs) hS (fun x _ h => hfree x h) hfree (fun u t H1 locs1 ht hvm hw1 hB hz1 hk1 hS1 => ?_)
  obtain ⟨hP1, hD1⟩ := hB
  rw [ht] at hP1
  exact k u H1 locs1 ls (join_P (ws := c0 :: ws) hP hD hk1 hP1) (join_D (ws := c0 :: ws) hP hD (fun x hx => X.2.2.2.2.2.2.1 x (Nat.le_trans hS.1 hx)) hD1) hS1 hl
end RJ
