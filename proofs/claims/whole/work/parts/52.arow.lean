theorem va_pt {D : va_G} {H : Heap} {L1 L2 : va_W} {x : Nat × va_E} (hP : va_P D vwCl (L1 ++ x :: L2) H) : va_at D vwCl x H := hP L1.length x (by rw [List.getElem?_append_right (Nat.le_refl _), Nat.sub_self]; rfl)
theorem set_mid {α : Type} (L1 L2 : List α) (x y : α) : (L1 ++ x :: L2).set L1.length y = L1 ++ y :: L2 := by
  rw [List.set_append_right _ _ (Nat.le_refl _), Nat.sub_self]
  rfl
theorem get_mid {α : Type} (L1 L2 : List α) (x : α) : (L1 ++ x :: L2)[L1.length]? = some x := by rw [List.getElem?_append_right (Nat.le_refl _), Nat.sub_self]; rfl
theorem get_end {α : Type} (L1 : List α) (x : α) : (L1 ++ [x])[L1.length]? = some x := get_mid L1 [] x
section RA
variable {p : Program} {l : Launch} {e : Env} {R : Room} {s : State} {m : MethodId} {args : Array Value} {below : List Frame} {meth : Method} {c : Code} {Q : State → Prop} {D : va_G} {cy : Nat → ClassId} {A : Nat → Prop} {nL ce sl pc : Nat} {lv lv2 : List (Nat × Value)} {st : List Value} {ws : va_W} {cc : ByteArray} {own : String} {a b : Int}
theorem n_anewa (X : CC p s m args meth c cc own nL D cy A) {c0 : Nat × va_E} {idx : Nat} {n : Int} {N : Nat} (hcl : Cond.classLink own idx "FairHall$Fraction" ∈ gt) (hn : ¬ Int32.ofInt n < 0) (hN : (Int32.ofInt n).toNatClampNeg = N) (hby : N * 4 ≤ 536870912) (hcc : ce + 1 ≤ R.cells) (hss : sl + N ≤ R.slots) (hdg : decode cc pc = .ok (.anewarray idx, 3)) (k : ∀ q : Nat, GC p l e R s m args below meth c Q D A nL (ce + 1) (sl + N) (pc + 3) lv (.ref q :: st) (c0 :: (ws ++ [(q, .inl (cy 4, N, .inr (.inr (.inr (.inr (fun _ => none))))))]))) : GC p l e R s m args below meth c Q D A nL ce sl pc lv (mI n :: st) (c0 :: ws) := by
  intro H locs ls hP hD hS hl
  refine va_newq (tys := tyl cy) X.1 X.2.1 X.2.2.2.1 (X.2.2.2.2.1 _ hcl) X.2.2.2.2.2.2.2.2.2.2.2.2.1 X.2.2.2.2.2.1 hP hD hS X.2.2.2.2.2.2.1 hn hN hby hcc hss hdg (fun q cA H1 hK1 hP1 hD1 hS1 => ?_)
  obtain ⟨_, _, _, _, _, h1⟩ := (X.2.2.2.2.2.1.2 4 (cy 4, .object "FairHall$Fraction") rfl).2
  obtain ⟨_, _, _, _, _, h2⟩ := (hK1.2 7 (cA, .object "FairHall$Fraction") rfl).2
  have e1 : cA = cy 4 := Option.some.inj (h2.symm.trans h1)
  subst e1
  exact k q H1 locs ls hP1 hD1 hS1 hl
/-- fairs[i] = the object at the list's end -/
theorem n_aast (X : CC p s m args meth c cc own nL D cy A) {L1 L2 : va_W} {qf v n : Nat} {vs : List Value} {f : Nat → Option Nat} (hi : inb a n) (hdg : decode cc pc = .ok (.aastore, 1)) (k : GC p l e R s m args below meth c Q D A nL ce sl (pc + 1) lv st (L1 ++ (qf, .inl (cy 4, n, .inr (.inr (.inr (.inr (va_up f (ix a) (some v))))))) :: (L2 ++ [(v, .inr (1, vs))]))) : GC p l e R s m args below meth c Q D A nL ce sl pc lv (.ref v :: mI a :: .ref qf :: st) (L1 ++ (qf, .inl (cy 4, n, .inr (.inr (.inr (.inr f))))) :: (L2 ++ [(v, .inr (1, vs))])) := by
  intro H locs ls hP hD hS hl
  refine va_astq (r := (RX1, TX1, 2)) X.1 X.2.1 X.2.2.2.2.2.1 hP hD hS L1.length 4 (L1.length + (L2.length + 1)) 1 (get_mid _ _ _) rfl (vs := vs) ?_ rfl (inb_vp hi) hdg (fun H1 locs1 hP1 hD1 hS1 => ?_)
  · rw [List.getElem?_append_right (by omega), show L1.length + (L2.length + 1) - L1.length = L2.length + 1 by omega]
    exact get_end L2 _
  · rw [set_mid] at hP1 hD1
    exact k H1 locs1 ls hP1 hD1 hS1 hl
theorem n_getR (X : CC p s m args meth c cc own nL D cy A) {idx h0 j ci : Nat} {fs : List Value} {v : Value} (hF : FL own idx ci j) (hv : fs[j]? = some v) (hdg : decode cc pc = .ok (.getfield idx, 3)) (k : GC p l e R s m args below meth c Q D A nL ce sl (pc + 3) lv (v :: st) ((h0, .inr (ci, fs)) :: ws)) : GC p l e R s m args below meth c Q D A nL ce sl pc lv (.ref h0 :: st) ((h0, .inr (ci, fs)) :: ws) := by
  intro H locs ls hP hD hS hl
  obtain ⟨C, T, N, h1, h2, h3, h4⟩ := hF
  exact va_get (D := D) (ci := ci) (v := v) (C := C) (T := T) (N := N) X.1 X.2.1 X.2.2.2.2.1 h4 X.2.2.2.1 X.2.2.2.2.2.1 hP 0 rfl h1 j h2 (X.2.2.2.2.1 _ h3) (fun _ h9 => h9) hv hdg (k H locs ls hP hD hS hl)
end RA
