theorem va_AOA.spec {ty : FieldType} {s : State} (h : va_AOA ty s) : ∃ comp c k, s.vm.findClass (FieldType.array ty).toString = some comp ∧ (s.vm.classes.findIdx? fun (x : Class) => match x.kind with | .array component _ => component == comp | _ => false) = some c ∧ s.vm.classes[c]? = some k ∧ k.kind = .array comp (.array ty) ∧ s.vm.findClass ("[" ++ (FieldType.array ty).toString) = some c := by
  unfold va_AOA Cond.before at h
  simp only [Cond.holds, Cond.value, beq_iff_eq] at h
  cases hc : s.vm.findClass (FieldType.array ty).toString with
  | none => simp [hc] at h
  | some comp =>
    simp only [hc, Option.bind_some, Option.bind_eq_some_iff, Option.map_eq_some_iff] at h
    obtain ⟨c, hi, k, hk, hb⟩ := h
    have hp := Array.findIdx?_eq_some_iff_getElem.mp hi
    obtain ⟨hlt, hq, -⟩ := hp
    have hkk : s.vm.classes[c] = k := (Array.getElem?_eq_some_iff.mp hk).2
    rw [hkk] at hq
    cases hkd : k.kind with
    | array component t =>
      rw [hkd] at hq hb
      simp only [beq_iff_eq] at hq
      simp only [Bool.and_eq_true, decide_eq_true_eq] at hb
      exact ⟨comp, c, k, rfl, hi, hk, by rw [hkd, hq, hb.1], hb.2⟩
    | _ => rw [hkd] at hb; cases hb
theorem va_AOA.moved {ty : FieldType} {u U : State} (hvm : u.vm.Alike U.vm) (h : va_AOA ty u) : va_AOA ty U := by
  obtain ⟨comp, c, k, h1, h2, h3, h4, h5⟩ := h.spec
  obtain ⟨k', hk', he⟩ := hvm.2.2 _ _ h3
  have hi : (U.vm.classes.findIdx? fun (x : Class) => match x.kind with | .array component _ => component == comp | _ => false) = some c := by
    refine (va_idx_bare U.vm comp).symm.trans ?_
    first | rw [hvm.bare_eq] | rw [← hvm.bare_eq]
    exact (va_idx_bare u.vm comp).trans h2
  have hkind : k'.kind = .array comp (.array ty) := by rw [he]; exact h4
  have f1 : U.vm.findClass (FieldType.array ty).toString = some comp := by rw [hvm.findClass]; exact h1
  have f2 : U.vm.findClass ("[" ++ (FieldType.array ty).toString) = some c := by rw [hvm.findClass]; exact h5
  unfold va_AOA Cond.before Cond.holds
  simp only [Cond.value]
  rw [f1, Option.bind_some]
  refine (congrArg (fun o : Option Nat => (o.bind (fun c => (U.vm.classes[c]?).map fun (k : Class) => match k.kind with | .array _ t => decide (t = FieldType.array ty) && decide (U.vm.findClass ("[" ++ (FieldType.array ty).toString) = some c) | _ => false) == some true)) hi).trans ?_
  simp [hk', hkind, f2]
theorem EX.warm {s U : State} (hW : s.WarmedH U.vm) (h : EX s) : EX U := ⟨h.1.moved hW.alike, h.2.1.moved hW.alike, h.2.2.1.moved hW.alike, fun q hq => (h.2.2.2 q hq).warmM hW⟩
theorem EX.calling {U : State} {g : JFrame} {mk : MethodId} {a : Array Value} (h : EX U) : EX (U.calling g mk a) := ⟨h.1.moved (Vm.Alike.refl U.vm), h.2.1.moved (Vm.Alike.refl U.vm), h.2.2.1.moved (Vm.Alike.refl U.vm), fun q hq => (h.2.2.2 q hq).same rfl rfl⟩
/-- the callee's cells beside the old ones -/
theorem join_P {D : va_G} {ws w1 : va_W} {q : Nat} {e0 : va_E} {H H1 : Heap} {A : Nat → Prop} (hP : va_P D vwCl (ws ++ [(q, e0)]) H) (hD : va_D A (ws ++ [(q, e0)])) (hk : ∀ x : Nat, x < H.size → ¬ va_A [(q, e0)] H.size x → H1[x]? = H[x]?) (hP1 : va_P D vwCl w1 H1) : va_P D vwCl (ws ++ w1) H1 := by
  intro k x hx
  by_cases hl : k < ws.length
  · rw [List.getElem?_append_left hl] at hx
    have hx2 : (ws ++ [(q, e0)])[k]? = some x := by rw [List.getElem?_append_left hl]; exact hx
    have h0 := hP k x hx2
    refine h0.kept (hk x.1 h0.lt ?_)
    rintro (⟨j, e, hj⟩ | hj)
    · have hj0 : j < 1 := (List.getElem?_eq_some_iff.mp hj).1
      have : (ws ++ [(q, e0)])[ws.length]? = some (q, e0) := by rw [List.getElem?_append_right (Nat.le_refl _), Nat.sub_self]; rfl
      rw [show j = 0 by omega] at hj
      cases hj
      have := hD.1 k ws.length x (x.1, e0) hx2 this rfl
      omega
    · have := h0.lt; omega
  · rw [List.getElem?_append_right (by omega)] at hx
    exact hP1 _ x hx
theorem join_D {D : va_G} {ws w1 : va_W} {q : Nat} {e0 : va_E} {H : Heap} {A : Nat → Prop} (hP : va_P D vwCl (ws ++ [(q, e0)]) H) (hD : va_D A (ws ++ [(q, e0)])) (hA : ∀ x : Nat, H.size ≤ x → A x) (hD1 : va_D (va_A [(q, e0)] H.size) w1) : va_D A (ws ++ w1) := by
  have hlast : (ws ++ [(q, e0)])[ws.length]? = some (q, e0) := by rw [List.getElem?_append_right (Nat.le_refl _), Nat.sub_self]; rfl
  have old : ∀ (k : Nat) (x : Nat × va_E), k < ws.length → (ws ++ w1)[k]? = some x → (ws ++ [(q, e0)])[k]? = some x := by
    intro k x hl hx
    rw [List.getElem?_append_left hl] at hx ⊢; exact hx
  have new : ∀ (k : Nat) (x : Nat × va_E), ¬ k < ws.length → (ws ++ w1)[k]? = some x → w1[k - ws.length]? = some x := by
    intro k x hl hx
    rwa [List.getElem?_append_right (by omega)] at hx
  have inA : ∀ (j : Nat) (x : Nat × va_E), w1[j]? = some x → x.1 = q ∨ H.size ≤ x.1 := by
    intro j x hx
    rcases hD1.2 j x hx with ⟨i, e, hi⟩ | h
    · have hj0 : i < 1 := (List.getElem?_eq_some_iff.mp hi).1
      rw [show i = 0 by omega] at hi
      cases hi
      exact Or.inl rfl
    · exact Or.inr h
  have cross : ∀ (i j : Nat) (x y : Nat × va_E), i < ws.length → (ws ++ w1)[i]? = some x → w1[j]? = some y → x.1 ≠ y.1 := by
    intro i j x y hi hx hy e
    have hx2 := old i x hi hx
    have hlt := (hP i x hx2).lt
    rcases inA j y hy with h | h
    · have := hD.1 i ws.length x (q, e0) hx2 hlast (by rw [e, h])
      omega
    · omega
  refine ⟨fun i j x y hx hy e => ?_, fun k x hx => ?_⟩
  · by_cases hi : i < ws.length
    · by_cases hj : j < ws.length
      · exact hD.1 i j x y (old i x hi hx) (old j y hj hy) e
      · exact absurd e (cross i _ x y hi hx (new j y hj hy))
    · by_cases hj : j < ws.length
      · exact absurd e.symm (cross j _ y x hj hy (new i x hi hx))
      · have := hD1.1 _ _ x y (new i x hi hx) (new j y hj hy) e
        omega
  · by_cases hk : k < ws.length
    · exact hD.2 k x (old k x hk hx)
    · rcases inA _ x (new k x hk hx) with h | h
      · rw [h]; exact hD.2 ws.length (q, e0) hlast
      · exact hA _ h
