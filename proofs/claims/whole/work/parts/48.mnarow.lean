theorem arrV_cong {c : ClassId} {n : Nat} {f g : Nat → Value} (h : ∀ j, j < n → f j = g j) : arrV c n f = arrV c n g := by
  unfold arrV
  have e : (Array.ofFn (n := n) fun j => f j.val) = (Array.ofFn (n := n) fun j => g j.val) := congrArg Array.ofFn (funext fun j => h j.val j.isLt)
  rw [e]
/-- a list of cells, one outer row of references said by another function that agrees in its places -/
theorem outer_P {D : va_G} {L1 L2 : va_W} {q n : Nat} {cA : ClassId} {f g : Nat → Option Nat} {H : Heap} (h : ∀ j, j < n → f j = g j) (hP : va_P D vwCl (L1 ++ (q, .inl (cA, n, .inr (.inr (.inr (.inr f))))) :: L2) H) : va_P D vwCl (L1 ++ (q, .inl (cA, n, .inr (.inr (.inr (.inr g))))) :: L2) H := by
  intro k x hx
  by_cases hk : k = L1.length
  · subst hk
    rw [List.getElem?_append_right (Nat.le_refl _), Nat.sub_self] at hx
    have hx2 : some (q, (Sum.inl (cA, n, .inr (.inr (.inr (.inr g)))) : va_E)) = some x := hx
    cases hx2
    have h0 := hP L1.length (q, .inl (cA, n, .inr (.inr (.inr (.inr f))))) (by rw [List.getElem?_append_right (Nat.le_refl _), Nat.sub_self]; rfl)
    show H[q]? = some (arrV cA n (fun j => va_rf (g j)))
    have h1 : H[q]? = some (arrV cA n (fun j => va_rf (f j))) := h0
    rw [h1, arrV_cong (fun j hj => by rw [h j hj])]
  · refine hP k x ?_
    by_cases hl : k < L1.length
    · rw [List.getElem?_append_left hl] at hx ⊢; exact hx
    · rw [List.getElem?_append_right (by omega)] at hx ⊢
      obtain ⟨i, hi⟩ : ∃ i, k - L1.length = i + 1 := ⟨k - L1.length - 1, by omega⟩
      rw [hi] at hx ⊢
      exact hx
theorem outer_D {A : Nat → Prop} {L1 L2 : va_W} {q : Nat} {e1 e2 : va_E} (hD : va_D A (L1 ++ (q, e1) :: L2)) : va_D A (L1 ++ (q, e2) :: L2) := by
  have key : ∀ (k : Nat) (x : Nat × va_E), (L1 ++ (q, e2) :: L2)[k]? = some x → ∃ y, (L1 ++ (q, e1) :: L2)[k]? = some y ∧ y.1 = x.1 := by
    intro k x hx
    by_cases hl : k < L1.length
    · rw [List.getElem?_append_left hl] at hx ⊢; exact ⟨x, hx, rfl⟩
    · rw [List.getElem?_append_right (by omega)] at hx ⊢
      rcases Nat.eq_zero_or_pos (k - L1.length) with h0 | h0
      · rw [h0] at hx ⊢
        have hx2 : some (q, e2) = some x := hx
        cases hx2
        exact ⟨(q, e1), rfl, rfl⟩
      · obtain ⟨i, hi⟩ : ∃ i, k - L1.length = i + 1 := ⟨k - L1.length - 1, by omega⟩
        rw [hi] at hx ⊢
        exact ⟨x, hx, rfl⟩
  refine ⟨fun i j p1 p2 h1 h2 e => ?_, fun k x hx => ?_⟩
  · obtain ⟨y1, g1, g2⟩ := key i p1 h1
    obtain ⟨y2, g3, g4⟩ := key j p2 h2
    exact hD.1 i j y1 y2 g1 g3 (by rw [g2, g4]; exact e)
  · obtain ⟨y1, g1, g2⟩ := key k x hx
    rw [← g2]
    exact hD.2 k y1 g1
section RM
variable {p : Program} {l : Launch} {e : Env} {R : Room} {s : State} {m : MethodId} {args : Array Value} {below : List Frame} {meth : Method} {c : Code} {Q : State → Prop} {D : va_G} {cy : Nat → ClassId} {A : Nat → Prop} {nL ce sl pc : Nat} {lv : List (Nat × Value)} {st : List Value} {ws : va_W} {cc : ByteArray} {own : String}
theorem n_mna {ty : FieldType} {z : vp_A} {t1 t2 : Nat} (X : CC p s m args meth c cc own nL D cy A) {c0 : Nat × va_E} {idx : Nat} {n k : Int} {N K : Nat} (hcl : Cond.classLink own idx ("[" ++ (FieldType.array ty).toString) ∈ gt) (hov : va_AOA ty s) (harr : Cond.arrayClass ty ∈ gt) (ht1 : (tyl cy)[t1]? = some (cy t1, ty)) (hr1 : va_RA s (cy t1) ty → s.vm.findClass (FieldType.array ty).toString = some (cy t1)) (ht2 : (tyl cy)[t2]? = some (cy t2, .array ty)) (hn : ¬ Int32.ofInt n < 0) (hk : ¬ Int32.ofInt k < 0) (hN : (Int32.ofInt n).toNatClampNeg = N) (hK : (Int32.ofInt k).toNatClampNeg = K) (hb1 : N * 4 ≤ 536870912) (hb2 : K * componentBytes ty ≤ 536870912) (hb3 : K ≤ 536870912) (hdf : fits ty (defaultValue ty) = true) (hdd : (defaultValue ty).isDefault = true) (hcc : ce + (1 + N) ≤ R.cells) (hss : sl + (N + N * K) ≤ R.slots) (hz : ∀ c : ClassId, Jvm.Free.Multi.innerC c K (defaultValue ty) = vp_cell c z) (hdg : decode cc pc = .ok (.multianewarray idx 2, 4))
    (kk : ∀ (q : Nat) (r : Nat → Nat), GC p l e R s m args below meth c Q D A nL (ce + 1 + N) (sl + N + N * K) (pc + 4) lv (.ref q :: st) (c0 :: (ws ++ ((q, .inl (cy t2, N, .inr (.inr (.inr (.inr (fun j => some (r j))))))) :: (List.range N).map (fun i => (r i, .inl (cy t1, z))))))) : GC p l e R s m args below meth c Q D A nL ce sl pc lv (mI k :: mI n :: st) (c0 :: ws) := by
  intro H locs ls hP hD hS hl
  refine va_mna (X := c0 :: ws) (L := []) (f := fun _ => .inl (cy t1, z)) (tys := tyl cy) (cy := cy t1) X.1 X.2.1 X.2.2.2.1 (X.2.2.2.2.1 _ hcl) hov (X.2.2.2.2.1 _ harr) (hr1 (X.2.2.2.2.2.1.2 t1 _ ht1).2) X.2.2.2.2.2.1 (by simpa [va_pl] using hP) (by simpa [va_pl] using hD) hS X.2.2.2.2.2.2.1 hn hk hN hK hb1 hb2 hb3 hdf hdd hcc hss hz hdg (fun q r cA H1 hinj hnl hK1 hP1 hD1 hS1 => ?_)
  have h1 := (X.2.2.2.2.2.1.2 t2 (cy t2, .array ty) ht2).2
  have h2 := (hK1.2 7 (cA, .array ty) rfl).2
  have e1 : cA = cy t2 := Option.some.inj (h2.symm.trans h1)
  subst e1
  have erow : va_pl ([] ++ (List.range N).map r) (vr_up (fun _ => (Sum.inl (cy t1, z) : va_E)) ((List.range N).map r) (.inl (cy t1, z))) = (List.range N).map (fun i => (r i, (Sum.inl (cy t1, z) : va_E))) := by
    unfold va_pl
    rw [List.nil_append, List.map_map]
    apply List.map_congr_left
    intro i hi
    show (r i, vr_up _ _ _ (r i)) = _
    unfold vr_up
    split <;> rfl
  rw [erow] at hP1 hD1
  rw [List.append_assoc] at hP1 hD1
  have hP2 := outer_P (g := fun j => some (r j)) (fun j hj => by simp [hj]) hP1
  have hD2 := outer_D (e2 := .inl (cy t2, N, .inr (.inr (.inr (.inr (fun j => some (r j))))))) hD1
  exact kk q r H1 locs ls hP2 hD2 hS1 hl
end RM
theorem n_return2 {p : Program} {l : Launch} {e : Env} {R : Room} {s : State} {m : MethodId} {args : Array Value} {below : List Frame} {meth : Method} {c : Code} {D : va_G} {cy : Nat → ClassId} {nL ce sl pc : Nat} {lv : List (Nat × Value)} {ws w0 : va_W} {cc : ByteArray} {own : String} {wl : (Nat → ClassId) → Nat → (Nat → Nat) → va_W} {h0 : Nat} (X : CC p s m args meth c cc own nL D cy (va_A w0 s.heap.size)) (u : Nat → Nat) (he : (∀ H, va_P D vwCl ws H → va_P D vwCl (wl cy h0 u) H) ∧ (va_D (va_A w0 s.heap.size) ws → va_D (va_A w0 s.heap.size) (wl cy h0 u))) (hdg : decode cc pc = .ok (.return_, 1)) : GC p l e R s m args below meth c (QC D cy wl w0 h0 s.heap.size below args s ce sl (va_A w0 s.heap.size)) D (va_A w0 s.heap.size) nL ce sl pc lv [] ws := by
  exact fun H locs ls hP hD hS hl => W.vret X.1 X.2.1 X.2.2.2.2.2.2.2.2.1 (fun t ht hW => ⟨⟨u, rfl, trivial, by subst ht; exact he.1 _ hP, he.2 hD⟩, hS.F ht⟩) hS.2.2 hdg X.2.2.2.2.2.2.2.2.2.1
