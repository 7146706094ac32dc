/-! the law's first steps: both objects are made -/
def CW (p : Program) (s : State) (m : MethodId) (b : Nat) (c : Code) (D : va_G) (cy : Nat → ClassId) : Prop := p.tables.exec = Jvm.exec ∧ c.code = code ∧ c.maxLocals = 4 ∧ s.vm.findClass RL = some m.cls ∧ (∀ w ∈ gt, w.before #[Value.ref b] s = true) ∧ va_K D vwCl (tyl cy) s ∧ EX s
def GW (p : Program) (l : Launch) (e : Env) (s : State) (m : MethodId) (b : Nat) (below : List Frame) (meth : Method) (c : Code) (D : va_G) (ce sl pc : Nat) (lv : List (Nat × Value)) (st : List Value) (ws : va_W) : Prop := GC p l e room_1 s m #[Value.ref b] below meth c (lw_Z below #[Value.ref b] s) D (fun q : Nat => s.heap.size ≤ q) 4 ce sl pc lv st ws
section WS
variable {p : Program} {l : Launch} {e : Env} {s : State} {m : MethodId} {below : List Frame} {meth : Method} {c : Code} {D : va_G} {cy : Nat → ClassId} {b ce sl pc : Nat} {lv lv2 : List (Nat × Value)} {st : List Value} {ws : va_W}
theorem q_dup (X : CW p s m b c D cy) {va : Value} (hdg : decode code pc = .ok (.dup, 1)) (hva : va.category = 1) (k : GW p l e s m b below meth c D ce sl (pc + 1) lv (va :: va :: st) ws) : GW p l e s m b below meth c D ce sl pc lv (va :: st) ws := fun H locs ls hP hD hS hl => lv_dup X.1 X.2.1 hdg hva (k H locs ls hP hD hS hl)
theorem q_iconst (X : CW p s m b c D cy) {n : Int} (hdg : decode code pc = .ok (.iconst n, 1)) (k : GW p l e s m b below meth c D ce sl (pc + 1) lv (mI n :: st) ws) : GW p l e s m b below meth c D ce sl pc lv st ws := fun H locs ls hP hD hS hl => lv_iconst X.1 X.2.1 hdg rfl (k H locs ls hP hD hS hl)
theorem q_istore_n (X : CW p s m b c D cy) {a : Int} {k0 : Fin 4} {i : Nat} (hdg : decode code pc = .ok (.istore_n k0, 1)) (hi : (k0 : Nat) = i) (hn : i < 4) (hl2 : (i, mI a) :: lv.filter (fun q => !(q.1 == i) && !(q.1 + 1 == i && q.2.category == 2)) = lv2) (k : GW p l e s m b below meth c D ce sl (pc + 1) lv2 st ws) : GW p l e s m b below meth c D ce sl pc lv (mI a :: st) ws := fun H locs ls hP hD hS hl => lv_istore_n X.1 X.2.1 hdg hi hl hn hl2 (fun ls hl => k H locs ls hP hD hS hl)
theorem q_astore_n (X : CW p s m b c D cy) {x : Nat} {k0 : Fin 4} {i : Nat} (hdg : decode code pc = .ok (.astore_n k0, 1)) (hi : (k0 : Nat) = i) (hn : i < 4) (hl2 : (i, Value.ref x) :: lv.filter (fun q => !(q.1 == i) && !(q.1 + 1 == i && q.2.category == 2)) = lv2) (k : GW p l e s m b below meth c D ce sl (pc + 1) lv2 st ws) : GW p l e s m b below meth c D ce sl pc lv (.ref x :: st) ws := fun H locs ls hP hD hS hl => lv_astore_n X.1 X.2.1 hdg hi hl hn hl2 (fun ls hl => k H locs ls hP hD hS hl)
theorem q_new (X : CW p s m b c D cy) {idx ci N : Nat} {fs : List Value} (hW : NW RL idx ci fs) (hN : fs.length = N) (hcc : ce + 1 ≤ room_1.cells) (hss : sl + N ≤ room_1.slots) (hdg : decode code pc = .ok (.new idx, 3)) (k : ∀ q : Nat, GW p l e s m b below meth c D (ce + 1) (sl + N) (pc + 3) lv (.ref q :: st) (ws ++ [(q, .inr (ci, fs))])) : GW p l e s m b below meth c D ce sl pc lv st ws := by
  obtain ⟨C, T, N2, ty0, h1, h2, h3, h4, h5, h6, h7, h8⟩ := hW
  subst hN
  subst h8
  intro H locs ls hP hD hS hl
  exact va_new (ci := ci) (fs := fs) (C := C) (T := T) (N := fs.length) X.1 X.2.1 X.2.2.2.2.1 h2 ty0 h3 X.2.2.2.1 (X.2.2.2.2.1 _ h4) (X.2.2.2.2.1 _ h5) (X.2.2.2.2.1 _ h6) X.2.2.2.2.2.1 hP hD hS (fun _ h => h) h1 h7 hcc hss hdg (fun q H1 hP1 hD1 hS1 => k q H1 locs ls hP1 hD1 hS1 hl)
theorem q_callJ (X : CW p s m b c D cy) {idx ci q : Nat} {fs0 : List Value} {wl : (Nat → ClassId) → Nat → (Nat → Nat) → va_W} {y : MethodName} {cc2 : ByteArray} {nL2 : Nat} {rm2 : Room} (hM : MC l y cc2 nL2 rm2 ci fs0 wl) (hY : YW y cc2 nL2 none 0) (hi : Cond.instanceMethod y ∈ gt) (hlk : Cond.methodLink RL idx y ∈ gt) (hyn : y.name = "<init>") (hR : rm2.frames + 1 ≤ room_1.frames ∧ 8 + (nL2 + 11) + rm2.locals ≤ room_1.locals) (hcs : ce + rm2.cells ≤ room_1.cells ∧ sl + rm2.slots ≤ room_1.slots) (hw : (st.map fun v => v.category).sum ≤ 8) (hdg : decode code pc = .ok (.invokespecial idx, 3)) (k : ∀ u : Nat → Nat, GW p l e s m b below meth c D (ce + rm2.cells) (sl + rm2.slots) (pc + 3) lv st (ws ++ wl cy q u)) : GW p l e s m b below meth c D ce sl pc lv (.ref q :: st) (ws ++ [(q, .inr (ci, fs0))]) := by
  intro H locs ls hP hD hS hl
  have hM2 := hM D cy q H.size
  have hq : (ws ++ [(q, (Sum.inr (ci, fs0) : va_E))])[ws.length]? = some (q, .inr (ci, fs0)) := by rw [List.getElem?_append_right (Nat.le_refl _), Nat.sub_self]; rfl
  have hP0 : va_P D vwCl [(q, .inr (ci, fs0))] H := by
    intro k x hx
    have hk : k < 1 := (List.getElem?_eq_some_iff.mp hx).1
    rw [show k = 0 by omega] at hx
    cases hx
    exact hP ws.length _ hq
  have hAq : s.heap.size ≤ q := hD.2 ws.length _ hq
  have hfree : ∀ x, va_A [(q, .inr (ci, fs0))] H.size x → s.heap.size ≤ x := by
    rintro x (⟨j, e9, hj⟩ | hj)
    · have hj0 : j < 1 := (List.getElem?_eq_some_iff.mp hj).1
      rw [show j = 0 by omega] at hj
      cases hj
      exact hAq
    · exact Nat.le_trans hS.1 hj
  have hpre : PreS s H (va_Pc [.ref q] (fun U => U.heap.size = H.size ∧ va_P D vwCl [(q, .inr (ci, fs0))] U.heap ∧ va_K D vwCl (tyl cy) U ∧ va_D (fun _ => True) [(q, .inr (ci, fs0))] ∧ EX U)) [.ref q] := by
    refine ⟨fun a2 U g mk z => ?_, fun U hU hW => ⟨rfl, by rw [hU], by rw [hU]; exact hP0, va_K.moved hW.alike X.2.2.2.2.2.1, ⟨fun i j x y hx hy _ => ?_, fun _ _ _ => trivial⟩, X.2.2.2.2.2.2.warm hW⟩⟩
    · obtain ⟨z0, z1, z2, z3, z4, z5⟩ := z
      exact ⟨z0, z1, z2, va_K.moved (u := U) (U := U.calling g mk a2) (Vm.Alike.refl U.vm) z3, z4, z5.calling⟩
    · have h1 : i < 1 := (List.getElem?_eq_some_iff.mp hx).1
      have h2 : j < 1 := (List.getElem?_eq_some_iff.mp hy).1
      omega
  refine va_callv (va_runI (As := []) (rest := st) ⟨X.1, X.2.1, X.2.2.1, X.2.2.2.1, X.2.2.2.2.1⟩ hM2 ⟨callB_of 0 X.2.2.2.2.1 (good_gt hY.1) rfl rfl rfl (X.2.2.2.2.1 _ hY.2.1) (X.2.2.2.2.1 _ hlk) hY.2.2 hR, hyn, X.2.2.2.2.1 _ hi⟩ hpre rfl rfl hl.1 rfl (lv_room hw) hdg hcs) hS (fun x _ h => hfree x h) hfree (fun u t H1 locs1 ht hvm hw1 hB hz1 hk1 hS1 => ?_)
  obtain ⟨hP1, hD1⟩ := hB
  rw [ht] at hP1
  exact k u H1 locs1 ls (join_P (ws := ws) hP hD hk1 hP1) (join_D (ws := ws) hP hD (fun x hx => Nat.le_trans hS.1 hx) hD1) hS1 hl
end WS
theorem nw_L_7 : NW RL 7 11 fsC_11 := ⟨RX11, TX11, 14, tyX11, rfl, inX11, tyX11_ok, tmem 20 (by decide +kernel) (by decide +kernel), tmem 21 (by decide +kernel) (by decide +kernel), tmem 1 (by decide +kernel) (by decide +kernel), (fun j hj => by rcases (show j = 0 ∨ j = 1 ∨ j = 2 ∨ j = 3 ∨ j = 4 ∨ j = 5 ∨ j = 6 ∨ j = 7 ∨ j = 8 ∨ j = 9 ∨ j = 10 ∨ j = 11 ∨ j = 12 ∨ j = 13 by omega) with rfl | rfl | rfl | rfl | rfl | rfl | rfl | rfl | rfl | rfl | rfl | rfl | rfl | rfl <;> rfl), rfl⟩
theorem nw_L_10 : NW RL 10 12 fsM0 := ⟨RX12, TX12, 86, tyX12, rfl, inX12, tyX12_ok, tmem 951 (by decide +kernel) (by decide +kernel), tmem 952 (by decide +kernel) (by decide +kernel), tmem 13 (by decide +kernel) (by decide +kernel), (fun j hj => by rcases (show j = 0 ∨ j = 1 ∨ j = 2 ∨ j = 3 ∨ j = 4 ∨ j = 5 ∨ j = 6 ∨ j = 7 ∨ j = 8 ∨ j = 9 ∨ j = 10 ∨ j = 11 ∨ j = 12 ∨ j = 13 ∨ j = 14 ∨ j = 15 ∨ j = 16 ∨ j = 17 ∨ j = 18 ∨ j = 19 ∨ j = 20 ∨ j = 21 ∨ j = 22 ∨ j = 23 ∨ j = 24 ∨ j = 25 ∨ j = 26 ∨ j = 27 ∨ j = 28 ∨ j = 29 ∨ j = 30 ∨ j = 31 ∨ j = 32 ∨ j = 33 ∨ j = 34 ∨ j = 35 ∨ j = 36 ∨ j = 37 ∨ j = 38 ∨ j = 39 ∨ j = 40 ∨ j = 41 ∨ j = 42 ∨ j = 43 ∨ j = 44 ∨ j = 45 ∨ j = 46 ∨ j = 47 ∨ j = 48 ∨ j = 49 ∨ j = 50 ∨ j = 51 ∨ j = 52 ∨ j = 53 ∨ j = 54 ∨ j = 55 ∨ j = 56 ∨ j = 57 ∨ j = 58 ∨ j = 59 ∨ j = 60 ∨ j = 61 ∨ j = 62 ∨ j = 63 ∨ j = 64 ∨ j = 65 ∨ j = 66 ∨ j = 67 ∨ j = 68 ∨ j = 69 ∨ j = 70 ∨ j = 71 ∨ j = 72 ∨ j = 73 ∨ j = 74 ∨ j = 75 ∨ j = 76 ∨ j = 77 ∨ j = 78 ∨ j = 79 ∨ j = 80 ∨ j = 81 ∨ j = 82 ∨ j = 83 ∨ j = 84 ∨ j = 85 by omega) with rfl | rfl | rfl | rfl | rfl | rfl | rfl | rfl | rfl | rfl | rfl | rfl | rfl | rfl | rfl | rfl | rfl | rfl | rfl | rfl | rfl | rfl | rfl | rfl | rfl | rfl | rfl | rfl | rfl | rfl | rfl | rfl | rfl | rfl | rfl | rfl | rfl | rfl | rfl | rfl | rfl | rfl | rfl | rfl | rfl | rfl | rfl | rfl | rfl | rfl | rfl | rfl | rfl | rfl | rfl | rfl | rfl | rfl | rfl | rfl | rfl | rfl | rfl | rfl | rfl | rfl | rfl | rfl | rfl | rfl | rfl | rfl | rfl | rfl | rfl | rfl | rfl | rfl | rfl | rfl | rfl | rfl | rfl | rfl | rfl | rfl <;> rfl), rfl⟩
theorem yw_X11_init : YW yX11_init cX11_init 1 none 0 := ⟨tmem 24 (by decide +kernel) (by decide +kernel), tmem 1 (by decide +kernel) (by decide +kernel), by decide, by decide, by decide +kernel⟩
theorem yi_X11_init : Cond.instanceMethod yX11_init ∈ gt := tmem 23 (by decide +kernel) (by decide +kernel)
theorem ml_L_9 : Cond.methodLink RL 9 yX11_init ∈ gt := tmem 22 (by decide +kernel) (by decide +kernel)
theorem yw_X12_init : YW yX12_init cX12_init 1 none 0 := ⟨tmem 955 (by decide +kernel) (by decide +kernel), tmem 13 (by decide +kernel) (by decide +kernel), by decide, by decide, by decide +kernel⟩
theorem yi_X12_init : Cond.instanceMethod yX12_init ∈ gt := tmem 954 (by decide +kernel) (by decide +kernel)
theorem ml_L_12 : Cond.methodLink RL 12 yX12_init ∈ gt := tmem 953 (by decide +kernel) (by decide +kernel)
theorem P_left {D : va_G} {W1 W2 : va_W} {H : Heap} (h : va_P D vwCl (W1 ++ W2) H) : va_P D vwCl W1 H := fun k q hq => h k q (by rw [List.getElem?_append_left (List.getElem?_eq_some_iff.mp hq).1]; exact hq)
theorem P_right {D : va_G} {W1 W2 : va_W} {H : Heap} (h : va_P D vwCl (W1 ++ W2) H) : va_P D vwCl W2 H := fun k q hq => h (W1.length + k) q (by rw [List.getElem?_append_right (Nat.le_add_right _ _), Nat.add_sub_cancel_left]; exact hq)
theorem wd_adr {S : List Shp} {cy : Nat → ClassId} {ad : Nat → Nat} {sg : St} {k : Nat} (hk : k < S.length) : ∃ e, (wd S cy ad sg)[k]? = some (ad k, e) := ⟨_, wd_at (List.getElem?_eq_getElem hk)⟩
theorem wd_len {S : List Shp} {cy : Nat → ClassId} {ad : Nat → Nat} {sg : St} : (wd S cy ad sg).length = S.length := List.length_mapIdx
/-- both worlds lie apart -/
theorem two_apart {A : Nat → Prop} {S T : List Shp} {cy : Nat → ClassId} {ad bd : Nat → Nat} {sg tg : St} (h : va_D A (wd S cy ad sg ++ wd T cy bd tg)) : apart S ad ∧ apart T bd ∧ (∀ k, k < S.length → A (ad k)) ∧ (∀ k, k < T.length → A (bd k)) ∧ ∀ i j, i < S.length → j < T.length → ad i ≠ bd j := by
  have l : ∀ k, k < S.length → ∃ e, (wd S cy ad sg ++ wd T cy bd tg)[k]? = some (ad k, e) := fun k hk => by
    obtain ⟨e, he⟩ := wd_adr (cy := cy) (ad := ad) (sg := sg) hk
    exact ⟨e, by rw [List.getElem?_append_left (by rw [wd_len]; exact hk)]; exact he⟩
  have r : ∀ k, k < T.length → ∃ e, (wd S cy ad sg ++ wd T cy bd tg)[S.length + k]? = some (bd k, e) := fun k hk => by
    obtain ⟨e, he⟩ := wd_adr (cy := cy) (ad := bd) (sg := tg) hk
    exact ⟨e, by rw [List.getElem?_append_right (by rw [wd_len]; omega), wd_len, Nat.add_sub_cancel_left]; exact he⟩
  refine ⟨fun i j hi hj e => ?_, fun i j hi hj e => ?_, fun k hk => ?_, fun k hk => ?_, fun i j hi hj e => ?_⟩
  · obtain ⟨e1, g1⟩ := l i hi
    obtain ⟨e2, g2⟩ := l j hj
    exact h.1 i j _ _ g1 g2 e
  · obtain ⟨e1, g1⟩ := r i hi
    obtain ⟨e2, g2⟩ := r j hj
    have := h.1 _ _ _ _ g1 g2 e
    omega
  · obtain ⟨e1, g1⟩ := l k hk
    exact h.2 k _ g1
  · obtain ⟨e1, g1⟩ := r k hk
    exact h.2 _ _ g1
  · obtain ⟨e1, g1⟩ := l i hi
    obtain ⟨e2, g2⟩ := r j hj
    have := h.1 _ _ _ _ g1 g2 e
    omega
