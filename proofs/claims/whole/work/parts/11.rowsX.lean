section RX
variable {p : Program} {l : Launch} {e : Env} {R : Room} {s : State} {m : MethodId} {args : Array Value} {below : List Frame} {meth : Method} {c : Code} {Q : State → Prop} {D : va_G} {S : List Shp} {cy : Nat → ClassId} {ad : Nat → Nat} {A : Nat → Prop} {nL pc : Nat} {lv lv2 : List (Nat × Value)} {st : List Value} {sg : St} {cc : ByteArray} {own : String} {ret : Option FieldType} {a b : Int}
theorem ald_any (X : CX p s m args meth c cc own nL ret D S cy ad A) {c0 n t0 : Nat} {g : Nat → Nat} {ty : FieldType} (hq : S[c0]? = some (.inl (t0, n, .inr g))) (ht : (tyl cy)[t0]? = some (cy t0, ty)) (hty : ty.isReference = true) (hi : inb a n) (hdg : decode cc pc = .ok (.aaload, 1)) (k : GG p l e R s m args below meth c Q D S cy ad A nL (pc + 1) lv (.ref (ad (g (ix a))) :: st) sg) : GG p l e R s m args below meth c Q D S cy ad A nL pc lv (mI a :: .ref (ad c0) :: st) sg := by
  intro H locs ls hP hS hl
  have hin := inb_vp hi
  have hlt : (Int32.ofInt a).toNatClampNeg < n := Nat.not_le.mp fun q => hin (Or.inr q)
  exact W.aald (v := va_rf (some (ad (g (ix a))))) (ty := ty) X.1 X.2.1 (hP c0 _ (wd_at hq)) ((X.2.2.2.2.2.1.2 t0 _ ht).1 n (fun j => va_rf (some (ad (g j))))) hty (fun q => by cases q) (by show ¬ (_ ∨ (arrV _ _ _).slots.size ≤ _); rw [arrV_size]; exact hin) (by show (arrV _ _ _).slots[_]? = _; rw [arrV_read _ _ hlt]; rfl) rfl rfl hdg (k H locs ls hP hS hl)
theorem r_aaldF (X : CX p s m args meth c cc own nL ret D S cy ad A) {c0 n : Nat} {g : Nat → Nat} (hq : S[c0]? = some (.inl (4, n, .inr g))) (hi : inb a n) (hdg : decode cc pc = .ok (.aaload, 1)) (k : GG p l e R s m args below meth c Q D S cy ad A nL (pc + 1) lv (.ref (ad (g (ix a))) :: st) sg) : GG p l e R s m args below meth c Q D S cy ad A nL pc lv (mI a :: .ref (ad c0) :: st) sg := ald_any X hq rfl rfl hi hdg k
theorem r_aaldI (X : CX p s m args meth c cc own nL ret D S cy ad A) {c0 n : Nat} {g : Nat → Nat} (hq : S[c0]? = some (.inl (5, n, .inr g))) (hi : inb a n) (hdg : decode cc pc = .ok (.aaload, 1)) (k : GG p l e R s m args below meth c Q D S cy ad A nL (pc + 1) lv (.ref (ad (g (ix a))) :: st) sg) : GG p l e R s m args below meth c Q D S cy ad A nL pc lv (mI a :: .ref (ad c0) :: st) sg := ald_any X hq rfl rfl hi hdg k
theorem r_aaldJ (X : CX p s m args meth c cc own nL ret D S cy ad A) {c0 n : Nat} {g : Nat → Nat} (hq : S[c0]? = some (.inl (6, n, .inr g))) (hi : inb a n) (hdg : decode cc pc = .ok (.aaload, 1)) (k : GG p l e R s m args below meth c Q D S cy ad A nL (pc + 1) lv (.ref (ad (g (ix a))) :: st) sg) : GG p l e R s m args below meth c Q D S cy ad A nL pc lv (mI a :: .ref (ad c0) :: st) sg := ald_any X hq rfl rfl hi hdg k
theorem r_gets1200 (X : CX p s m args meth c cc own nL ret D S cy ad A) {idx : Nat} (hl : Cond.fieldLink own idx "FairHall$TextReader" "LEAST_WISH" "[I" ∈ gt) (hdg : decode cc pc = .ok (.getstatic idx, 3)) (k : GG p l e R s m args below meth c Q D S cy ad A nL (pc + 3) lv (.ref (ad 1200) :: st) sg) : GG p l e R s m args below meth c Q D S cy ad A nL pc lv st sg := fun H locs ls hP hS hlv => va_gets X.1 X.2.1 X.2.2.2.2.2.2.2.2.2.2.2.2.2.2.1 hS X.2.2.2.1 (X.2.2.2.2.1 _ hl) (fun _ h => h) hdg (k H locs ls hP hS hlv)
theorem r_gets1201 (X : CX p s m args meth c cc own nL ret D S cy ad A) {idx : Nat} (hl : Cond.fieldLink own idx "FairHall$TextReader" "GREATEST_WISH" "[I" ∈ gt) (hdg : decode cc pc = .ok (.getstatic idx, 3)) (k : GG p l e R s m args below meth c Q D S cy ad A nL (pc + 3) lv (.ref (ad 1201) :: st) sg) : GG p l e R s m args below meth c Q D S cy ad A nL pc lv st sg := fun H locs ls hP hS hlv => va_gets X.1 X.2.1 X.2.2.2.2.2.2.2.2.2.2.2.2.2.2.2.2.1 hS X.2.2.2.1 (X.2.2.2.2.1 _ hl) (fun _ h => h) hdg (k H locs ls hP hS hlv)
theorem r_sald1200 (X : CX p s m args meth c cc own nL ret D S cy ad A) (hi : inb a 4) (hdg : decode cc pc = .ok (.iaload, 1)) (k : GG p l e R s m args below meth c Q D S cy ad A nL (pc + 1) lv (mI (leastW (ix a)) :: st) sg) : GG p l e R s m args below meth c Q D S cy ad A nL pc lv (mI a :: .ref (ad 1200) :: st) sg := fun H locs ls hP hS hlv => va_ti X.1 X.2.1 X.2.2.2.2.2.2.2.2.2.2.2.2.2.2.2.1 hS (inb_vp hi) rfl hdg (k H locs ls hP hS hlv)
theorem r_sald1201 (X : CX p s m args meth c cc own nL ret D S cy ad A) (hi : inb a 4) (hdg : decode cc pc = .ok (.iaload, 1)) (k : GG p l e R s m args below meth c Q D S cy ad A nL (pc + 1) lv (mI (greatW (ix a)) :: st) sg) : GG p l e R s m args below meth c Q D S cy ad A nL pc lv (mI a :: .ref (ad 1201) :: st) sg := fun H locs ls hP hS hlv => va_ti X.1 X.2.1 X.2.2.2.2.2.2.2.2.2.2.2.2.2.2.2.2.2.1 hS (inb_vp hi) rfl hdg (k H locs ls hP hS hlv)
theorem r_ldcS (X : CX p s m args meth c cc "FairHall$TextReader" nL ret D S cy ad A) {idx : Nat} (i : Nat) (hi : i < 7) (he : poolK.getD i 0 = idx) (hdg : decode cc pc = .ok (.ldc idx, 2)) (k : GG p l e R s m args below meth c Q D S cy ad A nL (pc + 2) lv (.ref (ad (1000 + i)) :: st) sg) : GG p l e R s m args below meth c Q D S cy ad A nL pc lv st sg := by
  subst he
  exact fun H locs ls hP hS hlv => va_ldcS X.1 X.2.1 X.2.2.2.1 (X.2.2.2.2.2.2.2.2.2.2.2.1 i hi) hdg (k H locs ls hP hS hlv)
variable {y : MethodName} {cc2 : ByteArray} {nL2 : Nat} {ret2 : Option FieldType} {rm2 : Room} {sg2 : St} {r : Int} {stk : List Value}
theorem r_callNI (X : CX p s m args meth c cc own nL ret D S cy ad A) {As : List Value} {n idx : Nat} {as : (Nat → Nat) → List Value} (hM : MI l S y cc2 nL2 ret2 rm2 as sg sg2 r) (has : as ad = As) (hY : YW y cc2 nL2 ret2 n) (hV : Cond.static y ∈ gt) (hl : (own, idx, y) ∈ nwL) (hz : rm2.cells = 0 ∧ rm2.slots = 0) (hR : rm2.frames + 1 ≤ R.frames ∧ 8 + (nL2 + 11) + rm2.locals ≤ R.locals) (hn : As.length = n) (hs : stk = As.reverse ++ st) (hw : (st.map fun v => v.category).sum ≤ 8) (hdg : decode cc pc = .ok (.invokestatic idx, 3)) (k : GG p l e R s m args below meth c Q D S cy ad A nL (pc + 3) lv (mI r :: st) sg2) : GG p l e R s m args below meth c Q D S cy ad A nL pc lv stk sg := by
  intro H locs ls hP hS hl2
  have hM2 := hM D cy ad
  rw [has] at hM2
  subst hs
  have hN : va_Nw (.methodLinkNest own idx y "FairHall") s := X.2.2.2.2.2.2.2.2.2.2.2.2.2.2.2.2.2.2 _ hl
  refine va_calli (va_runSN (As := As) (rest := st) ⟨X.1, X.2.1, X.2.2.1, X.2.2.2.1, X.2.2.2.2.1⟩ hM2 ⟨va_cnB n X.2.2.2.2.1 (good_gt hY.1) rfl hz.1 hz.2 hN (X.2.2.2.2.1 _ hY.2.1) hY.2.2 hR, X.2.2.2.2.1 _ hV, trivial⟩ (pre_S X hP hS As) rfl hn hl2.1 rfl (lv_room hw) hdg ⟨Nat.zero_le _, Nat.zero_le _⟩) hS (fun q _ h => ?_) (fun q h => ?_) (fun r_2 u t H1 locs1 ht hvm hw1 hB hz1 hk1 hS1 => ?_)
  · obtain ⟨k0, h1, h2⟩ := h; rw [h2]; exact X.2.2.2.2.2.2.2.1 k0 h1
  · obtain ⟨k0, h1, h2⟩ := h; rw [h2]; exact X.2.2.2.2.2.2.2.1 k0 h1
  · rw [hw1]
    exact k H1 locs1 ls (by rw [← ht]; exact hB) hS1 hl2
/-- a call on a String constant -/
theorem r_callKI (X : CX p s m args meth c cc own nL ret D S cy ad A) {As : List Value} {n idx c0 : Nat} {as : (Nat → Nat) → List Value} (hM : MI l S y cc2 nL2 ret2 rm2 as sg sg2 r) (has : as ad = .ref (ad c0) :: As) (hY : YW y cc2 nL2 ret2 n) (hV : YV y) (hl : Cond.methodLink own idx y ∈ gt) (hk : 1000 ≤ c0 ∧ c0 < 1007) (hq : "java/lang/String" = y.cls) (hz : rm2.cells = 0 ∧ rm2.slots = 0) (hR : rm2.frames + 1 ≤ R.frames ∧ 8 + (nL2 + 11) + rm2.locals ≤ R.locals) (hn : As.length = n) (hs : stk = As.reverse ++ .ref (ad c0) :: st) (hw : (st.map fun v => v.category).sum ≤ 8) (hdg : decode cc pc = .ok (.invokevirtual idx, 3)) (k : GG p l e R s m args below meth c Q D S cy ad A nL (pc + 3) lv (mI r :: st) sg2) : GG p l e R s m args below meth c Q D S cy ad A nL pc lv stk sg := by
  intro H locs ls hP hS hl2
  have hM2 := hM D cy ad
  rw [has] at hM2
  subst hs
  have hrec : ∃ cell : Cell, H[ad c0]? = some cell ∧ cell.vm.isStatics = false ∧ s.vm.findClass "java/lang/String" = some cell.cls := by
    have h9 := vk_recv X.2.2.2.2.2.2.2.2.2.2.1 (i := c0 - 1000) (by omega) hS
    have e9 : 1000 + (c0 - 1000) = c0 := by omega
    simp only [e9] at h9
    exact h9
  refine va_calli (va_runV (As := As) (rest := st) (C := "java/lang/String") ⟨X.1, X.2.1, X.2.2.1, X.2.2.2.1, X.2.2.2.2.1⟩ hM2 ⟨call_b X hY hl hz.1 hz.2 hR, X.2.2.2.2.1 _ hV.1, by rw [hq]; exact X.2.2.2.2.1 _ hV.2⟩ ⟨pw_blind, hrec, (pre_S X hP hS _).2⟩ rfl hn hl2.1 rfl (lv_room hw) hdg ⟨Nat.zero_le _, Nat.zero_le _⟩) hS (fun q _ h => ?_) (fun q h => ?_) (fun r_2 u t H1 locs1 ht hvm hw1 hB hz1 hk1 hS1 => ?_)
  · obtain ⟨k0, h1, h2⟩ := h; rw [h2]; exact X.2.2.2.2.2.2.2.1 k0 h1
  · obtain ⟨k0, h1, h2⟩ := h; rw [h2]; exact X.2.2.2.2.2.2.2.1 k0 h1
  · rw [hw1]
    exact k H1 locs1 ls (by rw [← ht]; exact hB) hS1 hl2
end RX
