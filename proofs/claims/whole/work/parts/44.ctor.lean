/-! CONSTRUCTORS: the world is a list of cells that grows -/
def va_AOA (ty : FieldType) (U : State) : Prop := (Cond.arrayOver (.array ty)).before #[] U = true
theorem va_AOA.use {ty : FieldType} {A : Array Value} {U : State} (h : va_AOA ty U) : (Cond.arrayOver (.array ty)).before A U = true := by
  unfold va_AOA at h
  simpa [Cond.before, Cond.holds, Cond.value] using h
/-- what the constructors want of the tables beside the good words -/
def EX (U : State) : Prop := va_AOA .int U ∧ va_AOA .long U ∧ va_AO "FairHall$Fraction" U ∧ ∀ q ∈ nwL, va_Nw (.methodLinkNest q.1 q.2.1 q.2.2 "FairHall") U
def GC (p : Program) (l : Launch) (e : Env) (R : Room) (s : State) (m : MethodId) (args : Array Value) (below : List Frame) (meth : Method) (c : Code) (Q : State → Prop) (D : va_G) (A : Nat → Prop) (nL ce sl pc : Nat) (lv : List (Nat × Value)) (st : List Value) (ws : va_W) : Prop :=
  ∀ (H : Heap) (locs : List Loc) (ls : Array Slot), va_P D vwCl ws H → va_D A ws → va_S A s.heap H locs → lv_has ls nL lv → W p l e R s m args below meth c H locs ce sl Q (F0 m pc ls st)
def CC (p : Program) (s : State) (m : MethodId) (args : Array Value) (meth : Method) (c : Code) (cc : ByteArray) (own : String) (nL : Nat) (D : va_G) (cy : Nat → ClassId) (A : Nat → Prop) : Prop :=
  p.tables.exec = Jvm.exec ∧ c.code = cc ∧ c.maxLocals = nL ∧ s.vm.findClass own = some m.cls ∧ (∀ w ∈ gt, w.before args s = true) ∧ va_K D vwCl (tyl cy) s ∧ (∀ q : Nat, s.heap.size ≤ q → A q) ∧ meth.name = "<init>" ∧ meth.sig.returnType = none ∧ meth.locks = false ∧ EX s
/-- a final field -/
def FF (own : String) (idx ci j : Nat) (ty : FieldType) : Prop := ∃ (C : String) (T : u_T) (N : Nat) (ty0 : Nat → FieldType), vwCl[ci]? = some (C, T, N) ∧ j < N ∧ Cond.fieldLink own idx (T j).1 (T j).2.1 (T j).2.2.1 ∈ gt ∧ (∀ w ∈ u_ws C T N, w ∈ gt) ∧ (∀ k, k < N → parseFieldDescriptor (T k).2.2.1 = some (ty0 k)) ∧ (∀ a, a < N → ∀ b, b < N → a ≠ b → (T a).2.1 ≠ (T b).2.1) ∧ (T j).2.2.2 = true ∧ (T j).1 = own ∧ parseFieldDescriptor (T j).2.2.1 = some ty
section RN
variable {p : Program} {l : Launch} {e : Env} {R : Room} {s : State} {m : MethodId} {args : Array Value} {below : List Frame} {meth : Method} {c : Code} {Q : State → Prop} {D : va_G} {cy : Nat → ClassId} {A : Nat → Prop} {nL ce sl pc : Nat} {lv lv2 : List (Nat × Value)} {st : List Value} {ws : va_W} {cc : ByteArray} {own : String} {a b : Int}
theorem n_iconst (X : CC p s m args meth c cc own nL D cy A) {n : Int} (hdg : decode cc pc = .ok (.iconst n, 1)) (k : GC p l e R s m args below meth c Q D A nL ce sl (pc + 1) lv (mI n :: st) ws) : GC p l e R s m args below meth c Q D A nL ce sl pc lv st ws := fun H locs ls hP hD hS hl => lv_iconst X.1 X.2.1 hdg rfl (k H locs ls hP hD hS hl)
theorem n_bipush (X : CC p s m args meth c cc own nL D cy A) {n : Int} (hdg : decode cc pc = .ok (.bipush n, 2)) (hv : (Int8.ofInt n).toInt32 = Int32.ofInt n) (k : GC p l e R s m args below meth c Q D A nL ce sl (pc + 2) lv (mI n :: st) ws) : GC p l e R s m args below meth c Q D A nL ce sl pc lv st ws := fun H locs ls hP hD hS hl => lv_bipush X.1 X.2.1 hdg hv (k H locs ls hP hD hS hl)
theorem n_sipush (X : CC p s m args meth c cc own nL D cy A) {n : Int} (hdg : decode cc pc = .ok (.sipush n, 3)) (hv : (Int16.ofInt n).toInt32 = Int32.ofInt n) (k : GC p l e R s m args below meth c Q D A nL ce sl (pc + 3) lv (mI n :: st) ws) : GC p l e R s m args below meth c Q D A nL ce sl pc lv st ws := fun H locs ls hP hD hS hl => lv_sipush X.1 X.2.1 hdg hv (k H locs ls hP hD hS hl)
theorem n_lconst (X : CC p s m args meth c cc own nL D cy A) {n : Fin 2} {v : Int} (hdg : decode cc pc = .ok (.lconst n, 1)) (hv : Int64.ofNat (n : Nat) = Int64.ofInt v) (k : GC p l e R s m args below meth c Q D A nL ce sl (pc + 1) lv (mL v :: st) ws) : GC p l e R s m args below meth c Q D A nL ce sl pc lv st ws := fun H locs ls hP hD hS hl => lv_lconst X.1 X.2.1 hdg hv (k H locs ls hP hD hS hl)
theorem n_aload_n (X : CC p s m args meth c cc own nL D cy A) {k0 : Fin 4} {i x : Nat} (q : Nat) (hdg : decode cc pc = .ok (.aload_n k0, 1)) (hi : (k0 : Nat) = i) (hq : lv[q]? = some (i, .ref x)) (k : GC p l e R s m args below meth c Q D A nL ce sl (pc + 1) lv (.ref x :: st) ws) : GC p l e R s m args below meth c Q D A nL ce sl pc lv st ws := fun H locs ls hP hD hS hl => lv_aload_n X.1 X.2.1 hdg hi (lv_at hl q hq) (k H locs ls hP hD hS hl)
theorem n_objInit (X : CC p s m args meth c cc own nL D cy A) {idx x : Nat} (hl1 : Cond.methodLink own idx objectInit ∈ gt) (hl2 : Cond.instanceMethod objectInit ∈ gt) (hl3 : Cond.code objectInit ⟨#[0xb1]⟩ 1 none ∈ gt) (hf : 1 ≤ R.frames) (hlo : (st.map fun v => v.category).sum + 12 ≤ R.locals) (hdg : decode cc pc = .ok (.invokespecial idx, 3)) (k : GC p l e R s m args below meth c Q D A nL ce sl (pc + 3) lv st ws) : GC p l e R s m args below meth c Q D A nL ce sl pc lv (.ref x :: st) ws := fun H locs ls hP hD hS hl => W.objInit X.1 X.2.1 X.2.2.2.1 (X.2.2.2.2.1 _ hl1) (X.2.2.2.2.1 _ hl2) (X.2.2.2.2.1 _ hl3) rfl (by rw [X.2.2.1]; exact hl.1) rfl hdg hf (by show 2 * (F0 m pc ls _).monitorRoom + _ + 12 ≤ _; simpa [JFrame.monitorRoom] using hlo) (k H locs ls hP hD hS hl)
theorem n_put (X : CC p s m args meth c cc own nL D cy A) {idx h0 j ci : Nat} {fs : List Value} {ty : FieldType} {v : Value} (hF : FP own idx ci j ty) (hn : narrow ty v = v) (hfit : fits ty v = true) {NN : Nat} (hlen : fs.length = NN) (hj : j < NN) (hdg : decode cc pc = .ok (.putfield idx, 3)) (k : (fs.set j v).length = NN → GC p l e R s m args below meth c Q D A nL ce sl (pc + 3) lv st ((h0, .inr (ci, fs.set j v)) :: ws)) : GC p l e R s m args below meth c Q D A nL ce sl pc lv (v :: .ref h0 :: st) ((h0, .inr (ci, fs)) :: ws) := by
  intro H locs ls hP hD hS hl
  obtain ⟨C, T, N, ty0, h1, h2, h3, h4, h5, h6, h7, h8⟩ := hF
  exact va_put (D := D) (ci := ci) (v := v) (ty := ty) (C := C) (T := T) (N := N) X.1 X.2.1 X.2.2.2.2.1 h4 ty0 h5 h6 X.2.2.2.1 X.2.2.2.2.2.1 hP hD hS 0 rfl h1 j h2 (X.2.2.2.2.1 _ h3) (fun _ h9 => h9) h7 h8 hn hfit (by rw [hlen]; exact hj) hdg (fun H1 locs1 hP1 hD1 hS1 => k (by rw [List.length_set]; exact hlen) H1 locs1 ls hP1 hD1 hS1 hl)
theorem n_putF (X : CC p s m args meth c cc own nL D cy A) {idx h0 j ci : Nat} {fs : List Value} {ty : FieldType} {v : Value} (hF : FF own idx ci j ty) (hn : narrow ty v = v) (hfit : fits ty v = true) {NN : Nat} (hlen : fs.length = NN) (hj : j < NN) (hdg : decode cc pc = .ok (.putfield idx, 3)) (k : (fs.set j v).length = NN → GC p l e R s m args below meth c Q D A nL ce sl (pc + 3) lv st ((h0, .inr (ci, fs.set j v)) :: ws)) : GC p l e R s m args below meth c Q D A nL ce sl pc lv (v :: .ref h0 :: st) ((h0, .inr (ci, fs)) :: ws) := by
  intro H locs ls hP hD hS hl
  obtain ⟨C, T, N, ty0, h1, h2, h3, h4, h5, h6, h7, h7b, h8⟩ := hF
  exact va_putF (D := D) (ci := ci) (v := v) (ty := ty) (C := C) (T := T) (N := N) X.1 X.2.1 X.2.2.2.2.1 h4 ty0 h5 h6 X.2.2.2.1 X.2.2.2.2.2.1 hP hD hS 0 rfl h1 j h2 (X.2.2.2.2.1 _ h3) (fun _ h9 => h9) h7 X.2.2.2.2.2.2.2.1 h7b h8 hn hfit (by rw [hlen]; exact hj) hdg (fun H1 locs1 hP1 hD1 hS1 => k (by rw [List.length_set]; exact hlen) H1 locs1 ls hP1 hD1 hS1 hl)
theorem n_newaI (X : CC p s m args meth c cc own nL D cy A) {c0 : Nat × va_E} {n : Int} {N : Nat} (harr : Cond.arrayClass .int ∈ gt) (hn : ¬ Int32.ofInt n < 0) (hN : (Int32.ofInt n).toNatClampNeg = N) (hby : N * componentBytes .int ≤ 536870912) (hcc : ce + 1 ≤ R.cells) (hss : sl + N ≤ R.slots) (hdg : decode cc pc = .ok (.newarray .int, 2)) (k : ∀ q : Nat, GC p l e R s m args below meth c Q D A nL (ce + 1) (sl + N) (pc + 2) lv (.ref q :: st) (c0 :: (ws ++ [(q, .inl (cy 0, N, .inl (fun _ => Int32.ofInt 0)))]))) : GC p l e R s m args below meth c Q D A nL ce sl pc lv (mI n :: st) (c0 :: ws) := by
  intro H locs ls hP hD hS hl
  refine va_newa (atype := .int) (tys := tyl cy) (ty := .int) (a0 := (N, .inl (fun _ => Int32.ofInt 0))) X.1 X.2.1 (X.2.2.2.2.1 _ harr) rfl X.2.2.2.2.2.1 hP hD hS X.2.2.2.2.2.2.1 (fun _ => rfl) hn hN hby hcc hss hdg (fun q cA H1 hK1 hP1 hD1 hS1 => ?_)
  have h1 := (X.2.2.2.2.2.1.2 0 (cy 0, .int) rfl).2
  have h2 := (hK1.2 7 (cA, .int) rfl).2
  have e : cA = cy 0 := Option.some.inj (h2.symm.trans h1)
  subst e
  exact k q H1 locs ls hP1 hD1 hS1 hl
theorem n_newaJ (X : CC p s m args meth c cc own nL D cy A) {c0 : Nat × va_E} {n : Int} {N : Nat} (harr : Cond.arrayClass .long ∈ gt) (hn : ¬ Int32.ofInt n < 0) (hN : (Int32.ofInt n).toNatClampNeg = N) (hby : N * componentBytes .long ≤ 536870912) (hcc : ce + 1 ≤ R.cells) (hss : sl + N ≤ R.slots) (hdg : decode cc pc = .ok (.newarray .long, 2)) (k : ∀ q : Nat, GC p l e R s m args below meth c Q D A nL (ce + 1) (sl + N) (pc + 2) lv (.ref q :: st) (c0 :: (ws ++ [(q, .inl (cy 1, N, .inr (.inl (fun _ => Int64.ofInt 0))))]))) : GC p l e R s m args below meth c Q D A nL ce sl pc lv (mI n :: st) (c0 :: ws) := by
  intro H locs ls hP hD hS hl
  refine va_newa (atype := .long) (tys := tyl cy) (ty := .long) (a0 := (N, .inr (.inl (fun _ => Int64.ofInt 0)))) X.1 X.2.1 (X.2.2.2.2.1 _ harr) rfl X.2.2.2.2.2.1 hP hD hS X.2.2.2.2.2.2.1 (fun _ => rfl) hn hN hby hcc hss hdg (fun q cA H1 hK1 hP1 hD1 hS1 => ?_)
  have h1 := (X.2.2.2.2.2.1.2 1 (cy 1, .long) rfl).2
  have h2 := (hK1.2 7 (cA, .long) rfl).2
  have e : cA = cy 1 := Option.some.inj (h2.symm.trans h1)
  subst e
  exact k q H1 locs ls hP1 hD1 hS1 hl
theorem n_newaZ (X : CC p s m args meth c cc own nL D cy A) {c0 : Nat × va_E} {n : Int} {N : Nat} (harr : Cond.arrayClass .boolean ∈ gt) (hn : ¬ Int32.ofInt n < 0) (hN : (Int32.ofInt n).toNatClampNeg = N) (hby : N * componentBytes .boolean ≤ 536870912) (hcc : ce + 1 ≤ R.cells) (hss : sl + N ≤ R.slots) (hdg : decode cc pc = .ok (.newarray .boolean, 2)) (k : ∀ q : Nat, GC p l e R s m args below meth c Q D A nL (ce + 1) (sl + N) (pc + 2) lv (.ref q :: st) (c0 :: (ws ++ [(q, .inl (cy 2, N, .inl (fun _ => Int32.ofInt 0)))]))) : GC p l e R s m args below meth c Q D A nL ce sl pc lv (mI n :: st) (c0 :: ws) := by
  intro H locs ls hP hD hS hl
  refine va_newa (atype := .boolean) (tys := tyl cy) (ty := .boolean) (a0 := (N, .inl (fun _ => Int32.ofInt 0))) X.1 X.2.1 (X.2.2.2.2.1 _ harr) rfl X.2.2.2.2.2.1 hP hD hS X.2.2.2.2.2.2.1 (fun _ => rfl) hn hN hby hcc hss hdg (fun q cA H1 hK1 hP1 hD1 hS1 => ?_)
  have h1 := (X.2.2.2.2.2.1.2 2 (cy 2, .boolean) rfl).2
  have h2 := (hK1.2 7 (cA, .boolean) rfl).2
  have e : cA = cy 2 := Option.some.inj (h2.symm.trans h1)
  subst e
  exact k q H1 locs ls hP1 hD1 hS1 hl
theorem n_newaB (X : CC p s m args meth c cc own nL D cy A) {c0 : Nat × va_E} {n : Int} {N : Nat} (harr : Cond.arrayClass .byte ∈ gt) (hn : ¬ Int32.ofInt n < 0) (hN : (Int32.ofInt n).toNatClampNeg = N) (hby : N * componentBytes .byte ≤ 536870912) (hcc : ce + 1 ≤ R.cells) (hss : sl + N ≤ R.slots) (hdg : decode cc pc = .ok (.newarray .byte, 2)) (k : ∀ q : Nat, GC p l e R s m args below meth c Q D A nL (ce + 1) (sl + N) (pc + 2) lv (.ref q :: st) (c0 :: (ws ++ [(q, .inl (cy 3, N, .inl (fun _ => Int32.ofInt 0)))]))) : GC p l e R s m args below meth c Q D A nL ce sl pc lv (mI n :: st) (c0 :: ws) := by
  intro H locs ls hP hD hS hl
  refine va_newa (atype := .byte) (tys := tyl cy) (ty := .byte) (a0 := (N, .inl (fun _ => Int32.ofInt 0))) X.1 X.2.1 (X.2.2.2.2.1 _ harr) rfl X.2.2.2.2.2.1 hP hD hS X.2.2.2.2.2.2.1 (fun _ => rfl) hn hN hby hcc hss hdg (fun q cA H1 hK1 hP1 hD1 hS1 => ?_)
  have h1 := (X.2.2.2.2.2.1.2 3 (cy 3, .byte) rfl).2
  have h2 := (hK1.2 7 (cA, .byte) rfl).2
  have e : cA = cy 3 := Option.some.inj (h2.symm.trans h1)
  subst e
  exact k q H1 locs ls hP1 hD1 hS1 hl
end RN
def fg (ad : Nat → Nat) (f : Nat → Int) : Nat → List (Nat ⊕ Nat) → List Value
  | _, [] => []
  | j, k :: ks => fv ad k (f j) :: fg ad f (j + 1) ks
theorem fg_eq (ad : Nat → Nat) : ∀ (ks : List (Nat ⊕ Nat)) (f : Nat → Int) (j : Nat), ks.mapIdx (fun i k => fv ad k (f (i + j))) = fg ad f j ks
  | [], _, _ => rfl
  | k :: ks, f, j => by
    rw [List.mapIdx_cons, fg]
    have h := fg_eq ad ks f (j + 1)
    rw [← h]
    simp only [Nat.zero_add, Nat.add_assoc, Nat.add_comm 1 j]
def cg (cy : Nat → ClassId) (ad : Nat → Nat) (q : Shp) (f : Nat → Int) : va_E := match q with
  | .inl x => ce cy ad (.inl x) f
  | .inr (ci, ks) => .inr (ci, fg ad f 0 ks)
theorem cg_eq (cy : Nat → ClassId) (ad : Nat → Nat) (q : Shp) (f : Nat → Int) : ce cy ad q f = cg cy ad q f := by
  rcases q with x | ⟨ci, ks⟩
  · rfl
  · show (Sum.inr (ci, ks.mapIdx (fun j k => fv ad k (f j))) : va_E) = Sum.inr (ci, fg ad f 0 ks)
    rw [← fg_eq]
    rfl
def wg (cy : Nat → ClassId) (ad : Nat → Nat) (sg : St) : Nat → List Shp → va_W
  | _, [] => []
  | c, q :: S => (ad c, cg cy ad q (sg c)) :: wg cy ad sg (c + 1) S
theorem wg_eq (cy : Nat → ClassId) (ad : Nat → Nat) (sg : St) : ∀ (S : List Shp) (c : Nat), S.mapIdx (fun i q => (ad (i + c), ce cy ad q (sg (i + c)))) = wg cy ad sg c S
  | [], _ => rfl
  | q :: S, c => by
    rw [List.mapIdx_cons, wg]
    have h := wg_eq cy ad sg S (c + 1)
    rw [← h, cg_eq]
    simp only [Nat.zero_add, Nat.add_assoc, Nat.add_comm 1 c]
theorem wd_go (S : List Shp) (cy : Nat → ClassId) (ad : Nat → Nat) (sg : St) : wd S cy ad sg = wg cy ad sg 0 S := wg_eq cy ad sg S 0
def WC (D : va_G) (cy : Nat → ClassId) (wl : (Nat → ClassId) → Nat → (Nat → Nat) → va_W) (w0 : va_W) (h0 sz : Nat) (u : Nat → Nat) (t : State) : Prop := va_P D vwCl (wl cy h0 u) t.heap ∧ va_D (va_A w0 sz) (wl cy h0 u)
/-- a constructor's contract: from one object with its defaults to the cells wl -/
def MC (l : Launch) (y : MethodName) (cc : ByteArray) (nL : Nat) (rm : Room) (ci : Nat) (fs0 : List Value) (wl : (Nat → ClassId) → Nat → (Nat → Nat) → va_W) : Prop :=
  ∀ (D : va_G) (cy : Nat → ClassId) (h0 sz : Nat), Met l y (.code y cc nL none :: gt) rm (va_Pc [.ref h0] (fun U => U.heap.size = sz ∧ va_P D vwCl [(h0, .inr (ci, fs0))] U.heap ∧ va_K D vwCl (tyl cy) U ∧ va_D (fun _ => True) [(h0, .inr (ci, fs0))] ∧ EX U)) (va_Qv (fun (_ : Nat → Nat) => True) (WC D cy wl [(h0, .inr (ci, fs0))] h0 sz) (va_A [(h0, .inr (ci, fs0))] sz)) rm.cells rm.slots (va_A [(h0, .inr (ci, fs0))] sz)
def QC (D : va_G) (cy : Nat → ClassId) (wl : (Nat → ClassId) → Nat → (Nat → Nat) → va_W) (w0 : va_W) (h0 sz : Nat) (below : List Frame) (args : Array Value) (s : State) (mc ms : Nat) (A : Nat → Prop) : State → Prop := MQ below (va_Qv (fun (_ : Nat → Nat) => True) (WC D cy wl w0 h0 sz) A) args s mc ms A
theorem mk_c {l : Launch} {y : MethodName} {cc : ByteArray} {nL : Nat} {rm : Room} {ci : Nat} {fs0 : List Value} {wl : (Nat → ClassId) → Nat → (Nat → Nat) → va_W} (hy : plainFor y = true) (hyn : y.name = "<init>") (hn : 1 ≤ nL)
    (h : ∀ p e s m args below meth c D cy h0, CC p s m args meth c cc y.cls nL D cy (va_A [(h0, .inr (ci, fs0))] s.heap.size) → GC p l e rm s m args below meth c (QC D cy wl [(h0, .inr (ci, fs0))] h0 s.heap.size below args s rm.cells rm.slots (va_A [(h0, .inr (ci, fs0))] s.heap.size)) D (va_A [(h0, .inr (ci, fs0))] s.heap.size) nL 0 0 0 [(0, .ref h0)] [] [(h0, .inr (ci, fs0))]) : MC l y cc nL rm ci fs0 wl := by
  intro D cy h0 sz
  refine ofWF (cc := cc) (maxL := nL) (ret := none) hy rfl ?_
  intro p e s m args below meth c s₁ B hml hv
  obtain ⟨rfl, rfl, hP, hK, hD0, hE⟩ := hv
  have hl := lv_entry ([.ref h0]) (n := nL) hn
  rw [lg_entry_eq]
  have hin : meth.name = "<init>" := by rw [(name_of_methodNamed B.named B.method).1, hyn]
  exact h p e s m _ below meth c D cy h0 ⟨B.exec, B.bytes, hml, findClass_of_methodNamed B.named, fun w hw => atoms_spec (ws := .code y cc nL none :: gt) B.pre w (List.mem_cons_of_mem _ hw), hK, fun q h => Or.inr h, hin, B.returns, B.notSynchronized, hE⟩ s.heap [] _ hP (hD0.self (sz := s.heap.size)) va_S.rf hl
theorem n_return {p : Program} {l : Launch} {e : Env} {R : Room} {s : State} {m : MethodId} {args : Array Value} {below : List Frame} {meth : Method} {c : Code} {D : va_G} {cy : Nat → ClassId} {nL ce sl pc : Nat} {lv : List (Nat × Value)} {ws w0 : va_W} {cc : ByteArray} {own : String} {wl : (Nat → ClassId) → Nat → (Nat → Nat) → va_W} {h0 : Nat} (X : CC p s m args meth c cc own nL D cy (va_A w0 s.heap.size)) (u : Nat → Nat) (he : wl cy h0 u = ws) (hdg : decode cc pc = .ok (.return_, 1)) : GC p l e R s m args below meth c (QC D cy wl w0 h0 s.heap.size below args s ce sl (va_A w0 s.heap.size)) D (va_A w0 s.heap.size) nL ce sl pc lv [] ws := by
  subst he
  exact fun H locs ls hP hD hS hl => W.vret X.1 X.2.1 X.2.2.2.2.2.2.2.2.1 (fun t ht hW => ⟨⟨u, rfl, trivial, by subst ht; exact hP, hD⟩, hS.F ht⟩) hS.2.2 hdg X.2.2.2.2.2.2.2.2.2.1
theorem ac_I : Cond.arrayClass .int ∈ gt := tmem 63 (by decide +kernel) (by decide +kernel)
theorem ac_J : Cond.arrayClass .long ∈ gt := tmem 226 (by decide +kernel) (by decide +kernel)
theorem ac_Z : Cond.arrayClass .boolean ∈ gt := tmem 307 (by decide +kernel) (by decide +kernel)
theorem ac_B : Cond.arrayClass .byte ∈ gt := tmem 276 (by decide +kernel) (by decide +kernel)
theorem oi_c : Cond.code objectInit ⟨#[0xb1]⟩ 1 none ∈ gt := tmem 27 (by decide +kernel) (by decide +kernel)
theorem oi_i : Cond.instanceMethod objectInit ∈ gt := tmem 26 (by decide +kernel) (by decide +kernel)
theorem oi_12 : Cond.methodLink RX12 1 objectInit ∈ gt := tmem 956 (by decide +kernel) (by decide +kernel)
theorem ff_12_17 : FF RX12 17 12 7 (.array .int) := ⟨RX12, TX12, 86, tyX12, rfl, by decide, tmem 964 (by decide +kernel) (by decide +kernel), inX12, tyX12_ok, nmX12, rfl, rfl, by decide +kernel⟩
theorem ff_12_21 : FF RX12 21 12 8 (.array .int) := ⟨RX12, TX12, 86, tyX12, rfl, by decide, tmem 965 (by decide +kernel) (by decide +kernel), inX12, tyX12_ok, nmX12, rfl, rfl, by decide +kernel⟩
theorem ff_12_24 : FF RX12 24 12 9 (.array .int) := ⟨RX12, TX12, 86, tyX12, rfl, by decide, tmem 966 (by decide +kernel) (by decide +kernel), inX12, tyX12_ok, nmX12, rfl, rfl, by decide +kernel⟩
theorem ff_12_27 : FF RX12 27 12 10 (.array .int) := ⟨RX12, TX12, 86, tyX12, rfl, by decide, tmem 967 (by decide +kernel) (by decide +kernel), inX12, tyX12_ok, nmX12, rfl, rfl, by decide +kernel⟩
theorem ff_12_30 : FF RX12 30 12 11 (.array .int) := ⟨RX12, TX12, 86, tyX12, rfl, by decide, tmem 968 (by decide +kernel) (by decide +kernel), inX12, tyX12_ok, nmX12, rfl, rfl, by decide +kernel⟩
theorem ff_12_33 : FF RX12 33 12 12 (.array .int) := ⟨RX12, TX12, 86, tyX12, rfl, by decide, tmem 969 (by decide +kernel) (by decide +kernel), inX12, tyX12_ok, nmX12, rfl, rfl, by decide +kernel⟩
theorem ff_12_36 : FF RX12 36 12 13 (.array .int) := ⟨RX12, TX12, 86, tyX12, rfl, by decide, tmem 970 (by decide +kernel) (by decide +kernel), inX12, tyX12_ok, nmX12, rfl, rfl, by decide +kernel⟩
theorem ff_12_39 : FF RX12 39 12 14 (.array .boolean) := ⟨RX12, TX12, 86, tyX12, rfl, by decide, tmem 971 (by decide +kernel) (by decide +kernel), inX12, tyX12_ok, nmX12, rfl, rfl, by decide +kernel⟩
theorem ff_12_43 : FF RX12 43 12 18 (.array .boolean) := ⟨RX12, TX12, 86, tyX12, rfl, by decide, tmem 975 (by decide +kernel) (by decide +kernel), inX12, tyX12_ok, nmX12, rfl, rfl, by decide +kernel⟩
theorem ff_12_46 : FF RX12 46 12 19 (.array .boolean) := ⟨RX12, TX12, 86, tyX12, rfl, by decide, tmem 976 (by decide +kernel) (by decide +kernel), inX12, tyX12_ok, nmX12, rfl, rfl, by decide +kernel⟩
theorem ff_12_49 : FF RX12 49 12 20 (.array .boolean) := ⟨RX12, TX12, 86, tyX12, rfl, by decide, tmem 977 (by decide +kernel) (by decide +kernel), inX12, tyX12_ok, nmX12, rfl, rfl, by decide +kernel⟩
theorem ff_12_52 : FF RX12 52 12 21 (.array .boolean) := ⟨RX12, TX12, 86, tyX12, rfl, by decide, tmem 978 (by decide +kernel) (by decide +kernel), inX12, tyX12_ok, nmX12, rfl, rfl, by decide +kernel⟩
theorem ff_12_55 : FF RX12 55 12 22 (.array .boolean) := ⟨RX12, TX12, 86, tyX12, rfl, by decide, tmem 979 (by decide +kernel) (by decide +kernel), inX12, tyX12_ok, nmX12, rfl, rfl, by decide +kernel⟩
theorem ff_12_58 : FF RX12 58 12 23 (.array .int) := ⟨RX12, TX12, 86, tyX12, rfl, by decide, tmem 980 (by decide +kernel) (by decide +kernel), inX12, tyX12_ok, nmX12, rfl, rfl, by decide +kernel⟩
theorem ff_12_61 : FF RX12 61 12 24 (.array .int) := ⟨RX12, TX12, 86, tyX12, rfl, by decide, tmem 981 (by decide +kernel) (by decide +kernel), inX12, tyX12_ok, nmX12, rfl, rfl, by decide +kernel⟩
theorem ff_12_64 : FF RX12 64 12 25 (.array .int) := ⟨RX12, TX12, 86, tyX12, rfl, by decide, tmem 982 (by decide +kernel) (by decide +kernel), inX12, tyX12_ok, nmX12, rfl, rfl, by decide +kernel⟩
theorem ff_12_67 : FF RX12 67 12 26 (.array .int) := ⟨RX12, TX12, 86, tyX12, rfl, by decide, tmem 983 (by decide +kernel) (by decide +kernel), inX12, tyX12_ok, nmX12, rfl, rfl, by decide +kernel⟩
theorem ff_12_70 : FF RX12 70 12 27 (.array .int) := ⟨RX12, TX12, 86, tyX12, rfl, by decide, tmem 984 (by decide +kernel) (by decide +kernel), inX12, tyX12_ok, nmX12, rfl, rfl, by decide +kernel⟩
theorem ff_12_73 : FF RX12 73 12 28 (.array .int) := ⟨RX12, TX12, 86, tyX12, rfl, by decide, tmem 985 (by decide +kernel) (by decide +kernel), inX12, tyX12_ok, nmX12, rfl, rfl, by decide +kernel⟩
theorem ff_12_76 : FF RX12 76 12 30 (.array .int) := ⟨RX12, TX12, 86, tyX12, rfl, by decide, tmem 987 (by decide +kernel) (by decide +kernel), inX12, tyX12_ok, nmX12, rfl, rfl, by decide +kernel⟩
theorem ff_12_79 : FF RX12 79 12 31 (.array .int) := ⟨RX12, TX12, 86, tyX12, rfl, by decide, tmem 988 (by decide +kernel) (by decide +kernel), inX12, tyX12_ok, nmX12, rfl, rfl, by decide +kernel⟩
theorem ff_12_82 : FF RX12 82 12 32 (.array .int) := ⟨RX12, TX12, 86, tyX12, rfl, by decide, tmem 989 (by decide +kernel) (by decide +kernel), inX12, tyX12_ok, nmX12, rfl, rfl, by decide +kernel⟩
theorem ff_12_85 : FF RX12 85 12 33 (.array .int) := ⟨RX12, TX12, 86, tyX12, rfl, by decide, tmem 990 (by decide +kernel) (by decide +kernel), inX12, tyX12_ok, nmX12, rfl, rfl, by decide +kernel⟩
theorem ff_12_88 : FF RX12 88 12 34 (.array .int) := ⟨RX12, TX12, 86, tyX12, rfl, by decide, tmem 991 (by decide +kernel) (by decide +kernel), inX12, tyX12_ok, nmX12, rfl, rfl, by decide +kernel⟩
theorem ff_12_91 : FF RX12 91 12 35 (.array .int) := ⟨RX12, TX12, 86, tyX12, rfl, by decide, tmem 992 (by decide +kernel) (by decide +kernel), inX12, tyX12_ok, nmX12, rfl, rfl, by decide +kernel⟩
theorem ff_12_94 : FF RX12 94 12 36 (.array .int) := ⟨RX12, TX12, 86, tyX12, rfl, by decide, tmem 993 (by decide +kernel) (by decide +kernel), inX12, tyX12_ok, nmX12, rfl, rfl, by decide +kernel⟩
theorem ff_12_97 : FF RX12 97 12 37 (.array .int) := ⟨RX12, TX12, 86, tyX12, rfl, by decide, tmem 994 (by decide +kernel) (by decide +kernel), inX12, tyX12_ok, nmX12, rfl, rfl, by decide +kernel⟩
theorem ff_12_100 : FF RX12 100 12 38 (.array .int) := ⟨RX12, TX12, 86, tyX12, rfl, by decide, tmem 995 (by decide +kernel) (by decide +kernel), inX12, tyX12_ok, nmX12, rfl, rfl, by decide +kernel⟩
theorem ff_12_103 : FF RX12 103 12 40 (.array .long) := ⟨RX12, TX12, 86, tyX12, rfl, by decide, tmem 997 (by decide +kernel) (by decide +kernel), inX12, tyX12_ok, nmX12, rfl, rfl, by decide +kernel⟩
theorem ff_12_107 : FF RX12 107 12 41 (.array .long) := ⟨RX12, TX12, 86, tyX12, rfl, by decide, tmem 998 (by decide +kernel) (by decide +kernel), inX12, tyX12_ok, nmX12, rfl, rfl, by decide +kernel⟩
theorem ff_12_110 : FF RX12 110 12 42 (.array .long) := ⟨RX12, TX12, 86, tyX12, rfl, by decide, tmem 999 (by decide +kernel) (by decide +kernel), inX12, tyX12_ok, nmX12, rfl, rfl, by decide +kernel⟩
theorem ff_12_113 : FF RX12 113 12 44 (.array .byte) := ⟨RX12, TX12, 86, tyX12, rfl, by decide, tmem 1001 (by decide +kernel) (by decide +kernel), inX12, tyX12_ok, nmX12, rfl, rfl, by decide +kernel⟩
theorem ff_12_123 : FF RX12 123 12 53 (.array .int) := ⟨RX12, TX12, 86, tyX12, rfl, by decide, tmem 1010 (by decide +kernel) (by decide +kernel), inX12, tyX12_ok, nmX12, rfl, rfl, by decide +kernel⟩
theorem ff_12_126 : FF RX12 126 12 54 (.array .int) := ⟨RX12, TX12, 86, tyX12, rfl, by decide, tmem 1011 (by decide +kernel) (by decide +kernel), inX12, tyX12_ok, nmX12, rfl, rfl, by decide +kernel⟩
theorem ff_12_129 : FF RX12 129 12 55 (.array .int) := ⟨RX12, TX12, 86, tyX12, rfl, by decide, tmem 1012 (by decide +kernel) (by decide +kernel), inX12, tyX12_ok, nmX12, rfl, rfl, by decide +kernel⟩
theorem ff_12_132 : FF RX12 132 12 56 (.array .int) := ⟨RX12, TX12, 86, tyX12, rfl, by decide, tmem 1013 (by decide +kernel) (by decide +kernel), inX12, tyX12_ok, nmX12, rfl, rfl, by decide +kernel⟩
theorem ff_12_135 : FF RX12 135 12 57 (.array .int) := ⟨RX12, TX12, 86, tyX12, rfl, by decide, tmem 1014 (by decide +kernel) (by decide +kernel), inX12, tyX12_ok, nmX12, rfl, rfl, by decide +kernel⟩
theorem ff_12_138 : FF RX12 138 12 58 (.array .boolean) := ⟨RX12, TX12, 86, tyX12, rfl, by decide, tmem 1015 (by decide +kernel) (by decide +kernel), inX12, tyX12_ok, nmX12, rfl, rfl, by decide +kernel⟩
theorem ff_12_141 : FF RX12 141 12 59 (.array .int) := ⟨RX12, TX12, 86, tyX12, rfl, by decide, tmem 1016 (by decide +kernel) (by decide +kernel), inX12, tyX12_ok, nmX12, rfl, rfl, by decide +kernel⟩
theorem ff_12_144 : FF RX12 144 12 60 (.array .int) := ⟨RX12, TX12, 86, tyX12, rfl, by decide, tmem 1017 (by decide +kernel) (by decide +kernel), inX12, tyX12_ok, nmX12, rfl, rfl, by decide +kernel⟩
theorem ff_12_147 : FF RX12 147 12 61 (.array .int) := ⟨RX12, TX12, 86, tyX12, rfl, by decide, tmem 1018 (by decide +kernel) (by decide +kernel), inX12, tyX12_ok, nmX12, rfl, rfl, by decide +kernel⟩
theorem ff_12_150 : FF RX12 150 12 62 (.array .int) := ⟨RX12, TX12, 86, tyX12, rfl, by decide, tmem 1019 (by decide +kernel) (by decide +kernel), inX12, tyX12_ok, nmX12, rfl, rfl, by decide +kernel⟩
theorem ff_12_153 : FF RX12 153 12 63 (.array .int) := ⟨RX12, TX12, 86, tyX12, rfl, by decide, tmem 1020 (by decide +kernel) (by decide +kernel), inX12, tyX12_ok, nmX12, rfl, rfl, by decide +kernel⟩
theorem ff_12_156 : FF RX12 156 12 64 (.array .boolean) := ⟨RX12, TX12, 86, tyX12, rfl, by decide, tmem 1021 (by decide +kernel) (by decide +kernel), inX12, tyX12_ok, nmX12, rfl, rfl, by decide +kernel⟩
theorem ff_12_159 : FF RX12 159 12 65 (.array .long) := ⟨RX12, TX12, 86, tyX12, rfl, by decide, tmem 1022 (by decide +kernel) (by decide +kernel), inX12, tyX12_ok, nmX12, rfl, rfl, by decide +kernel⟩
theorem ff_12_162 : FF RX12 162 12 66 (.array .long) := ⟨RX12, TX12, 86, tyX12, rfl, by decide, tmem 1023 (by decide +kernel) (by decide +kernel), inX12, tyX12_ok, nmX12, rfl, rfl, by decide +kernel⟩
theorem ff_12_165 : FF RX12 165 12 67 (.array .boolean) := ⟨RX12, TX12, 86, tyX12, rfl, by decide, tmem 1024 (by decide +kernel) (by decide +kernel), inX12, tyX12_ok, nmX12, rfl, rfl, by decide +kernel⟩
theorem ff_12_168 : FF RX12 168 12 68 (.array .boolean) := ⟨RX12, TX12, 86, tyX12, rfl, by decide, tmem 1025 (by decide +kernel) (by decide +kernel), inX12, tyX12_ok, nmX12, rfl, rfl, by decide +kernel⟩
theorem ff_12_171 : FF RX12 171 12 69 (.array .boolean) := ⟨RX12, TX12, 86, tyX12, rfl, by decide, tmem 1026 (by decide +kernel) (by decide +kernel), inX12, tyX12_ok, nmX12, rfl, rfl, by decide +kernel⟩
theorem ff_12_174 : FF RX12 174 12 72 (.array .int) := ⟨RX12, TX12, 86, tyX12, rfl, by decide, tmem 1029 (by decide +kernel) (by decide +kernel), inX12, tyX12_ok, nmX12, rfl, rfl, by decide +kernel⟩
theorem ff_12_177 : FF RX12 177 12 73 (.array .int) := ⟨RX12, TX12, 86, tyX12, rfl, by decide, tmem 1030 (by decide +kernel) (by decide +kernel), inX12, tyX12_ok, nmX12, rfl, rfl, by decide +kernel⟩
theorem ff_12_180 : FF RX12 180 12 74 (.array .int) := ⟨RX12, TX12, 86, tyX12, rfl, by decide, tmem 1031 (by decide +kernel) (by decide +kernel), inX12, tyX12_ok, nmX12, rfl, rfl, by decide +kernel⟩
theorem ff_12_183 : FF RX12 183 12 75 (.array .int) := ⟨RX12, TX12, 86, tyX12, rfl, by decide, tmem 1032 (by decide +kernel) (by decide +kernel), inX12, tyX12_ok, nmX12, rfl, rfl, by decide +kernel⟩
theorem ff_12_186 : FF RX12 186 12 76 (.array .int) := ⟨RX12, TX12, 86, tyX12, rfl, by decide, tmem 1033 (by decide +kernel) (by decide +kernel), inX12, tyX12_ok, nmX12, rfl, rfl, by decide +kernel⟩
theorem ff_12_189 : FF RX12 189 12 77 (.array .int) := ⟨RX12, TX12, 86, tyX12, rfl, by decide, tmem 1034 (by decide +kernel) (by decide +kernel), inX12, tyX12_ok, nmX12, rfl, rfl, by decide +kernel⟩
theorem ff_12_192 : FF RX12 192 12 78 (.array .int) := ⟨RX12, TX12, 86, tyX12, rfl, by decide, tmem 1035 (by decide +kernel) (by decide +kernel), inX12, tyX12_ok, nmX12, rfl, rfl, by decide +kernel⟩
