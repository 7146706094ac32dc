/-! CALLS: contracts over the fixed world, how they are made and how they are used -/
def PW (S : List Shp) (cy : Nat → ClassId) (ad : Nat → Nat) (D : va_G) (sg : St) : State → Prop := fun U => va_P D vwCl (wd S cy ad sg) U.heap ∧ va_K D vwCl (tyl cy) U ∧ apart S ad ∧ SF (aw S ad) ad U U.heap
def MI (l : Launch) (S : List Shp) (y : MethodName) (cc : ByteArray) (nL : Nat) (ret : Option FieldType) (rm : Room) (as : (Nat → Nat) → List Value) (sg sg2 : St) (r : Int) : Prop :=
  ∀ (D : va_G) (cy : Nat → ClassId) (ad : Nat → Nat), Met l y (.code y cc nL ret :: gt) rm (va_Pc (as ad) (PW S cy ad D sg)) (va_Qi (fun (x : Int32) (_ : Unit) => x = Int32.ofInt r) (fun _ t => va_P D vwCl (wd S cy ad sg2) t.heap) (aw S ad)) 0 0 (aw S ad)
def ML (l : Launch) (S : List Shp) (y : MethodName) (cc : ByteArray) (nL : Nat) (ret : Option FieldType) (rm : Room) (as : (Nat → Nat) → List Value) (sg sg2 : St) (r : Int) : Prop :=
  ∀ (D : va_G) (cy : Nat → ClassId) (ad : Nat → Nat), Met l y (.code y cc nL ret :: gt) rm (va_Pc (as ad) (PW S cy ad D sg)) (va_Ql (fun (x : Int64) (_ : Unit) => x = Int64.ofInt r) (fun _ t => va_P D vwCl (wd S cy ad sg2) t.heap) (aw S ad)) 0 0 (aw S ad)
def MV (l : Launch) (S : List Shp) (y : MethodName) (cc : ByteArray) (nL : Nat) (ret : Option FieldType) (rm : Room) (as : (Nat → Nat) → List Value) (sg sg2 : St) : Prop :=
  ∀ (D : va_G) (cy : Nat → ClassId) (ad : Nat → Nat), Met l y (.code y cc nL ret :: gt) rm (va_Pc (as ad) (PW S cy ad D sg)) (va_Qv (fun (_ : Unit) => True) (fun _ t => va_P D vwCl (wd S cy ad sg2) t.heap) (aw S ad)) 0 0 (aw S ad)
def QI (D : va_G) (S : List Shp) (cy : Nat → ClassId) (ad : Nat → Nat) (below : List Frame) (args : Array Value) (s : State) (q : Int × St) : State → Prop := MQ below (va_Qi (fun (x : Int32) (_ : Unit) => x = Int32.ofInt q.1) (fun _ t => va_P D vwCl (wd S cy ad q.2) t.heap) (aw S ad)) args s 0 0 (aw S ad)
def QL (D : va_G) (S : List Shp) (cy : Nat → ClassId) (ad : Nat → Nat) (below : List Frame) (args : Array Value) (s : State) (q : Int × St) : State → Prop := MQ below (va_Ql (fun (x : Int64) (_ : Unit) => x = Int64.ofInt q.1) (fun _ t => va_P D vwCl (wd S cy ad q.2) t.heap) (aw S ad)) args s 0 0 (aw S ad)
def QV (D : va_G) (S : List Shp) (cy : Nat → ClassId) (ad : Nat → Nat) (below : List Frame) (args : Array Value) (s : State) (q : St) : State → Prop := MQ below (va_Qv (fun (_ : Unit) => True) (fun _ t => va_P D vwCl (wd S cy ad q) t.heap) (aw S ad)) args s 0 0 (aw S ad)
theorem ofWF {l : Launch} {y : MethodName} {ws ws2 : List Cond} {rm : Room} {Pc : Array Value → State → Prop} {Qc : Array Value → State → Outcome → State → Prop} {mc ms : Nat} {free : Addr → Prop} {cc : ByteArray} {maxL : Nat} {ret : Option FieldType}
    (hy : plainFor y = true) (hw : ws = Cond.code y cc maxL ret :: ws2)
    (body : ∀ p e s m args below meth c s₁, BodyLoose p l y (headSpec ws rm) cc maxL ret e s m args below meth c s₁ → c.maxLocals = maxL → Pc args s →
      W p l e (headSpec ws rm).room s m args below meth c s.heap [] 0 0 (MQ below Qc args s mc ms free) (entryFrame m args maxL)) : Met l y ws rm Pc Qc mc ms free := by
  refine MetFree.of_bodySF (code := cc) (maxLocals := maxL) (ret := ret) hy ?_ ?_
  · intro args s m h hn
    obtain ⟨meth, c, h1, h2, h3, h4, h5, h6, -, -⟩ := Cond.code_spec hn (atoms_spec (ws := ws) h _ (by rw [hw]; exact List.mem_cons_self))
    exact ⟨meth, c, h1, h2, h3, h4, h5, h6⟩
  · intro p e s m args below meth c s₁ B hml hP _
    have hh0 : s₁.heap = s.heap := by rw [B.state]; rfl
    obtain ⟨t, a1, o, b1, b2, b3⟩ := body p e s m args below meth c s₁ B hml hP s₁ hh0 (Stand.of_body B)
    exact ⟨t, o, a1, b1, b2, ⟨b3.1, b3.2⟩⟩
theorem mk_i {l : Launch} {S : List Shp} {y : MethodName} {cc : ByteArray} {nL : Nat} {ret : Option FieldType} {rm : Room} {as : (Nat → Nat) → List Value} {sg : St} {q : Int × St} (hy : plainFor y = true) (hn : ∀ ad, (lg_sl (as ad)).length ≤ nL)
    (h : ∀ p e s m args below meth c D cy ad, CX p s m args meth c cc y.cls nL ret D S cy ad (aw S ad) → GG p l e rm s m args below meth c (QI D S cy ad below args s q) D S cy ad (aw S ad) nL 0 (lv_args 0 (as ad)) [] sg) : MI l S y cc nL ret rm as sg q.2 q.1 := by
  intro D cy ad
  refine ofWF (cc := cc) (maxL := nL) (ret := ret) hy rfl ?_
  intro p e s m args below meth c s₁ B hml hv
  obtain ⟨rfl, hP, hK, hap, hsf⟩ := hv
  have hl := lv_entry (as ad) (n := nL) (hn ad)
  rw [lg_entry_eq]
  refine h p e s m _ below meth c D cy ad ⟨B.exec, B.bytes, hml, findClass_of_methodNamed B.named, fun w hw => atoms_spec (ws := .code y cc nL ret :: gt) B.pre w (List.mem_cons_of_mem _ hw), hK, hap, fun k hk => ⟨k, hk, rfl⟩, B.returns, B.notSynchronized, hsf⟩ s.heap [] _ hP va_S.rf hl
theorem mk_l {l : Launch} {S : List Shp} {y : MethodName} {cc : ByteArray} {nL : Nat} {ret : Option FieldType} {rm : Room} {as : (Nat → Nat) → List Value} {sg : St} {q : Int × St} (hy : plainFor y = true) (hn : ∀ ad, (lg_sl (as ad)).length ≤ nL)
    (h : ∀ p e s m args below meth c D cy ad, CX p s m args meth c cc y.cls nL ret D S cy ad (aw S ad) → GG p l e rm s m args below meth c (QL D S cy ad below args s q) D S cy ad (aw S ad) nL 0 (lv_args 0 (as ad)) [] sg) : ML l S y cc nL ret rm as sg q.2 q.1 := by
  intro D cy ad
  refine ofWF (cc := cc) (maxL := nL) (ret := ret) hy rfl ?_
  intro p e s m args below meth c s₁ B hml hv
  obtain ⟨rfl, hP, hK, hap, hsf⟩ := hv
  have hl := lv_entry (as ad) (n := nL) (hn ad)
  rw [lg_entry_eq]
  refine h p e s m _ below meth c D cy ad ⟨B.exec, B.bytes, hml, findClass_of_methodNamed B.named, fun w hw => atoms_spec (ws := .code y cc nL ret :: gt) B.pre w (List.mem_cons_of_mem _ hw), hK, hap, fun k hk => ⟨k, hk, rfl⟩, B.returns, B.notSynchronized, hsf⟩ s.heap [] _ hP va_S.rf hl
theorem mk_v {l : Launch} {S : List Shp} {y : MethodName} {cc : ByteArray} {nL : Nat} {ret : Option FieldType} {rm : Room} {as : (Nat → Nat) → List Value} {sg q : St} (hy : plainFor y = true) (hn : ∀ ad, (lg_sl (as ad)).length ≤ nL)
    (h : ∀ p e s m args below meth c D cy ad, CX p s m args meth c cc y.cls nL ret D S cy ad (aw S ad) → GG p l e rm s m args below meth c (QV D S cy ad below args s q) D S cy ad (aw S ad) nL 0 (lv_args 0 (as ad)) [] sg) : MV l S y cc nL ret rm as sg q := by
  intro D cy ad
  refine ofWF (cc := cc) (maxL := nL) (ret := ret) hy rfl ?_
  intro p e s m args below meth c s₁ B hml hv
  obtain ⟨rfl, hP, hK, hap, hsf⟩ := hv
  have hl := lv_entry (as ad) (n := nL) (hn ad)
  rw [lg_entry_eq]
  refine h p e s m _ below meth c D cy ad ⟨B.exec, B.bytes, hml, findClass_of_methodNamed B.named, fun w hw => atoms_spec (ws := .code y cc nL ret :: gt) B.pre w (List.mem_cons_of_mem _ hw), hK, hap, fun k hk => ⟨k, hk, rfl⟩, B.returns, B.notSynchronized, hsf⟩ s.heap [] _ hP va_S.rf hl
/-- a method's own words: its code, how many arguments -/
def YW (y : MethodName) (cc : ByteArray) (nL : Nat) (ret : Option FieldType) (n : Nat) : Prop := Cond.code y cc nL ret ∈ gt ∧ Cond.initialized y.cls ∈ gt ∧ (y.cls ≠ "java/lang/invoke/MethodHandle" ∧ y.cls ≠ "java/lang/invoke/VarHandle" ∧ (parseMethodDescriptor y.desc).map (fun d => d.parameters.length) = some n)
def YV (y : MethodName) : Prop := Cond.instanceMethod y ∈ gt ∧ Cond.selects y.cls y y ∈ gt
theorem good_gt {y : MethodName} {cc : ByteArray} {nL : Nat} {ret : Option FieldType} (h : Cond.code y cc nL ret ∈ gt) : GoodIn gt (.code y cc nL ret :: gt) := by
  intro w hw
  have : w ∈ gt := by
    rcases List.mem_cons.mp hw with rfl | h2
    · exact h
    · exact h2
  exact ⟨this, good_of_word (gt_good w this)⟩
theorem pw_blind {S : List Shp} {cy : Nat → ClassId} {ad : Nat → Nat} {D : va_G} {sg : St} {av : List Value} : FrameBlind (va_Pc av (PW S cy ad D sg)) := by
  intro a U g mk q
  obtain ⟨q0, qP, qK, qA, qF⟩ := q
  exact ⟨q0, qP, va_K.moved (u := U) (U := U.calling g mk a) (Vm.Alike.refl U.vm) qK, qA, qF.calling⟩
section RC
variable {p : Program} {l : Launch} {e : Env} {R : Room} {s : State} {m : MethodId} {args : Array Value} {below : List Frame} {meth : Method} {c : Code} {Q : State → Prop} {D : va_G} {S : List Shp} {cy : Nat → ClassId} {ad : Nat → Nat} {A : Nat → Prop} {nL pc : Nat} {lv lv2 : List (Nat × Value)} {st : List Value} {sg : St} {cc : ByteArray} {own : String} {ret : Option FieldType} {a b : Int}
variable {y : MethodName} {cc2 : ByteArray} {nL2 : Nat} {ret2 : Option FieldType} {rm2 : Room} {sg2 : St} {r : Int} {stk : List Value}
theorem pre_S (X : CX p s m args meth c cc own nL ret D S cy ad A) {H : Heap} {locs : List Loc} (hP : va_P D vwCl (wd S cy ad sg) H) (hS : va_S A s.heap H locs) (av : List Value) : PreS s H (va_Pc av (PW S cy ad D sg)) av :=
  ⟨pw_blind, fun U hU hW => ⟨rfl, by rw [hU]; exact hP, va_K.moved hW.alike X.2.2.2.2.2.1, X.2.2.2.2.2.2.1, X.2.2.2.2.2.2.2.2.2.2.sub hS (fun q h => by obtain ⟨k0, h1, h2⟩ := h; rw [h2]; exact X.2.2.2.2.2.2.2.1 k0 h1) hU hW⟩⟩
theorem pre_V (X : CX p s m args meth c cc own nL ret D S cy ad A) {H : Heap} {locs : List Loc} (hP : va_P D vwCl (wd S cy ad sg) H) (hS : va_S A s.heap H locs) {c0 ci : Nat} {ks : List (Nat ⊕ Nat)} {q : vw_C} (hk : S[c0]? = some (.inr (ci, ks))) (hc : vwCl[ci]? = some q) (As : List Value) : PreV s H q.1 (ad c0) (va_Pc (.ref (ad c0) :: As) (PW S cy ad D sg)) As :=
  ⟨pw_blind, va_recv X.2.2.2.2.2.1 hP hc (wd_at hk), fun U hU hW => ⟨rfl, by rw [hU]; exact hP, va_K.moved hW.alike X.2.2.2.2.2.1, X.2.2.2.2.2.2.1, X.2.2.2.2.2.2.2.2.2.2.sub hS (fun q h => by obtain ⟨k0, h1, h2⟩ := h; rw [h2]; exact X.2.2.2.2.2.2.2.1 k0 h1) hU hW⟩⟩
theorem call_b (X : CX p s m args meth c cc own nL ret D S cy ad A) {n idx : Nat} (hY : YW y cc2 nL2 ret2 n) (hl : Cond.methodLink own idx y ∈ gt) (hrc : rm2.cells = 0) (hrs : rm2.slots = 0) (hR : rm2.frames + 1 ≤ R.frames ∧ 8 + (nL2 + 11) + rm2.locals ≤ R.locals) : CallB R s args own idx y cc2 nL2 ret2 (.code y cc2 nL2 ret2 :: gt) rm2 0 0 n :=
  callB_of n X.2.2.2.2.1 (good_gt hY.1) rfl hrc hrs (X.2.2.2.2.1 _ hY.2.1) (X.2.2.2.2.1 _ hl) hY.2.2 hR
theorem r_callVI (X : CX p s m args meth c cc own nL ret D S cy ad A) {As : List Value} {n idx c0 ci : Nat} {ks : List (Nat ⊕ Nat)} {q : vw_C} {as : (Nat → Nat) → List Value} (hM : MI l S y cc2 nL2 ret2 rm2 as sg sg2 r) (has : as ad = .ref (ad c0) :: As) (hY : YW y cc2 nL2 ret2 n) (hV : YV y) (hl : Cond.methodLink own idx y ∈ gt) (hk : S[c0]? = some (.inr (ci, ks))) (hc : vwCl[ci]? = some q) (hq : q.1 = y.cls) (hz : rm2.cells = 0 ∧ rm2.slots = 0) (hR : rm2.frames + 1 ≤ R.frames ∧ 8 + (nL2 + 11) + rm2.locals ≤ R.locals) (hn : As.length = n) (hs : stk = As.reverse ++ .ref (ad c0) :: st) (hw : (st.map fun v => v.category).sum ≤ 8) (hdg : decode cc pc = .ok (.invokevirtual idx, 3)) (k : GG p l e R s m args below meth c Q D S cy ad A nL (pc + 3) lv (mI r :: st) sg2) : GG p l e R s m args below meth c Q D S cy ad A nL pc lv stk sg := by
  intro H locs ls hP hS hl2
  have hM2 := hM D cy ad
  rw [has] at hM2
  subst hs
  refine va_calli (va_runV (As := As) (rest := st) (C := q.1) ⟨X.1, X.2.1, X.2.2.1, X.2.2.2.1, X.2.2.2.2.1⟩ hM2 ⟨call_b X hY hl hz.1 hz.2 hR, X.2.2.2.2.1 _ hV.1, by rw [hq]; exact X.2.2.2.2.1 _ hV.2⟩ (pre_V X hP hS hk hc As) rfl hn hl2.1 rfl (lv_room hw) hdg ⟨Nat.zero_le _, Nat.zero_le _⟩) hS (fun q _ h => ?_) (fun q h => ?_) (fun r_2 u t H1 locs1 ht hvm hw1 hB hz1 hk1 hS1 => ?_)
  · obtain ⟨k0, h1, h2⟩ := h; rw [h2]; exact X.2.2.2.2.2.2.2.1 k0 h1
  · obtain ⟨k0, h1, h2⟩ := h; rw [h2]; exact X.2.2.2.2.2.2.2.1 k0 h1
  · rw [hw1]
    exact k H1 locs1 ls (by rw [← ht]; exact hB) hS1 hl2
theorem r_callVL (X : CX p s m args meth c cc own nL ret D S cy ad A) {As : List Value} {n idx c0 ci : Nat} {ks : List (Nat ⊕ Nat)} {q : vw_C} {as : (Nat → Nat) → List Value} (hM : ML l S y cc2 nL2 ret2 rm2 as sg sg2 r) (has : as ad = .ref (ad c0) :: As) (hY : YW y cc2 nL2 ret2 n) (hV : YV y) (hl : Cond.methodLink own idx y ∈ gt) (hk : S[c0]? = some (.inr (ci, ks))) (hc : vwCl[ci]? = some q) (hq : q.1 = y.cls) (hz : rm2.cells = 0 ∧ rm2.slots = 0) (hR : rm2.frames + 1 ≤ R.frames ∧ 8 + (nL2 + 11) + rm2.locals ≤ R.locals) (hn : As.length = n) (hs : stk = As.reverse ++ .ref (ad c0) :: st) (hw : (st.map fun v => v.category).sum ≤ 8) (hdg : decode cc pc = .ok (.invokevirtual idx, 3)) (k : GG p l e R s m args below meth c Q D S cy ad A nL (pc + 3) lv (mL r :: st) sg2) : GG p l e R s m args below meth c Q D S cy ad A nL pc lv stk sg := by
  intro H locs ls hP hS hl2
  have hM2 := hM D cy ad
  rw [has] at hM2
  subst hs
  refine va_calll (va_runV (As := As) (rest := st) (C := q.1) ⟨X.1, X.2.1, X.2.2.1, X.2.2.2.1, X.2.2.2.2.1⟩ hM2 ⟨call_b X hY hl hz.1 hz.2 hR, X.2.2.2.2.1 _ hV.1, by rw [hq]; exact X.2.2.2.2.1 _ hV.2⟩ (pre_V X hP hS hk hc As) rfl hn hl2.1 rfl (lv_room hw) hdg ⟨Nat.zero_le _, Nat.zero_le _⟩) hS (fun q _ h => ?_) (fun q h => ?_) (fun r_2 u t H1 locs1 ht hvm hw1 hB hz1 hk1 hS1 => ?_)
  · obtain ⟨k0, h1, h2⟩ := h; rw [h2]; exact X.2.2.2.2.2.2.2.1 k0 h1
  · obtain ⟨k0, h1, h2⟩ := h; rw [h2]; exact X.2.2.2.2.2.2.2.1 k0 h1
  · rw [hw1]
    exact k H1 locs1 ls (by rw [← ht]; exact hB) hS1 hl2
theorem r_callVV (X : CX p s m args meth c cc own nL ret D S cy ad A) {As : List Value} {n idx c0 ci : Nat} {ks : List (Nat ⊕ Nat)} {q : vw_C} {as : (Nat → Nat) → List Value} (hM : MV l S y cc2 nL2 ret2 rm2 as sg sg2) (has : as ad = .ref (ad c0) :: As) (hY : YW y cc2 nL2 ret2 n) (hV : YV y) (hl : Cond.methodLink own idx y ∈ gt) (hk : S[c0]? = some (.inr (ci, ks))) (hc : vwCl[ci]? = some q) (hq : q.1 = y.cls) (hz : rm2.cells = 0 ∧ rm2.slots = 0) (hR : rm2.frames + 1 ≤ R.frames ∧ 8 + (nL2 + 11) + rm2.locals ≤ R.locals) (hn : As.length = n) (hs : stk = As.reverse ++ .ref (ad c0) :: st) (hw : (st.map fun v => v.category).sum ≤ 8) (hdg : decode cc pc = .ok (.invokevirtual idx, 3)) (k : GG p l e R s m args below meth c Q D S cy ad A nL (pc + 3) lv st sg2) : GG p l e R s m args below meth c Q D S cy ad A nL pc lv stk sg := by
  intro H locs ls hP hS hl2
  have hM2 := hM D cy ad
  rw [has] at hM2
  subst hs
  refine va_callv (va_runV (As := As) (rest := st) (C := q.1) ⟨X.1, X.2.1, X.2.2.1, X.2.2.2.1, X.2.2.2.2.1⟩ hM2 ⟨call_b X hY hl hz.1 hz.2 hR, X.2.2.2.2.1 _ hV.1, by rw [hq]; exact X.2.2.2.2.1 _ hV.2⟩ (pre_V X hP hS hk hc As) rfl hn hl2.1 rfl (lv_room hw) hdg ⟨Nat.zero_le _, Nat.zero_le _⟩) hS (fun q _ h => ?_) (fun q h => ?_) (fun u t H1 locs1 ht hvm hw1 hB hz1 hk1 hS1 => ?_)
  · obtain ⟨k0, h1, h2⟩ := h; rw [h2]; exact X.2.2.2.2.2.2.2.1 k0 h1
  · obtain ⟨k0, h1, h2⟩ := h; rw [h2]; exact X.2.2.2.2.2.2.2.1 k0 h1
  · exact k H1 locs1 ls (by rw [← ht]; exact hB) hS1 hl2
theorem r_callSI (X : CX p s m args meth c cc own nL ret D S cy ad A) {As : List Value} {n idx : Nat} {as : (Nat → Nat) → List Value} (hM : MI l S y cc2 nL2 ret2 rm2 as sg sg2 r) (has : as ad = As) (hY : YW y cc2 nL2 ret2 n) (hV : Cond.static y ∈ gt) (hl : Cond.methodLink own idx y ∈ gt) (hz : rm2.cells = 0 ∧ rm2.slots = 0) (hR : rm2.frames + 1 ≤ R.frames ∧ 8 + (nL2 + 11) + rm2.locals ≤ R.locals) (hn : As.length = n) (hs : stk = As.reverse ++ st) (hw : (st.map fun v => v.category).sum ≤ 8) (hdg : decode cc pc = .ok (.invokestatic idx, 3)) (k : GG p l e R s m args below meth c Q D S cy ad A nL (pc + 3) lv (mI r :: st) sg2) : GG p l e R s m args below meth c Q D S cy ad A nL pc lv stk sg := by
  intro H locs ls hP hS hl2
  have hM2 := hM D cy ad
  rw [has] at hM2
  subst hs
  refine va_calli (va_runS (As := As) (rest := st) ⟨X.1, X.2.1, X.2.2.1, X.2.2.2.1, X.2.2.2.2.1⟩ hM2 ⟨call_b X hY hl hz.1 hz.2 hR, X.2.2.2.2.1 _ hV⟩ (pre_S X hP hS As) rfl hn hl2.1 rfl (lv_room hw) hdg ⟨Nat.zero_le _, Nat.zero_le _⟩) hS (fun q _ h => ?_) (fun q h => ?_) (fun r_2 u t H1 locs1 ht hvm hw1 hB hz1 hk1 hS1 => ?_)
  · obtain ⟨k0, h1, h2⟩ := h; rw [h2]; exact X.2.2.2.2.2.2.2.1 k0 h1
  · obtain ⟨k0, h1, h2⟩ := h; rw [h2]; exact X.2.2.2.2.2.2.2.1 k0 h1
  · rw [hw1]
    exact k H1 locs1 ls (by rw [← ht]; exact hB) hS1 hl2
theorem r_callSL (X : CX p s m args meth c cc own nL ret D S cy ad A) {As : List Value} {n idx : Nat} {as : (Nat → Nat) → List Value} (hM : ML l S y cc2 nL2 ret2 rm2 as sg sg2 r) (has : as ad = As) (hY : YW y cc2 nL2 ret2 n) (hV : Cond.static y ∈ gt) (hl : Cond.methodLink own idx y ∈ gt) (hz : rm2.cells = 0 ∧ rm2.slots = 0) (hR : rm2.frames + 1 ≤ R.frames ∧ 8 + (nL2 + 11) + rm2.locals ≤ R.locals) (hn : As.length = n) (hs : stk = As.reverse ++ st) (hw : (st.map fun v => v.category).sum ≤ 8) (hdg : decode cc pc = .ok (.invokestatic idx, 3)) (k : GG p l e R s m args below meth c Q D S cy ad A nL (pc + 3) lv (mL r :: st) sg2) : GG p l e R s m args below meth c Q D S cy ad A nL pc lv stk sg := by
  intro H locs ls hP hS hl2
  have hM2 := hM D cy ad
  rw [has] at hM2
  subst hs
  refine va_calll (va_runS (As := As) (rest := st) ⟨X.1, X.2.1, X.2.2.1, X.2.2.2.1, X.2.2.2.2.1⟩ hM2 ⟨call_b X hY hl hz.1 hz.2 hR, X.2.2.2.2.1 _ hV⟩ (pre_S X hP hS As) rfl hn hl2.1 rfl (lv_room hw) hdg ⟨Nat.zero_le _, Nat.zero_le _⟩) hS (fun q _ h => ?_) (fun q h => ?_) (fun r_2 u t H1 locs1 ht hvm hw1 hB hz1 hk1 hS1 => ?_)
  · obtain ⟨k0, h1, h2⟩ := h; rw [h2]; exact X.2.2.2.2.2.2.2.1 k0 h1
  · obtain ⟨k0, h1, h2⟩ := h; rw [h2]; exact X.2.2.2.2.2.2.2.1 k0 h1
  · rw [hw1]
    exact k H1 locs1 ls (by rw [← ht]; exact hB) hS1 hl2
theorem r_ireturn (X : CX p s m args meth c cc own nL (some .int) D S cy ad (aw S ad)) {q : Int × St} (h : some (a, sg) = some q) (hdg : decode cc pc = .ok (.ireturn, 1)) : GG p l e R s m args below meth c (QI D S cy ad below args s q) D S cy ad (aw S ad) nL pc lv [mI a] sg := by
  cases h
  exact fun H locs ls hP hS hl => W.iret X.1 X.2.1 X.2.2.2.2.2.2.2.2.1 (fun t ht hW => ⟨⟨_, (), rfl, rfl, by subst ht; exact hP⟩, hS.F ht⟩) hS.2.2 hdg X.2.2.2.2.2.2.2.2.2.1
theorem r_zreturn (X : CX p s m args meth c cc own nL (some .boolean) D S cy ad (aw S ad)) {q : Int × St} (h : some (a, sg) = some q) (hn : narrow .boolean (mI a) = mI a) (hdg : decode cc pc = .ok (.ireturn, 1)) : GG p l e R s m args below meth c (QI D S cy ad below args s q) D S cy ad (aw S ad) nL pc lv [mI a] sg := by
  cases h
  exact fun H locs ls hP hS hl => W.zret X.1 X.2.1 X.2.2.2.2.2.2.2.2.1 hn (fun t ht hW => ⟨⟨_, (), rfl, rfl, by subst ht; exact hP⟩, hS.F ht⟩) hS.2.2 hdg X.2.2.2.2.2.2.2.2.2.1
theorem r_lreturn (X : CX p s m args meth c cc own nL (some .long) D S cy ad (aw S ad)) {q : Int × St} (h : some (a, sg) = some q) (hdg : decode cc pc = .ok (.lreturn, 1)) : GG p l e R s m args below meth c (QL D S cy ad below args s q) D S cy ad (aw S ad) nL pc lv [mL a] sg := by
  cases h
  exact fun H locs ls hP hS hl => W.lret X.1 X.2.1 X.2.2.2.2.2.2.2.2.1 (fun t ht hW => ⟨⟨_, (), rfl, rfl, by subst ht; exact hP⟩, hS.F ht⟩) hS.2.2 hdg X.2.2.2.2.2.2.2.2.2.1
theorem r_vreturn (X : CX p s m args meth c cc own nL none D S cy ad (aw S ad)) {q : St} (h : some sg = some q) (hdg : decode cc pc = .ok (.return_, 1)) : GG p l e R s m args below meth c (QV D S cy ad below args s q) D S cy ad (aw S ad) nL pc lv [] sg := by
  cases h
  exact fun H locs ls hP hS hl => W.vret X.1 X.2.1 X.2.2.2.2.2.2.2.2.1 (fun t ht hW => ⟨⟨(), rfl, trivial, by subst ht; exact hP⟩, hS.F ht⟩) hS.2.2 hdg X.2.2.2.2.2.2.2.2.2.1
theorem zn_of {a : Int} (h : w32 a = 0 ∨ w32 a = 1) : narrow .boolean (mI a) = mI a := by
  rcases h with h | h
  · rw [show mI a = mI 0 by rw [mI, mI, ← ofInt_w32 a, h]]; rfl
  · rw [show mI a = mI 1 by rw [mI, mI, ← ofInt_w32 a, h]]; rfl
end RC
