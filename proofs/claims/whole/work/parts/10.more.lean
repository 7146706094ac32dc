theorem w32_bd (a : Int) : -2147483648 ≤ w32 a ∧ w32 a < 2147483648 := by
  have h1 := Int32.le_toInt (Int32.ofInt a)
  have h2 := Int32.toInt_lt (Int32.ofInt a)
  unfold w32
  omega
theorem w64_bd (a : Int) : -9223372036854775808 ≤ w64 a ∧ w64 a < 9223372036854775808 := by
  have h1 := Int64.le_toInt (Int64.ofInt a)
  have h2 := Int64.toInt_lt (Int64.ofInt a)
  unfold w64
  omega
section RT
variable {p : Program} {l : Launch} {e : Env} {R : Room} {s : State} {m : MethodId} {args : Array Value} {below : List Frame} {meth : Method} {c : Code} {Q : State → Prop} {D : va_G} {S : List Shp} {cy : Nat → ClassId} {ad : Nat → Nat} {A : Nat → Prop} {nL pc : Nat} {lv lv2 : List (Nat × Value)} {st : List Value} {sg : St} {cc : ByteArray} {own : String} {ret : Option FieldType} {a b : Int}
theorem r_tableIn (X : CX p s m args meth c cc own nL ret D S cy ad A) {dflt lo hi off v : Int} {offs : Array Int} {len tgt : Nat} (hdg : decode cc pc = .ok (.tableswitch dflt lo hi offs, len)) (h : w32 a = v) (h1 : ¬ v < lo) (h2 : ¬ hi < v) (ho : offs[(v - lo).toNat]? = some off) (ht : (pc : Int) + off = (tgt : Int)) (k : GG p l e R s m args below meth c Q D S cy ad A nL tgt lv st sg) : GG p l e R s m args below meth c Q D S cy ad A nL pc lv (mI a :: st) sg := by
  subst h
  exact fun H locs ls hP hS hl => lv_tableIn X.1 X.2.1 hdg h1 h2 ho ht (k H locs ls hP hS hl)
theorem r_tableOut (X : CX p s m args meth c cc own nL ret D S cy ad A) {dflt lo hi : Int} {offs : Array Int} {len tgt : Nat} (hdg : decode cc pc = .ok (.tableswitch dflt lo hi offs, len)) (h : w32 a < lo ∨ hi < w32 a) (ht : (pc : Int) + dflt = (tgt : Int)) (k : GG p l e R s m args below meth c Q D S cy ad A nL tgt lv st sg) : GG p l e R s m args below meth c Q D S cy ad A nL pc lv (mI a :: st) sg :=
  fun H locs ls hP hS hl => lv_tableOut X.1 X.2.1 hdg h ht (k H locs ls hP hS hl)
end RT
