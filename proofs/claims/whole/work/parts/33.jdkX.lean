theorem yw_J0_coder_7d493 : YW yJ0_coder_7d493 cJ0_coder_7d493 1 (some .byte) 0 := ⟨tmem 774 (by decide +kernel) (by decide +kernel), tmem 16 (by decide +kernel) (by decide +kernel), by decide, by decide, by decide +kernel⟩
theorem yv_J0_coder_7d493 : YV yJ0_coder_7d493 := ⟨tmem 772 (by decide +kernel) (by decide +kernel), tmem 773 (by decide +kernel) (by decide +kernel)⟩
theorem yw_J0_isLatin1_aae02 : YW yJ0_isLatin1_aae02 cJ0_isLatin1_aae02 1 (some .boolean) 0 := ⟨tmem 784 (by decide +kernel) (by decide +kernel), tmem 16 (by decide +kernel) (by decide +kernel), by decide, by decide, by decide +kernel⟩
theorem yv_J0_isLatin1_aae02 : YV yJ0_isLatin1_aae02 := ⟨tmem 782 (by decide +kernel) (by decide +kernel), tmem 783 (by decide +kernel) (by decide +kernel)⟩
theorem yw_J1_charAt_3b067 : YW yJ1_charAt_3b067 cJ1_charAt_3b067 2 (some .char) 2 := ⟨tmem 787 (by decide +kernel) (by decide +kernel), tmem 17 (by decide +kernel) (by decide +kernel), by decide, by decide, by decide +kernel⟩
theorem ys_J1_charAt_3b067 : Cond.static yJ1_charAt_3b067 ∈ gt := tmem 786 (by decide +kernel) (by decide +kernel)
theorem yw_J0_checkIndex_df160 : YW yJ0_checkIndex_df160 cJ0_checkIndex_df160 2 none 2 := ⟨tmem 790 (by decide +kernel) (by decide +kernel), tmem 16 (by decide +kernel) (by decide +kernel), by decide, by decide, by decide +kernel⟩
theorem ys_J0_checkIndex_df160 : Cond.static yJ0_checkIndex_df160 ∈ gt := tmem 789 (by decide +kernel) (by decide +kernel)
theorem yw_J3_checkIndex_8e157 : YW yJ3_checkIndex_8e157 cJ3_checkIndex_8e157 3 (some .int) 3 := ⟨tmem 795 (by decide +kernel) (by decide +kernel), tmem 18 (by decide +kernel) (by decide +kernel), by decide, by decide, by decide +kernel⟩
theorem ys_J3_checkIndex_8e157 : Cond.static yJ3_checkIndex_8e157 ∈ gt := tmem 794 (by decide +kernel) (by decide +kernel)
theorem ml_RJ0_335 : Cond.methodLink RJ0 335 yJ0_coder_7d493 ∈ gt := tmem 771 (by decide +kernel) (by decide +kernel)
theorem ml_RJ0_492 : Cond.methodLink RJ0 492 yJ0_isLatin1_aae02 ∈ gt := tmem 781 (by decide +kernel) (by decide +kernel)
theorem ml_RJ0_495 : Cond.methodLink RJ0 495 yJ1_charAt_3b067 ∈ gt := tmem 785 (by decide +kernel) (by decide +kernel)
theorem ml_RJ1_9 : Cond.methodLink RJ1 9 yJ0_checkIndex_df160 ∈ gt := tmem 788 (by decide +kernel) (by decide +kernel)
theorem ml_RJ0_1059 : Cond.methodLink RJ0 1059 yJ3_checkIndex_8e157 ∈ gt := tmem 793 (by decide +kernel) (by decide +kernel)
theorem fs_RJ0_9 : Cond.fieldLink RJ0 9 "java/lang/String" "value" "[B" ∈ gt := tmem 1463 (by decide +kernel) (by decide +kernel)
theorem fs_RJ0_15 : Cond.fieldLink RJ0 15 "java/lang/String" "coder" "B" ∈ gt := tmem 1464 (by decide +kernel) (by decide +kernel)
theorem fs_RJ0_38 : Cond.fieldLink RJ0 38 "java/lang/String" "COMPACT_STRINGS" "Z" ∈ gt := tmem 775 (by decide +kernel) (by decide +kernel)
theorem fs_RJ0_1053 : Cond.fieldLink RJ0 1053 "jdk/internal/util/Preconditions" "SIOOBE_FORMATTER" "Ljava/util/function/BiFunction;" ∈ gt := tmem 791 (by decide +kernel) (by decide +kernel)
def w16 (a : Int) : Int := ((Int32.ofInt a).toUInt32 % 65536).toInt32.toInt
section RS
variable {p : Program} {l : Launch} {e : Env} {R : Room} {s : State} {m : MethodId} {args : Array Value} {below : List Frame} {meth : Method} {c : Code} {Q : State → Prop} {D : va_G} {S : List Shp} {cy : Nat → ClassId} {ad : Nat → Nat} {A : Nat → Prop} {nL pc : Nat} {lv lv2 : List (Nat × Value)} {st : List Value} {sg : St} {cc : ByteArray} {own : String} {ret : Option FieldType} {a b : Int}
theorem sf_of (X : CX p s m args meth c cc own nL ret D S cy ad A) : SF A ad s s.heap := X.2.2.2.2.2.2.2.2.2.2
theorem r_getKV (X : CX p s m args meth c cc own nL ret D S cy ad A) {idx cs : Nat} (h : KSc cs) (hl : Cond.fieldLink own idx "java/lang/String" "value" "[B" ∈ gt) (hdg : decode cc pc = .ok (.getfield idx, 3)) (k : GG p l e R s m args below meth c Q D S cy ad A nL (pc + 3) lv (.ref (ad (cs + 100)) :: st) sg) : GG p l e R s m args below meth c Q D S cy ad A nL pc lv (.ref (ad cs) :: st) sg := by
  obtain ⟨i, rfl⟩ : ∃ i, cs = 1000 + i := ⟨cs - 1000, by omega⟩
  intro H locs ls hP hS hlv
  have h9 := ((sf_of X).1.1 i (by omega)).2.2.1
  have hk := k H locs ls hP hS hlv
  rw [show 1000 + i + 100 = 1100 + i by omega] at hk
  exact vk_getf X.1 X.2.1 h9 hS X.2.2.2.1 (X.2.2.2.2.1 _ hl) (fun _ h => h) hdg hk
theorem r_getKC (X : CX p s m args meth c cc own nL ret D S cy ad A) {idx cs : Nat} (h : KSc cs) (hl : Cond.fieldLink own idx "java/lang/String" "coder" "B" ∈ gt) (hdg : decode cc pc = .ok (.getfield idx, 3)) (k : GG p l e R s m args below meth c Q D S cy ad A nL (pc + 3) lv (mI 0 :: st) sg) : GG p l e R s m args below meth c Q D S cy ad A nL pc lv (.ref (ad cs) :: st) sg := by
  obtain ⟨i, rfl⟩ : ∃ i, cs = 1000 + i := ⟨cs - 1000, by omega⟩
  intro H locs ls hP hS hlv
  have h9 := ((sf_of X).1.1 i (by omega)).2.1
  exact vk_getf X.1 X.2.1 h9 hS X.2.2.2.1 (X.2.2.2.2.1 _ hl) (fun _ h => h) hdg (k H locs ls hP hS hlv)
theorem r_getCS (X : CX p s m args meth c cc own nL ret D S cy ad A) {idx : Nat} (hl : Cond.fieldLink own idx "java/lang/String" "COMPACT_STRINGS" "Z" ∈ gt) (hdg : decode cc pc = .ok (.getstatic idx, 3)) (k : GG p l e R s m args below meth c Q D S cy ad A nL (pc + 3) lv (mI 1 :: st) sg) : GG p l e R s m args below meth c Q D S cy ad A nL pc lv st sg := fun H locs ls hP hS hlv => va_gets X.1 X.2.1 (sf_of X).2.2.1 hS X.2.2.2.1 (X.2.2.2.2.1 _ hl) (fun _ h => h) hdg (k H locs ls hP hS hlv)
theorem r_getSI (X : CX p s m args meth c cc own nL ret D S cy ad A) {idx : Nat} (hl : Cond.fieldLink own idx "jdk/internal/util/Preconditions" "SIOOBE_FORMATTER" "Ljava/util/function/BiFunction;" ∈ gt) (hdg : decode cc pc = .ok (.getstatic idx, 3)) (k : ∀ v : Value, v.category = 1 → GG p l e R s m args below meth c Q D S cy ad A nL (pc + 3) lv (v :: st) sg) : GG p l e R s m args below meth c Q D S cy ad A nL pc lv st sg := fun H locs ls hP hS hlv => by
  rcases (sf_of X).2.2.2.1 with hz | ⟨t, hz⟩
  · exact va_gets X.1 X.2.1 hz hS X.2.2.2.1 (X.2.2.2.2.1 _ hl) (fun _ h => h) hdg (k _ rfl H locs ls hP hS hlv)
  · exact va_gets X.1 X.2.1 hz hS X.2.2.2.1 (X.2.2.2.2.1 _ hl) (fun _ h => h) hdg (k _ rfl H locs ls hP hS hlv)
theorem r_lenK (X : CX p s m args meth c cc own nL ret D S cy ad A) {cs : Nat} (h : KSc cs) (hdg : decode cc pc = .ok (.arraylength, 1)) (k : GG p l e R s m args below meth c Q D S cy ad A nL (pc + 1) lv (mI (slen cs) :: st) sg) : GG p l e R s m args below meth c Q D S cy ad A nL pc lv (.ref (ad (cs + 100)) :: st) sg := by
  obtain ⟨i, rfl⟩ : ∃ i, cs = 1000 + i := ⟨cs - 1000, by omega⟩
  intro H locs ls hP hS hlv
  have h9 := ((sf_of X).1.1 i (by omega)).2.2.2
  rw [show 1000 + i + 100 = 1100 + i by omega]
  refine va_tlen X.1 X.2.1 h9 hS (v := Int32.ofInt (slen (1000 + i))) ?_ hdg (k H locs ls hP hS hlv)
  rcases (show i = 0 ∨ i = 1 ∨ i = 2 ∨ i = 3 ∨ i = 4 ∨ i = 5 ∨ i = 6 by omega) with rfl | rfl | rfl | rfl | rfl | rfl | rfl <;> rfl
theorem r_baldK (X : CX p s m args meth c cc own nL ret D S cy ad A) {cs : Nat} (h : KSc cs) (hi : inb a (lenK.getD (cs - 1000) 0)) (hdg : decode cc pc = .ok (.baload, 1)) (k : GG p l e R s m args below meth c Q D S cy ad A nL (pc + 1) lv (mI (schr cs a) :: st) sg) : GG p l e R s m args below meth c Q D S cy ad A nL pc lv (mI a :: .ref (ad (cs + 100)) :: st) sg := by
  obtain ⟨i, rfl⟩ : ∃ i, cs = 1000 + i := ⟨cs - 1000, by omega⟩
  intro H locs ls hP hS hlv
  have h9 := ((sf_of X).1.1 i (by omega)).2.2.2
  have e1 : 1000 + i - 1000 = i := by omega
  rw [e1] at hi
  rw [show 1000 + i + 100 = 1100 + i by omega]
  refine va_tb X.1 X.2.1 h9 hS (inb_vp hi) (v := mI (schr (1000 + i) a)) ?_ hdg (k H locs ls hP hS hlv)
  show Value.int _ = _
  rw [schr, e1, mI, Int32.ofInt_toInt]
  rfl
theorem r_i2c (X : CX p s m args meth c cc own nL ret D S cy ad A) (hdg : decode cc pc = .ok (.i2c, 1)) (k : GG p l e R s m args below meth c Q D S cy ad A nL (pc + 1) lv (mI (w16 a) :: st) sg) : GG p l e R s m args below meth c Q D S cy ad A nL pc lv (mI a :: st) sg := fun H locs ls hP hS hl => lv_i2c X.1 X.2.1 hdg (by rw [w16, Int32.ofInt_toInt]) (k H locs ls hP hS hl)
theorem r_nreturn {ty : FieldType} (X : CX p s m args meth c cc own nL (some ty) D S cy ad (aw S ad)) {q : Int × St} (h : some (a, sg) = some q) (hn : narrow ty (mI a) = mI a) (hdg : decode cc pc = .ok (.ireturn, 1)) : GG p l e R s m args below meth c (QI D S cy ad below args s q) D S cy ad (aw S ad) nL pc lv [mI a] sg := by
  cases h
  exact fun H locs ls hP hS hl => W.zret X.1 X.2.1 X.2.2.2.2.2.2.2.2.1 hn (fun t ht hW => ⟨⟨_, (), rfl, rfl, by subst ht; exact hP⟩, hS.F ht⟩) hS.2.2 hdg X.2.2.2.2.2.2.2.2.2.1
variable {y : MethodName} {cc2 : ByteArray} {nL2 : Nat} {ret2 : Option FieldType} {rm2 : Room} {sg2 : St} {r : Int} {stk : List Value}
theorem r_callSV (X : CX p s m args meth c cc own nL ret D S cy ad A) {As : List Value} {n idx : Nat} {as : (Nat → Nat) → List Value} (hM : MV l S y cc2 nL2 ret2 rm2 as sg sg2) (has : as ad = As) (hY : YW y cc2 nL2 ret2 n) (hV : Cond.static y ∈ gt) (hl : Cond.methodLink own idx y ∈ gt) (hz : rm2.cells = 0 ∧ rm2.slots = 0) (hR : rm2.frames + 1 ≤ R.frames ∧ 8 + (nL2 + 11) + rm2.locals ≤ R.locals) (hn : As.length = n) (hs : stk = As.reverse ++ st) (hw : (st.map fun v => v.category).sum ≤ 8) (hdg : decode cc pc = .ok (.invokestatic idx, 3)) (k : GG p l e R s m args below meth c Q D S cy ad A nL (pc + 3) lv st sg2) : GG p l e R s m args below meth c Q D S cy ad A nL pc lv stk sg := by
  intro H locs ls hP hS hl2
  have hM2 := hM D cy ad
  rw [has] at hM2
  subst hs
  refine va_callv (va_runS (As := As) (rest := st) ⟨X.1, X.2.1, X.2.2.1, X.2.2.2.1, X.2.2.2.2.1⟩ hM2 ⟨call_b X hY hl hz.1 hz.2 hR, X.2.2.2.2.1 _ hV⟩ (pre_S X hP hS As) rfl hn hl2.1 rfl (lv_room hw) hdg ⟨Nat.zero_le _, Nat.zero_le _⟩) hS (fun q _ h => ?_) (fun q h => ?_) (fun u t H1 locs1 ht hvm hw1 hB hz1 hk1 hS1 => ?_)
  · obtain ⟨k0, h1, h2⟩ := h; rw [h2]; exact X.2.2.2.2.2.2.2.1 k0 h1
  · obtain ⟨k0, h1, h2⟩ := h; rw [h2]; exact X.2.2.2.2.2.2.2.1 k0 h1
  · exact k H1 locs1 ls (by rw [← ht]; exact hB) hS1 hl2
end RS
def rm_S0 : Room := { frames := 0, cells := 0, slots := 0, locals := 0 }
def rm_S_ck : Room := { frames := 1, cells := 0, slots := 0, locals := 22 }
def rm_S_l1 : Room := { frames := 2, cells := 0, slots := 0, locals := 43 }

set_option maxRecDepth 100000 in
set_option maxHeartbeats 4000000 in
theorem c_S_coder {l : Launch} {cs : Nat} (hcs : KSc cs) {sg : St} : MI l shX yJ0_coder_7d493 cJ0_coder_7d493 1 (some .byte) rm_S0 (fun ad => [.ref (ad cs)]) sg sg 0 := by
  refine mk_i (q := (0, sg)) (by decide +kernel) (fun _ => Nat.le_of_ble_eq_true rfl) (fun p e s m args below meth c D cy ad X => ?_)
  have X : CX p s m args meth c cJ0_coder_7d493 RJ0 1 (some .byte) D shX cy ad (aw shX ad) := X
  refine r_perm (lv2 := [(0, .ref (ad cs))]) [0] rfl ?_
  refine r_getCS X fs_RJ0_38 dJ0_coder_7d493_0 ?_
  refine r_if_eq (tgt := 13) X dJ0_coder_7d493_3 (by decide) (fun h => absurd h (by decide)) (fun _ => ?_)
  refine r_aload_n X 0 dJ0_coder_7d493_6 rfl rfl ?_
  refine r_getKC X hcs fs_RJ0_15 dJ0_coder_7d493_7 ?_
  refine r_goto (tgt := 14) X dJ0_coder_7d493_10 (by decide) ?_
  exact r_nreturn X rfl rfl dJ0_coder_7d493_14
set_option maxRecDepth 100000 in
set_option maxHeartbeats 4000000 in
theorem c_S_isLatin1 {l : Launch} {cs : Nat} (hcs : KSc cs) {sg : St} : MI l shX yJ0_isLatin1_aae02 cJ0_isLatin1_aae02 1 (some .boolean) rm_S0 (fun ad => [.ref (ad cs)]) sg sg 1 := by
  refine mk_i (q := (1, sg)) (by decide +kernel) (fun _ => Nat.le_of_ble_eq_true rfl) (fun p e s m args below meth c D cy ad X => ?_)
  have X : CX p s m args meth c cJ0_isLatin1_aae02 RJ0 1 (some .boolean) D shX cy ad (aw shX ad) := X
  refine r_perm (lv2 := [(0, .ref (ad cs))]) [0] rfl ?_
  refine r_getCS X fs_RJ0_38 dJ0_isLatin1_aae02_0 ?_
  refine r_if_eq (tgt := 17) X dJ0_isLatin1_aae02_3 (by decide) (fun h => absurd h (by decide)) (fun _ => ?_)
  refine r_aload_n X 0 dJ0_isLatin1_aae02_6 rfl rfl ?_
  refine r_getKC X hcs fs_RJ0_15 dJ0_isLatin1_aae02_7 ?_
  refine r_if_ne (tgt := 17) X dJ0_isLatin1_aae02_10 (by decide) (fun _ => ?_) (fun h => absurd w32_0 h)
  refine r_iconst X dJ0_isLatin1_aae02_13 ?_
  refine r_goto (tgt := 18) X dJ0_isLatin1_aae02_14 (by decide) ?_
  exact r_nreturn X rfl rfl dJ0_isLatin1_aae02_18
theorem shr_len : ∀ i : Nat, i < 7 → shrI (slen (1000 + i)) 0 = slen (1000 + i) := by decide +kernel
set_option maxRecDepth 100000 in
set_option maxHeartbeats 4000000 in
theorem c_S_length {l : Launch} {cs : Nat} (hcs : KSc cs) {sg : St} {q : Int × St} (hf : f_S_length cs sg = some q) : MI l shX yJ0_length_8abf5 cJ0_length_8abf5 1 (some .int) rm_S_length (fun ad => [.ref (ad cs)]) sg q.2 q.1 := by
  refine mk_i (by decide +kernel) (fun _ => Nat.le_of_ble_eq_true rfl) (fun p e s m args below meth c D cy ad X => ?_)
  have X : CX p s m args meth c cJ0_length_8abf5 RJ0 1 (some .int) D shX cy ad (aw shX ad) := X
  refine r_perm (lv2 := [(0, .ref (ad cs))]) [0] rfl ?_
  refine r_aload_n X 0 dJ0_length_8abf5_0 rfl rfl ?_
  refine r_getKV X hcs fs_RJ0_9 dJ0_length_8abf5_1 ?_
  refine r_lenK X hcs dJ0_length_8abf5_4 ?_
  refine r_aload_n X 0 dJ0_length_8abf5_5 rfl rfl ?_
  refine r_callKI X (As := []) (st := [mI (slen cs)]) (as := fun ad => [.ref (ad cs)]) (c_S_coder hcs) rfl yw_J0_coder_7d493 yv_J0_coder_7d493 ml_RJ0_335 hcs rfl ⟨rfl, rfl⟩ ⟨Nat.le_of_ble_eq_true rfl, Nat.le_of_ble_eq_true rfl⟩ rfl rfl (Nat.le_of_ble_eq_true rfl) dJ0_length_8abf5_6 ?_
  refine r_ishr X dJ0_length_8abf5_9 ?_
  have e9 : shrI (slen cs) 0 = slen cs := by
    have := shr_len (cs - 1000) (by omega)
    rwa [show 1000 + (cs - 1000) = cs by omega] at this
  rw [e9]
  exact r_ireturn X hf dJ0_length_8abf5_10
set_option maxRecDepth 100000 in
set_option maxHeartbeats 4000000 in
theorem c_S_pre {l : Launch} {sg : St} {a b : Int} {v : Value} (hv : v.category = 1) (h0 : 0 ≤ w32 a) (h1 : w32 a < w32 b) : MI l shX yJ3_checkIndex_8e157 cJ3_checkIndex_8e157 3 (some .int) rm_S0 (fun _ => [mI a, mI b, v]) sg sg a := by
  refine mk_i (q := (a, sg)) (by decide +kernel) (fun _ => by rcases v with _ | _ | _ | _ | _ | _ <;> first | (exact Nat.le_of_ble_eq_true rfl) | (cases hv)) (fun p e s m args below meth c D cy ad X => ?_)
  have X : CX p s m args meth c cJ3_checkIndex_8e157 RJ3 3 (some .int) D shX cy ad (aw shX ad) := X
  refine r_perm (lv2 := [(0, mI a), (1, mI b)]) [0, 1] rfl ?_
  refine r_iload_n X 0 dJ3_checkIndex_8e157_0 rfl rfl ?_
  refine r_if_lt (tgt := 9) X dJ3_checkIndex_8e157_1 (by decide) (fun h => absurd h (by omega)) (fun _ => ?_)
  refine r_iload_n X 0 dJ3_checkIndex_8e157_4 rfl rfl ?_
  refine r_iload_n X 1 dJ3_checkIndex_8e157_5 rfl rfl ?_
  refine r_icmp_lt (tgt := 16) X dJ3_checkIndex_8e157_6 (by decide) (fun _ => ?_) (fun h => absurd h1 h)
  refine r_iload_n X 0 dJ3_checkIndex_8e157_16 rfl rfl ?_
  exact r_ireturn X rfl dJ3_checkIndex_8e157_17
set_option maxRecDepth 100000 in
set_option maxHeartbeats 4000000 in
theorem c_S_check {l : Launch} {sg : St} {a b : Int} (h0 : 0 ≤ w32 a) (h1 : w32 a < w32 b) : MV l shX yJ0_checkIndex_df160 cJ0_checkIndex_df160 2 none rm_S_ck (fun _ => [mI a, mI b]) sg sg := by
  refine mk_v (by decide +kernel) (fun _ => Nat.le_of_ble_eq_true rfl) (fun p e s m args below meth c D cy ad X => ?_)
  have X : CX p s m args meth c cJ0_checkIndex_df160 RJ0 2 none D shX cy ad (aw shX ad) := X
  refine r_perm (lv2 := [(0, mI a), (1, mI b)]) [0, 1] rfl ?_
  refine r_iload_n X 0 dJ0_checkIndex_df160_0 rfl rfl ?_
  refine r_iload_n X 1 dJ0_checkIndex_df160_1 rfl rfl ?_
  refine r_getSI X fs_RJ0_1053 dJ0_checkIndex_df160_2 (fun v hv => ?_)
  refine r_callSI X (As := [mI a, mI b, v]) (st := []) (as := fun _ => [mI a, mI b, v]) (c_S_pre hv h0 h1) rfl yw_J3_checkIndex_8e157 ys_J3_checkIndex_8e157 ml_RJ0_1059 ⟨rfl, rfl⟩ ⟨Nat.le_of_ble_eq_true rfl, Nat.le_of_ble_eq_true rfl⟩ rfl rfl (Nat.le_of_ble_eq_true rfl) dJ0_checkIndex_df160_5 ?_
  refine r_pop X dJ0_checkIndex_df160_8 rfl ?_
  exact r_vreturn X rfl dJ0_checkIndex_df160_9
theorem chr_w16 : ∀ i : Fin 7, ∀ j : Fin 6, j.val < lenK.getD i.val 0 → w16 (andI ((bytK.getD i.val []).getD j.val 0).toInt 255) = ((bytK.getD i.val []).getD j.val 0).toInt := by decide +kernel
theorem schr_w16 {cs : Nat} {a : Int} (hcs : KSc cs) (hi : inb a (lenK.getD (cs - 1000) 0)) : w16 (andI (schr cs a) 255) = schr cs a := by
  have hl : ∀ i : Fin 7, lenK.getD i.val 0 ≤ 6 := by decide
  have h1 := hl ⟨cs - 1000, by omega⟩
  have h2 : ix a < lenK.getD (cs - 1000) 0 := inb_ix hi
  have h1' : lenK.getD (cs - 1000) 0 ≤ 6 := h1
  exact chr_w16 ⟨cs - 1000, by omega⟩ ⟨ix a, by omega⟩ h2
theorem slen_w {cs : Nat} (hcs : KSc cs) : w32 (slen cs) = (lenK.getD (cs - 1000) 0 : Nat) := by
  have h : ∀ i : Fin 7, w32 (slen (1000 + i.val)) = (lenK.getD i.val 0 : Nat) := by decide
  have := h ⟨cs - 1000, by omega⟩
  simp only [show 1000 + (cs - 1000) = cs by omega] at this
  exact this
set_option maxRecDepth 100000 in
set_option maxHeartbeats 4000000 in
theorem c_S_latin {l : Launch} {cs : Nat} (hcs : KSc cs) {sg : St} {a : Int} (hi : inb a (lenK.getD (cs - 1000) 0)) : MI l shX yJ1_charAt_3b067 cJ1_charAt_3b067 2 (some .char) rm_S_l1 (fun ad => [.ref (ad (cs + 100)), mI a]) sg sg (schr cs a) := by
  refine mk_i (q := (schr cs a, sg)) (by decide +kernel) (fun _ => Nat.le_of_ble_eq_true rfl) (fun p e s m args below meth c D cy ad X => ?_)
  have X : CX p s m args meth c cJ1_charAt_3b067 RJ1 2 (some .char) D shX cy ad (aw shX ad) := X
  refine r_perm (lv2 := [(0, .ref (ad (cs + 100))), (1, mI a)]) [0, 1] rfl ?_
  refine r_iload_n X 1 dJ1_charAt_3b067_0 rfl rfl ?_
  refine r_aload_n X 0 dJ1_charAt_3b067_1 rfl rfl ?_
  refine r_lenK X hcs dJ1_charAt_3b067_2 ?_
  refine r_callSV X (As := [mI a, mI (slen cs)]) (st := []) (as := fun _ => [mI a, mI (slen cs)]) (c_S_check hi.1 (by rw [slen_w hcs]; exact hi.2)) rfl yw_J0_checkIndex_df160 ys_J0_checkIndex_df160 ml_RJ1_9 ⟨rfl, rfl⟩ ⟨Nat.le_of_ble_eq_true rfl, Nat.le_of_ble_eq_true rfl⟩ rfl rfl (Nat.le_of_ble_eq_true rfl) dJ1_charAt_3b067_3 ?_
  refine r_aload_n X 0 dJ1_charAt_3b067_6 rfl rfl ?_
  refine r_iload_n X 1 dJ1_charAt_3b067_7 rfl rfl ?_
  refine r_baldK X hcs hi dJ1_charAt_3b067_8 ?_
  refine r_sipush X dJ1_charAt_3b067_9 (by decide) ?_
  refine r_iand X dJ1_charAt_3b067_12 ?_
  refine r_i2c X dJ1_charAt_3b067_13 ?_
  exact r_nreturn X (by rw [schr_w16 hcs hi]) (by unfold mI w16; rw [Int32.ofInt_toInt]; exact pk_nc _) dJ1_charAt_3b067_14
set_option maxRecDepth 100000 in
set_option maxHeartbeats 4000000 in
theorem c_S_charAt {l : Launch} {cs : Nat} (hcs : KSc cs) {sg : St} {x1 : Int} {q : Int × St} (hf : f_S_charAt cs sg x1 = some q) : MI l shX yJ0_charAt_5068e cJ0_charAt_5068e 2 (some .char) rm_S_charAt (fun ad => [.ref (ad cs), mI x1]) sg q.2 q.1 := by
  obtain ⟨hi, hf⟩ := gd_some hf
  refine mk_i (by decide +kernel) (fun _ => Nat.le_of_ble_eq_true rfl) (fun p e s m args below meth c D cy ad X => ?_)
  have X : CX p s m args meth c cJ0_charAt_5068e RJ0 2 (some .char) D shX cy ad (aw shX ad) := X
  refine r_perm (lv2 := [(0, .ref (ad cs)), (1, mI x1)]) [0, 1] rfl ?_
  refine r_aload_n X 0 dJ0_charAt_5068e_0 rfl rfl ?_
  refine r_callKI X (As := []) (st := []) (as := fun ad => [.ref (ad cs)]) (c_S_isLatin1 hcs) rfl yw_J0_isLatin1_aae02 yv_J0_isLatin1_aae02 ml_RJ0_492 hcs rfl ⟨rfl, rfl⟩ ⟨Nat.le_of_ble_eq_true rfl, Nat.le_of_ble_eq_true rfl⟩ rfl rfl (Nat.le_of_ble_eq_true rfl) dJ0_charAt_5068e_1 ?_
  refine r_if_eq (tgt := 16) X dJ0_charAt_5068e_4 (by decide) (fun h => absurd h (by decide)) (fun _ => ?_)
  refine r_aload_n X 0 dJ0_charAt_5068e_7 rfl rfl ?_
  refine r_getKV X hcs fs_RJ0_9 dJ0_charAt_5068e_8 ?_
  refine r_iload_n X 1 dJ0_charAt_5068e_11 rfl rfl ?_
  refine r_callSI X (As := [.ref (ad (cs + 100)), mI x1]) (st := []) (as := fun ad => [.ref (ad (cs + 100)), mI x1]) (c_S_latin hcs hi) rfl yw_J1_charAt_3b067 ys_J1_charAt_3b067 ml_RJ0_495 ⟨rfl, rfl⟩ ⟨Nat.le_of_ble_eq_true rfl, Nat.le_of_ble_eq_true rfl⟩ rfl rfl (Nat.le_of_ble_eq_true rfl) dJ0_charAt_5068e_12 ?_
  refine r_nreturn X hf ?_ dJ0_charAt_5068e_15
  rw [← schr_w16 hcs hi]
  unfold mI w16
  rw [Int32.ofInt_toInt]
  exact pk_nc _
