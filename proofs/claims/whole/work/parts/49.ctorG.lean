theorem inner_eq (c : ClassId) (K : Nat) (v : Value) (z : vp_A) (h : vp_cell c z = arrV c K (fun _ => v)) : Jvm.Free.Multi.innerC c K v = vp_cell c z := by
  rw [h]
  exact arrV_new c K v
theorem oi_9 : Cond.methodLink RX9 3 objectInit ∈ gt := tmem 202 (by decide +kernel) (by decide +kernel)
theorem ff_9_9 : FF RX9 9 9 0 (.array .long) := ⟨RX9, TX9, 6, tyX9, rfl, by decide, tmem 205 (by decide +kernel) (by decide +kernel), inX9, tyX9_ok, nmX9, rfl, rfl, by decide +kernel⟩
theorem ff_9_15 : FF RX9 15 9 1 (.array .long) := ⟨RX9, TX9, 6, tyX9, rfl, by decide, tmem 207 (by decide +kernel) (by decide +kernel), inX9, tyX9_ok, nmX9, rfl, rfl, by decide +kernel⟩
theorem ff_9_18 : FF RX9 18 9 3 (.array .int) := ⟨RX9, TX9, 6, tyX9, rfl, by decide, tmem 210 (by decide +kernel) (by decide +kernel), inX9, tyX9_ok, nmX9, rfl, rfl, by decide +kernel⟩
theorem cl_9_22 : Cond.classLink RX9 22 ("[" ++ (FieldType.array .long).toString) ∈ gt := tmem 203 (by decide +kernel) (by decide +kernel)
theorem ff_9_24 : FF RX9 24 9 4 (.array (.array .long)) := ⟨RX9, TX9, 6, tyX9, rfl, by decide, tmem 211 (by decide +kernel) (by decide +kernel), inX9, tyX9_ok, nmX9, rfl, rfl, by decide +kernel⟩
theorem ff_9_27 : FF RX9 27 9 5 (.array .long) := ⟨RX9, TX9, 6, tyX9, rfl, by decide, tmem 212 (by decide +kernel) (by decide +kernel), inX9, tyX9_ok, nmX9, rfl, rfl, by decide +kernel⟩
theorem oi_8 : Cond.methodLink RX8 3 objectInit ∈ gt := tmem 356 (by decide +kernel) (by decide +kernel)
theorem ff_8_9 : FF RX8 9 8 1 (.array .int) := ⟨RX8, TX8, 4, tyX8, rfl, by decide, tmem 362 (by decide +kernel) (by decide +kernel), inX8, tyX8_ok, nmX8, rfl, rfl, by decide +kernel⟩
theorem ff_8_15 : FF RX8 15 8 2 (.array .boolean) := ⟨RX8, TX8, 4, tyX8, rfl, by decide, tmem 365 (by decide +kernel) (by decide +kernel), inX8, tyX8_ok, nmX8, rfl, rfl, by decide +kernel⟩
theorem cl_8_19 : Cond.classLink RX8 19 ("[" ++ (FieldType.array .int).toString) ∈ gt := tmem 357 (by decide +kernel) (by decide +kernel)
theorem ff_8_21 : FF RX8 21 8 3 (.array (.array .int)) := ⟨RX8, TX8, 4, tyX8, rfl, by decide, tmem 368 (by decide +kernel) (by decide +kernel), inX8, tyX8_ok, nmX8, rfl, rfl, by decide +kernel⟩
def shC_9 : List Shp := [.inr (9, [.inr 1, .inr 2, .inl 0, .inr 3, .inr 4, .inr 10]), .inl (1, 12, .inl 1), .inl (1, 12, .inl 1), .inl (0, 5, .inl 0), .inl (6, 5, .inr (fun j => 5 + j)), .inl (1, 6, .inl 1), .inl (1, 6, .inl 1), .inl (1, 6, .inl 1), .inl (1, 6, .inl 1), .inl (1, 6, .inl 1), .inl (1, 32, .inl 1)]
def sC_9 : St := fun _ _ => 0
def fsC_9 : List Value := [.null, .null, mI 0, .null, .null, .null]
def wlC_9 (cy : Nat → ClassId) (h0 : Nat) (u : Nat → Nat) : va_W := wd shC_9 cy (fun c => if c = 0 then h0 else u c) sC_9
def rm_C_9 : Room := { frames := 1, cells := 10, slots := 96, locals := 12 }
set_option maxRecDepth 100000 in
set_option maxHeartbeats 2000000 in
theorem c_C_9 {l : Launch} : MC l yX9_init cX9_init 1 rm_C_9 9 fsC_9 wlC_9 := by
  refine mk_c (by decide) rfl (by decide) (fun p e s m args below meth c D cy h0 X => ?_)
  have hlen : fsC_9.length = 6 := rfl
  have X : CC p s m args meth c cX9_init RX9 1 D cy (va_A [(h0, .inr (9, fsC_9))] s.heap.size) := X
  refine n_aload_n X 0 dX9_init_0 rfl rfl ?_
  refine n_objInit X oi_9 oi_i oi_c (Nat.le_of_ble_eq_true rfl) (Nat.le_of_ble_eq_true rfl) dX9_init_1 ?_
  refine n_aload_n X 0 dX9_init_4 rfl rfl ?_
  refine n_bipush X dX9_init_5 (by decide) ?_
  refine n_newaJ (N := 12) (ce := 0) (sl := 0) X ac_J (by decide) (by decide) (by decide) (Nat.le_of_ble_eq_true rfl) (Nat.le_of_ble_eq_true rfl) dX9_init_7 (fun q7 => ?_)
  refine n_putF X ff_9_9 rfl rfl hlen (by decide) dX9_init_9 (fun hlen => ?_)
  refine n_aload_n X 0 dX9_init_12 rfl rfl ?_
  refine n_bipush X dX9_init_13 (by decide) ?_
  refine n_newaJ (N := 12) (ce := 1) (sl := 12) X ac_J (by decide) (by decide) (by decide) (Nat.le_of_ble_eq_true rfl) (Nat.le_of_ble_eq_true rfl) dX9_init_15 (fun q15 => ?_)
  refine n_putF X ff_9_15 rfl rfl hlen (by decide) dX9_init_17 (fun hlen => ?_)
  refine n_aload_n X 0 dX9_init_20 rfl rfl ?_
  refine n_iconst X dX9_init_21 ?_
  refine n_newaI (N := 5) (ce := 2) (sl := 24) X ac_I (by decide) (by decide) (by decide) (Nat.le_of_ble_eq_true rfl) (Nat.le_of_ble_eq_true rfl) dX9_init_22 (fun q22 => ?_)
  refine n_putF X ff_9_18 rfl rfl hlen (by decide) dX9_init_24 (fun hlen => ?_)
  refine n_aload_n X 0 dX9_init_27 rfl rfl ?_
  refine n_iconst X dX9_init_28 ?_
  refine n_bipush X dX9_init_29 (by decide) ?_
  refine n_mna (ty := .long) (z := (6, .inr (.inl (fun _ => Int64.ofInt 0)))) (t1 := 1) (t2 := 6) (N := 5) (K := 6) (ce := 3) (sl := 29) X cl_9_22 X.2.2.2.2.2.2.2.2.2.2.2.1 ac_J rfl (fun h => h) rfl (by decide) (by decide) (by decide) (by decide) (by decide) (by decide) (by decide) rfl rfl (Nat.le_of_ble_eq_true rfl) (Nat.le_of_ble_eq_true rfl) (fun c => inner_eq c _ _ _ rfl) dX9_init_31 (fun q31 r => ?_)
  refine n_putF X ff_9_24 rfl rfl hlen (by decide) dX9_init_35 (fun hlen => ?_)
  refine n_aload_n X 0 dX9_init_38 rfl rfl ?_
  refine n_bipush X dX9_init_39 (by decide) ?_
  refine n_newaJ (N := 32) (ce := 9) (sl := 64) X ac_J (by decide) (by decide) (by decide) (Nat.le_of_ble_eq_true rfl) (Nat.le_of_ble_eq_true rfl) dX9_init_41 (fun q41 => ?_)
  refine n_putF X ff_9_27 rfl rfl hlen (by decide) dX9_init_43 (fun hlen => ?_)
  refine n_return2 X (fun c => [q7, q15, q22, q31, r 0, r 1, r 2, r 3, r 4, q41].getD (c - 1) 0) ⟨fun H hP => ?_, fun hD => ?_⟩ dX9_init_46
  · simp only [fsC_9, List.set_cons_succ, List.set_cons_zero, List.nil_append, List.cons_append] at hP
    have hP2 := outer_P (L1 := [_, _, _, _]) (g := fun j => some ((fun c => if c = 0 then h0 else (fun c => [q7, q15, q22, q31, r 0, r 1, r 2, r 3, r 4, q41].getD (c - 1) 0) c) (5 + j))) (fun j hj => by rcases (show j = 0 ∨ j = 1 ∨ j = 2 ∨ j = 3 ∨ j = 4 by omega) with rfl | rfl | rfl | rfl | rfl <;> rfl) hP
    rw [wlC_9, wd_go]
    exact hP2
  · simp only [fsC_9, List.set_cons_succ, List.set_cons_zero, List.nil_append, List.cons_append] at hD
    rw [wlC_9, wd_go]
    exact outer_D (L1 := [_, _, _, _]) hD
def shC_8 : List Shp := [.inr (8, [.inl 0, .inr 1, .inr 2, .inr 3]), .inl (0, 8, .inl 0), .inl (2, 8, .inl 0), .inl (5, 4, .inr (fun j => 4 + j)), .inl (0, 8, .inl 0), .inl (0, 8, .inl 0), .inl (0, 8, .inl 0), .inl (0, 8, .inl 0)]
def sC_8 : St := fun _ _ => 0
def fsC_8 : List Value := [mI 0, .null, .null, .null]
def wlC_8 (cy : Nat → ClassId) (h0 : Nat) (u : Nat → Nat) : va_W := wd shC_8 cy (fun c => if c = 0 then h0 else u c) sC_8
def rm_C_8 : Room := { frames := 1, cells := 7, slots := 52, locals := 12 }
set_option maxRecDepth 100000 in
set_option maxHeartbeats 2000000 in
theorem c_C_8 {l : Launch} : MC l yX8_init cX8_init 1 rm_C_8 8 fsC_8 wlC_8 := by
  refine mk_c (by decide) rfl (by decide) (fun p e s m args below meth c D cy h0 X => ?_)
  have hlen : fsC_8.length = 4 := rfl
  have X : CC p s m args meth c cX8_init RX8 1 D cy (va_A [(h0, .inr (8, fsC_8))] s.heap.size) := X
  refine n_aload_n X 0 dX8_init_0 rfl rfl ?_
  refine n_objInit X oi_8 oi_i oi_c (Nat.le_of_ble_eq_true rfl) (Nat.le_of_ble_eq_true rfl) dX8_init_1 ?_
  refine n_aload_n X 0 dX8_init_4 rfl rfl ?_
  refine n_bipush X dX8_init_5 (by decide) ?_
  refine n_newaI (N := 8) (ce := 0) (sl := 0) X ac_I (by decide) (by decide) (by decide) (Nat.le_of_ble_eq_true rfl) (Nat.le_of_ble_eq_true rfl) dX8_init_7 (fun q7 => ?_)
  refine n_putF X ff_8_9 rfl rfl hlen (by decide) dX8_init_9 (fun hlen => ?_)
  refine n_aload_n X 0 dX8_init_12 rfl rfl ?_
  refine n_bipush X dX8_init_13 (by decide) ?_
  refine n_newaZ (N := 8) (ce := 1) (sl := 8) X ac_Z (by decide) (by decide) (by decide) (Nat.le_of_ble_eq_true rfl) (Nat.le_of_ble_eq_true rfl) dX8_init_15 (fun q15 => ?_)
  refine n_putF X ff_8_15 rfl rfl hlen (by decide) dX8_init_17 (fun hlen => ?_)
  refine n_aload_n X 0 dX8_init_20 rfl rfl ?_
  refine n_iconst X dX8_init_21 ?_
  refine n_bipush X dX8_init_22 (by decide) ?_
  refine n_mna (ty := .int) (z := (8, .inl (fun _ => Int32.ofInt 0))) (t1 := 0) (t2 := 5) (N := 4) (K := 8) (ce := 2) (sl := 16) X cl_8_19 X.2.2.2.2.2.2.2.2.2.2.1 ac_I rfl (fun h => h) rfl (by decide) (by decide) (by decide) (by decide) (by decide) (by decide) (by decide) rfl rfl (Nat.le_of_ble_eq_true rfl) (Nat.le_of_ble_eq_true rfl) (fun c => inner_eq c _ _ _ rfl) dX8_init_24 (fun q24 r => ?_)
  refine n_putF X ff_8_21 rfl rfl hlen (by decide) dX8_init_28 (fun hlen => ?_)
  refine n_return2 X (fun c => [q7, q15, q24, r 0, r 1, r 2, r 3].getD (c - 1) 0) ⟨fun H hP => ?_, fun hD => ?_⟩ dX8_init_31
  · simp only [fsC_8, List.set_cons_succ, List.set_cons_zero, List.nil_append, List.cons_append] at hP
    have hP2 := outer_P (L1 := [_, _, _]) (g := fun j => some ((fun c => if c = 0 then h0 else (fun c => [q7, q15, q24, r 0, r 1, r 2, r 3].getD (c - 1) 0) c) (4 + j))) (fun j hj => by rcases (show j = 0 ∨ j = 1 ∨ j = 2 ∨ j = 3 by omega) with rfl | rfl | rfl | rfl <;> rfl) hP
    rw [wlC_8, wd_go]
    exact hP2
  · simp only [fsC_8, List.set_cons_succ, List.set_cons_zero, List.nil_append, List.cons_append] at hD
    rw [wlC_8, wd_go]
    exact outer_D (L1 := [_, _, _]) hD
