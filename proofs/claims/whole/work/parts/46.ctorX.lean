theorem oi_0 : Cond.methodLink RX0 3 objectInit ∈ gt := tmem 33 (by decide +kernel) (by decide +kernel)
theorem ff_0_9 : FF RX0 9 0 1 (.array .int) := ⟨RX0, TX0, 6, tyX0, rfl, by decide, tmem 38 (by decide +kernel) (by decide +kernel), inX0, tyX0_ok, nmX0, rfl, rfl, by decide +kernel⟩
theorem ff_0_15 : FF RX0 15 0 2 (.array .int) := ⟨RX0, TX0, 6, tyX0, rfl, by decide, tmem 41 (by decide +kernel) (by decide +kernel), inX0, tyX0_ok, nmX0, rfl, rfl, by decide +kernel⟩
theorem ff_0_18 : FF RX0 18 0 3 (.array .int) := ⟨RX0, TX0, 6, tyX0, rfl, by decide, tmem 43 (by decide +kernel) (by decide +kernel), inX0, tyX0_ok, nmX0, rfl, rfl, by decide +kernel⟩
theorem ff_0_21 : FF RX0 21 0 4 (.array .int) := ⟨RX0, TX0, 6, tyX0, rfl, by decide, tmem 46 (by decide +kernel) (by decide +kernel), inX0, tyX0_ok, nmX0, rfl, rfl, by decide +kernel⟩
theorem ff_0_24 : FF RX0 24 0 5 (.array .int) := ⟨RX0, TX0, 6, tyX0, rfl, by decide, tmem 48 (by decide +kernel) (by decide +kernel), inX0, tyX0_ok, nmX0, rfl, rfl, by decide +kernel⟩
theorem oi_4 : Cond.methodLink RX4 3 objectInit ∈ gt := tmem 69 (by decide +kernel) (by decide +kernel)
theorem ff_4_9 : FF RX4 9 4 1 (.array .int) := ⟨RX4, TX4, 4, tyX4, rfl, by decide, tmem 73 (by decide +kernel) (by decide +kernel), inX4, tyX4_ok, nmX4, rfl, rfl, by decide +kernel⟩
theorem ff_4_15 : FF RX4 15 4 2 (.array .int) := ⟨RX4, TX4, 4, tyX4, rfl, by decide, tmem 74 (by decide +kernel) (by decide +kernel), inX4, tyX4_ok, nmX4, rfl, rfl, by decide +kernel⟩
theorem ff_4_18 : FF RX4 18 4 3 (.array .int) := ⟨RX4, TX4, 4, tyX4, rfl, by decide, tmem 75 (by decide +kernel) (by decide +kernel), inX4, tyX4_ok, nmX4, rfl, rfl, by decide +kernel⟩
theorem oi_7 : Cond.methodLink RX7 3 objectInit ∈ gt := tmem 91 (by decide +kernel) (by decide +kernel)
theorem ff_7_9 : FF RX7 9 7 5 (.array .int) := ⟨RX7, TX7, 17, tyX7, rfl, by decide, tmem 99 (by decide +kernel) (by decide +kernel), inX7, tyX7_ok, nmX7, rfl, rfl, by decide +kernel⟩
theorem ff_7_15 : FF RX7 15 7 6 (.array .int) := ⟨RX7, TX7, 17, tyX7, rfl, by decide, tmem 100 (by decide +kernel) (by decide +kernel), inX7, tyX7_ok, nmX7, rfl, rfl, by decide +kernel⟩
theorem ff_7_18 : FF RX7 18 7 7 (.array .int) := ⟨RX7, TX7, 17, tyX7, rfl, by decide, tmem 101 (by decide +kernel) (by decide +kernel), inX7, tyX7_ok, nmX7, rfl, rfl, by decide +kernel⟩
theorem ff_7_21 : FF RX7 21 7 8 (.array .int) := ⟨RX7, TX7, 17, tyX7, rfl, by decide, tmem 103 (by decide +kernel) (by decide +kernel), inX7, tyX7_ok, nmX7, rfl, rfl, by decide +kernel⟩
theorem ff_7_24 : FF RX7 24 7 14 (.array .int) := ⟨RX7, TX7, 17, tyX7, rfl, by decide, tmem 109 (by decide +kernel) (by decide +kernel), inX7, tyX7_ok, nmX7, rfl, rfl, by decide +kernel⟩
theorem ff_7_27 : FF RX7 27 7 15 (.array .int) := ⟨RX7, TX7, 17, tyX7, rfl, by decide, tmem 110 (by decide +kernel) (by decide +kernel), inX7, tyX7_ok, nmX7, rfl, rfl, by decide +kernel⟩
theorem ff_7_30 : FF RX7 30 7 16 (.array .int) := ⟨RX7, TX7, 17, tyX7, rfl, by decide, tmem 111 (by decide +kernel) (by decide +kernel), inX7, tyX7_ok, nmX7, rfl, rfl, by decide +kernel⟩
theorem oi_6 : Cond.methodLink RX6 3 objectInit ∈ gt := tmem 152 (by decide +kernel) (by decide +kernel)
theorem ff_6_9 : FF RX6 9 6 1 (.array .int) := ⟨RX6, TX6, 6, tyX6, rfl, by decide, tmem 156 (by decide +kernel) (by decide +kernel), inX6, tyX6_ok, nmX6, rfl, rfl, by decide +kernel⟩
theorem ff_6_15 : FF RX6 15 6 2 (.array .int) := ⟨RX6, TX6, 6, tyX6, rfl, by decide, tmem 158 (by decide +kernel) (by decide +kernel), inX6, tyX6_ok, nmX6, rfl, rfl, by decide +kernel⟩
theorem ff_6_18 : FF RX6 18 6 3 (.array .int) := ⟨RX6, TX6, 6, tyX6, rfl, by decide, tmem 160 (by decide +kernel) (by decide +kernel), inX6, tyX6_ok, nmX6, rfl, rfl, by decide +kernel⟩
theorem ff_6_21 : FF RX6 21 6 4 (.array .int) := ⟨RX6, TX6, 6, tyX6, rfl, by decide, tmem 162 (by decide +kernel) (by decide +kernel), inX6, tyX6_ok, nmX6, rfl, rfl, by decide +kernel⟩
theorem ff_6_24 : FF RX6 24 6 5 (.array .int) := ⟨RX6, TX6, 6, tyX6, rfl, by decide, tmem 164 (by decide +kernel) (by decide +kernel), inX6, tyX6_ok, nmX6, rfl, rfl, by decide +kernel⟩
theorem oi_5 : Cond.methodLink RX5 3 objectInit ∈ gt := tmem 184 (by decide +kernel) (by decide +kernel)
theorem ff_5_9 : FF RX5 9 5 0 (.array .int) := ⟨RX5, TX5, 3, tyX5, rfl, by decide, tmem 185 (by decide +kernel) (by decide +kernel), inX5, tyX5_ok, nmX5, rfl, rfl, by decide +kernel⟩
theorem ff_5_15 : FF RX5 15 5 1 (.array .int) := ⟨RX5, TX5, 3, tyX5, rfl, by decide, tmem 188 (by decide +kernel) (by decide +kernel), inX5, tyX5_ok, nmX5, rfl, rfl, by decide +kernel⟩
theorem ff_5_18 : FF RX5 18 5 2 (.array .int) := ⟨RX5, TX5, 3, tyX5, rfl, by decide, tmem 189 (by decide +kernel) (by decide +kernel), inX5, tyX5_ok, nmX5, rfl, rfl, by decide +kernel⟩
theorem oi_1 : Cond.methodLink RX1 1 objectInit ∈ gt := tmem 232 (by decide +kernel) (by decide +kernel)
theorem oi_10 : Cond.methodLink RX10 3 objectInit ∈ gt := tmem 247 (by decide +kernel) (by decide +kernel)
theorem ff_10_18 : FF RX10 18 10 3 (.array .byte) := ⟨RX10, TX10, 8, tyX10, rfl, by decide, tmem 254 (by decide +kernel) (by decide +kernel), inX10, tyX10_ok, nmX10, rfl, rfl, by decide +kernel⟩
theorem oi_3 : Cond.methodLink RX3 5 objectInit ∈ gt := tmem 313 (by decide +kernel) (by decide +kernel)
theorem ff_3_11 : FF RX3 11 3 2 (.array .int) := ⟨RX3, TX3, 11, tyX3, rfl, by decide, tmem 318 (by decide +kernel) (by decide +kernel), inX3, tyX3_ok, nmX3, rfl, rfl, by decide +kernel⟩
theorem ff_3_15 : FF RX3 15 3 3 (.array .int) := ⟨RX3, TX3, 11, tyX3, rfl, by decide, tmem 320 (by decide +kernel) (by decide +kernel), inX3, tyX3_ok, nmX3, rfl, rfl, by decide +kernel⟩
theorem ff_3_18 : FF RX3 18 3 4 (.array .int) := ⟨RX3, TX3, 11, tyX3, rfl, by decide, tmem 321 (by decide +kernel) (by decide +kernel), inX3, tyX3_ok, nmX3, rfl, rfl, by decide +kernel⟩
theorem ff_3_21 : FF RX3 21 3 5 (.array .int) := ⟨RX3, TX3, 11, tyX3, rfl, by decide, tmem 322 (by decide +kernel) (by decide +kernel), inX3, tyX3_ok, nmX3, rfl, rfl, by decide +kernel⟩
theorem ff_3_24 : FF RX3 24 3 6 (.array .int) := ⟨RX3, TX3, 11, tyX3, rfl, by decide, tmem 323 (by decide +kernel) (by decide +kernel), inX3, tyX3_ok, nmX3, rfl, rfl, by decide +kernel⟩
theorem ff_3_27 : FF RX3 27 3 7 (.array .int) := ⟨RX3, TX3, 11, tyX3, rfl, by decide, tmem 324 (by decide +kernel) (by decide +kernel), inX3, tyX3_ok, nmX3, rfl, rfl, by decide +kernel⟩
theorem ff_3_30 : FF RX3 30 3 8 (.array .int) := ⟨RX3, TX3, 11, tyX3, rfl, by decide, tmem 325 (by decide +kernel) (by decide +kernel), inX3, tyX3_ok, nmX3, rfl, rfl, by decide +kernel⟩
def shC_0 : List Shp := [.inr (0, [.inl 0, .inr 1, .inr 2, .inr 3, .inr 4, .inr 5]), .inl (0, 24, .inl 0), .inl (0, 24, .inl 0), .inl (0, 24, .inl 0), .inl (0, 24, .inl 0), .inl (0, 24, .inl 0)]
def sC_0 : St := fun _ _ => 0
def fsC_0 : List Value := [mI 0, .null, .null, .null, .null, .null]
def wlC_0 (cy : Nat → ClassId) (h0 : Nat) (u : Nat → Nat) : va_W := wd shC_0 cy (fun c => if c = 0 then h0 else u c) sC_0
def rm_C_0 : Room := { frames := 1, cells := 5, slots := 120, locals := 12 }
set_option maxRecDepth 100000 in
set_option maxHeartbeats 2000000 in
theorem c_C_0 {l : Launch} : MC l yX0_init cX0_init 1 rm_C_0 0 fsC_0 wlC_0 := by
  refine mk_c (by decide) rfl (by decide) (fun p e s m args below meth c D cy h0 X => ?_)
  have hlen : fsC_0.length = 6 := rfl
  have X : CC p s m args meth c cX0_init RX0 1 D cy (va_A [(h0, .inr (0, fsC_0))] s.heap.size) := X
  refine n_aload_n X 0 dX0_init_0 rfl rfl ?_
  refine n_objInit X oi_0 oi_i oi_c (Nat.le_of_ble_eq_true rfl) (Nat.le_of_ble_eq_true rfl) dX0_init_1 ?_
  refine n_aload_n X 0 dX0_init_4 rfl rfl ?_
  refine n_bipush X dX0_init_5 (by decide) ?_
  refine n_newaI (N := 24) (ce := 0) (sl := 0) X ac_I (by decide) (by decide) (by decide) (Nat.le_of_ble_eq_true rfl) (Nat.le_of_ble_eq_true rfl) dX0_init_7 (fun q1 => ?_)
  refine n_putF X ff_0_9 rfl rfl hlen (by decide) dX0_init_9 (fun hlen => ?_)
  refine n_aload_n X 0 dX0_init_12 rfl rfl ?_
  refine n_bipush X dX0_init_13 (by decide) ?_
  refine n_newaI (N := 24) (ce := 1) (sl := 24) X ac_I (by decide) (by decide) (by decide) (Nat.le_of_ble_eq_true rfl) (Nat.le_of_ble_eq_true rfl) dX0_init_15 (fun q2 => ?_)
  refine n_putF X ff_0_15 rfl rfl hlen (by decide) dX0_init_17 (fun hlen => ?_)
  refine n_aload_n X 0 dX0_init_20 rfl rfl ?_
  refine n_bipush X dX0_init_21 (by decide) ?_
  refine n_newaI (N := 24) (ce := 2) (sl := 48) X ac_I (by decide) (by decide) (by decide) (Nat.le_of_ble_eq_true rfl) (Nat.le_of_ble_eq_true rfl) dX0_init_23 (fun q3 => ?_)
  refine n_putF X ff_0_18 rfl rfl hlen (by decide) dX0_init_25 (fun hlen => ?_)
  refine n_aload_n X 0 dX0_init_28 rfl rfl ?_
  refine n_bipush X dX0_init_29 (by decide) ?_
  refine n_newaI (N := 24) (ce := 3) (sl := 72) X ac_I (by decide) (by decide) (by decide) (Nat.le_of_ble_eq_true rfl) (Nat.le_of_ble_eq_true rfl) dX0_init_31 (fun q4 => ?_)
  refine n_putF X ff_0_21 rfl rfl hlen (by decide) dX0_init_33 (fun hlen => ?_)
  refine n_aload_n X 0 dX0_init_36 rfl rfl ?_
  refine n_bipush X dX0_init_37 (by decide) ?_
  refine n_newaI (N := 24) (ce := 4) (sl := 96) X ac_I (by decide) (by decide) (by decide) (Nat.le_of_ble_eq_true rfl) (Nat.le_of_ble_eq_true rfl) dX0_init_39 (fun q5 => ?_)
  refine n_putF X ff_0_24 rfl rfl hlen (by decide) dX0_init_41 (fun hlen => ?_)
  refine n_return X (fun c => [q1, q2, q3, q4, q5].getD (c - 1) 0) ?_ dX0_init_44
  rw [wlC_0, wd_go]
  try simp only [fsC_0, List.set_cons_succ, List.set_cons_zero, List.nil_append, List.cons_append]
  rfl
def shC_4 : List Shp := [.inr (4, [.inl 0, .inr 1, .inr 2, .inr 3]), .inl (0, 12, .inl 0), .inl (0, 12, .inl 0), .inl (0, 12, .inl 0)]
def sC_4 : St := fun _ _ => 0
def fsC_4 : List Value := [mI 0, .null, .null, .null]
def wlC_4 (cy : Nat → ClassId) (h0 : Nat) (u : Nat → Nat) : va_W := wd shC_4 cy (fun c => if c = 0 then h0 else u c) sC_4
def rm_C_4 : Room := { frames := 1, cells := 3, slots := 36, locals := 12 }
set_option maxRecDepth 100000 in
set_option maxHeartbeats 2000000 in
theorem c_C_4 {l : Launch} : MC l yX4_init cX4_init 1 rm_C_4 4 fsC_4 wlC_4 := by
  refine mk_c (by decide) rfl (by decide) (fun p e s m args below meth c D cy h0 X => ?_)
  have hlen : fsC_4.length = 4 := rfl
  have X : CC p s m args meth c cX4_init RX4 1 D cy (va_A [(h0, .inr (4, fsC_4))] s.heap.size) := X
  refine n_aload_n X 0 dX4_init_0 rfl rfl ?_
  refine n_objInit X oi_4 oi_i oi_c (Nat.le_of_ble_eq_true rfl) (Nat.le_of_ble_eq_true rfl) dX4_init_1 ?_
  refine n_aload_n X 0 dX4_init_4 rfl rfl ?_
  refine n_bipush X dX4_init_5 (by decide) ?_
  refine n_newaI (N := 12) (ce := 0) (sl := 0) X ac_I (by decide) (by decide) (by decide) (Nat.le_of_ble_eq_true rfl) (Nat.le_of_ble_eq_true rfl) dX4_init_7 (fun q1 => ?_)
  refine n_putF X ff_4_9 rfl rfl hlen (by decide) dX4_init_9 (fun hlen => ?_)
  refine n_aload_n X 0 dX4_init_12 rfl rfl ?_
  refine n_bipush X dX4_init_13 (by decide) ?_
  refine n_newaI (N := 12) (ce := 1) (sl := 12) X ac_I (by decide) (by decide) (by decide) (Nat.le_of_ble_eq_true rfl) (Nat.le_of_ble_eq_true rfl) dX4_init_15 (fun q2 => ?_)
  refine n_putF X ff_4_15 rfl rfl hlen (by decide) dX4_init_17 (fun hlen => ?_)
  refine n_aload_n X 0 dX4_init_20 rfl rfl ?_
  refine n_bipush X dX4_init_21 (by decide) ?_
  refine n_newaI (N := 12) (ce := 2) (sl := 24) X ac_I (by decide) (by decide) (by decide) (Nat.le_of_ble_eq_true rfl) (Nat.le_of_ble_eq_true rfl) dX4_init_23 (fun q3 => ?_)
  refine n_putF X ff_4_18 rfl rfl hlen (by decide) dX4_init_25 (fun hlen => ?_)
  refine n_return X (fun c => [q1, q2, q3].getD (c - 1) 0) ?_ dX4_init_28
  rw [wlC_4, wd_go]
  try simp only [fsC_4, List.set_cons_succ, List.set_cons_zero, List.nil_append, List.cons_append]
  rfl
def shC_7 : List Shp := [.inr (7, [.inl 0, .inl 0, .inl 0, .inl 0, .inl 0, .inr 1, .inr 2, .inr 3, .inr 4, .inl 0, .inl 0, .inl 0, .inl 0, .inl 0, .inr 5, .inr 6, .inr 7]), .inl (0, 12, .inl 0), .inl (0, 24, .inl 0), .inl (0, 24, .inl 0), .inl (0, 12, .inl 0), .inl (0, 24, .inl 0), .inl (0, 24, .inl 0), .inl (0, 12, .inl 0)]
def sC_7 : St := fun _ _ => 0
def fsC_7 : List Value := [mI 0, mI 0, mI 0, mI 0, mI 0, .null, .null, .null, .null, mI 0, mI 0, mI 0, mI 0, mI 0, .null, .null, .null]
def wlC_7 (cy : Nat → ClassId) (h0 : Nat) (u : Nat → Nat) : va_W := wd shC_7 cy (fun c => if c = 0 then h0 else u c) sC_7
def rm_C_7 : Room := { frames := 1, cells := 7, slots := 132, locals := 12 }
set_option maxRecDepth 100000 in
set_option maxHeartbeats 2000000 in
theorem c_C_7 {l : Launch} : MC l yX7_init cX7_init 1 rm_C_7 7 fsC_7 wlC_7 := by
  refine mk_c (by decide) rfl (by decide) (fun p e s m args below meth c D cy h0 X => ?_)
  have hlen : fsC_7.length = 17 := rfl
  have X : CC p s m args meth c cX7_init RX7 1 D cy (va_A [(h0, .inr (7, fsC_7))] s.heap.size) := X
  refine n_aload_n X 0 dX7_init_0 rfl rfl ?_
  refine n_objInit X oi_7 oi_i oi_c (Nat.le_of_ble_eq_true rfl) (Nat.le_of_ble_eq_true rfl) dX7_init_1 ?_
  refine n_aload_n X 0 dX7_init_4 rfl rfl ?_
  refine n_bipush X dX7_init_5 (by decide) ?_
  refine n_newaI (N := 12) (ce := 0) (sl := 0) X ac_I (by decide) (by decide) (by decide) (Nat.le_of_ble_eq_true rfl) (Nat.le_of_ble_eq_true rfl) dX7_init_7 (fun q1 => ?_)
  refine n_putF X ff_7_9 rfl rfl hlen (by decide) dX7_init_9 (fun hlen => ?_)
  refine n_aload_n X 0 dX7_init_12 rfl rfl ?_
  refine n_bipush X dX7_init_13 (by decide) ?_
  refine n_newaI (N := 24) (ce := 1) (sl := 12) X ac_I (by decide) (by decide) (by decide) (Nat.le_of_ble_eq_true rfl) (Nat.le_of_ble_eq_true rfl) dX7_init_15 (fun q2 => ?_)
  refine n_putF X ff_7_15 rfl rfl hlen (by decide) dX7_init_17 (fun hlen => ?_)
  refine n_aload_n X 0 dX7_init_20 rfl rfl ?_
  refine n_bipush X dX7_init_21 (by decide) ?_
  refine n_newaI (N := 24) (ce := 2) (sl := 36) X ac_I (by decide) (by decide) (by decide) (Nat.le_of_ble_eq_true rfl) (Nat.le_of_ble_eq_true rfl) dX7_init_23 (fun q3 => ?_)
  refine n_putF X ff_7_18 rfl rfl hlen (by decide) dX7_init_25 (fun hlen => ?_)
  refine n_aload_n X 0 dX7_init_28 rfl rfl ?_
  refine n_bipush X dX7_init_29 (by decide) ?_
  refine n_newaI (N := 12) (ce := 3) (sl := 60) X ac_I (by decide) (by decide) (by decide) (Nat.le_of_ble_eq_true rfl) (Nat.le_of_ble_eq_true rfl) dX7_init_31 (fun q4 => ?_)
  refine n_putF X ff_7_21 rfl rfl hlen (by decide) dX7_init_33 (fun hlen => ?_)
  refine n_aload_n X 0 dX7_init_36 rfl rfl ?_
  refine n_bipush X dX7_init_37 (by decide) ?_
  refine n_newaI (N := 24) (ce := 4) (sl := 72) X ac_I (by decide) (by decide) (by decide) (Nat.le_of_ble_eq_true rfl) (Nat.le_of_ble_eq_true rfl) dX7_init_39 (fun q5 => ?_)
  refine n_putF X ff_7_24 rfl rfl hlen (by decide) dX7_init_41 (fun hlen => ?_)
  refine n_aload_n X 0 dX7_init_44 rfl rfl ?_
  refine n_bipush X dX7_init_45 (by decide) ?_
  refine n_newaI (N := 24) (ce := 5) (sl := 96) X ac_I (by decide) (by decide) (by decide) (Nat.le_of_ble_eq_true rfl) (Nat.le_of_ble_eq_true rfl) dX7_init_47 (fun q6 => ?_)
  refine n_putF X ff_7_27 rfl rfl hlen (by decide) dX7_init_49 (fun hlen => ?_)
  refine n_aload_n X 0 dX7_init_52 rfl rfl ?_
  refine n_bipush X dX7_init_53 (by decide) ?_
  refine n_newaI (N := 12) (ce := 6) (sl := 120) X ac_I (by decide) (by decide) (by decide) (Nat.le_of_ble_eq_true rfl) (Nat.le_of_ble_eq_true rfl) dX7_init_55 (fun q7 => ?_)
  refine n_putF X ff_7_30 rfl rfl hlen (by decide) dX7_init_57 (fun hlen => ?_)
  refine n_return X (fun c => [q1, q2, q3, q4, q5, q6, q7].getD (c - 1) 0) ?_ dX7_init_60
  rw [wlC_7, wd_go]
  try simp only [fsC_7, List.set_cons_succ, List.set_cons_zero, List.nil_append, List.cons_append]
  rfl
def shC_6 : List Shp := [.inr (6, [.inl 0, .inr 1, .inr 2, .inr 3, .inr 4, .inr 5]), .inl (0, 200, .inl 0), .inl (0, 200, .inl 0), .inl (0, 200, .inl 0), .inl (0, 200, .inl 0), .inl (0, 200, .inl 0)]
def sC_6 : St := fun _ _ => 0
def fsC_6 : List Value := [mI 0, .null, .null, .null, .null, .null]
def wlC_6 (cy : Nat → ClassId) (h0 : Nat) (u : Nat → Nat) : va_W := wd shC_6 cy (fun c => if c = 0 then h0 else u c) sC_6
def rm_C_6 : Room := { frames := 1, cells := 5, slots := 1000, locals := 12 }
set_option maxRecDepth 100000 in
set_option maxHeartbeats 2000000 in
theorem c_C_6 {l : Launch} : MC l yX6_init cX6_init 1 rm_C_6 6 fsC_6 wlC_6 := by
  refine mk_c (by decide) rfl (by decide) (fun p e s m args below meth c D cy h0 X => ?_)
  have hlen : fsC_6.length = 6 := rfl
  have X : CC p s m args meth c cX6_init RX6 1 D cy (va_A [(h0, .inr (6, fsC_6))] s.heap.size) := X
  refine n_aload_n X 0 dX6_init_0 rfl rfl ?_
  refine n_objInit X oi_6 oi_i oi_c (Nat.le_of_ble_eq_true rfl) (Nat.le_of_ble_eq_true rfl) dX6_init_1 ?_
  refine n_aload_n X 0 dX6_init_4 rfl rfl ?_
  refine n_sipush X dX6_init_5 (by decide) ?_
  refine n_newaI (N := 200) (ce := 0) (sl := 0) X ac_I (by decide) (by decide) (by decide) (Nat.le_of_ble_eq_true rfl) (Nat.le_of_ble_eq_true rfl) dX6_init_8 (fun q1 => ?_)
  refine n_putF X ff_6_9 rfl rfl hlen (by decide) dX6_init_10 (fun hlen => ?_)
  refine n_aload_n X 0 dX6_init_13 rfl rfl ?_
  refine n_sipush X dX6_init_14 (by decide) ?_
  refine n_newaI (N := 200) (ce := 1) (sl := 200) X ac_I (by decide) (by decide) (by decide) (Nat.le_of_ble_eq_true rfl) (Nat.le_of_ble_eq_true rfl) dX6_init_17 (fun q2 => ?_)
  refine n_putF X ff_6_15 rfl rfl hlen (by decide) dX6_init_19 (fun hlen => ?_)
  refine n_aload_n X 0 dX6_init_22 rfl rfl ?_
  refine n_sipush X dX6_init_23 (by decide) ?_
  refine n_newaI (N := 200) (ce := 2) (sl := 400) X ac_I (by decide) (by decide) (by decide) (Nat.le_of_ble_eq_true rfl) (Nat.le_of_ble_eq_true rfl) dX6_init_26 (fun q3 => ?_)
  refine n_putF X ff_6_18 rfl rfl hlen (by decide) dX6_init_28 (fun hlen => ?_)
  refine n_aload_n X 0 dX6_init_31 rfl rfl ?_
  refine n_sipush X dX6_init_32 (by decide) ?_
  refine n_newaI (N := 200) (ce := 3) (sl := 600) X ac_I (by decide) (by decide) (by decide) (Nat.le_of_ble_eq_true rfl) (Nat.le_of_ble_eq_true rfl) dX6_init_35 (fun q4 => ?_)
  refine n_putF X ff_6_21 rfl rfl hlen (by decide) dX6_init_37 (fun hlen => ?_)
  refine n_aload_n X 0 dX6_init_40 rfl rfl ?_
  refine n_sipush X dX6_init_41 (by decide) ?_
  refine n_newaI (N := 200) (ce := 4) (sl := 800) X ac_I (by decide) (by decide) (by decide) (Nat.le_of_ble_eq_true rfl) (Nat.le_of_ble_eq_true rfl) dX6_init_44 (fun q5 => ?_)
  refine n_putF X ff_6_24 rfl rfl hlen (by decide) dX6_init_46 (fun hlen => ?_)
  refine n_return X (fun c => [q1, q2, q3, q4, q5].getD (c - 1) 0) ?_ dX6_init_49
  rw [wlC_6, wd_go]
  try simp only [fsC_6, List.set_cons_succ, List.set_cons_zero, List.nil_append, List.cons_append]
  rfl
def shC_5 : List Shp := [.inr (5, [.inr 1, .inr 2, .inr 3]), .inl (0, 12, .inl 0), .inl (0, 288, .inl 0), .inl (0, 288, .inl 0)]
def sC_5 : St := fun _ _ => 0
def fsC_5 : List Value := [.null, .null, .null]
def wlC_5 (cy : Nat → ClassId) (h0 : Nat) (u : Nat → Nat) : va_W := wd shC_5 cy (fun c => if c = 0 then h0 else u c) sC_5
def rm_C_5 : Room := { frames := 1, cells := 3, slots := 588, locals := 12 }
set_option maxRecDepth 100000 in
set_option maxHeartbeats 2000000 in
theorem c_C_5 {l : Launch} : MC l yX5_init cX5_init 1 rm_C_5 5 fsC_5 wlC_5 := by
  refine mk_c (by decide) rfl (by decide) (fun p e s m args below meth c D cy h0 X => ?_)
  have hlen : fsC_5.length = 3 := rfl
  have X : CC p s m args meth c cX5_init RX5 1 D cy (va_A [(h0, .inr (5, fsC_5))] s.heap.size) := X
  refine n_aload_n X 0 dX5_init_0 rfl rfl ?_
  refine n_objInit X oi_5 oi_i oi_c (Nat.le_of_ble_eq_true rfl) (Nat.le_of_ble_eq_true rfl) dX5_init_1 ?_
  refine n_aload_n X 0 dX5_init_4 rfl rfl ?_
  refine n_bipush X dX5_init_5 (by decide) ?_
  refine n_newaI (N := 12) (ce := 0) (sl := 0) X ac_I (by decide) (by decide) (by decide) (Nat.le_of_ble_eq_true rfl) (Nat.le_of_ble_eq_true rfl) dX5_init_7 (fun q1 => ?_)
  refine n_putF X ff_5_9 rfl rfl hlen (by decide) dX5_init_9 (fun hlen => ?_)
  refine n_aload_n X 0 dX5_init_12 rfl rfl ?_
  refine n_sipush X dX5_init_13 (by decide) ?_
  refine n_newaI (N := 288) (ce := 1) (sl := 12) X ac_I (by decide) (by decide) (by decide) (Nat.le_of_ble_eq_true rfl) (Nat.le_of_ble_eq_true rfl) dX5_init_16 (fun q2 => ?_)
  refine n_putF X ff_5_15 rfl rfl hlen (by decide) dX5_init_18 (fun hlen => ?_)
  refine n_aload_n X 0 dX5_init_21 rfl rfl ?_
  refine n_sipush X dX5_init_22 (by decide) ?_
  refine n_newaI (N := 288) (ce := 2) (sl := 300) X ac_I (by decide) (by decide) (by decide) (Nat.le_of_ble_eq_true rfl) (Nat.le_of_ble_eq_true rfl) dX5_init_25 (fun q3 => ?_)
  refine n_putF X ff_5_18 rfl rfl hlen (by decide) dX5_init_27 (fun hlen => ?_)
  refine n_return X (fun c => [q1, q2, q3].getD (c - 1) 0) ?_ dX5_init_30
  rw [wlC_5, wd_go]
  try simp only [fsC_5, List.set_cons_succ, List.set_cons_zero, List.nil_append, List.cons_append]
  rfl
def shC_1 : List Shp := [.inr (1, [.inl 1, .inl 1])]
def sC_1 : St := fun c j => if c = 0 then (if j = 0 then 0 else (if j = 1 then 1 else 0)) else 0
def fsC_1 : List Value := [mL 0, mL 0]
def wlC_1 (cy : Nat → ClassId) (h0 : Nat) (u : Nat → Nat) : va_W := wd shC_1 cy (fun c => if c = 0 then h0 else u c) sC_1
def rm_C_1 : Room := { frames := 1, cells := 0, slots := 0, locals := 12 }
set_option maxRecDepth 100000 in
set_option maxHeartbeats 2000000 in
theorem c_C_1 {l : Launch} : MC l yX1_init cX1_init 1 rm_C_1 1 fsC_1 wlC_1 := by
  refine mk_c (by decide) rfl (by decide) (fun p e s m args below meth c D cy h0 X => ?_)
  have hlen : fsC_1.length = 2 := rfl
  have X : CC p s m args meth c cX1_init RX1 1 D cy (va_A [(h0, .inr (1, fsC_1))] s.heap.size) := X
  refine n_aload_n X 0 dX1_init_0 rfl rfl ?_
  refine n_objInit X oi_1 oi_i oi_c (Nat.le_of_ble_eq_true rfl) (Nat.le_of_ble_eq_true rfl) dX1_init_1 ?_
  refine n_aload_n X 0 dX1_init_4 rfl rfl ?_
  refine n_lconst (v := 0) X dX1_init_5 (by decide) ?_
  refine n_put X fp_1_7 rfl rfl hlen (by decide) dX1_init_6 (fun hlen => ?_)
  refine n_aload_n X 0 dX1_init_9 rfl rfl ?_
  refine n_lconst (v := 1) X dX1_init_10 (by decide) ?_
  refine n_put X fp_1_13 rfl rfl hlen (by decide) dX1_init_11 (fun hlen => ?_)
  refine n_return X (fun c => 0) ?_ dX1_init_14
  rw [wlC_1, wd_go]
  try simp only [fsC_1, List.set_cons_succ, List.set_cons_zero, List.nil_append, List.cons_append]
  rfl
def shC_10 : List Shp := [.inr (10, [.inl 0, .inl 0, .inl 0, .inr 1, .inl 0, .inl 0, .inl 0, .inl 0]), .inl (3, 300, .inl 0)]
def sC_10 : St := fun c j => if c = 0 then (if j = 1 then (-1) else (if j = 2 then (-1) else 0)) else 0
def fsC_10 : List Value := [mI 0, mI 0, mI 0, .null, mI 0, mI 0, mI 0, mI 0]
def wlC_10 (cy : Nat → ClassId) (h0 : Nat) (u : Nat → Nat) : va_W := wd shC_10 cy (fun c => if c = 0 then h0 else u c) sC_10
def rm_C_10 : Room := { frames := 1, cells := 1, slots := 300, locals := 12 }
set_option maxRecDepth 100000 in
set_option maxHeartbeats 2000000 in
theorem c_C_10 {l : Launch} : MC l yX10_init cX10_init 1 rm_C_10 10 fsC_10 wlC_10 := by
  refine mk_c (by decide) rfl (by decide) (fun p e s m args below meth c D cy h0 X => ?_)
  have hlen : fsC_10.length = 8 := rfl
  have X : CC p s m args meth c cX10_init RX10 1 D cy (va_A [(h0, .inr (10, fsC_10))] s.heap.size) := X
  refine n_aload_n X 0 dX10_init_0 rfl rfl ?_
  refine n_objInit X oi_10 oi_i oi_c (Nat.le_of_ble_eq_true rfl) (Nat.le_of_ble_eq_true rfl) dX10_init_1 ?_
  refine n_aload_n X 0 dX10_init_4 rfl rfl ?_
  refine n_iconst X dX10_init_5 ?_
  refine n_put X fp_10_9 rfl rfl hlen (by decide) dX10_init_6 (fun hlen => ?_)
  refine n_aload_n X 0 dX10_init_9 rfl rfl ?_
  refine n_iconst X dX10_init_10 ?_
  refine n_put X fp_10_15 rfl rfl hlen (by decide) dX10_init_11 (fun hlen => ?_)
  refine n_aload_n X 0 dX10_init_14 rfl rfl ?_
  refine n_sipush X dX10_init_15 (by decide) ?_
  refine n_newaB (N := 300) (ce := 0) (sl := 0) X ac_B (by decide) (by decide) (by decide) (Nat.le_of_ble_eq_true rfl) (Nat.le_of_ble_eq_true rfl) dX10_init_18 (fun q1 => ?_)
  refine n_putF X ff_10_18 rfl rfl hlen (by decide) dX10_init_20 (fun hlen => ?_)
  refine n_return X (fun c => [q1].getD (c - 1) 0) ?_ dX10_init_23
  rw [wlC_10, wd_go]
  try simp only [fsC_10, List.set_cons_succ, List.set_cons_zero, List.nil_append, List.cons_append]
  rfl
def shC_3 : List Shp := [.inr (3, [.inl 0, .inl 0, .inr 1, .inr 2, .inr 3, .inr 4, .inr 5, .inr 6, .inr 7, .inl 0, .inl 0]), .inl (0, 24, .inl 0), .inl (0, 4, .inl 0), .inl (0, 4, .inl 0), .inl (0, 4, .inl 0), .inl (0, 4, .inl 0), .inl (0, 4, .inl 0), .inl (0, 4, .inl 0)]
def sC_3 : St := fun c j => if c = 0 then (if j = 9 then (-1) else 0) else 0
def fsC_3 : List Value := [mI 0, mI 0, .null, .null, .null, .null, .null, .null, .null, mI 0, mI 0]
def wlC_3 (cy : Nat → ClassId) (h0 : Nat) (u : Nat → Nat) : va_W := wd shC_3 cy (fun c => if c = 0 then h0 else u c) sC_3
def rm_C_3 : Room := { frames := 1, cells := 7, slots := 48, locals := 12 }
set_option maxRecDepth 100000 in
set_option maxHeartbeats 2000000 in
theorem c_C_3 {l : Launch} : MC l yX3_init cX3_init 1 rm_C_3 3 fsC_3 wlC_3 := by
  refine mk_c (by decide) rfl (by decide) (fun p e s m args below meth c D cy h0 X => ?_)
  have hlen : fsC_3.length = 11 := rfl
  have X : CC p s m args meth c cX3_init RX3 1 D cy (va_A [(h0, .inr (3, fsC_3))] s.heap.size) := X
  refine n_aload_n X 0 dX3_init_0 rfl rfl ?_
  refine n_objInit X oi_3 oi_i oi_c (Nat.le_of_ble_eq_true rfl) (Nat.le_of_ble_eq_true rfl) dX3_init_1 ?_
  refine n_aload_n X 0 dX3_init_4 rfl rfl ?_
  refine n_bipush X dX3_init_5 (by decide) ?_
  refine n_newaI (N := 24) (ce := 0) (sl := 0) X ac_I (by decide) (by decide) (by decide) (Nat.le_of_ble_eq_true rfl) (Nat.le_of_ble_eq_true rfl) dX3_init_7 (fun q1 => ?_)
  refine n_putF X ff_3_11 rfl rfl hlen (by decide) dX3_init_9 (fun hlen => ?_)
  refine n_aload_n X 0 dX3_init_12 rfl rfl ?_
  refine n_iconst X dX3_init_13 ?_
  refine n_newaI (N := 4) (ce := 1) (sl := 24) X ac_I (by decide) (by decide) (by decide) (Nat.le_of_ble_eq_true rfl) (Nat.le_of_ble_eq_true rfl) dX3_init_14 (fun q2 => ?_)
  refine n_putF X ff_3_15 rfl rfl hlen (by decide) dX3_init_16 (fun hlen => ?_)
  refine n_aload_n X 0 dX3_init_19 rfl rfl ?_
  refine n_iconst X dX3_init_20 ?_
  refine n_newaI (N := 4) (ce := 2) (sl := 28) X ac_I (by decide) (by decide) (by decide) (Nat.le_of_ble_eq_true rfl) (Nat.le_of_ble_eq_true rfl) dX3_init_21 (fun q3 => ?_)
  refine n_putF X ff_3_18 rfl rfl hlen (by decide) dX3_init_23 (fun hlen => ?_)
  refine n_aload_n X 0 dX3_init_26 rfl rfl ?_
  refine n_iconst X dX3_init_27 ?_
  refine n_newaI (N := 4) (ce := 3) (sl := 32) X ac_I (by decide) (by decide) (by decide) (Nat.le_of_ble_eq_true rfl) (Nat.le_of_ble_eq_true rfl) dX3_init_28 (fun q4 => ?_)
  refine n_putF X ff_3_21 rfl rfl hlen (by decide) dX3_init_30 (fun hlen => ?_)
  refine n_aload_n X 0 dX3_init_33 rfl rfl ?_
  refine n_iconst X dX3_init_34 ?_
  refine n_newaI (N := 4) (ce := 4) (sl := 36) X ac_I (by decide) (by decide) (by decide) (Nat.le_of_ble_eq_true rfl) (Nat.le_of_ble_eq_true rfl) dX3_init_35 (fun q5 => ?_)
  refine n_putF X ff_3_24 rfl rfl hlen (by decide) dX3_init_37 (fun hlen => ?_)
  refine n_aload_n X 0 dX3_init_40 rfl rfl ?_
  refine n_iconst X dX3_init_41 ?_
  refine n_newaI (N := 4) (ce := 5) (sl := 40) X ac_I (by decide) (by decide) (by decide) (Nat.le_of_ble_eq_true rfl) (Nat.le_of_ble_eq_true rfl) dX3_init_42 (fun q6 => ?_)
  refine n_putF X ff_3_27 rfl rfl hlen (by decide) dX3_init_44 (fun hlen => ?_)
  refine n_aload_n X 0 dX3_init_47 rfl rfl ?_
  refine n_iconst X dX3_init_48 ?_
  refine n_newaI (N := 4) (ce := 6) (sl := 44) X ac_I (by decide) (by decide) (by decide) (Nat.le_of_ble_eq_true rfl) (Nat.le_of_ble_eq_true rfl) dX3_init_49 (fun q7 => ?_)
  refine n_putF X ff_3_30 rfl rfl hlen (by decide) dX3_init_51 (fun hlen => ?_)
  refine n_aload_n X 0 dX3_init_54 rfl rfl ?_
  refine n_iconst X dX3_init_55 ?_
  refine n_put X fp_3_33 rfl rfl hlen (by decide) dX3_init_56 (fun hlen => ?_)
  refine n_return X (fun c => [q1, q2, q3, q4, q5, q6, q7].getD (c - 1) 0) ?_ dX3_init_59
  rw [wlC_3, wd_go]
  try simp only [fsC_3, List.set_cons_succ, List.set_cons_zero, List.nil_append, List.cons_append]
  rfl
