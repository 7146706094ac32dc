theorem oi_11 : Cond.methodLink RX11 1 objectInit ∈ gt := tmem 25 (by decide +kernel) (by decide +kernel)
theorem nw_11_7 : NW RX11 7 0 fsC_0 := ⟨RX0, TX0, 6, tyX0, rfl, inX0, tyX0_ok, tmem 28 (by decide +kernel) (by decide +kernel), tmem 29 (by decide +kernel) (by decide +kernel), tmem 2 (by decide +kernel) (by decide +kernel), (fun j hj => by rcases (show j = 0 ∨ j = 1 ∨ j = 2 ∨ j = 3 ∨ j = 4 ∨ j = 5 by omega) with rfl | rfl | rfl | rfl | rfl | rfl <;> rfl), rfl⟩
theorem yw_X0_init : YW yX0_init cX0_init 1 none 0 := ⟨tmem 32 (by decide +kernel) (by decide +kernel), tmem 2 (by decide +kernel) (by decide +kernel), by decide, by decide, by decide +kernel⟩
theorem yi_X0_init : Cond.instanceMethod yX0_init ∈ gt := tmem 31 (by decide +kernel) (by decide +kernel)
theorem nl_11_9 : (RX11, 9, yX0_init) ∈ nwL := by decide +kernel
theorem ff_11_10 : FF RX11 10 11 0 (.object "FairHall$Boards") := ⟨RX11, TX11, 14, tyX11, rfl, by decide, tmem 379 (by decide +kernel) (by decide +kernel), inX11, tyX11_ok, nmX11, rfl, rfl, by decide +kernel⟩
theorem nw_11_16 : NW RX11 16 4 fsC_4 := ⟨RX4, TX4, 4, tyX4, rfl, inX4, tyX4_ok, tmem 64 (by decide +kernel) (by decide +kernel), tmem 65 (by decide +kernel) (by decide +kernel), tmem 3 (by decide +kernel) (by decide +kernel), (fun j hj => by rcases (show j = 0 ∨ j = 1 ∨ j = 2 ∨ j = 3 by omega) with rfl | rfl | rfl | rfl <;> rfl), rfl⟩
theorem yw_X4_init : YW yX4_init cX4_init 1 none 0 := ⟨tmem 68 (by decide +kernel) (by decide +kernel), tmem 3 (by decide +kernel) (by decide +kernel), by decide, by decide, by decide +kernel⟩
theorem yi_X4_init : Cond.instanceMethod yX4_init ∈ gt := tmem 67 (by decide +kernel) (by decide +kernel)
theorem nl_11_18 : (RX11, 18, yX4_init) ∈ nwL := by decide +kernel
theorem ff_11_19 : FF RX11 19 11 1 (.object "FairHall$Judges") := ⟨RX11, TX11, 14, tyX11, rfl, by decide, tmem 380 (by decide +kernel) (by decide +kernel), inX11, tyX11_ok, nmX11, rfl, rfl, by decide +kernel⟩
theorem nw_11_23 : NW RX11 23 7 fsC_7 := ⟨RX7, TX7, 17, tyX7, rfl, inX7, tyX7_ok, tmem 86 (by decide +kernel) (by decide +kernel), tmem 87 (by decide +kernel) (by decide +kernel), tmem 4 (by decide +kernel) (by decide +kernel), (fun j hj => by rcases (show j = 0 ∨ j = 1 ∨ j = 2 ∨ j = 3 ∨ j = 4 ∨ j = 5 ∨ j = 6 ∨ j = 7 ∨ j = 8 ∨ j = 9 ∨ j = 10 ∨ j = 11 ∨ j = 12 ∨ j = 13 ∨ j = 14 ∨ j = 15 ∨ j = 16 by omega) with rfl | rfl | rfl | rfl | rfl | rfl | rfl | rfl | rfl | rfl | rfl | rfl | rfl | rfl | rfl | rfl | rfl <;> rfl), rfl⟩
theorem yw_X7_init : YW yX7_init cX7_init 1 none 0 := ⟨tmem 90 (by decide +kernel) (by decide +kernel), tmem 4 (by decide +kernel) (by decide +kernel), by decide, by decide, by decide +kernel⟩
theorem yi_X7_init : Cond.instanceMethod yX7_init ∈ gt := tmem 89 (by decide +kernel) (by decide +kernel)
theorem nl_11_25 : (RX11, 25, yX7_init) ∈ nwL := by decide +kernel
theorem ff_11_26 : FF RX11 26 11 2 (.object "FairHall$Plan") := ⟨RX11, TX11, 14, tyX11, rfl, by decide, tmem 381 (by decide +kernel) (by decide +kernel), inX11, tyX11_ok, nmX11, rfl, rfl, by decide +kernel⟩
theorem nw_11_30 : NW RX11 30 6 fsC_6 := ⟨RX6, TX6, 6, tyX6, rfl, inX6, tyX6_ok, tmem 147 (by decide +kernel) (by decide +kernel), tmem 148 (by decide +kernel) (by decide +kernel), tmem 5 (by decide +kernel) (by decide +kernel), (fun j hj => by rcases (show j = 0 ∨ j = 1 ∨ j = 2 ∨ j = 3 ∨ j = 4 ∨ j = 5 by omega) with rfl | rfl | rfl | rfl | rfl | rfl <;> rfl), rfl⟩
theorem yw_X6_init : YW yX6_init cX6_init 1 none 0 := ⟨tmem 151 (by decide +kernel) (by decide +kernel), tmem 5 (by decide +kernel) (by decide +kernel), by decide, by decide, by decide +kernel⟩
theorem yi_X6_init : Cond.instanceMethod yX6_init ∈ gt := tmem 150 (by decide +kernel) (by decide +kernel)
theorem nl_11_32 : (RX11, 32, yX6_init) ∈ nwL := by decide +kernel
theorem ff_11_33 : FF RX11 33 11 3 (.object "FairHall$Marks") := ⟨RX11, TX11, 14, tyX11, rfl, by decide, tmem 382 (by decide +kernel) (by decide +kernel), inX11, tyX11_ok, nmX11, rfl, rfl, by decide +kernel⟩
theorem nw_11_37 : NW RX11 37 5 fsC_5 := ⟨RX5, TX5, 3, tyX5, rfl, inX5, tyX5_ok, tmem 179 (by decide +kernel) (by decide +kernel), tmem 180 (by decide +kernel) (by decide +kernel), tmem 6 (by decide +kernel) (by decide +kernel), (fun j hj => by rcases (show j = 0 ∨ j = 1 ∨ j = 2 by omega) with rfl | rfl | rfl <;> rfl), rfl⟩
theorem yw_X5_init : YW yX5_init cX5_init 1 none 0 := ⟨tmem 183 (by decide +kernel) (by decide +kernel), tmem 6 (by decide +kernel) (by decide +kernel), by decide, by decide, by decide +kernel⟩
theorem yi_X5_init : Cond.instanceMethod yX5_init ∈ gt := tmem 182 (by decide +kernel) (by decide +kernel)
theorem nl_11_39 : (RX11, 39, yX5_init) ∈ nwL := by decide +kernel
theorem ff_11_40 : FF RX11 40 11 4 (.object "FairHall$Known") := ⟨RX11, TX11, 14, tyX11, rfl, by decide, tmem 383 (by decide +kernel) (by decide +kernel), inX11, tyX11_ok, nmX11, rfl, rfl, by decide +kernel⟩
theorem nw_11_44 : NW RX11 44 9 fsC_9 := ⟨RX9, TX9, 6, tyX9, rfl, inX9, tyX9_ok, tmem 197 (by decide +kernel) (by decide +kernel), tmem 198 (by decide +kernel) (by decide +kernel), tmem 7 (by decide +kernel) (by decide +kernel), (fun j hj => by rcases (show j = 0 ∨ j = 1 ∨ j = 2 ∨ j = 3 ∨ j = 4 ∨ j = 5 by omega) with rfl | rfl | rfl | rfl | rfl | rfl <;> rfl), rfl⟩
theorem yw_X9_init : YW yX9_init cX9_init 1 none 0 := ⟨tmem 201 (by decide +kernel) (by decide +kernel), tmem 7 (by decide +kernel) (by decide +kernel), by decide, by decide, by decide +kernel⟩
theorem yi_X9_init : Cond.instanceMethod yX9_init ∈ gt := tmem 200 (by decide +kernel) (by decide +kernel)
theorem nl_11_46 : (RX11, 46, yX9_init) ∈ nwL := by decide +kernel
theorem ff_11_47 : FF RX11 47 11 5 (.object "FairHall$Scale") := ⟨RX11, TX11, 14, tyX11, rfl, by decide, tmem 384 (by decide +kernel) (by decide +kernel), inX11, tyX11_ok, nmX11, rfl, rfl, by decide +kernel⟩
theorem nw_11_51 : NW RX11 51 1 fsC_1 := ⟨RX1, TX1, 2, tyX1, rfl, inX1, tyX1_ok, tmem 227 (by decide +kernel) (by decide +kernel), tmem 228 (by decide +kernel) (by decide +kernel), tmem 8 (by decide +kernel) (by decide +kernel), (fun j hj => by rcases (show j = 0 ∨ j = 1 by omega) with rfl | rfl <;> rfl), rfl⟩
theorem nl_11_53 : (RX11, 53, yX1_init) ∈ nwL := by decide +kernel
theorem ff_11_54 : FF RX11 54 11 6 (.object "FairHall$Fraction") := ⟨RX11, TX11, 14, tyX11, rfl, by decide, tmem 385 (by decide +kernel) (by decide +kernel), inX11, tyX11_ok, nmX11, rfl, rfl, by decide +kernel⟩
theorem nw_11_58 : NW RX11 58 10 fsC_10 := ⟨RX10, TX10, 8, tyX10, rfl, inX10, tyX10_ok, tmem 242 (by decide +kernel) (by decide +kernel), tmem 243 (by decide +kernel) (by decide +kernel), tmem 9 (by decide +kernel) (by decide +kernel), (fun j hj => by rcases (show j = 0 ∨ j = 1 ∨ j = 2 ∨ j = 3 ∨ j = 4 ∨ j = 5 ∨ j = 6 ∨ j = 7 by omega) with rfl | rfl | rfl | rfl | rfl | rfl | rfl | rfl <;> rfl), rfl⟩
theorem yw_X10_init : YW yX10_init cX10_init 1 none 0 := ⟨tmem 246 (by decide +kernel) (by decide +kernel), tmem 9 (by decide +kernel) (by decide +kernel), by decide, by decide, by decide +kernel⟩
theorem yi_X10_init : Cond.instanceMethod yX10_init ∈ gt := tmem 245 (by decide +kernel) (by decide +kernel)
theorem nl_11_60 : (RX11, 60, yX10_init) ∈ nwL := by decide +kernel
theorem ff_11_61 : FF RX11 61 11 7 (.object "FairHall$TextReader") := ⟨RX11, TX11, 14, tyX11, rfl, by decide, tmem 386 (by decide +kernel) (by decide +kernel), inX11, tyX11_ok, nmX11, rfl, rfl, by decide +kernel⟩
theorem nw_11_65 : NW RX11 65 2 fsC_2 := ⟨RX2, TX2, 6, tyX2, rfl, inX2, tyX2_ok, tmem 277 (by decide +kernel) (by decide +kernel), tmem 278 (by decide +kernel) (by decide +kernel), tmem 10 (by decide +kernel) (by decide +kernel), (fun j hj => by rcases (show j = 0 ∨ j = 1 ∨ j = 2 ∨ j = 3 ∨ j = 4 ∨ j = 5 by omega) with rfl | rfl | rfl | rfl | rfl | rfl <;> rfl), rfl⟩
theorem yw_X2_init : YW yX2_init cX2_init 2 none 0 := ⟨tmem 281 (by decide +kernel) (by decide +kernel), tmem 10 (by decide +kernel) (by decide +kernel), by decide, by decide, by decide +kernel⟩
theorem yi_X2_init : Cond.instanceMethod yX2_init ∈ gt := tmem 280 (by decide +kernel) (by decide +kernel)
theorem ml_RX11_67 : Cond.methodLink RX11 67 yX2_init ∈ gt := tmem 279 (by decide +kernel) (by decide +kernel)
theorem ff_11_68 : FF RX11 68 11 8 (.object "FairHall$Giver") := ⟨RX11, TX11, 14, tyX11, rfl, by decide, tmem 387 (by decide +kernel) (by decide +kernel), inX11, tyX11_ok, nmX11, rfl, rfl, by decide +kernel⟩
theorem nw_11_72 : NW RX11 72 3 fsC_3 := ⟨RX3, TX3, 11, tyX3, rfl, inX3, tyX3_ok, tmem 308 (by decide +kernel) (by decide +kernel), tmem 309 (by decide +kernel) (by decide +kernel), tmem 11 (by decide +kernel) (by decide +kernel), (fun j hj => by rcases (show j = 0 ∨ j = 1 ∨ j = 2 ∨ j = 3 ∨ j = 4 ∨ j = 5 ∨ j = 6 ∨ j = 7 ∨ j = 8 ∨ j = 9 ∨ j = 10 by omega) with rfl | rfl | rfl | rfl | rfl | rfl | rfl | rfl | rfl | rfl | rfl <;> rfl), rfl⟩
theorem yw_X3_init : YW yX3_init cX3_init 1 none 0 := ⟨tmem 312 (by decide +kernel) (by decide +kernel), tmem 11 (by decide +kernel) (by decide +kernel), by decide, by decide, by decide +kernel⟩
theorem yi_X3_init : Cond.instanceMethod yX3_init ∈ gt := tmem 311 (by decide +kernel) (by decide +kernel)
theorem nl_11_74 : (RX11, 74, yX3_init) ∈ nwL := by decide +kernel
theorem ff_11_75 : FF RX11 75 11 9 (.object "FairHall$Halls") := ⟨RX11, TX11, 14, tyX11, rfl, by decide, tmem 388 (by decide +kernel) (by decide +kernel), inX11, tyX11_ok, nmX11, rfl, rfl, by decide +kernel⟩
theorem nw_11_79 : NW RX11 79 8 fsC_8 := ⟨RX8, TX8, 4, tyX8, rfl, inX8, tyX8_ok, tmem 351 (by decide +kernel) (by decide +kernel), tmem 352 (by decide +kernel) (by decide +kernel), tmem 12 (by decide +kernel) (by decide +kernel), (fun j hj => by rcases (show j = 0 ∨ j = 1 ∨ j = 2 ∨ j = 3 by omega) with rfl | rfl | rfl | rfl <;> rfl), rfl⟩
theorem yw_X8_init : YW yX8_init cX8_init 1 none 0 := ⟨tmem 355 (by decide +kernel) (by decide +kernel), tmem 12 (by decide +kernel) (by decide +kernel), by decide, by decide, by decide +kernel⟩
theorem yi_X8_init : Cond.instanceMethod yX8_init ∈ gt := tmem 354 (by decide +kernel) (by decide +kernel)
theorem nl_11_81 : (RX11, 81, yX8_init) ∈ nwL := by decide +kernel
theorem n_return3 {p : Program} {l : Launch} {e : Env} {R : Room} {s : State} {m : MethodId} {args : Array Value} {below : List Frame} {meth : Method} {c : Code} {D : va_G} {cy : Nat → ClassId} {nL ce sl pc : Nat} {lv : List (Nat × Value)} {ws w0 wH : va_W} {cc : ByteArray} {own : String} {wl : (Nat → ClassId) → Nat → (Nat → Nat) → va_W} {h0 : Nat} (X : CC p s m args meth c cc own nL D cy (va_A w0 s.heap.size)) (u : Nat → Nat) (hw : wH = ws) (he1 : ∀ H, va_P D vwCl wH H → va_P D vwCl (wl cy h0 u) H) (he2 : va_D (va_A w0 s.heap.size) wH → va_D (va_A w0 s.heap.size) (wl cy h0 u)) (hdg : decode cc pc = .ok (.return_, 1)) : GC p l e R s m args below meth c (QC D cy wl w0 h0 s.heap.size below args s ce sl (va_A w0 s.heap.size)) D (va_A w0 s.heap.size) nL ce sl pc lv [] ws := by
  subst hw
  exact n_return2 X u ⟨he1, he2⟩ hdg
def rm_C_11 : Room := { frames := 3, cells := 95, slots := 2645, locals := 53 }
def fsC_11 : List Value := [.null, .null, .null, .null, .null, .null, .null, .null, .null, .null, .null, .null, mI 0, mI 0]
def wlH (cy : Nat → ClassId) (h0 : Nat) (q : Nat → Nat) (u : Nat → Nat → Nat) : va_W := (h0, .inr (11, [.ref (q 1), .ref (q 2), .ref (q 3), .ref (q 4), .ref (q 5), .ref (q 6), .ref (q 7), .ref (q 8), .ref (q 9), .ref (q 10), .ref (q 11), .ref (q 12), mI 2, mI 0])) :: (wlC_0 cy (q 1) (u 1) ++ wlC_4 cy (q 2) (u 2) ++ wlC_7 cy (q 3) (u 3) ++ wlC_6 cy (q 4) (u 4) ++ wlC_5 cy (q 5) (u 5) ++ wlC_9 cy (q 6) (u 6) ++ wlC_1 cy (q 7) (u 7) ++ wlC_10 cy (q 8) (u 8) ++ wlC_2 cy (q 9) (u 9) ++ wlC_3 cy (q 10) (u 10) ++ wlC_8 cy (q 11) (u 11) ++ wlC_8 cy (q 12) (u 12))
set_option maxRecDepth 100000 in
set_option maxHeartbeats 4000000 in
theorem c_C_11 {l : Launch} {wl : (Nat → ClassId) → Nat → (Nat → Nat) → va_W} (hwl : ∀ cy h0 q u, ∃ v, (∀ D H, va_P D vwCl (wlH cy h0 q u) H → va_P D vwCl (wl cy h0 v) H) ∧ ∀ A, va_D A (wlH cy h0 q u) → va_D A (wl cy h0 v)) : MC l yX11_init cX11_init 1 rm_C_11 11 fsC_11 wl := by
  refine mk_c (by decide) rfl (by decide) (fun p e s m args below meth c D cy h0 X => ?_)
  have hlen : fsC_11.length = 14 := rfl
  have X : CC p s m args meth c cX11_init RX11 1 D cy (va_A [(h0, .inr (11, fsC_11))] s.heap.size) := X
  refine n_aload_n X 0 dX11_init_0 rfl rfl ?_
  refine n_objInit X oi_11 oi_i oi_c (Nat.le_of_ble_eq_true rfl) (Nat.le_of_ble_eq_true rfl) dX11_init_1 ?_
  refine n_aload_n X 0 dX11_init_4 rfl rfl ?_
  refine n_new (N := 6) (ce := 0) (sl := 0) X nw_11_7 rfl (Nat.le_of_ble_eq_true rfl) (Nat.le_of_ble_eq_true rfl) dX11_init_5 (fun q1 => ?_)
  refine n_dup X dX11_init_8 rfl ?_
  refine n_callI (ce := 1) (sl := 6) X (c_C_0) yw_X0_init yi_X0_init nl_11_9 rfl ⟨Nat.le_of_ble_eq_true rfl, Nat.le_of_ble_eq_true rfl⟩ ⟨Nat.le_of_ble_eq_true rfl, Nat.le_of_ble_eq_true rfl⟩ (Nat.le_of_ble_eq_true rfl) dX11_init_9 (fun u1 => ?_)
  refine n_putF X ff_11_10 rfl rfl hlen (by decide) dX11_init_12 (fun hlen => ?_)
  refine n_aload_n X 0 dX11_init_15 rfl rfl ?_
  refine n_new (N := 4) (ce := 6) (sl := 126) X nw_11_16 rfl (Nat.le_of_ble_eq_true rfl) (Nat.le_of_ble_eq_true rfl) dX11_init_16 (fun q2 => ?_)
  refine n_dup X dX11_init_19 rfl ?_
  refine n_callI (ce := 7) (sl := 130) X (c_C_4) yw_X4_init yi_X4_init nl_11_18 rfl ⟨Nat.le_of_ble_eq_true rfl, Nat.le_of_ble_eq_true rfl⟩ ⟨Nat.le_of_ble_eq_true rfl, Nat.le_of_ble_eq_true rfl⟩ (Nat.le_of_ble_eq_true rfl) dX11_init_20 (fun u2 => ?_)
  refine n_putF X ff_11_19 rfl rfl hlen (by decide) dX11_init_23 (fun hlen => ?_)
  refine n_aload_n X 0 dX11_init_26 rfl rfl ?_
  refine n_new (N := 17) (ce := 10) (sl := 166) X nw_11_23 rfl (Nat.le_of_ble_eq_true rfl) (Nat.le_of_ble_eq_true rfl) dX11_init_27 (fun q3 => ?_)
  refine n_dup X dX11_init_30 rfl ?_
  refine n_callI (ce := 11) (sl := 183) X (c_C_7) yw_X7_init yi_X7_init nl_11_25 rfl ⟨Nat.le_of_ble_eq_true rfl, Nat.le_of_ble_eq_true rfl⟩ ⟨Nat.le_of_ble_eq_true rfl, Nat.le_of_ble_eq_true rfl⟩ (Nat.le_of_ble_eq_true rfl) dX11_init_31 (fun u3 => ?_)
  refine n_putF X ff_11_26 rfl rfl hlen (by decide) dX11_init_34 (fun hlen => ?_)
  refine n_aload_n X 0 dX11_init_37 rfl rfl ?_
  refine n_new (N := 6) (ce := 18) (sl := 315) X nw_11_30 rfl (Nat.le_of_ble_eq_true rfl) (Nat.le_of_ble_eq_true rfl) dX11_init_38 (fun q4 => ?_)
  refine n_dup X dX11_init_41 rfl ?_
  refine n_callI (ce := 19) (sl := 321) X (c_C_6) yw_X6_init yi_X6_init nl_11_32 rfl ⟨Nat.le_of_ble_eq_true rfl, Nat.le_of_ble_eq_true rfl⟩ ⟨Nat.le_of_ble_eq_true rfl, Nat.le_of_ble_eq_true rfl⟩ (Nat.le_of_ble_eq_true rfl) dX11_init_42 (fun u4 => ?_)
  refine n_putF X ff_11_33 rfl rfl hlen (by decide) dX11_init_45 (fun hlen => ?_)
  refine n_aload_n X 0 dX11_init_48 rfl rfl ?_
  refine n_new (N := 3) (ce := 24) (sl := 1321) X nw_11_37 rfl (Nat.le_of_ble_eq_true rfl) (Nat.le_of_ble_eq_true rfl) dX11_init_49 (fun q5 => ?_)
  refine n_dup X dX11_init_52 rfl ?_
  refine n_callI (ce := 25) (sl := 1324) X (c_C_5) yw_X5_init yi_X5_init nl_11_39 rfl ⟨Nat.le_of_ble_eq_true rfl, Nat.le_of_ble_eq_true rfl⟩ ⟨Nat.le_of_ble_eq_true rfl, Nat.le_of_ble_eq_true rfl⟩ (Nat.le_of_ble_eq_true rfl) dX11_init_53 (fun u5 => ?_)
  refine n_putF X ff_11_40 rfl rfl hlen (by decide) dX11_init_56 (fun hlen => ?_)
  refine n_aload_n X 0 dX11_init_59 rfl rfl ?_
  refine n_new (N := 6) (ce := 28) (sl := 1912) X nw_11_44 rfl (Nat.le_of_ble_eq_true rfl) (Nat.le_of_ble_eq_true rfl) dX11_init_60 (fun q6 => ?_)
  refine n_dup X dX11_init_63 rfl ?_
  refine n_callI (ce := 29) (sl := 1918) X (c_C_9) yw_X9_init yi_X9_init nl_11_46 rfl ⟨Nat.le_of_ble_eq_true rfl, Nat.le_of_ble_eq_true rfl⟩ ⟨Nat.le_of_ble_eq_true rfl, Nat.le_of_ble_eq_true rfl⟩ (Nat.le_of_ble_eq_true rfl) dX11_init_64 (fun u6 => ?_)
  refine n_putF X ff_11_47 rfl rfl hlen (by decide) dX11_init_67 (fun hlen => ?_)
  refine n_aload_n X 0 dX11_init_70 rfl rfl ?_
  refine n_new (N := 2) (ce := 39) (sl := 2014) X nw_11_51 rfl (Nat.le_of_ble_eq_true rfl) (Nat.le_of_ble_eq_true rfl) dX11_init_71 (fun q7 => ?_)
  refine n_dup X dX11_init_74 rfl ?_
  refine n_callI (ce := 40) (sl := 2016) X (c_C_1) yw_X1_init yi_X1_init nl_11_53 rfl ⟨Nat.le_of_ble_eq_true rfl, Nat.le_of_ble_eq_true rfl⟩ ⟨Nat.le_of_ble_eq_true rfl, Nat.le_of_ble_eq_true rfl⟩ (Nat.le_of_ble_eq_true rfl) dX11_init_75 (fun u7 => ?_)
  refine n_putF X ff_11_54 rfl rfl hlen (by decide) dX11_init_78 (fun hlen => ?_)
  refine n_aload_n X 0 dX11_init_81 rfl rfl ?_
  refine n_new (N := 8) (ce := 40) (sl := 2016) X nw_11_58 rfl (Nat.le_of_ble_eq_true rfl) (Nat.le_of_ble_eq_true rfl) dX11_init_82 (fun q8 => ?_)
  refine n_dup X dX11_init_85 rfl ?_
  refine n_callI (ce := 41) (sl := 2024) X (c_C_10) yw_X10_init yi_X10_init nl_11_60 rfl ⟨Nat.le_of_ble_eq_true rfl, Nat.le_of_ble_eq_true rfl⟩ ⟨Nat.le_of_ble_eq_true rfl, Nat.le_of_ble_eq_true rfl⟩ (Nat.le_of_ble_eq_true rfl) dX11_init_86 (fun u8 => ?_)
  refine n_putF X ff_11_61 rfl rfl hlen (by decide) dX11_init_89 (fun hlen => ?_)
  refine n_aload_n X 0 dX11_init_92 rfl rfl ?_
  refine n_new (N := 6) (ce := 42) (sl := 2324) X nw_11_65 rfl (Nat.le_of_ble_eq_true rfl) (Nat.le_of_ble_eq_true rfl) dX11_init_93 (fun q9 => ?_)
  refine n_dup X dX11_init_96 rfl ?_
  refine n_callJ (ce := 43) (sl := 2330) X (c_C_2) yw_X2_init yi_X2_init ml_RX11_67 rfl ⟨Nat.le_of_ble_eq_true rfl, Nat.le_of_ble_eq_true rfl⟩ ⟨Nat.le_of_ble_eq_true rfl, Nat.le_of_ble_eq_true rfl⟩ (Nat.le_of_ble_eq_true rfl) dX11_init_97 (fun u9 => ?_)
  refine n_putF X ff_11_68 rfl rfl hlen (by decide) dX11_init_100 (fun hlen => ?_)
  refine n_aload_n X 0 dX11_init_103 rfl rfl ?_
  refine n_new (N := 11) (ce := 71) (sl := 2474) X nw_11_72 rfl (Nat.le_of_ble_eq_true rfl) (Nat.le_of_ble_eq_true rfl) dX11_init_104 (fun q10 => ?_)
  refine n_dup X dX11_init_107 rfl ?_
  refine n_callI (ce := 72) (sl := 2485) X (c_C_3) yw_X3_init yi_X3_init nl_11_74 rfl ⟨Nat.le_of_ble_eq_true rfl, Nat.le_of_ble_eq_true rfl⟩ ⟨Nat.le_of_ble_eq_true rfl, Nat.le_of_ble_eq_true rfl⟩ (Nat.le_of_ble_eq_true rfl) dX11_init_108 (fun u10 => ?_)
  refine n_putF X ff_11_75 rfl rfl hlen (by decide) dX11_init_111 (fun hlen => ?_)
  refine n_aload_n X 0 dX11_init_114 rfl rfl ?_
  refine n_new (N := 4) (ce := 79) (sl := 2533) X nw_11_79 rfl (Nat.le_of_ble_eq_true rfl) (Nat.le_of_ble_eq_true rfl) dX11_init_115 (fun q11 => ?_)
  refine n_dup X dX11_init_118 rfl ?_
  refine n_callI (ce := 80) (sl := 2537) X (c_C_8) yw_X8_init yi_X8_init nl_11_81 rfl ⟨Nat.le_of_ble_eq_true rfl, Nat.le_of_ble_eq_true rfl⟩ ⟨Nat.le_of_ble_eq_true rfl, Nat.le_of_ble_eq_true rfl⟩ (Nat.le_of_ble_eq_true rfl) dX11_init_119 (fun u11 => ?_)
  refine n_put X fp_11_82 rfl rfl hlen (by decide) dX11_init_122 (fun hlen => ?_)
  refine n_aload_n X 0 dX11_init_125 rfl rfl ?_
  refine n_new (N := 4) (ce := 87) (sl := 2589) X nw_11_79 rfl (Nat.le_of_ble_eq_true rfl) (Nat.le_of_ble_eq_true rfl) dX11_init_126 (fun q12 => ?_)
  refine n_dup X dX11_init_129 rfl ?_
  refine n_callI (ce := 88) (sl := 2593) X (c_C_8) yw_X8_init yi_X8_init nl_11_81 rfl ⟨Nat.le_of_ble_eq_true rfl, Nat.le_of_ble_eq_true rfl⟩ ⟨Nat.le_of_ble_eq_true rfl, Nat.le_of_ble_eq_true rfl⟩ (Nat.le_of_ble_eq_true rfl) dX11_init_130 (fun u12 => ?_)
  refine n_put X fp_11_86 rfl rfl hlen (by decide) dX11_init_133 (fun hlen => ?_)
  refine n_aload_n X 0 dX11_init_136 rfl rfl ?_
  refine n_iconst X dX11_init_137 ?_
  refine n_put X fp_11_89 rfl rfl hlen (by decide) dX11_init_138 (fun hlen => ?_)
  refine n_aload_n X 0 dX11_init_141 rfl rfl ?_
  refine n_iconst X dX11_init_142 ?_
  refine n_put X fp_11_93 rfl rfl hlen (by decide) dX11_init_143 (fun hlen => ?_)
  obtain ⟨v, hv1, hv2⟩ := hwl cy h0 (fun i => [0, q1, q2, q3, q4, q5, q6, q7, q8, q9, q10, q11, q12].getD i 0) (fun i => [fun _ => 0, u1, u2, u3, u4, u5, u6, u7, u8, u9, u10, u11, u12].getD i (fun _ => 0))
  refine n_return3 X v (wH := wlH cy h0 (fun i => [0, q1, q2, q3, q4, q5, q6, q7, q8, q9, q10, q11, q12].getD i 0) (fun i => [fun _ => 0, u1, u2, u3, u4, u5, u6, u7, u8, u9, u10, u11, u12].getD i (fun _ => 0))) ?_ (hv1 D) (hv2 _) dX11_init_146
  rw [wlH]
  simp only [fsC_11, List.set_cons_succ, List.set_cons_zero, List.nil_append, List.append_assoc]
  rfl
