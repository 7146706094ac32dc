def shC_2 : List Shp := [.inr (2, [.inl 0, .inr 1, .inr 2, .inl 0, .inr 3, .inr 4]), .inl (0, 24, .inl 0), .inl (4, 24, .inr (fun j => 5 + j)), .inl (0, 24, .inl 0), .inl (2, 24, .inl 0), .inr (1, [.inl 1, .inl 1]), .inr (1, [.inl 1, .inl 1]), .inr (1, [.inl 1, .inl 1]), .inr (1, [.inl 1, .inl 1]), .inr (1, [.inl 1, .inl 1]), .inr (1, [.inl 1, .inl 1]), .inr (1, [.inl 1, .inl 1]), .inr (1, [.inl 1, .inl 1]), .inr (1, [.inl 1, .inl 1]), .inr (1, [.inl 1, .inl 1]), .inr (1, [.inl 1, .inl 1]), .inr (1, [.inl 1, .inl 1]), .inr (1, [.inl 1, .inl 1]), .inr (1, [.inl 1, .inl 1]), .inr (1, [.inl 1, .inl 1]), .inr (1, [.inl 1, .inl 1]), .inr (1, [.inl 1, .inl 1]), .inr (1, [.inl 1, .inl 1]), .inr (1, [.inl 1, .inl 1]), .inr (1, [.inl 1, .inl 1]), .inr (1, [.inl 1, .inl 1]), .inr (1, [.inl 1, .inl 1]), .inr (1, [.inl 1, .inl 1]), .inr (1, [.inl 1, .inl 1])]
def sC_2 : St := fun c j => if 4 < c then (if j = 1 then 1 else 0) else 0
def fsC_2 : List Value := [mI 0, .null, .null, mI 0, .null, .null]
def wlC_2 (cy : Nat → ClassId) (h0 : Nat) (u : Nat → Nat) : va_W := wd shC_2 cy (fun c => if c = 0 then h0 else u c) sC_2
set_option maxRecDepth 100000 in
set_option maxHeartbeats 4000000 in
theorem c_C_2 {l : Launch} : MC l yX2_init cX2_init 2 rm_C_2 2 fsC_2 wlC_2 := by
  refine mk_c (by decide) rfl (by decide) (fun p e s m args below meth c D cy h0 X => ?_)
  have hlen : fsC_2.length = 6 := rfl
  have X : CC p s m args meth c cX2_init RX2 2 D cy (va_A [(h0, .inr (2, fsC_2))] s.heap.size) := X
  refine n_aload_n X 0 dX2_init_0 rfl rfl ?_
  refine n_objInit X oi_2 oi_i oi_c (Nat.le_of_ble_eq_true rfl) (Nat.le_of_ble_eq_true rfl) dX2_init_1 ?_
  refine n_aload_n X 0 dX2_init_4 rfl rfl ?_
  refine n_bipush X dX2_init_5 (by decide) ?_
  refine n_newaI (N := 24) (ce := 0) (sl := 0) X ac_I (by decide) (by decide) (by decide) (Nat.le_of_ble_eq_true rfl) (Nat.le_of_ble_eq_true rfl) dX2_init_7 (fun q1 => ?_)
  refine n_putF X ff_2_9 rfl rfl hlen (by decide) dX2_init_9 (fun hlen => ?_)
  refine n_aload_n X 0 dX2_init_12 rfl rfl ?_
  refine n_bipush X dX2_init_13 (by decide) ?_
  refine n_anewa (N := 24) (ce := 1) (sl := 24) X cl_2_15 (by decide) (by decide) (by decide) (Nat.le_of_ble_eq_true rfl) (Nat.le_of_ble_eq_true rfl) dX2_init_15 (fun q2 => ?_)
  refine n_putF X ff_2_17 rfl rfl hlen (by decide) dX2_init_18 (fun hlen => ?_)
  refine n_aload_n X 0 dX2_init_21 rfl rfl ?_
  refine n_bipush X dX2_init_22 (by decide) ?_
  refine n_newaI (N := 24) (ce := 2) (sl := 48) X ac_I (by decide) (by decide) (by decide) (Nat.le_of_ble_eq_true rfl) (Nat.le_of_ble_eq_true rfl) dX2_init_24 (fun q3 => ?_)
  refine n_putF X ff_2_21 rfl rfl hlen (by decide) dX2_init_26 (fun hlen => ?_)
  refine n_aload_n X 0 dX2_init_29 rfl rfl ?_
  refine n_bipush X dX2_init_30 (by decide) ?_
  refine n_newaZ (N := 24) (ce := 3) (sl := 72) X ac_Z (by decide) (by decide) (by decide) (Nat.le_of_ble_eq_true rfl) (Nat.le_of_ble_eq_true rfl) dX2_init_32 (fun q4 => ?_)
  refine n_putF X ff_2_24 rfl rfl hlen (by decide) dX2_init_34 (fun hlen => ?_)
  refine n_iconst X dX2_init_37 ?_
  refine n_istore_n (lv2 := [(1, mI 0), (0, .ref h0)]) X dX2_init_38 rfl (by decide) rfl ?_
  simp only [fsC_2, List.set_cons_succ, List.set_cons_zero, List.nil_append, List.cons_append]
  have h9 := giver_loop (l := l) (p := p) (e := e) (below := below) (Q := QC D cy wlC_2 [(h0, .inr (2, fsC_2))] h0 s.heap.size below args s rm_C_2.cells rm_C_2.slots (va_A [(h0, .inr (2, fsC_2))] s.heap.size)) X (h0 := h0) (q1 := q1) (q2 := q2) (q3 := q3) (q4 := q4) (fun r => ?_) 24 0 rfl (fun _ => 0)
  · exact h9
  · refine n_return2 X (fun c => if c < 5 then [q1, q2, q3, q4].getD (c - 1) 0 else r (c - 5)) ⟨fun H hP => ?_, fun hD => ?_⟩ dX2_init_64
    · have hP2 := outer_P (L1 := [_, _]) (g := fun j => some ((fun c => if c = 0 then h0 else (fun c => if c < 5 then [q1, q2, q3, q4].getD (c - 1) 0 else r (c - 5)) c) (5 + j))) (fun j hj => by simp [hj, show ¬ 5 + j < 5 by omega, show 5 + j - 5 = j by omega]) hP
      rw [wlC_2, wd_go]
      exact hP2
    · rw [wlC_2, wd_go]
      exact outer_D (L1 := [_, _]) hD
