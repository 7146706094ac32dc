theorem FF.fl {own : String} {idx ci j : Nat} {ty : FieldType} (h : FF own idx ci j ty) : FL own idx ci j := by
  obtain ⟨C, T, N, ty0, h1, h2, h3, h4, -⟩ := h
  exact ⟨C, T, N, h1, h2, h3, h4⟩
theorem ff_2_9 : FF RX2 9 2 1 (.array .int) := ⟨RX2, TX2, 6, tyX2, rfl, by decide, tmem 288 (by decide +kernel) (by decide +kernel), inX2, tyX2_ok, nmX2, rfl, rfl, by decide +kernel⟩
theorem ff_2_17 : FF RX2 17 2 2 (.array (.object "FairHall$Fraction")) := ⟨RX2, TX2, 6, tyX2, rfl, by decide, tmem 290 (by decide +kernel) (by decide +kernel), inX2, tyX2_ok, nmX2, rfl, rfl, by decide +kernel⟩
theorem ff_2_21 : FF RX2 21 2 4 (.array .int) := ⟨RX2, TX2, 6, tyX2, rfl, by decide, tmem 292 (by decide +kernel) (by decide +kernel), inX2, tyX2_ok, nmX2, rfl, rfl, by decide +kernel⟩
theorem ff_2_24 : FF RX2 24 2 5 (.array .boolean) := ⟨RX2, TX2, 6, tyX2, rfl, by decide, tmem 293 (by decide +kernel) (by decide +kernel), inX2, tyX2_ok, nmX2, rfl, rfl, by decide +kernel⟩
theorem oi_2 : Cond.methodLink RX2 3 objectInit ∈ gt := tmem 282 (by decide +kernel) (by decide +kernel)
theorem cl_2_15 : Cond.classLink RX2 15 "FairHall$Fraction" ∈ gt := tmem 283 (by decide +kernel) (by decide +kernel)
theorem nw_2_15 : NW RX2 15 1 fsC_1 := ⟨RX1, TX1, 2, tyX1, rfl, inX1, tyX1_ok, cl_2_15, tmem 228 (by decide +kernel) (by decide +kernel), tmem 8 (by decide +kernel) (by decide +kernel), (fun j hj => by rcases (show j = 0 ∨ j = 1 by omega) with rfl | rfl <;> rfl), rfl⟩
theorem yw_X1_init : YW yX1_init cX1_init 1 none 0 := ⟨tmem 231 (by decide +kernel) (by decide +kernel), tmem 8 (by decide +kernel) (by decide +kernel), by decide, by decide, by decide +kernel⟩
theorem yi_X1_init : Cond.instanceMethod yX1_init ∈ gt := tmem 230 (by decide +kernel) (by decide +kernel)
theorem nl_2_28 : (RX2, 28, yX1_init) ∈ nwL := by decide +kernel
theorem wl1_eq (cy : Nat → ClassId) (q : Nat) (u : Nat → Nat) : wlC_1 cy q u = [(q, .inr (1, [mL 0, mL 1]))] := by
  rw [wlC_1, wd_go]
  rfl
abbrev wG (cy : Nat → ClassId) (h0 q1 q2 q3 q4 t : Nat) (r : Nat → Nat) : va_W := (h0, .inr (2, [mI 0, .ref q1, .ref q2, mI 0, .ref q3, .ref q4])) :: (q1, .inl (cy 0, 24, .inl (fun _ => Int32.ofInt 0))) :: (q2, .inl (cy 4, 24, .inr (.inr (.inr (.inr (fun j => if j < t then some (r j) else none)))))) :: ([(q3, .inl (cy 0, 24, .inl (fun _ => Int32.ofInt 0))), (q4, .inl (cy 2, 24, .inl (fun _ => Int32.ofInt 0)))] ++ (List.range t).map (fun i => (r i, .inr (1, [mL 0, mL 1]))))
def rm_C_2 : Room := { frames := 2, cells := 28, slots := 144, locals := 32 }
set_option maxRecDepth 100000 in
set_option maxHeartbeats 2000000 in
theorem giver_loop {p : Program} {l : Launch} {e : Env} {s : State} {m : MethodId} {args : Array Value} {below : List Frame} {meth : Method} {c : Code} {Q : State → Prop} {D : va_G} {cy : Nat → ClassId} {A : Nat → Prop} (X : CC p s m args meth c cX2_init RX2 2 D cy A) {h0 q1 q2 q3 q4 : Nat} (hend : ∀ r, GC p l e rm_C_2 s m args below meth c Q D A 2 28 144 64 [(0, .ref h0)] [] (wG cy h0 q1 q2 q3 q4 24 r)) : ∀ (k t : Nat), t + k = 24 → ∀ r, GC p l e rm_C_2 s m args below meth c Q D A 2 (4 + t) (96 + 2 * t) 39 [(1, mI (t : Int)), (0, .ref h0)] [] (wG cy h0 q1 q2 q3 q4 t r) := by
  intro k
  induction k with
  | zero =>
    intro t ht r
    have e1 : t = 24 := by omega
    subst e1
    refine n_iload_n X 0 dX2_init_39 rfl rfl ?_
    refine n_bipush X dX2_init_40 (by decide) ?_
    refine n_icmp_ge (tgt := 64) X dX2_init_42 (by decide) (fun _ => ?_) (fun h => absurd (by decide) h)
    exact fun H locs ls hP hD hS hl => hend r H locs ls hP hD hS (lv_sub hl [1] rfl)
  | succ k ih =>
    intro t ht r
    have e1 : w32 (t : Int) = t := w32_nat (by omega)
    have e24 : w32 24 = 24 := by decide
    refine n_iload_n X 0 dX2_init_39 rfl rfl ?_
    refine n_bipush X dX2_init_40 (by decide) ?_
    refine n_icmp_ge (tgt := 64) X dX2_init_42 (by decide) (fun h => absurd h (by omega)) (fun _ => ?_)
    refine n_aload_n X 1 dX2_init_45 rfl rfl ?_
    refine n_getR X (v := .ref q2) (FF.fl ff_2_17) rfl dX2_init_46 ?_
    refine n_iload_n X 0 dX2_init_49 rfl rfl ?_
    refine n_new (N := 2) X nw_2_15 rfl (by show _ ≤ 28; omega) (by show _ ≤ 144; omega) dX2_init_50 (fun q => ?_)
    refine n_dup X dX2_init_53 rfl ?_
    refine n_callI X c_C_1 yw_X1_init yi_X1_init nl_2_28 rfl ⟨Nat.le_of_ble_eq_true rfl, Nat.le_of_ble_eq_true rfl⟩ (by constructor <;> (show _ ≤ _; simp only [rm_C_1, rm_C_2]; omega)) (Nat.le_of_ble_eq_true rfl) dX2_init_54 (fun u => ?_)
    rw [wl1_eq]
    refine n_aast X (L1 := [(h0, .inr (2, [mI 0, .ref q1, .ref q2, mI 0, .ref q3, .ref q4])), (q1, .inl (cy 0, 24, .inl (fun _ => Int32.ofInt 0)))]) (n := 24) ⟨by omega, by omega⟩ dX2_init_57 ?_
    refine n_iinc (lv2 := [(1, mI ((t : Int) + 1)), (0, .ref h0)]) X 0 dX2_init_58 rfl (by decide) rfl ?_
    refine n_goto (tgt := 39) X dX2_init_61 (by decide) ?_
    have hix : ix (t : Int) = t := by unfold ix; omega
    have hf : va_up (fun j => if j < t then some (r j) else none) (ix (t : Int)) (some q) = fun j => if j < t + 1 then some ((fun j => if j = t then q else r j) j) else none := by
      funext j
      unfold va_up
      rw [hix]
      by_cases h1 : j = t
      · subst h1; simp
      · by_cases h2 : j < t
        · simp [h1, h2, show j < t + 1 by omega]
        · simp [h1, h2, show ¬ j < t + 1 by omega]
    have hm : (List.range t).map (fun i => (r i, (Sum.inr (1, [mL 0, mL 1]) : va_E))) ++ [(q, .inr (1, [mL 0, mL 1]))] = (List.range (t + 1)).map (fun i => ((fun j => if j = t then q else r j) i, (Sum.inr (1, [mL 0, mL 1]) : va_E))) := by
      rw [List.range_succ, List.map_append]
      congr 1
      · apply List.map_congr_left
        intro i hi
        have := List.mem_range.mp hi
        simp [show ¬ i = t by omega]
      · simp
    have h9 := ih (t + 1) (by omega) (fun j => if j = t then q else r j)
    rw [hf]
    have hc : (((t + 1 : Nat)) : Int) = (t : Int) + 1 := by omega
    rw [hc] at h9
    have e2 : 4 + t + 1 + rm_C_1.cells = 4 + (t + 1) := by show 4 + t + 1 + 0 = _; omega
    have e3 : 96 + 2 * t + 2 + rm_C_1.slots = 96 + 2 * (t + 1) := by show 96 + 2 * t + 2 + 0 = _; omega
    rw [e2, e3]
    have hw : wG cy h0 q1 q2 q3 q4 (t + 1) (fun j => if j = t then q else r j) = [(h0, .inr (2, [mI 0, .ref q1, .ref q2, mI 0, .ref q3, .ref q4])), (q1, .inl (cy 0, 24, .inl (fun _ => Int32.ofInt 0)))] ++ (q2, .inl (cy 4, 24, .inr (.inr (.inr (.inr (fun j => if j < t + 1 then some ((fun j => if j = t then q else r j) j) else none)))))) :: (([(q3, .inl (cy 0, 24, .inl (fun _ => Int32.ofInt 0))), (q4, .inl (cy 2, 24, .inl (fun _ => Int32.ofInt 0)))] ++ (List.range t).map (fun i => (r i, .inr (1, [mL 0, mL 1])))) ++ [(q, .inr (1, [mL 0, mL 1]))]) := by
      rw [List.append_assoc _ ((List.range t).map _), hm]
      rfl
    rw [hw] at h9
    exact h9
