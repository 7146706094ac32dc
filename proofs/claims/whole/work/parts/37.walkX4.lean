set_option maxRecDepth 100000 in
set_option maxHeartbeats 4000000 in
theorem c_H_seen {l : Launch} {F : Nat} {sg : St} {x1 x2 : Int} {q : Int × St} (hf : f_H_seen F  sg x1 x2 = some q) : MI l shX yX11_seen cX11_seen 3 (some .int) rm_H_seen (fun ad => [.ref (ad 0), mI x1, mI x2]) sg q.2 q.1 := by
  refine mk_i (by decide) (fun _ => Nat.le_of_ble_eq_true rfl) (fun p e s m args below meth c D cy ad X => ?_)
  have X : CX p s m args meth c cX11_seen RX11 3 (some .int) D shX cy ad (aw shX ad) := X
  refine r_perm (lv2 := [(0, .ref (ad 0)), (1, mI x1), (2, mI x2)]) [0, 1, 2] rfl ?_
  refine r_aload_n X 0 dX11_seen_0 rfl rfl ?_
  refine r_getR X fl_11_10 k_X_0_0 dX11_seen_1 ?_
  refine r_iload_n X 1 dX11_seen_4 rfl rfl ?_
  obtain ⟨q1, hq1, hf⟩ := bd_some hf
  refine r_callVI X (As := [mI x1]) (st := []) (as := fun ad => [.ref (ad 1), mI x1]) (c_Boards_has hq1) rfl yw_X0_has yv_X0_has ml_RX11_118 o_X_1 rfl rfl ⟨rfl, rfl⟩ ⟨Nat.le_of_ble_eq_true rfl, Nat.le_of_ble_eq_true rfl⟩ rfl rfl (Nat.le_of_ble_eq_true rfl) dX11_seen_5 ?_
  refine r_if_ne (tgt := 17) X dX11_seen_8 (by decide) (fun hc2 => ?_) (fun hc2 => ?_)
  · have hf := ite_yes hc2 hf
    refine r_aload_n X 0 dX11_seen_11 rfl rfl ?_
    refine r_iconst X dX11_seen_12 ?_
    obtain ⟨q3, hq3, hf⟩ := bd_some hf
    refine r_callVI X (As := [mI 1]) (st := []) (as := fun ad => [.ref (ad 0), mI 1]) (c_H_none hq3) rfl yw_X11_none yv_X11_none ml_RX11_100 o_X_0 rfl rfl ⟨rfl, rfl⟩ ⟨Nat.le_of_ble_eq_true rfl, Nat.le_of_ble_eq_true rfl⟩ rfl rfl (Nat.le_of_ble_eq_true rfl) dX11_seen_13 ?_
    exact r_ireturn X hf dX11_seen_16
  · have hf := ite_no hc2 hf
    refine r_iload_n X 2 dX11_seen_17 rfl rfl ?_
    obtain ⟨q4, hq4, hf⟩ := bd_some hf
    refine r_callSI X (As := [mI x2]) (st := []) (as := fun ad => [mI x2]) (c_H_isDay hq4) rfl yw_X11_isDay ys_X11_isDay ml_RX11_181 ⟨rfl, rfl⟩ ⟨Nat.le_of_ble_eq_true rfl, Nat.le_of_ble_eq_true rfl⟩ rfl rfl (Nat.le_of_ble_eq_true rfl) dX11_seen_18 ?_
    refine r_if_ne (tgt := 30) X dX11_seen_21 (by decide) (fun hc5 => ?_) (fun hc5 => ?_)
    · have hf := ite_yes hc5 hf
      refine r_aload_n X 0 dX11_seen_24 rfl rfl ?_
      refine r_iconst X dX11_seen_25 ?_
      obtain ⟨q6, hq6, hf⟩ := bd_some hf
      refine r_callVI X (As := [mI 2]) (st := []) (as := fun ad => [.ref (ad 0), mI 2]) (c_H_none hq6) rfl yw_X11_none yv_X11_none ml_RX11_100 o_X_0 rfl rfl ⟨rfl, rfl⟩ ⟨Nat.le_of_ble_eq_true rfl, Nat.le_of_ble_eq_true rfl⟩ rfl rfl (Nat.le_of_ble_eq_true rfl) dX11_seen_26 ?_
      exact r_ireturn X hf dX11_seen_29
    · have hf := ite_no hc5 hf
      refine r_aload_n X 0 dX11_seen_30 rfl rfl ?_
      refine r_getR X fl_11_40 k_X_0_4 dX11_seen_31 ?_
      refine r_aload_n X 0 dX11_seen_34 rfl rfl ?_
      refine r_getR X fl_11_33 k_X_0_3 dX11_seen_35 ?_
      refine r_iload_n X 2 dX11_seen_38 rfl rfl ?_
      obtain ⟨q7, hq7, hf⟩ := bd_some hf
      refine r_callVV X (As := [.ref (ad 19), mI x2]) (st := []) (as := fun ad => [.ref (ad 25), .ref (ad 19), mI x2]) (c_Known_lookBack hq7) rfl yw_X5_lookBack yv_X5_lookBack ml_RX11_192 o_X_25 rfl rfl ⟨rfl, rfl⟩ ⟨Nat.le_of_ble_eq_true rfl, Nat.le_of_ble_eq_true rfl⟩ rfl rfl (Nat.le_of_ble_eq_true rfl) dX11_seen_39 ?_
      refine r_aload_n X 0 dX11_seen_42 rfl rfl ?_
      refine r_aload_n X 0 dX11_seen_43 rfl rfl ?_
      refine r_getR X fl_11_40 k_X_0_4 dX11_seen_44 ?_
      refine r_iload_n X 1 dX11_seen_47 rfl rfl ?_
      obtain ⟨q8, hq8, hf⟩ := bd_some hf
      refine r_callVI X (As := [mI x1]) (st := [.ref (ad 0)]) (as := fun ad => [.ref (ad 25), mI x1]) (c_Known_marksOf hq8) rfl yw_X5_marksOf yv_X5_marksOf ml_RX11_196 o_X_25 rfl rfl ⟨rfl, rfl⟩ ⟨Nat.le_of_ble_eq_true rfl, Nat.le_of_ble_eq_true rfl⟩ rfl rfl (Nat.le_of_ble_eq_true rfl) dX11_seen_48 ?_
      obtain ⟨q9, hq9, hf⟩ := bd_some hf
      refine r_callVI X (As := [mI q8.1]) (st := []) (as := fun ad => [.ref (ad 0), mI q8.1]) (c_H_answer hq9) rfl yw_X11_answer yv_X11_answer ml_RX11_111 o_X_0 rfl rfl ⟨rfl, rfl⟩ ⟨Nat.le_of_ble_eq_true rfl, Nat.le_of_ble_eq_true rfl⟩ rfl rfl (Nat.le_of_ble_eq_true rfl) dX11_seen_51 ?_
      exact r_ireturn X hf dX11_seen_54
set_option maxRecDepth 100000 in
set_option maxHeartbeats 4000000 in
theorem c_H_whyNoHeap {l : Launch} {F : Nat} {sg : St} {x1 x2 : Int} {q : Int × St} (hf : f_H_whyNoHeap F  sg x1 x2 = some q) : MI l shX yX11_whyNoHeap cX11_whyNoHeap 3 (some .int) rm_H_whyNoHeap (fun ad => [.ref (ad 0), mI x1, mI x2]) sg q.2 q.1 := by
  refine mk_i (by decide) (fun _ => Nat.le_of_ble_eq_true rfl) (fun p e s m args below meth c D cy ad X => ?_)
  have X : CX p s m args meth c cX11_whyNoHeap RX11 3 (some .int) D shX cy ad (aw shX ad) := X
  refine r_perm (lv2 := [(0, .ref (ad 0)), (1, mI x1), (2, mI x2)]) [0, 1, 2] rfl ?_
  refine r_aload_n X 0 dX11_whyNoHeap_0 rfl rfl ?_
  refine r_getR X fl_11_19 k_X_0_1 dX11_whyNoHeap_1 ?_
  refine r_iload_n X 1 dX11_whyNoHeap_4 rfl rfl ?_
  obtain ⟨q1, hq1, hf⟩ := bd_some hf
  refine r_callVI X (As := [mI x1]) (st := []) (as := fun ad => [.ref (ad 7), mI x1]) (c_Judges_has hq1) rfl yw_X4_has yv_X4_has ml_RX11_135 o_X_7 rfl rfl ⟨rfl, rfl⟩ ⟨Nat.le_of_ble_eq_true rfl, Nat.le_of_ble_eq_true rfl⟩ rfl rfl (Nat.le_of_ble_eq_true rfl) dX11_whyNoHeap_5 ?_
  refine r_if_ne (tgt := 13) X dX11_whyNoHeap_8 (by decide) (fun hc2 => ?_) (fun hc2 => ?_)
  · have hf := ite_yes hc2 hf
    refine r_iconst X dX11_whyNoHeap_11 ?_
    exact r_ireturn X hf dX11_whyNoHeap_12
  · have hf := ite_no hc2 hf
    refine r_iload_n X 2 dX11_whyNoHeap_13 rfl rfl ?_
    obtain ⟨q3, hq3, hf⟩ := bd_some hf
    refine r_callSI X (As := [mI x2]) (st := []) (as := fun ad => [mI x2]) (c_H_isDay hq3) rfl yw_X11_isDay ys_X11_isDay ml_RX11_181 ⟨rfl, rfl⟩ ⟨Nat.le_of_ble_eq_true rfl, Nat.le_of_ble_eq_true rfl⟩ rfl rfl (Nat.le_of_ble_eq_true rfl) dX11_whyNoHeap_14 ?_
    refine r_if_ne (tgt := 22) X dX11_whyNoHeap_17 (by decide) (fun hc4 => ?_) (fun hc4 => ?_)
    · have hf := ite_yes hc4 hf
      refine r_iconst X dX11_whyNoHeap_20 ?_
      exact r_ireturn X hf dX11_whyNoHeap_21
    · have hf := ite_no hc4 hf
      refine r_aload_n X 0 dX11_whyNoHeap_22 rfl rfl ?_
      refine r_getR X fl_11_40 k_X_0_4 dX11_whyNoHeap_23 ?_
      refine r_aload_n X 0 dX11_whyNoHeap_26 rfl rfl ?_
      refine r_getR X fl_11_33 k_X_0_3 dX11_whyNoHeap_27 ?_
      refine r_iload_n X 2 dX11_whyNoHeap_30 rfl rfl ?_
      obtain ⟨q5, hq5, hf⟩ := bd_some hf
      refine r_callVV X (As := [.ref (ad 19), mI x2]) (st := []) (as := fun ad => [.ref (ad 25), .ref (ad 19), mI x2]) (c_Known_lookBack hq5) rfl yw_X5_lookBack yv_X5_lookBack ml_RX11_192 o_X_25 rfl rfl ⟨rfl, rfl⟩ ⟨Nat.le_of_ble_eq_true rfl, Nat.le_of_ble_eq_true rfl⟩ rfl rfl (Nat.le_of_ble_eq_true rfl) dX11_whyNoHeap_31 ?_
      refine r_aload_n X 0 dX11_whyNoHeap_34 rfl rfl ?_
      refine r_getR X fl_11_40 k_X_0_4 dX11_whyNoHeap_35 ?_
      refine r_getR X fl_11_202 k_X_25_0 dX11_whyNoHeap_38 ?_
      refine r_iload_n X 1 dX11_whyNoHeap_41 rfl rfl ?_
      obtain ⟨hg6, hf⟩ := gd_some hf
      refine r_iald X a_X_26 hg6 dX11_whyNoHeap_42 ?_
      refine r_iconst X dX11_whyNoHeap_43 ?_
      refine r_icmp_ne (tgt := 52) X dX11_whyNoHeap_44 (by decide) (fun hc7 => ?_) (fun hc7 => ?_)
      · have hf := ite_yes hc7 hf
        refine r_bipush X dX11_whyNoHeap_47 (by decide) ?_
        refine r_goto (tgt := 53) X dX11_whyNoHeap_49 (by decide) ?_
        exact r_ireturn X hf dX11_whyNoHeap_53
      · have hf := ite_no hc7 hf
        refine r_iconst X dX11_whyNoHeap_52 ?_
        exact r_ireturn X hf dX11_whyNoHeap_53
set_option maxRecDepth 100000 in
set_option maxHeartbeats 4000000 in
theorem b_Giver_give_27_ok {p : Program} {l : Launch} {e : Env} {s : State} {m : MethodId} {args : Array Value} {below : List Frame} {meth : Method} {c : Code} {D : va_G} {cy : Nat → ClassId} {ad : Nat → Nat} (X : CX p s m args meth c cX2_give RX2 6 none D shX cy ad (aw shX ad)) {cp : Nat} (hcp : PRc cp) {F : Nat} {kc : St → Int → Int → Option (St)} {k56 : St → Option (St)} {q : St} (hkc : ∀ sg x2 x5, kc sg x2 x5 = some q → GG p l e rm_Giver_give s m args below meth c (QV D shX cy ad below args s q) D shX cy ad (aw shX ad) 6 27 [(0, .ref (ad 43)), (1, .ref (ad cp)), (2, mI x2), (3, .ref (ad 1)), (4, .ref (ad 25)), (5, mI x5)] [] sg) (hk56 : ∀ sg , k56 sg  = some q → GG p l e rm_Giver_give s m args below meth c (QV D shX cy ad below args s q) D shX cy ad (aw shX ad) 6 56 [] [] sg) {sg : St} {x2 x5 : Int} (hf : b_Giver_give_27 cp F kc k56 sg x2 x5 = some q) : GG p l e rm_Giver_give s m args below meth c (QV D shX cy ad below args s q) D shX cy ad (aw shX ad) 6 27 [(0, .ref (ad 43)), (1, .ref (ad cp)), (2, mI x2), (3, .ref (ad 1)), (4, .ref (ad 25)), (5, mI x5)] [] sg := by
  refine r_iload X 5 dX2_give_27 rfl ?_
  refine r_iload_n X 2 dX2_give_29 rfl rfl ?_
  refine r_icmp_gt (tgt := 56) X dX2_give_30 (by decide) (fun hc1 => ?_) (fun hc1 => ?_)
  · have hf := ite_yes hc1 hf
    refine r_perm (lv2 := []) [] rfl ?_
    exact hk56 _ hf
  · have hf := ite_no hc1 hf
    refine r_iload X 5 dX2_give_33 rfl ?_
    refine r_bipush X dX2_give_35 (by decide) ?_
    refine r_icmp_ge (tgt := 56) X dX2_give_37 (by decide) (fun hc2 => ?_) (fun hc2 => ?_)
    · have hf := ite_yes hc2 hf
      refine r_perm (lv2 := []) [] rfl ?_
      exact hk56 _ hf
    · have hf := ite_no hc2 hf
      refine r_aload_n X 0 dX2_give_40 rfl rfl ?_
      refine r_aload_n X 1 dX2_give_41 rfl rfl ?_
      refine r_iload X 5 dX2_give_42 rfl ?_
      refine r_aload_n X 3 dX2_give_44 rfl rfl ?_
      refine r_aload X 4 dX2_give_45 rfl ?_
      obtain ⟨q3, hq3, hf⟩ := bd_some hf
      refine r_callVV X (As := [.ref (ad cp), mI x5, .ref (ad 1), .ref (ad 25)]) (st := []) (as := fun ad => [.ref (ad 43), .ref (ad cp), mI x5, .ref (ad 1), .ref (ad 25)]) (c_Giver_giveOne hcp hq3) rfl yw_X2_giveOne yv_X2_giveOne ml_RX2_49 o_X_43 rfl rfl ⟨rfl, rfl⟩ ⟨Nat.le_of_ble_eq_true rfl, Nat.le_of_ble_eq_true rfl⟩ rfl rfl (Nat.le_of_ble_eq_true rfl) dX2_give_47 ?_
      refine r_iinc (lv2 := [(5, mI (x5 + 1)), (0, .ref (ad 43)), (1, .ref (ad cp)), (2, mI x2), (3, .ref (ad 1)), (4, .ref (ad 25))]) X 5 dX2_give_50 rfl (by decide) rfl ?_
      refine r_goto (tgt := 27) X dX2_give_53 (by decide) ?_
      refine r_perm (lv2 := [(0, .ref (ad 43)), (1, .ref (ad cp)), (2, mI x2), (3, .ref (ad 1)), (4, .ref (ad 25)), (5, mI (x5 + 1))]) [1, 2, 3, 4, 5, 0] rfl ?_
      exact hkc _ _ _ hf
set_option maxRecDepth 100000 in
set_option maxHeartbeats 4000000 in
theorem l_Giver_give_27_ok {p : Program} {l : Launch} {e : Env} {s : State} {m : MethodId} {args : Array Value} {below : List Frame} {meth : Method} {c : Code} {D : va_G} {cy : Nat → ClassId} {ad : Nat → Nat} (X : CX p s m args meth c cX2_give RX2 6 none D shX cy ad (aw shX ad)) {cp : Nat} (hcp : PRc cp) {F : Nat} {k56 : St → Option (St)} {q : St} (hk56 : ∀ sg , k56 sg  = some q → GG p l e rm_Giver_give s m args below meth c (QV D shX cy ad below args s q) D shX cy ad (aw shX ad) 6 56 [] [] sg) : ∀ (n : Nat) (sg : St) (x2 x5 : Int), l_Giver_give_27 cp F k56 n sg x2 x5 = some q → GG p l e rm_Giver_give s m args below meth c (QV D shX cy ad below args s q) D shX cy ad (aw shX ad) 6 27 [(0, .ref (ad 43)), (1, .ref (ad cp)), (2, mI x2), (3, .ref (ad 1)), (4, .ref (ad 25)), (5, mI x5)] [] sg := by
  intro n
  induction n with
  | zero => intro sg x2 x5 h; cases h
  | succ n ih => exact fun sg x2 x5 h => b_Giver_give_27_ok X hcp ih hk56 h
set_option maxRecDepth 100000 in
set_option maxHeartbeats 4000000 in
theorem b_Giver_give_3_ok {p : Program} {l : Launch} {e : Env} {s : State} {m : MethodId} {args : Array Value} {below : List Frame} {meth : Method} {c : Code} {D : va_G} {cy : Nat → ClassId} {ad : Nat → Nat} (X : CX p s m args meth c cX2_give RX2 6 none D shX cy ad (aw shX ad)) {cp : Nat} (hcp : PRc cp) {F : Nat} {kc : St → Int → Int → Option (St)} {k24 : St → Int → Option (St)} {q : St} (hkc : ∀ sg x2 x5, kc sg x2 x5 = some q → GG p l e rm_Giver_give s m args below meth c (QV D shX cy ad below args s q) D shX cy ad (aw shX ad) 6 3 [(0, .ref (ad 43)), (1, .ref (ad cp)), (2, mI x2), (3, .ref (ad 1)), (4, .ref (ad 25)), (5, mI x5)] [] sg) (hk24 : ∀ sg x2, k24 sg x2 = some q → GG p l e rm_Giver_give s m args below meth c (QV D shX cy ad below args s q) D shX cy ad (aw shX ad) 6 24 [(0, .ref (ad 43)), (1, .ref (ad cp)), (2, mI x2), (3, .ref (ad 1)), (4, .ref (ad 25))] [] sg) {sg : St} {x2 x5 : Int} (hf : b_Giver_give_3 cp F kc k24 sg x2 x5 = some q) : GG p l e rm_Giver_give s m args below meth c (QV D shX cy ad below args s q) D shX cy ad (aw shX ad) 6 3 [(0, .ref (ad 43)), (1, .ref (ad cp)), (2, mI x2), (3, .ref (ad 1)), (4, .ref (ad 25)), (5, mI x5)] [] sg := by
  refine r_iload X 5 dX2_give_3 rfl ?_
  refine r_bipush X dX2_give_5 (by decide) ?_
  refine r_icmp_ge (tgt := 24) X dX2_give_7 (by decide) (fun hc1 => ?_) (fun hc1 => ?_)
  · have hf := ite_yes hc1 hf
    refine r_perm (lv2 := [(0, .ref (ad 43)), (1, .ref (ad cp)), (2, mI x2), (3, .ref (ad 1)), (4, .ref (ad 25))]) [0, 1, 2, 3, 4] rfl ?_
    exact hk24 _ _ hf
  · have hf := ite_no hc1 hf
    refine r_aload_n X 0 dX2_give_10 rfl rfl ?_
    refine r_getR X fl_2_24 k_X_43_5 dX2_give_11 ?_
    refine r_iload X 5 dX2_give_14 rfl ?_
    refine r_iconst X dX2_give_16 ?_
    obtain ⟨hg2, hf⟩ := gd_some hf
    refine r_zast X a_X_47 hg2 dX2_give_17 ?_
    refine r_iinc (lv2 := [(5, mI (x5 + 1)), (0, .ref (ad 43)), (1, .ref (ad cp)), (2, mI x2), (3, .ref (ad 1)), (4, .ref (ad 25))]) X 5 dX2_give_18 rfl (by decide) rfl ?_
    refine r_goto (tgt := 3) X dX2_give_21 (by decide) ?_
    refine r_perm (lv2 := [(0, .ref (ad 43)), (1, .ref (ad cp)), (2, mI x2), (3, .ref (ad 1)), (4, .ref (ad 25)), (5, mI (x5 + 1))]) [1, 2, 3, 4, 5, 0] rfl ?_
    exact hkc _ _ _ hf
set_option maxRecDepth 100000 in
set_option maxHeartbeats 4000000 in
theorem l_Giver_give_3_ok {p : Program} {l : Launch} {e : Env} {s : State} {m : MethodId} {args : Array Value} {below : List Frame} {meth : Method} {c : Code} {D : va_G} {cy : Nat → ClassId} {ad : Nat → Nat} (X : CX p s m args meth c cX2_give RX2 6 none D shX cy ad (aw shX ad)) {cp : Nat} (hcp : PRc cp) {F : Nat} {k24 : St → Int → Option (St)} {q : St} (hk24 : ∀ sg x2, k24 sg x2 = some q → GG p l e rm_Giver_give s m args below meth c (QV D shX cy ad below args s q) D shX cy ad (aw shX ad) 6 24 [(0, .ref (ad 43)), (1, .ref (ad cp)), (2, mI x2), (3, .ref (ad 1)), (4, .ref (ad 25))] [] sg) : ∀ (n : Nat) (sg : St) (x2 x5 : Int), l_Giver_give_3 cp F k24 n sg x2 x5 = some q → GG p l e rm_Giver_give s m args below meth c (QV D shX cy ad below args s q) D shX cy ad (aw shX ad) 6 3 [(0, .ref (ad 43)), (1, .ref (ad cp)), (2, mI x2), (3, .ref (ad 1)), (4, .ref (ad 25)), (5, mI x5)] [] sg := by
  intro n
  induction n with
  | zero => intro sg x2 x5 h; cases h
  | succ n ih => exact fun sg x2 x5 h => b_Giver_give_3_ok X hcp ih hk24 h
set_option maxRecDepth 100000 in
set_option maxHeartbeats 4000000 in
theorem c_Giver_give {l : Launch} {F : Nat} {cp : Nat} (hcp : PRc cp) {sg : St} {x2 : Int} {q : St} (hf : f_Giver_give F cp sg x2 = some q) : MV l shX yX2_give cX2_give 6 none rm_Giver_give (fun ad => [.ref (ad 43), .ref (ad cp), mI x2, .ref (ad 1), .ref (ad 25)]) sg q := by
  refine mk_v (by decide) (fun _ => Nat.le_of_ble_eq_true rfl) (fun p e s m args below meth c D cy ad X => ?_)
  have X : CX p s m args meth c cX2_give RX2 6 none D shX cy ad (aw shX ad) := X
  refine r_perm (lv2 := [(0, .ref (ad 43)), (1, .ref (ad cp)), (2, mI x2), (3, .ref (ad 1)), (4, .ref (ad 25))]) [0, 1, 2, 3, 4] rfl ?_
  refine r_iconst X dX2_give_0 ?_
  refine r_istore (lv2 := [(5, mI 0), (0, .ref (ad 43)), (1, .ref (ad cp)), (2, mI x2), (3, .ref (ad 1)), (4, .ref (ad 25))]) X dX2_give_1 (by decide) rfl ?_
  refine r_perm (lv2 := [(0, .ref (ad 43)), (1, .ref (ad cp)), (2, mI x2), (3, .ref (ad 1)), (4, .ref (ad 25)), (5, mI 0)]) [1, 2, 3, 4, 5, 0] rfl ?_
  refine l_Giver_give_3_ok X hcp ?_ F _ _ _ hf
  · intro s1 x2_2 hf
    refine r_iconst X dX2_give_24 ?_
    refine r_istore (lv2 := [(5, mI 0), (0, .ref (ad 43)), (1, .ref (ad cp)), (2, mI x2_2), (3, .ref (ad 1)), (4, .ref (ad 25))]) X dX2_give_25 (by decide) rfl ?_
    refine r_perm (lv2 := [(0, .ref (ad 43)), (1, .ref (ad cp)), (2, mI x2_2), (3, .ref (ad 1)), (4, .ref (ad 25)), (5, mI 0)]) [1, 2, 3, 4, 5, 0] rfl ?_
    refine l_Giver_give_27_ok X hcp ?_ F _ _ _ hf
    · intro s3  hf
      exact r_vreturn X hf dX2_give_56
set_option maxRecDepth 100000 in
set_option maxHeartbeats 4000000 in
theorem c_Halls_lay {l : Launch} {F : Nat} {sg : St} {q : Int × St} (hf : f_Halls_lay F  sg  = some q) : MI l shX yX3_lay cX3_lay 2 (some .int) rm_Halls_lay (fun ad => [.ref (ad 72), .ref (ad 1)]) sg q.2 q.1 := by
  refine mk_i (by decide) (fun _ => Nat.le_of_ble_eq_true rfl) (fun p e s m args below meth c D cy ad X => ?_)
  have X : CX p s m args meth c cX3_lay RX3 2 (some .int) D shX cy ad (aw shX ad) := X
  refine r_perm (lv2 := [(0, .ref (ad 72)), (1, .ref (ad 1))]) [0, 1] rfl ?_
  refine r_aload_n X 0 dX3_lay_0 rfl rfl ?_
  refine r_getI X fl_3_33 k_X_72_9 dX3_lay_1 ?_
  refine r_aload_n X 1 dX3_lay_4 rfl rfl ?_
  refine r_getI X fl_3_40 k_X_1_0 dX3_lay_5 ?_
  refine r_icmp_eq (tgt := 32) X dX3_lay_8 (by decide) (fun hc1 => ?_) (fun hc1 => ?_)
  · have hf := ite_yes hc1 hf
    refine r_aload_n X 0 dX3_lay_32 rfl rfl ?_
    refine r_getI X fl_3_50 k_X_72_10 dX3_lay_33 ?_
    exact r_ireturn X hf dX3_lay_36
  · have hf := ite_no hc1 hf
    refine r_aload_n X 0 dX3_lay_11 rfl rfl ?_
    refine r_aload_n X 1 dX3_lay_12 rfl rfl ?_
    refine r_getI X fl_3_40 k_X_1_0 dX3_lay_13 ?_
    refine r_putI X fp_3_33 k_X_72_9 rfl rfl dX3_lay_16 ?_
    refine r_aload_n X 0 dX3_lay_19 rfl rfl ?_
    obtain ⟨q3, hq3, hf⟩ := bd_some hf
    refine r_callVV X (As := []) (st := []) (as := fun ad => [.ref (ad 72)]) (c_Halls_emptyAll hq3) rfl yw_X3_emptyAll yv_X3_emptyAll ml_RX3_43 o_X_72 rfl rfl ⟨rfl, rfl⟩ ⟨Nat.le_of_ble_eq_true rfl, Nat.le_of_ble_eq_true rfl⟩ rfl rfl (Nat.le_of_ble_eq_true rfl) dX3_lay_20 ?_
    refine r_aload_n X 0 dX3_lay_23 rfl rfl ?_
    refine r_aload_n X 0 dX3_lay_24 rfl rfl ?_
    refine r_aload_n X 1 dX3_lay_25 rfl rfl ?_
    obtain ⟨q4, hq4, hf⟩ := bd_some hf
    refine r_callVI X (As := [.ref (ad 1)]) (st := [.ref (ad 72)]) (as := fun ad => [.ref (ad 72), .ref (ad 1)]) (c_Halls_search hq4) rfl yw_X3_search yv_X3_search ml_RX3_46 o_X_72 rfl rfl ⟨rfl, rfl⟩ ⟨Nat.le_of_ble_eq_true rfl, Nat.le_of_ble_eq_true rfl⟩ rfl rfl (Nat.le_of_ble_eq_true rfl) dX3_lay_26 ?_
    refine r_putI X fp_3_50 k_X_72_10 rfl rfl dX3_lay_29 ?_
    refine r_aload_n X 0 dX3_lay_32 rfl rfl ?_
    refine r_getI X fl_3_50 k_X_72_10 dX3_lay_33 ?_
    exact r_ireturn X hf dX3_lay_36
set_option maxRecDepth 100000 in
set_option maxHeartbeats 4000000 in
theorem c_Plan_findHolding {l : Launch} {F : Nat} {sg : St} {q : St} (hf : f_Plan_findHolding F  sg  = some q) : MV l shX yX7_findHolding cX7_findHolding 1 none rm_Plan_findHolding (fun ad => [.ref (ad 11)]) sg q := by
  refine mk_v (by decide) (fun _ => Nat.le_of_ble_eq_true rfl) (fun p e s m args below meth c D cy ad X => ?_)
  have X : CX p s m args meth c cX7_findHolding RX7 1 none D shX cy ad (aw shX ad) := X
  refine r_perm (lv2 := [(0, .ref (ad 11))]) [0] rfl ?_
  refine r_aload_n X 0 dX7_findHolding_0 rfl rfl ?_
  refine r_iconst X dX7_findHolding_1 ?_
  refine r_putI X fp_7_55 k_X_11_9 rfl rfl dX7_findHolding_2 ?_
  refine r_aload_n X 0 dX7_findHolding_5 rfl rfl ?_
  refine r_iconst X dX7_findHolding_6 ?_
  refine r_putI X fp_7_58 k_X_11_10 rfl rfl dX7_findHolding_7 ?_
  refine r_aload_n X 0 dX7_findHolding_10 rfl rfl ?_
  obtain ⟨q3, hq3, hf⟩ := bd_some hf
  refine r_callVI X (As := []) (st := []) (as := fun ad => [.ref (ad 11)]) (c_Plan_reachRoom hq3) rfl yw_X7_reachRoom yv_X7_reachRoom ml_RX7_74 o_X_11 rfl rfl ⟨rfl, rfl⟩ ⟨Nat.le_of_ble_eq_true rfl, Nat.le_of_ble_eq_true rfl⟩ rfl rfl (Nat.le_of_ble_eq_true rfl) dX7_findHolding_11 ?_
  refine r_pop X dX7_findHolding_14 rfl ?_
  refine r_aload_n X 0 dX7_findHolding_15 rfl rfl ?_
  refine r_aload_n X 0 dX7_findHolding_16 rfl rfl ?_
  refine r_getI X fl_7_78 k_X_11_11 dX7_findHolding_17 ?_
  refine r_putI X fp_7_81 k_X_11_4 rfl rfl dX7_findHolding_20 ?_
  exact r_vreturn X hf dX7_findHolding_23
set_option maxRecDepth 100000 in
set_option maxHeartbeats 4000000 in
theorem b_Plan_addLook_53_ok {p : Program} {l : Launch} {e : Env} {s : State} {m : MethodId} {args : Array Value} {below : List Frame} {meth : Method} {c : Code} {D : va_G} {cy : Nat → ClassId} {ad : Nat → Nat} (X : CX p s m args meth c cX7_addLook RX7 5 (some .boolean) D shX cy ad (aw shX ad)) {F : Nat} {kc : St → Int → Int → Option (Int × St)} {k68 : St → Option (Int × St)} {q : Int × St} (hkc : ∀ sg x1 x2, kc sg x1 x2 = some q → GG p l e rm_Plan_addLook s m args below meth c (QI D shX cy ad below args s q) D shX cy ad (aw shX ad) 5 14 [(0, .ref (ad 11)), (1, mI x1), (2, mI x2)] [] sg) (hk68 : ∀ sg , k68 sg  = some q → GG p l e rm_Plan_addLook s m args below meth c (QI D shX cy ad below args s q) D shX cy ad (aw shX ad) 5 68 [] [] sg) {sg : St} {x1 x2 x3 x4 : Int} (hf : b_Plan_addLook_53  F kc k68 sg x1 x2 x3 x4 = some q) : GG p l e rm_Plan_addLook s m args below meth c (QI D shX cy ad below args s q) D shX cy ad (aw shX ad) 5 53 [(0, .ref (ad 11)), (1, mI x1), (2, mI x2), (3, mI x3), (4, mI x4)] [] sg := by
  refine r_aload_n X 0 dX7_addLook_53 rfl rfl ?_
  refine r_iload_n X 3 dX7_addLook_54 rfl rfl ?_
  refine r_iload_n X 1 dX7_addLook_55 rfl rfl ?_
  obtain ⟨q1, hq1, hf⟩ := bd_some hf
  refine r_callVV X (As := [mI x3, mI x1]) (st := []) (as := fun ad => [.ref (ad 11), mI x3, mI x1]) (c_Plan_join hq1) rfl yw_X7_join yv_X7_join ml_RX7_109 o_X_11 rfl rfl ⟨rfl, rfl⟩ ⟨Nat.le_of_ble_eq_true rfl, Nat.le_of_ble_eq_true rfl⟩ rfl rfl (Nat.le_of_ble_eq_true rfl) dX7_addLook_56 ?_
  refine r_iload X 4 dX7_addLook_59 rfl ?_
  refine r_istore_n (lv2 := [(1, mI x4), (0, .ref (ad 11)), (2, mI x2), (3, mI x3), (4, mI x4)]) X dX7_addLook_61 rfl (by decide) rfl ?_
  refine r_iinc (lv2 := [(2, mI (x2 + 1)), (1, mI x4), (0, .ref (ad 11)), (3, mI x3), (4, mI x4)]) X 2 dX7_addLook_62 rfl (by decide) rfl ?_
  refine r_goto (tgt := 14) X dX7_addLook_65 (by decide) ?_
  refine r_perm (lv2 := [(0, .ref (ad 11)), (1, mI x4), (2, mI (x2 + 1))]) [2, 1, 0] rfl ?_
  exact hkc _ _ _ hf
set_option maxRecDepth 100000 in
set_option maxHeartbeats 4000000 in
theorem b_Plan_addLook_14_ok {p : Program} {l : Launch} {e : Env} {s : State} {m : MethodId} {args : Array Value} {below : List Frame} {meth : Method} {c : Code} {D : va_G} {cy : Nat → ClassId} {ad : Nat → Nat} (X : CX p s m args meth c cX7_addLook RX7 5 (some .boolean) D shX cy ad (aw shX ad)) {F : Nat} {kc : St → Int → Int → Option (Int × St)} {k68 : St → Option (Int × St)} {q : Int × St} (hkc : ∀ sg x1 x2, kc sg x1 x2 = some q → GG p l e rm_Plan_addLook s m args below meth c (QI D shX cy ad below args s q) D shX cy ad (aw shX ad) 5 14 [(0, .ref (ad 11)), (1, mI x1), (2, mI x2)] [] sg) (hk68 : ∀ sg , k68 sg  = some q → GG p l e rm_Plan_addLook s m args below meth c (QI D shX cy ad below args s q) D shX cy ad (aw shX ad) 5 68 [] [] sg) {sg : St} {x1 x2 : Int} (hf : b_Plan_addLook_14  F kc k68 sg x1 x2 = some q) : GG p l e rm_Plan_addLook s m args below meth c (QI D shX cy ad below args s q) D shX cy ad (aw shX ad) 5 14 [(0, .ref (ad 11)), (1, mI x1), (2, mI x2)] [] sg := by
  refine r_iload_n X 2 dX7_addLook_14 rfl rfl ?_
  refine r_bipush X dX7_addLook_15 (by decide) ?_
  refine r_icmp_ge (tgt := 68) X dX7_addLook_17 (by decide) (fun hc1 => ?_) (fun hc1 => ?_)
  · have hf := ite_yes hc1 hf
    refine r_perm (lv2 := []) [] rfl ?_
    exact hk68 _ hf
  · have hf := ite_no hc1 hf
    refine r_iload_n X 1 dX7_addLook_20 rfl rfl ?_
    refine r_iconst X dX7_addLook_21 ?_
    refine r_icmp_eq (tgt := 68) X dX7_addLook_22 (by decide) (fun hc2 => ?_) (fun hc2 => ?_)
    · have hf := ite_yes hc2 hf
      refine r_perm (lv2 := []) [] rfl ?_
      exact hk68 _ hf
    · have hf := ite_no hc2 hf
      refine r_aload_n X 0 dX7_addLook_25 rfl rfl ?_
      refine r_getR X fl_7_30 k_X_11_16 dX7_addLook_26 ?_
      refine r_iload_n X 1 dX7_addLook_29 rfl rfl ?_
      obtain ⟨hg3, hf⟩ := gd_some hf
      refine r_iald X a_X_18 hg3 dX7_addLook_30 ?_
      refine r_istore_n (lv2 := [(3, mI (sg 18 (ix x1))), (0, .ref (ad 11)), (1, mI x1), (2, mI x2)]) X dX7_addLook_31 rfl (by decide) rfl ?_
      refine r_aload_n X 1 dX7_addLook_32 rfl rfl ?_
      refine r_getR X fl_7_27 k_X_11_15 dX7_addLook_33 ?_
      refine r_iload_n X 0 dX7_addLook_36 rfl rfl ?_
      obtain ⟨hg4, hf⟩ := gd_some hf
      refine r_iald X a_X_17 hg4 dX7_addLook_37 ?_
      refine r_istore (lv2 := [(4, mI (sg 17 (ix (sg 18 (ix x1))))), (3, mI (sg 18 (ix x1))), (0, .ref (ad 11)), (1, mI x1), (2, mI x2)]) X dX7_addLook_38 (by decide) rfl ?_
      refine r_iload X 0 dX7_addLook_40 rfl ?_
      refine r_iconst X dX7_addLook_42 ?_
      refine r_icmp_eq (tgt := 53) X dX7_addLook_43 (by decide) (fun hc5 => ?_) (fun hc5 => ?_)
      · have hf := ite_yes hc5 hf
        refine r_perm (lv2 := [(0, .ref (ad 11)), (1, mI x1), (2, mI x2), (3, mI (sg 18 (ix x1))), (4, mI (sg 17 (ix (sg 18 (ix x1)))))]) [2, 3, 4, 1, 0] rfl ?_
        exact b_Plan_addLook_53_ok X hkc hk68 hf
      · have hf := ite_no hc5 hf
        refine r_aload_n X 2 dX7_addLook_46 rfl rfl ?_
        refine r_iload_n X 1 dX7_addLook_47 rfl rfl ?_
        refine r_iload X 0 dX7_addLook_48 rfl ?_
        obtain ⟨q6, hq6, hf⟩ := bd_some hf
        refine r_callVV X (As := [mI (sg 18 (ix x1)), mI (sg 17 (ix (sg 18 (ix x1))))]) (st := []) (as := fun ad => [.ref (ad 11), mI (sg 18 (ix x1)), mI (sg 17 (ix (sg 18 (ix x1))))]) (c_Plan_part hq6) rfl yw_X7_part yv_X7_part ml_RX7_106 o_X_11 rfl rfl ⟨rfl, rfl⟩ ⟨Nat.le_of_ble_eq_true rfl, Nat.le_of_ble_eq_true rfl⟩ rfl rfl (Nat.le_of_ble_eq_true rfl) dX7_addLook_50 ?_
        refine r_perm (lv2 := [(0, .ref (ad 11)), (1, mI x1), (2, mI x2), (3, mI (sg 18 (ix x1))), (4, mI (sg 17 (ix (sg 18 (ix x1)))))]) [2, 3, 4, 1, 0] rfl ?_
        exact b_Plan_addLook_53_ok X hkc hk68 hf
set_option maxRecDepth 100000 in
set_option maxHeartbeats 4000000 in
theorem l_Plan_addLook_14_ok {p : Program} {l : Launch} {e : Env} {s : State} {m : MethodId} {args : Array Value} {below : List Frame} {meth : Method} {c : Code} {D : va_G} {cy : Nat → ClassId} {ad : Nat → Nat} (X : CX p s m args meth c cX7_addLook RX7 5 (some .boolean) D shX cy ad (aw shX ad)) {F : Nat} {k68 : St → Option (Int × St)} {q : Int × St} (hk68 : ∀ sg , k68 sg  = some q → GG p l e rm_Plan_addLook s m args below meth c (QI D shX cy ad below args s q) D shX cy ad (aw shX ad) 5 68 [] [] sg) : ∀ (n : Nat) (sg : St) (x1 x2 : Int), l_Plan_addLook_14  F k68 n sg x1 x2 = some q → GG p l e rm_Plan_addLook s m args below meth c (QI D shX cy ad below args s q) D shX cy ad (aw shX ad) 5 14 [(0, .ref (ad 11)), (1, mI x1), (2, mI x2)] [] sg := by
  intro n
  induction n with
  | zero => intro sg x1 x2 h; cases h
  | succ n ih => exact fun sg x1 x2 h => b_Plan_addLook_14_ok X ih hk68 h
set_option maxRecDepth 100000 in
set_option maxHeartbeats 4000000 in
theorem c_Plan_addLook {l : Launch} {F : Nat} {sg : St} {q : Int × St} (hf : f_Plan_addLook F  sg  = some q) : MI l shX yX7_addLook cX7_addLook 5 (some .boolean) rm_Plan_addLook (fun ad => [.ref (ad 11)]) sg q.2 q.1 := by
  refine mk_i (by decide) (fun _ => Nat.le_of_ble_eq_true rfl) (fun p e s m args below meth c D cy ad X => ?_)
  have X : CX p s m args meth c cX7_addLook RX7 5 (some .boolean) D shX cy ad (aw shX ad) := X
  refine r_perm (lv2 := [(0, .ref (ad 11))]) [0] rfl ?_
  refine r_aload_n X 0 dX7_addLook_0 rfl rfl ?_
  obtain ⟨q1, hq1, hf⟩ := bd_some hf
  refine r_callVI X (As := []) (st := []) (as := fun ad => [.ref (ad 11)]) (c_Plan_reachRoom hq1) rfl yw_X7_reachRoom yv_X7_reachRoom ml_RX7_74 o_X_11 rfl rfl ⟨rfl, rfl⟩ ⟨Nat.le_of_ble_eq_true rfl, Nat.le_of_ble_eq_true rfl⟩ rfl rfl (Nat.le_of_ble_eq_true rfl) dX7_addLook_1 ?_
  refine r_istore_n (lv2 := [(1, mI q1.1), (0, .ref (ad 11))]) X dX7_addLook_4 rfl (by decide) rfl ?_
  refine r_iload_n X 0 dX7_addLook_5 rfl rfl ?_
  refine r_iconst X dX7_addLook_6 ?_
  refine r_icmp_ne (tgt := 12) X dX7_addLook_7 (by decide) (fun hc2 => ?_) (fun hc2 => ?_)
  · have hf := ite_yes hc2 hf
    refine r_iconst X dX7_addLook_10 ?_
    exact r_zreturn X hf rfl dX7_addLook_11
  · have hf := ite_no hc2 hf
    refine r_iconst X dX7_addLook_12 ?_
    refine r_istore_n (lv2 := [(2, mI 0), (1, mI q1.1), (0, .ref (ad 11))]) X dX7_addLook_13 rfl (by decide) rfl ?_
    refine r_perm (lv2 := [(0, .ref (ad 11)), (1, mI q1.1), (2, mI 0)]) [2, 1, 0] rfl ?_
    refine l_Plan_addLook_14_ok X ?_ F _ _ _ hf
    · intro s3  hf
      refine r_iconst X dX7_addLook_68 ?_
      exact r_zreturn X hf rfl dX7_addLook_69
set_option maxRecDepth 100000 in
set_option maxHeartbeats 4000000 in
theorem b_Scale_weigh_62_ok {p : Program} {l : Launch} {e : Env} {s : State} {m : MethodId} {args : Array Value} {below : List Frame} {meth : Method} {c : Code} {D : va_G} {cy : Nat → ClassId} {ad : Nat → Nat} (X : CX p s m args meth c cX9_weigh RX9 8 none D shX cy ad (aw shX ad)) {F : Nat} {kc : St → Int → Int → Option (St)} {k85 : St → Option (St)} {q : St} (hkc : ∀ sg x3 x5, kc sg x3 x5 = some q → GG p l e rm_Scale_weigh s m args below meth c (QV D shX cy ad below args s q) D shX cy ad (aw shX ad) 8 20 [(0, .ref (ad 29)), (3, mL x3), (5, mI x5)] [] sg) (hk85 : ∀ sg , k85 sg  = some q → GG p l e rm_Scale_weigh s m args below meth c (QV D shX cy ad below args s q) D shX cy ad (aw shX ad) 8 85 [] [] sg) {sg : St} {x3 x5 z0 z1 : Int} (hf : b_Scale_weigh_62  F kc k85 sg x3 x5 z0 z1 = some q) : GG p l e rm_Scale_weigh s m args below meth c (QV D shX cy ad below args s q) D shX cy ad (aw shX ad) 8 62 [(0, .ref (ad 29)), (3, mL x3), (5, mI x5)] [mL z0, mI z1, .ref (ad 30)] sg := by
  obtain ⟨hg1, hf⟩ := gd_some hf
  refine r_last X a_X_30 hg1 dX9_weigh_62 ?_
  refine r_aload_n X 0 dX9_weigh_63 rfl rfl ?_
  refine r_getR X fl_9_15 k_X_29_1 dX9_weigh_64 ?_
  refine r_aload_n X 0 dX9_weigh_67 rfl rfl ?_
  refine r_getR X fl_9_18 k_X_29_3 dX9_weigh_68 ?_
  refine r_iload X 2 dX9_weigh_71 rfl ?_
  obtain ⟨hg3, hf⟩ := gd_some hf
  refine r_iald X a_X_32 hg3 dX9_weigh_73 ?_
  refine r_lload_n X 1 dX9_weigh_74 rfl rfl ?_
  obtain ⟨q4, hq4, hf⟩ := bd_some hf
  refine r_callSL X (As := [mL x3]) (st := [mI ((put sg 30 (ix z1) z0) 32 (ix x5)), .ref (ad 31)]) (as := fun ad => [mL x3]) (c_XJ_abs hq4) rfl yw_J9_abs_067f4 ys_J9_abs_067f4 ml_RX9_54 ⟨rfl, rfl⟩ ⟨Nat.le_of_ble_eq_true rfl, Nat.le_of_ble_eq_true rfl⟩ rfl rfl (Nat.le_of_ble_eq_true rfl) dX9_weigh_75 ?_
  obtain ⟨hg5, hf⟩ := gd_some hf
  refine r_last X a_X_31 hg5 dX9_weigh_78 ?_
  refine r_iinc (lv2 := [(5, mI (x5 + 1)), (0, .ref (ad 29)), (3, mL x3)]) X 2 dX9_weigh_79 rfl (by decide) rfl ?_
  refine r_goto (tgt := 20) X dX9_weigh_82 (by decide) ?_
  refine r_perm (lv2 := [(0, .ref (ad 29)), (3, mL x3), (5, mI (x5 + 1))]) [1, 2, 0] rfl ?_
  exact hkc _ _ _ hf
set_option maxRecDepth 100000 in
set_option maxHeartbeats 4000000 in
theorem b_Scale_weigh_20_ok {p : Program} {l : Launch} {e : Env} {s : State} {m : MethodId} {args : Array Value} {below : List Frame} {meth : Method} {c : Code} {D : va_G} {cy : Nat → ClassId} {ad : Nat → Nat} (X : CX p s m args meth c cX9_weigh RX9 8 none D shX cy ad (aw shX ad)) {F : Nat} {kc : St → Int → Int → Option (St)} {k85 : St → Option (St)} {q : St} (hkc : ∀ sg x3 x5, kc sg x3 x5 = some q → GG p l e rm_Scale_weigh s m args below meth c (QV D shX cy ad below args s q) D shX cy ad (aw shX ad) 8 20 [(0, .ref (ad 29)), (3, mL x3), (5, mI x5)] [] sg) (hk85 : ∀ sg , k85 sg  = some q → GG p l e rm_Scale_weigh s m args below meth c (QV D shX cy ad below args s q) D shX cy ad (aw shX ad) 8 85 [] [] sg) {sg : St} {x3 x5 : Int} (hf : b_Scale_weigh_20  F kc k85 sg x3 x5 = some q) : GG p l e rm_Scale_weigh s m args below meth c (QV D shX cy ad below args s q) D shX cy ad (aw shX ad) 8 20 [(0, .ref (ad 29)), (3, mL x3), (5, mI x5)] [] sg := by
  refine r_iload X 2 dX9_weigh_20 rfl ?_
  refine r_aload_n X 0 dX9_weigh_22 rfl rfl ?_
  refine r_getI X fl_9_50 k_X_29_2 dX9_weigh_23 ?_
  refine r_icmp_ge (tgt := 85) X dX9_weigh_26 (by decide) (fun hc1 => ?_) (fun hc1 => ?_)
  · have hf := ite_yes hc1 hf
    refine r_perm (lv2 := []) [] rfl ?_
    exact hk85 _ hf
  · have hf := ite_no hc1 hf
    refine r_aload_n X 0 dX9_weigh_29 rfl rfl ?_
    refine r_iload X 2 dX9_weigh_30 rfl ?_
    obtain ⟨q2, hq2, hf⟩ := bd_some hf
    refine r_callVL X (As := [mI x5]) (st := []) (as := fun ad => [.ref (ad 29), mI x5]) (c_Scale_determinant hq2) rfl yw_X9_determinant yv_X9_determinant ml_RX9_46 o_X_29 rfl rfl ⟨rfl, rfl⟩ ⟨Nat.le_of_ble_eq_true rfl, Nat.le_of_ble_eq_true rfl⟩ rfl rfl (Nat.le_of_ble_eq_true rfl) dX9_weigh_32 ?_
    refine r_lstore (lv2 := [(6, mL q2.1), (0, .ref (ad 29)), (3, mL x3), (5, mI x5)]) X dX9_weigh_35 (by decide) rfl ?_
    refine r_aload_n X 1 dX9_weigh_37 rfl rfl ?_
    refine r_getR X fl_9_9 k_X_29_0 dX9_weigh_38 ?_
    refine r_aload_n X 1 dX9_weigh_41 rfl rfl ?_
    refine r_getR X fl_9_18 k_X_29_3 dX9_weigh_42 ?_
    refine r_iload X 3 dX9_weigh_45 rfl ?_
    obtain ⟨hg3, hf⟩ := gd_some hf
    refine r_iald X a_X_32 hg3 dX9_weigh_47 ?_
    refine r_lload_n X 2 dX9_weigh_48 rfl rfl ?_
    refine r_lconst (v := 0) X dX9_weigh_49 (by decide) ?_
    refine r_lc_ge (tgt := 60) X dX9_weigh_50 dX9_weigh_51 (by decide) (fun hc4 => ?_) (fun hc4 => ?_)
    · have hf := ite_yes hc4 hf
      refine r_lload X 0 dX9_weigh_60 rfl ?_
      refine r_perm (lv2 := [(0, .ref (ad 29)), (3, mL x3), (5, mI x5)]) [1, 2, 3] rfl ?_
      exact b_Scale_weigh_62_ok X hkc hk85 hf
    · have hf := ite_no hc4 hf
      refine r_lload X 0 dX9_weigh_54 rfl ?_
      refine r_lneg X dX9_weigh_56 ?_
      refine r_goto (tgt := 62) X dX9_weigh_57 (by decide) ?_
      refine r_perm (lv2 := [(0, .ref (ad 29)), (3, mL x3), (5, mI x5)]) [1, 2, 3] rfl ?_
      exact b_Scale_weigh_62_ok X hkc hk85 hf
set_option maxRecDepth 100000 in
set_option maxHeartbeats 4000000 in
theorem l_Scale_weigh_20_ok {p : Program} {l : Launch} {e : Env} {s : State} {m : MethodId} {args : Array Value} {below : List Frame} {meth : Method} {c : Code} {D : va_G} {cy : Nat → ClassId} {ad : Nat → Nat} (X : CX p s m args meth c cX9_weigh RX9 8 none D shX cy ad (aw shX ad)) {F : Nat} {k85 : St → Option (St)} {q : St} (hk85 : ∀ sg , k85 sg  = some q → GG p l e rm_Scale_weigh s m args below meth c (QV D shX cy ad below args s q) D shX cy ad (aw shX ad) 8 85 [] [] sg) : ∀ (n : Nat) (sg : St) (x3 x5 : Int), l_Scale_weigh_20  F k85 n sg x3 x5 = some q → GG p l e rm_Scale_weigh s m args below meth c (QV D shX cy ad below args s q) D shX cy ad (aw shX ad) 8 20 [(0, .ref (ad 29)), (3, mL x3), (5, mI x5)] [] sg := by
  intro n
  induction n with
  | zero => intro sg x3 x5 h; cases h
  | succ n ih => exact fun sg x3 x5 h => b_Scale_weigh_20_ok X ih hk85 h
set_option maxRecDepth 100000 in
set_option maxHeartbeats 4000000 in
theorem c_Scale_weigh {l : Launch} {F : Nat} {sg : St} {x2 : Int} {q : St} (hf : f_Scale_weigh F  sg x2 = some q) : MV l shX yX9_weigh cX9_weigh 8 none rm_Scale_weigh (fun ad => [.ref (ad 29), .ref (ad 25), mI x2]) sg q := by
  refine mk_v (by decide) (fun _ => Nat.le_of_ble_eq_true rfl) (fun p e s m args below meth c D cy ad X => ?_)
  have X : CX p s m args meth c cX9_weigh RX9 8 none D shX cy ad (aw shX ad) := X
  refine r_perm (lv2 := [(0, .ref (ad 29)), (1, .ref (ad 25)), (2, mI x2)]) [0, 1, 2] rfl ?_
  refine r_aload_n X 0 dX9_weigh_0 rfl rfl ?_
  refine r_aload_n X 1 dX9_weigh_1 rfl rfl ?_
  refine r_iload_n X 2 dX9_weigh_2 rfl rfl ?_
  obtain ⟨q1, hq1, hf⟩ := bd_some hf
  refine r_callVV X (As := [.ref (ad 25), mI x2]) (st := []) (as := fun ad => [.ref (ad 29), .ref (ad 25), mI x2]) (c_Scale_gather hq1) rfl yw_X9_gather yv_X9_gather ml_RX9_39 o_X_29 rfl rfl ⟨rfl, rfl⟩ ⟨Nat.le_of_ble_eq_true rfl, Nat.le_of_ble_eq_true rfl⟩ rfl rfl (Nat.le_of_ble_eq_true rfl) dX9_weigh_3 ?_
  refine r_aload_n X 0 dX9_weigh_6 rfl rfl ?_
  refine r_aload_n X 1 dX9_weigh_7 rfl rfl ?_
  obtain ⟨q2, hq2, hf⟩ := bd_some hf
  refine r_callVV X (As := [.ref (ad 25)]) (st := []) (as := fun ad => [.ref (ad 29), .ref (ad 25)]) (c_Scale_setRows hq2) rfl yw_X9_setRows yv_X9_setRows ml_RX9_42 o_X_29 rfl rfl ⟨rfl, rfl⟩ ⟨Nat.le_of_ble_eq_true rfl, Nat.le_of_ble_eq_true rfl⟩ rfl rfl (Nat.le_of_ble_eq_true rfl) dX9_weigh_8 ?_
  refine r_aload_n X 0 dX9_weigh_11 rfl rfl ?_
  refine r_iconst X dX9_weigh_12 ?_
  obtain ⟨q3, hq3, hf⟩ := bd_some hf
  refine r_callVL X (As := [mI (-1)]) (st := []) (as := fun ad => [.ref (ad 29), mI (-1)]) (c_Scale_determinant hq3) rfl yw_X9_determinant yv_X9_determinant ml_RX9_46 o_X_29 rfl rfl ⟨rfl, rfl⟩ ⟨Nat.le_of_ble_eq_true rfl, Nat.le_of_ble_eq_true rfl⟩ rfl rfl (Nat.le_of_ble_eq_true rfl) dX9_weigh_13 ?_
  refine r_lstore_n (lv2 := [(3, mL q3.1), (0, .ref (ad 29)), (1, .ref (ad 25)), (2, mI x2)]) X dX9_weigh_16 rfl (by decide) rfl ?_
  refine r_iconst X dX9_weigh_17 ?_
  refine r_istore (lv2 := [(5, mI 0), (3, mL q3.1), (0, .ref (ad 29)), (1, .ref (ad 25)), (2, mI x2)]) X dX9_weigh_18 (by decide) rfl ?_
  refine r_perm (lv2 := [(0, .ref (ad 29)), (3, mL q3.1), (5, mI 0)]) [2, 1, 0] rfl ?_
  refine l_Scale_weigh_20_ok X ?_ F _ _ _ hf
  · intro s4  hf
    exact r_vreturn X hf dX9_weigh_85
set_option maxRecDepth 100000 in
set_option maxHeartbeats 4000000 in
theorem b_Read_readWishes_8_ok {p : Program} {l : Launch} {e : Env} {s : State} {m : MethodId} {args : Array Value} {below : List Frame} {meth : Method} {c : Code} {D : va_G} {cy : Nat → ClassId} {ad : Nat → Nat} (X : CX p s m args meth c cX10_readWishes RX10 5 none D shX cy ad (aw shX ad)) {cp : Nat} (hcp : PRc cp) {F : Nat} {kc : St → Int → Int → Int → Option (St)} {k83 : St → Option (St)} {q : St} (hkc : ∀ sg x2 x3 x4, kc sg x2 x3 x4 = some q → GG p l e rm_Read_readWishes s m args below meth c (QV D shX cy ad below args s q) D shX cy ad (aw shX ad) 5 8 [(0, .ref (ad 41)), (1, .ref (ad cp)), (2, mI x2), (3, mI x3), (4, mI x4)] [] sg) (hk83 : ∀ sg , k83 sg  = some q → GG p l e rm_Read_readWishes s m args below meth c (QV D shX cy ad below args s q) D shX cy ad (aw shX ad) 5 83 [] [] sg) {sg : St} {x2 x3 x4 : Int} (hf : b_Read_readWishes_8 cp F kc k83 sg x2 x3 x4 = some q) : GG p l e rm_Read_readWishes s m args below meth c (QV D shX cy ad below args s q) D shX cy ad (aw shX ad) 5 8 [(0, .ref (ad 41)), (1, .ref (ad cp)), (2, mI x2), (3, mI x3), (4, mI x4)] [] sg := by
  refine r_iload X 4 dX10_readWishes_8 rfl ?_
  refine r_iconst X dX10_readWishes_10 ?_
  refine r_icmp_gt (tgt := 83) X dX10_readWishes_11 (by decide) (fun hc1 => ?_) (fun hc1 => ?_)
  · have hf := ite_yes hc1 hf
    refine r_perm (lv2 := []) [] rfl ?_
    exact hk83 _ hf
  · have hf := ite_no hc1 hf
    refine r_iload_n X 3 dX10_readWishes_14 rfl rfl ?_
    refine r_iconst X dX10_readWishes_15 ?_
    refine r_icmp_eq (tgt := 83) X dX10_readWishes_16 (by decide) (fun hc2 => ?_) (fun hc2 => ?_)
    · have hf := ite_yes hc2 hf
      refine r_perm (lv2 := []) [] rfl ?_
      exact hk83 _ hf
    · have hf := ite_no hc2 hf
      refine r_aload_n X 0 dX10_readWishes_19 rfl rfl ?_
      refine r_getI X fl_10_9 k_X_41_1 dX10_readWishes_20 ?_
      refine r_if_ne (tgt := 83) X dX10_readWishes_23 (by decide) (fun hc3 => ?_) (fun hc3 => ?_)
      · have hf := ite_yes hc3 hf
        refine r_aload_n X 1 dX10_readWishes_26 rfl rfl ?_
        refine r_getR X fl_10_93 (pr_k3 hcp) dX10_readWishes_27 ?_
        refine r_iload_n X 3 dX10_readWishes_30 rfl rfl ?_
        obtain ⟨hg4, hf⟩ := gd_some hf
        refine r_aaldI X (pr_a3 hcp) hg4 dX10_readWishes_31 ?_
        refine r_iload_n X 2 dX10_readWishes_32 rfl rfl ?_
        obtain ⟨hg5, hf⟩ := gd_some hf
        refine r_iald X (pr_a4 hcp (inb_ix hg4)) hg5 dX10_readWishes_33 ?_
        refine r_iconst X dX10_readWishes_34 ?_
        refine r_icmp_eq (tgt := 46) X dX10_readWishes_35 (by decide) (fun hc6 => ?_) (fun hc6 => ?_)
        · have hf := ite_yes hc6 hf
          refine r_aload_n X 0 dX10_readWishes_46 rfl rfl ?_
          obtain ⟨q8, hq8, hf⟩ := bd_some hf
          refine r_callVV X (As := []) (st := []) (as := fun ad => [.ref (ad 41)]) (c_Read_step hq8) rfl yw_X10_step yv_X10_step ml_RX10_42 o_X_41 rfl rfl ⟨rfl, rfl⟩ ⟨Nat.le_of_ble_eq_true rfl, Nat.le_of_ble_eq_true rfl⟩ rfl rfl (Nat.le_of_ble_eq_true rfl) dX10_readWishes_47 ?_
          refine r_aload_n X 1 dX10_readWishes_50 rfl rfl ?_
          refine r_getR X fl_10_93 (pr_k3 hcp) dX10_readWishes_51 ?_
          refine r_iload_n X 3 dX10_readWishes_54 rfl rfl ?_
          obtain ⟨hg9, hf⟩ := gd_some hf
          refine r_aaldI X (pr_a3 hcp) hg9 dX10_readWishes_55 ?_
          refine r_iload_n X 2 dX10_readWishes_56 rfl rfl ?_
          refine r_aload_n X 0 dX10_readWishes_57 rfl rfl ?_
          refine r_gets1200 X fs_RX10_97 dX10_readWishes_58 ?_
          refine r_iload_n X 3 dX10_readWishes_61 rfl rfl ?_
          obtain ⟨hg10, hf⟩ := gd_some hf
          refine r_sald1200 X hg10 dX10_readWishes_62 ?_
          refine r_gets1201 X fs_RX10_100 dX10_readWishes_63 ?_
          refine r_iload_n X 3 dX10_readWishes_66 rfl rfl ?_
          obtain ⟨hg11, hf⟩ := gd_some hf
          refine r_sald1201 X hg11 dX10_readWishes_67 ?_
          obtain ⟨q12, hq12, hf⟩ := bd_some hf
          refine r_callVI X (As := [mI (leastW (ix x3)), mI (greatW (ix x3))]) (st := [mI x2, .ref (ad (cp + 4 + ix x3))]) (as := fun ad => [.ref (ad 41), mI (leastW (ix x3)), mI (greatW (ix x3))]) (c_Read_takeNumber hq12) rfl yw_X10_takeNumber yv_X10_takeNumber ml_RX10_78 o_X_41 rfl rfl ⟨rfl, rfl⟩ ⟨Nat.le_of_ble_eq_true rfl, Nat.le_of_ble_eq_true rfl⟩ rfl rfl (Nat.le_of_ble_eq_true rfl) dX10_readWishes_68 ?_
          obtain ⟨hg13, hf⟩ := gd_some hf
          refine r_iast X (pr_a4 hcp (inb_ix hg9)) hg13 dX10_readWishes_71 ?_
          refine r_aload_n X 0 dX10_readWishes_72 rfl rfl ?_
          obtain ⟨q15, hq15, hf⟩ := bd_some hf
          refine r_callVI X (As := []) (st := []) (as := fun ad => [.ref (ad 41)]) (c_Read_wishInHand hq15) rfl yw_X10_wishInHand yv_X10_wishInHand ml_RX10_89 o_X_41 rfl rfl ⟨rfl, rfl⟩ ⟨Nat.le_of_ble_eq_true rfl, Nat.le_of_ble_eq_true rfl⟩ rfl rfl (Nat.le_of_ble_eq_true rfl) dX10_readWishes_73 ?_
          refine r_istore_n (lv2 := [(3, mI q15.1), (0, .ref (ad 41)), (1, .ref (ad cp)), (2, mI x2), (4, mI x4)]) X dX10_readWishes_76 rfl (by decide) rfl ?_
          refine r_iinc (lv2 := [(4, mI (x4 + 1)), (3, mI q15.1), (0, .ref (ad 41)), (1, .ref (ad cp)), (2, mI x2)]) X 4 dX10_readWishes_77 rfl (by decide) rfl ?_
          refine r_goto (tgt := 8) X dX10_readWishes_80 (by decide) ?_
          refine r_perm (lv2 := [(0, .ref (ad 41)), (1, .ref (ad cp)), (2, mI x2), (3, mI q15.1), (4, mI (x4 + 1))]) [2, 3, 4, 1, 0] rfl ?_
          exact hkc _ _ _ _ hf
        · have hf := ite_no hc6 hf
          refine r_aload_n X 0 dX10_readWishes_38 rfl rfl ?_
          refine r_iconst X dX10_readWishes_39 ?_
          obtain ⟨q7, hq7, hf⟩ := bd_some hf
          refine r_callVV X (As := [mI 5]) (st := []) (as := fun ad => [.ref (ad 41), mI 5]) (c_Read_blame hq7) rfl yw_X10_blame yv_X10_blame ml_RX10_58 o_X_41 rfl rfl ⟨rfl, rfl⟩ ⟨Nat.le_of_ble_eq_true rfl, Nat.le_of_ble_eq_true rfl⟩ rfl rfl (Nat.le_of_ble_eq_true rfl) dX10_readWishes_40 ?_
          refine r_goto (tgt := 77) X dX10_readWishes_43 (by decide) ?_
          refine r_iinc (lv2 := [(4, mI (x4 + 1)), (0, .ref (ad 41)), (1, .ref (ad cp)), (2, mI x2), (3, mI x3)]) X 4 dX10_readWishes_77 rfl (by decide) rfl ?_
          refine r_goto (tgt := 8) X dX10_readWishes_80 (by decide) ?_
          refine r_perm (lv2 := [(0, .ref (ad 41)), (1, .ref (ad cp)), (2, mI x2), (3, mI x3), (4, mI (x4 + 1))]) [1, 2, 3, 4, 0] rfl ?_
          exact hkc _ _ _ _ hf
      · have hf := ite_no hc3 hf
        refine r_perm (lv2 := []) [] rfl ?_
        exact hk83 _ hf
set_option maxRecDepth 100000 in
set_option maxHeartbeats 4000000 in
theorem l_Read_readWishes_8_ok {p : Program} {l : Launch} {e : Env} {s : State} {m : MethodId} {args : Array Value} {below : List Frame} {meth : Method} {c : Code} {D : va_G} {cy : Nat → ClassId} {ad : Nat → Nat} (X : CX p s m args meth c cX10_readWishes RX10 5 none D shX cy ad (aw shX ad)) {cp : Nat} (hcp : PRc cp) {F : Nat} {k83 : St → Option (St)} {q : St} (hk83 : ∀ sg , k83 sg  = some q → GG p l e rm_Read_readWishes s m args below meth c (QV D shX cy ad below args s q) D shX cy ad (aw shX ad) 5 83 [] [] sg) : ∀ (n : Nat) (sg : St) (x2 x3 x4 : Int), l_Read_readWishes_8 cp F k83 n sg x2 x3 x4 = some q → GG p l e rm_Read_readWishes s m args below meth c (QV D shX cy ad below args s q) D shX cy ad (aw shX ad) 5 8 [(0, .ref (ad 41)), (1, .ref (ad cp)), (2, mI x2), (3, mI x3), (4, mI x4)] [] sg := by
  intro n
  induction n with
  | zero => intro sg x2 x3 x4 h; cases h
  | succ n ih => exact fun sg x2 x3 x4 h => b_Read_readWishes_8_ok X hcp ih hk83 h
set_option maxRecDepth 100000 in
set_option maxHeartbeats 4000000 in
theorem c_Read_readWishes {l : Launch} {F : Nat} {cp : Nat} (hcp : PRc cp) {sg : St} {x2 : Int} {q : St} (hf : f_Read_readWishes F cp sg x2 = some q) : MV l shX yX10_readWishes cX10_readWishes 5 none rm_Read_readWishes (fun ad => [.ref (ad 41), .ref (ad cp), mI x2]) sg q := by
  refine mk_v (by decide) (fun _ => Nat.le_of_ble_eq_true rfl) (fun p e s m args below meth c D cy ad X => ?_)
  have X : CX p s m args meth c cX10_readWishes RX10 5 none D shX cy ad (aw shX ad) := X
  refine r_perm (lv2 := [(0, .ref (ad 41)), (1, .ref (ad cp)), (2, mI x2)]) [0, 1, 2] rfl ?_
  refine r_aload_n X 0 dX10_readWishes_0 rfl rfl ?_
  obtain ⟨q1, hq1, hf⟩ := bd_some hf
  refine r_callVI X (As := []) (st := []) (as := fun ad => [.ref (ad 41)]) (c_Read_wishInHand hq1) rfl yw_X10_wishInHand yv_X10_wishInHand ml_RX10_89 o_X_41 rfl rfl ⟨rfl, rfl⟩ ⟨Nat.le_of_ble_eq_true rfl, Nat.le_of_ble_eq_true rfl⟩ rfl rfl (Nat.le_of_ble_eq_true rfl) dX10_readWishes_1 ?_
  refine r_istore_n (lv2 := [(3, mI q1.1), (0, .ref (ad 41)), (1, .ref (ad cp)), (2, mI x2)]) X dX10_readWishes_4 rfl (by decide) rfl ?_
  refine r_iconst X dX10_readWishes_5 ?_
  refine r_istore (lv2 := [(4, mI 0), (3, mI q1.1), (0, .ref (ad 41)), (1, .ref (ad cp)), (2, mI x2)]) X dX10_readWishes_6 (by decide) rfl ?_
  refine r_perm (lv2 := [(0, .ref (ad 41)), (1, .ref (ad cp)), (2, mI x2), (3, mI q1.1), (4, mI 0)]) [2, 3, 4, 1, 0] rfl ?_
  refine l_Read_readWishes_8_ok X hcp ?_ F _ _ _ _ hf
  · intro s2  hf
    exact r_vreturn X hf dX10_readWishes_83
set_option maxRecDepth 100000 in
set_option maxHeartbeats 4000000 in
theorem c_H_heap {l : Launch} {F : Nat} {sg : St} {x1 x2 : Int} {q : Int × St} (hf : f_H_heap F  sg x1 x2 = some q) : MI l shX yX11_heap cX11_heap 4 (some .int) rm_H_heap (fun ad => [.ref (ad 0), mI x1, mI x2]) sg q.2 q.1 := by
  refine mk_i (by decide) (fun _ => Nat.le_of_ble_eq_true rfl) (fun p e s m args below meth c D cy ad X => ?_)
  have X : CX p s m args meth c cX11_heap RX11 4 (some .int) D shX cy ad (aw shX ad) := X
  refine r_perm (lv2 := [(0, .ref (ad 0)), (1, mI x1), (2, mI x2)]) [0, 1, 2] rfl ?_
  refine r_aload_n X 0 dX11_heap_0 rfl rfl ?_
  refine r_iload_n X 1 dX11_heap_1 rfl rfl ?_
  refine r_iload_n X 2 dX11_heap_2 rfl rfl ?_
  obtain ⟨q1, hq1, hf⟩ := bd_some hf
  refine r_callVI X (As := [mI x1, mI x2]) (st := []) (as := fun ad => [.ref (ad 0), mI x1, mI x2]) (c_H_whyNoHeap hq1) rfl yw_X11_whyNoHeap yv_X11_whyNoHeap ml_RX11_199 o_X_0 rfl rfl ⟨rfl, rfl⟩ ⟨Nat.le_of_ble_eq_true rfl, Nat.le_of_ble_eq_true rfl⟩ rfl rfl (Nat.le_of_ble_eq_true rfl) dX11_heap_3 ?_
  refine r_istore_n (lv2 := [(3, mI q1.1), (0, .ref (ad 0)), (1, mI x1), (2, mI x2)]) X dX11_heap_6 rfl (by decide) rfl ?_
  refine r_iload_n X 0 dX11_heap_7 rfl rfl ?_
  refine r_if_ne (tgt := 27) X dX11_heap_8 (by decide) (fun hc2 => ?_) (fun hc2 => ?_)
  · have hf := ite_yes hc2 hf
    refine r_aload_n X 1 dX11_heap_11 rfl rfl ?_
    refine r_aload_n X 1 dX11_heap_12 rfl rfl ?_
    refine r_getR X fl_11_40 k_X_0_4 dX11_heap_13 ?_
    refine r_getR X fl_11_202 k_X_25_0 dX11_heap_16 ?_
    refine r_iload_n X 2 dX11_heap_19 rfl rfl ?_
    obtain ⟨hg3, hf⟩ := gd_some hf
    refine r_iald X a_X_26 hg3 dX11_heap_20 ?_
    obtain ⟨q4, hq4, hf⟩ := bd_some hf
    refine r_callVI X (As := [mI (q1.2 26 (ix x1))]) (st := []) (as := fun ad => [.ref (ad 0), mI (q1.2 26 (ix x1))]) (c_H_answer hq4) rfl yw_X11_answer yv_X11_answer ml_RX11_111 o_X_0 rfl rfl ⟨rfl, rfl⟩ ⟨Nat.le_of_ble_eq_true rfl, Nat.le_of_ble_eq_true rfl⟩ rfl rfl (Nat.le_of_ble_eq_true rfl) dX11_heap_21 ?_
    refine r_goto (tgt := 32) X dX11_heap_24 (by decide) ?_
    exact r_ireturn X hf dX11_heap_32
  · have hf := ite_no hc2 hf
    refine r_aload_n X 1 dX11_heap_27 rfl rfl ?_
    refine r_iload_n X 0 dX11_heap_28 rfl rfl ?_
    obtain ⟨q5, hq5, hf⟩ := bd_some hf
    refine r_callVI X (As := [mI q1.1]) (st := []) (as := fun ad => [.ref (ad 0), mI q1.1]) (c_H_none hq5) rfl yw_X11_none yv_X11_none ml_RX11_100 o_X_0 rfl rfl ⟨rfl, rfl⟩ ⟨Nat.le_of_ble_eq_true rfl, Nat.le_of_ble_eq_true rfl⟩ rfl rfl (Nat.le_of_ble_eq_true rfl) dX11_heap_29 ?_
    exact r_ireturn X hf dX11_heap_32
set_option maxRecDepth 100000 in
set_option maxHeartbeats 4000000 in
theorem c_H_hardness {l : Launch} {F : Nat} {sg : St} {x1 x2 : Int} {q : Int × St} (hf : f_H_hardness F  sg x1 x2 = some q) : MI l shX yX11_hardness cX11_hardness 5 (some .boolean) rm_H_hardness (fun ad => [.ref (ad 0), mI x1, mI x2]) sg q.2 q.1 := by
  refine mk_i (by decide) (fun _ => Nat.le_of_ble_eq_true rfl) (fun p e s m args below meth c D cy ad X => ?_)
  have X : CX p s m args meth c cX11_hardness RX11 5 (some .boolean) D shX cy ad (aw shX ad) := X
  refine r_perm (lv2 := [(0, .ref (ad 0)), (1, mI x1), (2, mI x2)]) [0, 1, 2] rfl ?_
  refine r_aload_n X 0 dX11_hardness_0 rfl rfl ?_
  refine r_iload_n X 1 dX11_hardness_1 rfl rfl ?_
  refine r_iload_n X 2 dX11_hardness_2 rfl rfl ?_
  obtain ⟨q1, hq1, hf⟩ := bd_some hf
  refine r_callVI X (As := [mI x1, mI x2]) (st := []) (as := fun ad => [.ref (ad 0), mI x1, mI x2]) (c_H_whyNoHeap hq1) rfl yw_X11_whyNoHeap yv_X11_whyNoHeap ml_RX11_199 o_X_0 rfl rfl ⟨rfl, rfl⟩ ⟨Nat.le_of_ble_eq_true rfl, Nat.le_of_ble_eq_true rfl⟩ rfl rfl (Nat.le_of_ble_eq_true rfl) dX11_hardness_3 ?_
  refine r_istore_n (lv2 := [(3, mI q1.1), (0, .ref (ad 0)), (1, mI x1), (2, mI x2)]) X dX11_hardness_6 rfl (by decide) rfl ?_
  refine r_iload_n X 0 dX11_hardness_7 rfl rfl ?_
  refine r_if_eq (tgt := 17) X dX11_hardness_8 (by decide) (fun hc2 => ?_) (fun hc2 => ?_)
  · have hf := ite_yes hc2 hf
    refine r_aload_n X 1 dX11_hardness_17 rfl rfl ?_
    refine r_getR X fl_11_40 k_X_0_4 dX11_hardness_18 ?_
    refine r_getR X fl_11_202 k_X_25_0 dX11_hardness_21 ?_
    refine r_iload_n X 2 dX11_hardness_24 rfl rfl ?_
    obtain ⟨hg5, hf⟩ := gd_some hf
    refine r_iald X a_X_26 hg5 dX11_hardness_25 ?_
    refine r_istore (lv2 := [(4, mI (q1.2 26 (ix x1))), (3, mI q1.1), (0, .ref (ad 0)), (1, mI x1), (2, mI x2)]) X dX11_hardness_26 (by decide) rfl ?_
    refine r_aload_n X 2 dX11_hardness_28 rfl rfl ?_
    refine r_getR X fl_11_40 k_X_0_4 dX11_hardness_29 ?_
    refine r_iload X 0 dX11_hardness_32 rfl ?_
    obtain ⟨q6, hq6, hf⟩ := bd_some hf
    refine r_callVI X (As := [mI (q1.2 26 (ix x1))]) (st := []) (as := fun ad => [.ref (ad 25), mI (q1.2 26 (ix x1))]) (c_Known_isGreat hq6) rfl yw_X5_isGreat yv_X5_isGreat ml_RX11_205 o_X_25 rfl rfl ⟨rfl, rfl⟩ ⟨Nat.le_of_ble_eq_true rfl, Nat.le_of_ble_eq_true rfl⟩ rfl rfl (Nat.le_of_ble_eq_true rfl) dX11_hardness_34 ?_
    refine r_if_eq (tgt := 47) X dX11_hardness_37 (by decide) (fun hc7 => ?_) (fun hc7 => ?_)
    · have hf := ite_yes hc7 hf
      refine r_aload_n X 2 dX11_hardness_47 rfl rfl ?_
      refine r_getR X fl_11_47 k_X_0_5 dX11_hardness_48 ?_
      refine r_aload_n X 2 dX11_hardness_51 rfl rfl ?_
      refine r_getR X fl_11_40 k_X_0_4 dX11_hardness_52 ?_
      refine r_iload X 0 dX11_hardness_55 rfl ?_
      obtain ⟨q10, hq10, hf⟩ := bd_some hf
      refine r_callVV X (As := [.ref (ad 25), mI (q1.2 26 (ix x1))]) (st := []) (as := fun ad => [.ref (ad 29), .ref (ad 25), mI (q1.2 26 (ix x1))]) (c_Scale_weigh hq10) rfl yw_X9_weigh yv_X9_weigh ml_RX11_208 o_X_29 rfl rfl ⟨rfl, rfl⟩ ⟨Nat.le_of_ble_eq_true rfl, Nat.le_of_ble_eq_true rfl⟩ rfl rfl (Nat.le_of_ble_eq_true rfl) dX11_hardness_57 ?_
      refine r_aload_n X 2 dX11_hardness_60 rfl rfl ?_
      refine r_getR X fl_11_54 k_X_0_6 dX11_hardness_61 ?_
      refine r_aload_n X 2 dX11_hardness_64 rfl rfl ?_
      refine r_getR X fl_11_47 k_X_0_5 dX11_hardness_65 ?_
      refine r_getR X fl_11_212 k_X_29_0 dX11_hardness_68 ?_
      refine r_iload_n X 3 dX11_hardness_71 rfl rfl ?_
      obtain ⟨hg11, hf⟩ := gd_some hf
      refine r_lald X a_X_30 hg11 dX11_hardness_72 ?_
      refine r_aload_n X 2 dX11_hardness_73 rfl rfl ?_
      refine r_getR X fl_11_47 k_X_0_5 dX11_hardness_74 ?_
      refine r_getR X fl_11_216 k_X_29_1 dX11_hardness_77 ?_
      refine r_iload_n X 3 dX11_hardness_80 rfl rfl ?_
      obtain ⟨hg12, hf⟩ := gd_some hf
      refine r_lald X a_X_31 hg12 dX11_hardness_81 ?_
      obtain ⟨q13, hq13, hf⟩ := bd_some hf
      refine r_callVV X (As := [mL (q10 30 (ix x1)), mL (q10 31 (ix x1))]) (st := []) (as := fun ad => [.ref (ad 40), mL (q10 30 (ix x1)), mL (q10 31 (ix x1))]) (c_Frac_become (Or.inl rfl) hq13) rfl yw_X1_become yv_X1_become ml_RX11_219 o_X_40 rfl rfl ⟨rfl, rfl⟩ ⟨Nat.le_of_ble_eq_true rfl, Nat.le_of_ble_eq_true rfl⟩ rfl rfl (Nat.le_of_ble_eq_true rfl) dX11_hardness_82 ?_
      refine r_aload_n X 2 dX11_hardness_85 rfl rfl ?_
      obtain ⟨q14, hq14, hf⟩ := bd_some hf
      refine r_callVI X (As := []) (st := []) (as := fun ad => [.ref (ad 0)]) (c_H_yes hq14) rfl yw_X11_yes yv_X11_yes ml_RX11_143 o_X_0 rfl rfl ⟨rfl, rfl⟩ ⟨Nat.le_of_ble_eq_true rfl, Nat.le_of_ble_eq_true rfl⟩ rfl rfl (Nat.le_of_ble_eq_true rfl) dX11_hardness_86 ?_
      obtain ⟨hz15, hf⟩ := gd_some hf
      exact r_zreturn X hf (zn_of hz15) dX11_hardness_89
    · have hf := ite_no hc7 hf
      refine r_aload_n X 2 dX11_hardness_40 rfl rfl ?_
      refine r_bipush X dX11_hardness_41 (by decide) ?_
      obtain ⟨q8, hq8, hf⟩ := bd_some hf
      refine r_callVI X (As := [mI 9]) (st := []) (as := fun ad => [.ref (ad 0), mI 9]) (c_H_no hq8) rfl yw_X11_no yv_X11_no ml_RX11_140 o_X_0 rfl rfl ⟨rfl, rfl⟩ ⟨Nat.le_of_ble_eq_true rfl, Nat.le_of_ble_eq_true rfl⟩ rfl rfl (Nat.le_of_ble_eq_true rfl) dX11_hardness_43 ?_
      obtain ⟨hz9, hf⟩ := gd_some hf
      exact r_zreturn X hf (zn_of hz9) dX11_hardness_46
  · have hf := ite_no hc2 hf
    refine r_aload_n X 1 dX11_hardness_11 rfl rfl ?_
    refine r_iload_n X 0 dX11_hardness_12 rfl rfl ?_
    obtain ⟨q3, hq3, hf⟩ := bd_some hf
    refine r_callVI X (As := [mI q1.1]) (st := []) (as := fun ad => [.ref (ad 0), mI q1.1]) (c_H_no hq3) rfl yw_X11_no yv_X11_no ml_RX11_140 o_X_0 rfl rfl ⟨rfl, rfl⟩ ⟨Nat.le_of_ble_eq_true rfl, Nat.le_of_ble_eq_true rfl⟩ rfl rfl (Nat.le_of_ble_eq_true rfl) dX11_hardness_13 ?_
    obtain ⟨hz4, hf⟩ := gd_some hf
    exact r_zreturn X hf (zn_of hz4) dX11_hardness_16
set_option maxRecDepth 100000 in
set_option maxHeartbeats 4000000 in
theorem c_H_fair {l : Launch} {F : Nat} {sg : St} {x1 x2 : Int} {q : Int × St} (hf : f_H_fair F  sg x1 x2 = some q) : MI l shX yX11_fair cX11_fair 4 (some .boolean) rm_H_fair (fun ad => [.ref (ad 0), mI x1, mI x2]) sg q.2 q.1 := by
  refine mk_i (by decide) (fun _ => Nat.le_of_ble_eq_true rfl) (fun p e s m args below meth c D cy ad X => ?_)
  have X : CX p s m args meth c cX11_fair RX11 4 (some .boolean) D shX cy ad (aw shX ad) := X
  refine r_perm (lv2 := [(0, .ref (ad 0)), (1, mI x1), (2, mI x2)]) [0, 1, 2] rfl ?_
  refine r_aload_n X 0 dX11_fair_0 rfl rfl ?_
  refine r_getR X fl_11_10 k_X_0_0 dX11_fair_1 ?_
  refine r_iload_n X 1 dX11_fair_4 rfl rfl ?_
  obtain ⟨q1, hq1, hf⟩ := bd_some hf
  refine r_callVI X (As := [mI x1]) (st := []) (as := fun ad => [.ref (ad 1), mI x1]) (c_Boards_has hq1) rfl yw_X0_has yv_X0_has ml_RX11_118 o_X_1 rfl rfl ⟨rfl, rfl⟩ ⟨Nat.le_of_ble_eq_true rfl, Nat.le_of_ble_eq_true rfl⟩ rfl rfl (Nat.le_of_ble_eq_true rfl) dX11_fair_5 ?_
  refine r_if_ne (tgt := 17) X dX11_fair_8 (by decide) (fun hc2 => ?_) (fun hc2 => ?_)
  · have hf := ite_yes hc2 hf
    refine r_aload_n X 0 dX11_fair_11 rfl rfl ?_
    refine r_iconst X dX11_fair_12 ?_
    obtain ⟨q3, hq3, hf⟩ := bd_some hf
    refine r_callVI X (As := [mI 1]) (st := []) (as := fun ad => [.ref (ad 0), mI 1]) (c_H_no hq3) rfl yw_X11_no yv_X11_no ml_RX11_140 o_X_0 rfl rfl ⟨rfl, rfl⟩ ⟨Nat.le_of_ble_eq_true rfl, Nat.le_of_ble_eq_true rfl⟩ rfl rfl (Nat.le_of_ble_eq_true rfl) dX11_fair_13 ?_
    obtain ⟨hz4, hf⟩ := gd_some hf
    exact r_zreturn X hf (zn_of hz4) dX11_fair_16
  · have hf := ite_no hc2 hf
    refine r_iload_n X 2 dX11_fair_17 rfl rfl ?_
    obtain ⟨q5, hq5, hf⟩ := bd_some hf
    refine r_callSI X (As := [mI x2]) (st := []) (as := fun ad => [mI x2]) (c_H_isDay hq5) rfl yw_X11_isDay ys_X11_isDay ml_RX11_181 ⟨rfl, rfl⟩ ⟨Nat.le_of_ble_eq_true rfl, Nat.le_of_ble_eq_true rfl⟩ rfl rfl (Nat.le_of_ble_eq_true rfl) dX11_fair_18 ?_
    refine r_if_ne (tgt := 30) X dX11_fair_21 (by decide) (fun hc6 => ?_) (fun hc6 => ?_)
    · have hf := ite_yes hc6 hf
      refine r_aload_n X 0 dX11_fair_24 rfl rfl ?_
      refine r_iconst X dX11_fair_25 ?_
      obtain ⟨q7, hq7, hf⟩ := bd_some hf
      refine r_callVI X (As := [mI 2]) (st := []) (as := fun ad => [.ref (ad 0), mI 2]) (c_H_no hq7) rfl yw_X11_no yv_X11_no ml_RX11_140 o_X_0 rfl rfl ⟨rfl, rfl⟩ ⟨Nat.le_of_ble_eq_true rfl, Nat.le_of_ble_eq_true rfl⟩ rfl rfl (Nat.le_of_ble_eq_true rfl) dX11_fair_26 ?_
      obtain ⟨hz8, hf⟩ := gd_some hf
      exact r_zreturn X hf (zn_of hz8) dX11_fair_29
    · have hf := ite_no hc6 hf
      refine r_aload_n X 0 dX11_fair_30 rfl rfl ?_
      refine r_getR X fl_11_40 k_X_0_4 dX11_fair_31 ?_
      refine r_aload_n X 0 dX11_fair_34 rfl rfl ?_
      refine r_getR X fl_11_33 k_X_0_3 dX11_fair_35 ?_
      refine r_iload_n X 2 dX11_fair_38 rfl rfl ?_
      obtain ⟨q9, hq9, hf⟩ := bd_some hf
      refine r_callVV X (As := [.ref (ad 19), mI x2]) (st := []) (as := fun ad => [.ref (ad 25), .ref (ad 19), mI x2]) (c_Known_lookBack hq9) rfl yw_X5_lookBack yv_X5_lookBack ml_RX11_192 o_X_25 rfl rfl ⟨rfl, rfl⟩ ⟨Nat.le_of_ble_eq_true rfl, Nat.le_of_ble_eq_true rfl⟩ rfl rfl (Nat.le_of_ble_eq_true rfl) dX11_fair_39 ?_
      refine r_aload_n X 0 dX11_fair_42 rfl rfl ?_
      refine r_getR X fl_11_40 k_X_0_4 dX11_fair_43 ?_
      refine r_iload_n X 1 dX11_fair_46 rfl rfl ?_
      obtain ⟨q10, hq10, hf⟩ := bd_some hf
      refine r_callVI X (As := [mI x1]) (st := []) (as := fun ad => [.ref (ad 25), mI x1]) (c_Known_heapAround hq10) rfl yw_X5_heapAround yv_X5_heapAround ml_RX11_223 o_X_25 rfl rfl ⟨rfl, rfl⟩ ⟨Nat.le_of_ble_eq_true rfl, Nat.le_of_ble_eq_true rfl⟩ rfl rfl (Nat.le_of_ble_eq_true rfl) dX11_fair_47 ?_
      refine r_istore_n (lv2 := [(3, mI q10.1), (0, .ref (ad 0)), (1, mI x1), (2, mI x2)]) X dX11_fair_50 rfl (by decide) rfl ?_
      refine r_iload_n X 0 dX11_fair_51 rfl rfl ?_
      refine r_iconst X dX11_fair_52 ?_
      refine r_icmp_ne (tgt := 63) X dX11_fair_53 (by decide) (fun hc11 => ?_) (fun hc11 => ?_)
      · have hf := ite_yes hc11 hf
        refine r_aload_n X 1 dX11_fair_56 rfl rfl ?_
        refine r_bipush X dX11_fair_57 (by decide) ?_
        obtain ⟨q12, hq12, hf⟩ := bd_some hf
        refine r_callVI X (As := [mI 6]) (st := []) (as := fun ad => [.ref (ad 0), mI 6]) (c_H_no hq12) rfl yw_X11_no yv_X11_no ml_RX11_140 o_X_0 rfl rfl ⟨rfl, rfl⟩ ⟨Nat.le_of_ble_eq_true rfl, Nat.le_of_ble_eq_true rfl⟩ rfl rfl (Nat.le_of_ble_eq_true rfl) dX11_fair_59 ?_
        obtain ⟨hz13, hf⟩ := gd_some hf
        exact r_zreturn X hf (zn_of hz13) dX11_fair_62
      · have hf := ite_no hc11 hf
        refine r_aload_n X 1 dX11_fair_63 rfl rfl ?_
        refine r_getR X fl_11_40 k_X_0_4 dX11_fair_64 ?_
        refine r_iload_n X 0 dX11_fair_67 rfl rfl ?_
        obtain ⟨q14, hq14, hf⟩ := bd_some hf
        refine r_callVI X (As := [mI q10.1]) (st := []) (as := fun ad => [.ref (ad 25), mI q10.1]) (c_Known_isGreat hq14) rfl yw_X5_isGreat yv_X5_isGreat ml_RX11_205 o_X_25 rfl rfl ⟨rfl, rfl⟩ ⟨Nat.le_of_ble_eq_true rfl, Nat.le_of_ble_eq_true rfl⟩ rfl rfl (Nat.le_of_ble_eq_true rfl) dX11_fair_68 ?_
        refine r_if_eq (tgt := 81) X dX11_fair_71 (by decide) (fun hc15 => ?_) (fun hc15 => ?_)
        · have hf := ite_yes hc15 hf
          refine r_aload_n X 1 dX11_fair_81 rfl rfl ?_
          refine r_getR X fl_11_47 k_X_0_5 dX11_fair_82 ?_
          refine r_aload_n X 1 dX11_fair_85 rfl rfl ?_
          refine r_getR X fl_11_40 k_X_0_4 dX11_fair_86 ?_
          refine r_iload_n X 0 dX11_fair_89 rfl rfl ?_
          obtain ⟨q18, hq18, hf⟩ := bd_some hf
          refine r_callVV X (As := [.ref (ad 25), mI q10.1]) (st := []) (as := fun ad => [.ref (ad 29), .ref (ad 25), mI q10.1]) (c_Scale_weigh hq18) rfl yw_X9_weigh yv_X9_weigh ml_RX11_208 o_X_29 rfl rfl ⟨rfl, rfl⟩ ⟨Nat.le_of_ble_eq_true rfl, Nat.le_of_ble_eq_true rfl⟩ rfl rfl (Nat.le_of_ble_eq_true rfl) dX11_fair_90 ?_
          refine r_aload_n X 1 dX11_fair_93 rfl rfl ?_
          refine r_getR X fl_11_47 k_X_0_5 dX11_fair_94 ?_
          refine r_aload_n X 1 dX11_fair_97 rfl rfl ?_
          refine r_getR X fl_11_40 k_X_0_4 dX11_fair_98 ?_
          refine r_iload_n X 2 dX11_fair_101 rfl rfl ?_
          refine r_aload_n X 1 dX11_fair_102 rfl rfl ?_
          refine r_getR X fl_11_54 k_X_0_6 dX11_fair_103 ?_
          obtain ⟨q19, hq19, hf⟩ := bd_some hf
          refine r_callVV X (As := [.ref (ad 25), mI x1, .ref (ad 40)]) (st := []) (as := fun ad => [.ref (ad 29), .ref (ad 25), mI x1, .ref (ad 40)]) (c_Scale_rate (Or.inl rfl) hq19) rfl yw_X9_rate yv_X9_rate ml_RX11_226 o_X_29 rfl rfl ⟨rfl, rfl⟩ ⟨Nat.le_of_ble_eq_true rfl, Nat.le_of_ble_eq_true rfl⟩ rfl rfl (Nat.le_of_ble_eq_true rfl) dX11_fair_106 ?_
          refine r_aload_n X 1 dX11_fair_109 rfl rfl ?_
          obtain ⟨q20, hq20, hf⟩ := bd_some hf
          refine r_callVI X (As := []) (st := []) (as := fun ad => [.ref (ad 0)]) (c_H_yes hq20) rfl yw_X11_yes yv_X11_yes ml_RX11_143 o_X_0 rfl rfl ⟨rfl, rfl⟩ ⟨Nat.le_of_ble_eq_true rfl, Nat.le_of_ble_eq_true rfl⟩ rfl rfl (Nat.le_of_ble_eq_true rfl) dX11_fair_110 ?_
          obtain ⟨hz21, hf⟩ := gd_some hf
          exact r_zreturn X hf (zn_of hz21) dX11_fair_113
        · have hf := ite_no hc15 hf
          refine r_aload_n X 1 dX11_fair_74 rfl rfl ?_
          refine r_bipush X dX11_fair_75 (by decide) ?_
          obtain ⟨q16, hq16, hf⟩ := bd_some hf
          refine r_callVI X (As := [mI 9]) (st := []) (as := fun ad => [.ref (ad 0), mI 9]) (c_H_no hq16) rfl yw_X11_no yv_X11_no ml_RX11_140 o_X_0 rfl rfl ⟨rfl, rfl⟩ ⟨Nat.le_of_ble_eq_true rfl, Nat.le_of_ble_eq_true rfl⟩ rfl rfl (Nat.le_of_ble_eq_true rfl) dX11_fair_77 ?_
          obtain ⟨hz17, hf⟩ := gd_some hf
          exact r_zreturn X hf (zn_of hz17) dX11_fair_80
set_option maxRecDepth 100000 in
set_option maxHeartbeats 4000000 in
theorem c_H_laid {l : Launch} {F : Nat} {sg : St} {x1 : Int} {q : Int × St} (hf : f_H_laid F  sg x1 = some q) : MI l shX yX11_laid cX11_laid 3 (some .int) rm_H_laid (fun ad => [.ref (ad 0), mI x1]) sg q.2 q.1 := by
  refine mk_i (by decide) (fun _ => Nat.le_of_ble_eq_true rfl) (fun p e s m args below meth c D cy ad X => ?_)
  have X : CX p s m args meth c cX11_laid RX11 3 (some .int) D shX cy ad (aw shX ad) := X
  refine r_perm (lv2 := [(0, .ref (ad 0)), (1, mI x1)]) [0, 1] rfl ?_
  refine r_aload_n X 0 dX11_laid_0 rfl rfl ?_
  refine r_getR X fl_11_10 k_X_0_0 dX11_laid_1 ?_
  refine r_iload_n X 1 dX11_laid_4 rfl rfl ?_
  obtain ⟨q1, hq1, hf⟩ := bd_some hf
  refine r_callVI X (As := [mI x1]) (st := []) (as := fun ad => [.ref (ad 1), mI x1]) (c_Boards_has hq1) rfl yw_X0_has yv_X0_has ml_RX11_118 o_X_1 rfl rfl ⟨rfl, rfl⟩ ⟨Nat.le_of_ble_eq_true rfl, Nat.le_of_ble_eq_true rfl⟩ rfl rfl (Nat.le_of_ble_eq_true rfl) dX11_laid_5 ?_
  refine r_if_ne (tgt := 17) X dX11_laid_8 (by decide) (fun hc2 => ?_) (fun hc2 => ?_)
  · have hf := ite_yes hc2 hf
    refine r_aload_n X 0 dX11_laid_11 rfl rfl ?_
    refine r_iconst X dX11_laid_12 ?_
    obtain ⟨q3, hq3, hf⟩ := bd_some hf
    refine r_callVI X (As := [mI 1]) (st := []) (as := fun ad => [.ref (ad 0), mI 1]) (c_H_none hq3) rfl yw_X11_none yv_X11_none ml_RX11_100 o_X_0 rfl rfl ⟨rfl, rfl⟩ ⟨Nat.le_of_ble_eq_true rfl, Nat.le_of_ble_eq_true rfl⟩ rfl rfl (Nat.le_of_ble_eq_true rfl) dX11_laid_13 ?_
    exact r_ireturn X hf dX11_laid_16
  · have hf := ite_no hc2 hf
    refine r_aload_n X 0 dX11_laid_17 rfl rfl ?_
    refine r_getR X fl_11_75 k_X_0_9 dX11_laid_18 ?_
    refine r_aload_n X 0 dX11_laid_21 rfl rfl ?_
    refine r_getR X fl_11_10 k_X_0_0 dX11_laid_22 ?_
    obtain ⟨q4, hq4, hf⟩ := bd_some hf
    refine r_callVI X (As := [.ref (ad 1)]) (st := []) (as := fun ad => [.ref (ad 72), .ref (ad 1)]) (c_Halls_lay hq4) rfl yw_X3_lay yv_X3_lay ml_RX11_282 o_X_72 rfl rfl ⟨rfl, rfl⟩ ⟨Nat.le_of_ble_eq_true rfl, Nat.le_of_ble_eq_true rfl⟩ rfl rfl (Nat.le_of_ble_eq_true rfl) dX11_laid_25 ?_
    refine r_istore_n (lv2 := [(2, mI q4.1), (0, .ref (ad 0)), (1, mI x1)]) X dX11_laid_28 rfl (by decide) rfl ?_
    refine r_iload_n X 0 dX11_laid_29 rfl rfl ?_
    refine r_if_ne (tgt := 49) X dX11_laid_30 (by decide) (fun hc5 => ?_) (fun hc5 => ?_)
    · have hf := ite_yes hc5 hf
      refine r_aload_n X 1 dX11_laid_33 rfl rfl ?_
      refine r_aload_n X 1 dX11_laid_34 rfl rfl ?_
      refine r_getR X fl_11_75 k_X_0_9 dX11_laid_35 ?_
      refine r_getR X fl_11_286 k_X_72_2 dX11_laid_38 ?_
      refine r_iload_n X 2 dX11_laid_41 rfl rfl ?_
      obtain ⟨hg6, hf⟩ := gd_some hf
      refine r_iald X a_X_73 hg6 dX11_laid_42 ?_
      obtain ⟨q7, hq7, hf⟩ := bd_some hf
      refine r_callVI X (As := [mI (q4.2 73 (ix x1))]) (st := []) (as := fun ad => [.ref (ad 0), mI (q4.2 73 (ix x1))]) (c_H_answer hq7) rfl yw_X11_answer yv_X11_answer ml_RX11_111 o_X_0 rfl rfl ⟨rfl, rfl⟩ ⟨Nat.le_of_ble_eq_true rfl, Nat.le_of_ble_eq_true rfl⟩ rfl rfl (Nat.le_of_ble_eq_true rfl) dX11_laid_43 ?_
      refine r_goto (tgt := 54) X dX11_laid_46 (by decide) ?_
      exact r_ireturn X hf dX11_laid_54
    · have hf := ite_no hc5 hf
      refine r_aload_n X 1 dX11_laid_49 rfl rfl ?_
      refine r_iload_n X 0 dX11_laid_50 rfl rfl ?_
      obtain ⟨q8, hq8, hf⟩ := bd_some hf
      refine r_callVI X (As := [mI q4.1]) (st := []) (as := fun ad => [.ref (ad 0), mI q4.1]) (c_H_none hq8) rfl yw_X11_none yv_X11_none ml_RX11_100 o_X_0 rfl rfl ⟨rfl, rfl⟩ ⟨Nat.le_of_ble_eq_true rfl, Nat.le_of_ble_eq_true rfl⟩ rfl rfl (Nat.le_of_ble_eq_true rfl) dX11_laid_51 ?_
      exact r_ireturn X hf dX11_laid_54
set_option maxRecDepth 100000 in
set_option maxHeartbeats 4000000 in
theorem c_H_tries {l : Launch} {F : Nat} {sg : St} {q : Int × St} (hf : f_H_tries F  sg  = some q) : MI l shX yX11_tries cX11_tries 2 (some .int) rm_H_tries (fun ad => [.ref (ad 0)]) sg q.2 q.1 := by
  refine mk_i (by decide) (fun _ => Nat.le_of_ble_eq_true rfl) (fun p e s m args below meth c D cy ad X => ?_)
  have X : CX p s m args meth c cX11_tries RX11 2 (some .int) D shX cy ad (aw shX ad) := X
  refine r_perm (lv2 := [(0, .ref (ad 0))]) [0] rfl ?_
  refine r_aload_n X 0 dX11_tries_0 rfl rfl ?_
  refine r_getR X fl_11_75 k_X_0_9 dX11_tries_1 ?_
  refine r_aload_n X 0 dX11_tries_4 rfl rfl ?_
  refine r_getR X fl_11_10 k_X_0_0 dX11_tries_5 ?_
  obtain ⟨q1, hq1, hf⟩ := bd_some hf
  refine r_callVI X (As := [.ref (ad 1)]) (st := []) (as := fun ad => [.ref (ad 72), .ref (ad 1)]) (c_Halls_lay hq1) rfl yw_X3_lay yv_X3_lay ml_RX11_282 o_X_72 rfl rfl ⟨rfl, rfl⟩ ⟨Nat.le_of_ble_eq_true rfl, Nat.le_of_ble_eq_true rfl⟩ rfl rfl (Nat.le_of_ble_eq_true rfl) dX11_tries_8 ?_
  refine r_istore_n (lv2 := [(1, mI q1.1), (0, .ref (ad 0))]) X dX11_tries_11 rfl (by decide) rfl ?_
  refine r_iload_n X 0 dX11_tries_12 rfl rfl ?_
  refine r_if_ne (tgt := 30) X dX11_tries_13 (by decide) (fun hc2 => ?_) (fun hc2 => ?_)
  · have hf := ite_yes hc2 hf
    refine r_aload_n X 1 dX11_tries_16 rfl rfl ?_
    refine r_aload_n X 1 dX11_tries_17 rfl rfl ?_
    refine r_getR X fl_11_75 k_X_0_9 dX11_tries_18 ?_
    refine r_getI X fl_11_289 k_X_72_1 dX11_tries_21 ?_
    obtain ⟨q3, hq3, hf⟩ := bd_some hf
    refine r_callVI X (As := [mI (q1.2 72 1)]) (st := []) (as := fun ad => [.ref (ad 0), mI (q1.2 72 1)]) (c_H_answer hq3) rfl yw_X11_answer yv_X11_answer ml_RX11_111 o_X_0 rfl rfl ⟨rfl, rfl⟩ ⟨Nat.le_of_ble_eq_true rfl, Nat.le_of_ble_eq_true rfl⟩ rfl rfl (Nat.le_of_ble_eq_true rfl) dX11_tries_24 ?_
    refine r_goto (tgt := 35) X dX11_tries_27 (by decide) ?_
    exact r_ireturn X hf dX11_tries_35
  · have hf := ite_no hc2 hf
    refine r_aload_n X 1 dX11_tries_30 rfl rfl ?_
    refine r_iload_n X 0 dX11_tries_31 rfl rfl ?_
    obtain ⟨q4, hq4, hf⟩ := bd_some hf
    refine r_callVI X (As := [mI q1.1]) (st := []) (as := fun ad => [.ref (ad 0), mI q1.1]) (c_H_none hq4) rfl yw_X11_none yv_X11_none ml_RX11_100 o_X_0 rfl rfl ⟨rfl, rfl⟩ ⟨Nat.le_of_ble_eq_true rfl, Nat.le_of_ble_eq_true rfl⟩ rfl rfl (Nat.le_of_ble_eq_true rfl) dX11_tries_32 ?_
    exact r_ireturn X hf dX11_tries_35
set_option maxRecDepth 100000 in
set_option maxHeartbeats 4000000 in
theorem b_Plan_giveAllLooks_4_ok {p : Program} {l : Launch} {e : Env} {s : State} {m : MethodId} {args : Array Value} {below : List Frame} {meth : Method} {c : Code} {D : va_G} {cy : Nat → ClassId} {ad : Nat → Nat} (X : CX p s m args meth c cX7_giveAllLooks RX7 3 none D shX cy ad (aw shX ad)) {F : Nat} {kc : St → Int → Int → Option (St)} {k26 : St → Option (St)} {q : St} (hkc : ∀ sg x1 x2, kc sg x1 x2 = some q → GG p l e rm_Plan_giveAllLooks s m args below meth c (QV D shX cy ad below args s q) D shX cy ad (aw shX ad) 3 4 [(0, .ref (ad 11)), (1, mI x1), (2, mI x2)] [] sg) (hk26 : ∀ sg , k26 sg  = some q → GG p l e rm_Plan_giveAllLooks s m args below meth c (QV D shX cy ad below args s q) D shX cy ad (aw shX ad) 3 26 [] [] sg) {sg : St} {x1 x2 : Int} (hf : b_Plan_giveAllLooks_4  F kc k26 sg x1 x2 = some q) : GG p l e rm_Plan_giveAllLooks s m args below meth c (QV D shX cy ad below args s q) D shX cy ad (aw shX ad) 3 4 [(0, .ref (ad 11)), (1, mI x1), (2, mI x2)] [] sg := by
  refine r_iload_n X 2 dX7_giveAllLooks_4 rfl rfl ?_
  refine r_sipush X dX7_giveAllLooks_5 (by decide) ?_
  refine r_icmp_ge (tgt := 26) X dX7_giveAllLooks_8 (by decide) (fun hc1 => ?_) (fun hc1 => ?_)
  · have hf := ite_yes hc1 hf
    refine r_perm (lv2 := []) [] rfl ?_
    exact hk26 _ hf
  · have hf := ite_no hc1 hf
    refine r_iload_n X 1 dX7_giveAllLooks_11 rfl rfl ?_
    refine r_if_eq (tgt := 26) X dX7_giveAllLooks_12 (by decide) (fun hc2 => ?_) (fun hc2 => ?_)
    · have hf := ite_yes hc2 hf
      refine r_perm (lv2 := []) [] rfl ?_
      exact hk26 _ hf
    · have hf := ite_no hc2 hf
      refine r_aload_n X 0 dX7_giveAllLooks_15 rfl rfl ?_
      obtain ⟨q3, hq3, hf⟩ := bd_some hf
      refine r_callVI X (As := []) (st := []) (as := fun ad => [.ref (ad 11)]) (c_Plan_addLook hq3) rfl yw_X7_addLook yv_X7_addLook ml_RX7_66 o_X_11 rfl rfl ⟨rfl, rfl⟩ ⟨Nat.le_of_ble_eq_true rfl, Nat.le_of_ble_eq_true rfl⟩ rfl rfl (Nat.le_of_ble_eq_true rfl) dX7_giveAllLooks_16 ?_
      refine r_istore_n (lv2 := [(1, mI q3.1), (0, .ref (ad 11)), (2, mI x2)]) X dX7_giveAllLooks_19 rfl (by decide) rfl ?_
      refine r_iinc (lv2 := [(2, mI (x2 + 1)), (1, mI q3.1), (0, .ref (ad 11))]) X 2 dX7_giveAllLooks_20 rfl (by decide) rfl ?_
      refine r_goto (tgt := 4) X dX7_giveAllLooks_23 (by decide) ?_
      refine r_perm (lv2 := [(0, .ref (ad 11)), (1, mI q3.1), (2, mI (x2 + 1))]) [2, 1, 0] rfl ?_
      exact hkc _ _ _ hf
set_option maxRecDepth 100000 in
set_option maxHeartbeats 4000000 in
theorem l_Plan_giveAllLooks_4_ok {p : Program} {l : Launch} {e : Env} {s : State} {m : MethodId} {args : Array Value} {below : List Frame} {meth : Method} {c : Code} {D : va_G} {cy : Nat → ClassId} {ad : Nat → Nat} (X : CX p s m args meth c cX7_giveAllLooks RX7 3 none D shX cy ad (aw shX ad)) {F : Nat} {k26 : St → Option (St)} {q : St} (hk26 : ∀ sg , k26 sg  = some q → GG p l e rm_Plan_giveAllLooks s m args below meth c (QV D shX cy ad below args s q) D shX cy ad (aw shX ad) 3 26 [] [] sg) : ∀ (n : Nat) (sg : St) (x1 x2 : Int), l_Plan_giveAllLooks_4  F k26 n sg x1 x2 = some q → GG p l e rm_Plan_giveAllLooks s m args below meth c (QV D shX cy ad below args s q) D shX cy ad (aw shX ad) 3 4 [(0, .ref (ad 11)), (1, mI x1), (2, mI x2)] [] sg := by
  intro n
  induction n with
  | zero => intro sg x1 x2 h; cases h
  | succ n ih => exact fun sg x1 x2 h => b_Plan_giveAllLooks_4_ok X ih hk26 h
set_option maxRecDepth 100000 in
set_option maxHeartbeats 4000000 in
theorem c_Plan_giveAllLooks {l : Launch} {F : Nat} {sg : St} {q : St} (hf : f_Plan_giveAllLooks F  sg  = some q) : MV l shX yX7_giveAllLooks cX7_giveAllLooks 3 none rm_Plan_giveAllLooks (fun ad => [.ref (ad 11)]) sg q := by
  refine mk_v (by decide) (fun _ => Nat.le_of_ble_eq_true rfl) (fun p e s m args below meth c D cy ad X => ?_)
  have X : CX p s m args meth c cX7_giveAllLooks RX7 3 none D shX cy ad (aw shX ad) := X
  refine r_perm (lv2 := [(0, .ref (ad 11))]) [0] rfl ?_
  refine r_iconst X dX7_giveAllLooks_0 ?_
  refine r_istore_n (lv2 := [(1, mI 1), (0, .ref (ad 11))]) X dX7_giveAllLooks_1 rfl (by decide) rfl ?_
  refine r_iconst X dX7_giveAllLooks_2 ?_
  refine r_istore_n (lv2 := [(2, mI 0), (1, mI 1), (0, .ref (ad 11))]) X dX7_giveAllLooks_3 rfl (by decide) rfl ?_
  refine r_perm (lv2 := [(0, .ref (ad 11)), (1, mI 1), (2, mI 0)]) [2, 1, 0] rfl ?_
  refine l_Plan_giveAllLooks_4_ok X ?_ F _ _ _ hf
  · intro s1  hf
    exact r_vreturn X hf dX7_giveAllLooks_26
set_option maxRecDepth 100000 in
set_option maxHeartbeats 4000000 in
theorem b_Plan_prefer_108_ok {p : Program} {l : Launch} {e : Env} {s : State} {m : MethodId} {args : Array Value} {below : List Frame} {meth : Method} {c : Code} {D : va_G} {cy : Nat → ClassId} {ad : Nat → Nat} (X : CX p s m args meth c cX7_prefer RX7 7 none D shX cy ad (aw shX ad)) {F : Nat} {q : St} {sg : St} {x1 x2 x3 x4 x5 x6 : Int} (hf : b_Plan_prefer_108  F  sg x1 x2 x3 x4 x5 x6 = some q) : GG p l e rm_Plan_prefer s m args below meth c (QV D shX cy ad below args s q) D shX cy ad (aw shX ad) 7 108 [(0, .ref (ad 11)), (1, mI x1), (2, mI x2), (3, mI x3), (4, mI x4), (5, mI x5), (6, mI x6)] [] sg := by
  refine r_aload_n X 0 dX7_prefer_108 rfl rfl ?_
  refine r_iload_n X 1 dX7_prefer_109 rfl rfl ?_
  refine r_iload_n X 2 dX7_prefer_110 rfl rfl ?_
  obtain ⟨q1, hq1, hf⟩ := bd_some hf
  refine r_callVV X (As := [mI x1, mI x2]) (st := []) (as := fun ad => [.ref (ad 11), mI x1, mI x2]) (c_Plan_join hq1) rfl yw_X7_join yv_X7_join ml_RX7_109 o_X_11 rfl rfl ⟨rfl, rfl⟩ ⟨Nat.le_of_ble_eq_true rfl, Nat.le_of_ble_eq_true rfl⟩ rfl rfl (Nat.le_of_ble_eq_true rfl) dX7_prefer_111 ?_
  refine r_iload_n X 3 dX7_prefer_114 rfl rfl ?_
  refine r_if_eq (tgt := 150) X dX7_prefer_115 (by decide) (fun hc2 => ?_) (fun hc2 => ?_)
  · have hf := ite_yes hc2 hf
    exact r_vreturn X hf dX7_prefer_150
  · have hf := ite_no hc2 hf
    refine r_iload X 4 dX7_prefer_118 rfl ?_
    refine r_if_eq (tgt := 150) X dX7_prefer_120 (by decide) (fun hc3 => ?_) (fun hc3 => ?_)
    · have hf := ite_yes hc3 hf
      exact r_vreturn X hf dX7_prefer_150
    · have hf := ite_no hc3 hf
      refine r_aload_n X 0 dX7_prefer_123 rfl rfl ?_
      obtain ⟨q4, hq4, hf⟩ := bd_some hf
      refine r_callVI X (As := []) (st := []) (as := fun ad => [.ref (ad 11)]) (c_Plan_addLook hq4) rfl yw_X7_addLook yv_X7_addLook ml_RX7_66 o_X_11 rfl rfl ⟨rfl, rfl⟩ ⟨Nat.le_of_ble_eq_true rfl, Nat.le_of_ble_eq_true rfl⟩ rfl rfl (Nat.le_of_ble_eq_true rfl) dX7_prefer_124 ?_
      refine r_if_ne (tgt := 150) X dX7_prefer_127 (by decide) (fun hc5 => ?_) (fun hc5 => ?_)
      · have hf := ite_yes hc5 hf
        refine r_aload_n X 0 dX7_prefer_130 rfl rfl ?_
        refine r_iload_n X 1 dX7_prefer_131 rfl rfl ?_
        refine r_iload_n X 2 dX7_prefer_132 rfl rfl ?_
        obtain ⟨q6, hq6, hf⟩ := bd_some hf
        refine r_callVV X (As := [mI x1, mI x2]) (st := []) (as := fun ad => [.ref (ad 11), mI x1, mI x2]) (c_Plan_part hq6) rfl yw_X7_part yv_X7_part ml_RX7_106 o_X_11 rfl rfl ⟨rfl, rfl⟩ ⟨Nat.le_of_ble_eq_true rfl, Nat.le_of_ble_eq_true rfl⟩ rfl rfl (Nat.le_of_ble_eq_true rfl) dX7_prefer_133 ?_
        refine r_aload_n X 0 dX7_prefer_136 rfl rfl ?_
        refine r_iload_n X 1 dX7_prefer_137 rfl rfl ?_
        refine r_iload X 5 dX7_prefer_138 rfl ?_
        obtain ⟨q7, hq7, hf⟩ := bd_some hf
        refine r_callVV X (As := [mI x1, mI x5]) (st := []) (as := fun ad => [.ref (ad 11), mI x1, mI x5]) (c_Plan_join hq7) rfl yw_X7_join yv_X7_join ml_RX7_109 o_X_11 rfl rfl ⟨rfl, rfl⟩ ⟨Nat.le_of_ble_eq_true rfl, Nat.le_of_ble_eq_true rfl⟩ rfl rfl (Nat.le_of_ble_eq_true rfl) dX7_prefer_140 ?_
        refine r_aload_n X 0 dX7_prefer_143 rfl rfl ?_
        refine r_iload X 6 dX7_prefer_144 rfl ?_
        refine r_iload_n X 2 dX7_prefer_146 rfl rfl ?_
        obtain ⟨q8, hq8, hf⟩ := bd_some hf
        refine r_callVV X (As := [mI x6, mI x2]) (st := []) (as := fun ad => [.ref (ad 11), mI x6, mI x2]) (c_Plan_join hq8) rfl yw_X7_join yv_X7_join ml_RX7_109 o_X_11 rfl rfl ⟨rfl, rfl⟩ ⟨Nat.le_of_ble_eq_true rfl, Nat.le_of_ble_eq_true rfl⟩ rfl rfl (Nat.le_of_ble_eq_true rfl) dX7_prefer_147 ?_
        exact r_vreturn X hf dX7_prefer_150
      · have hf := ite_no hc5 hf
        exact r_vreturn X hf dX7_prefer_150
set_option maxRecDepth 100000 in
set_option maxHeartbeats 4000000 in
theorem b_Plan_prefer_96_ok {p : Program} {l : Launch} {e : Env} {s : State} {m : MethodId} {args : Array Value} {below : List Frame} {meth : Method} {c : Code} {D : va_G} {cy : Nat → ClassId} {ad : Nat → Nat} (X : CX p s m args meth c cX7_prefer RX7 7 none D shX cy ad (aw shX ad)) {F : Nat} {q : St} {sg : St} {x1 x2 x3 x4 x5 x6 : Int} (hf : b_Plan_prefer_96  F  sg x1 x2 x3 x4 x5 x6 = some q) : GG p l e rm_Plan_prefer s m args below meth c (QV D shX cy ad below args s q) D shX cy ad (aw shX ad) 7 96 [(0, .ref (ad 11)), (1, mI x1), (2, mI x2), (3, mI x3), (4, mI x4), (5, mI x5), (6, mI x6)] [] sg := by
  refine r_iload X 4 dX7_prefer_96 rfl ?_
  refine r_if_eq (tgt := 108) X dX7_prefer_98 (by decide) (fun hc1 => ?_) (fun hc1 => ?_)
  · have hf := ite_yes hc1 hf
    exact b_Plan_prefer_108_ok X  hf
  · have hf := ite_no hc1 hf
    refine r_aload_n X 0 dX7_prefer_101 rfl rfl ?_
    refine r_iload X 6 dX7_prefer_102 rfl ?_
    refine r_iload_n X 2 dX7_prefer_104 rfl rfl ?_
    obtain ⟨q2, hq2, hf⟩ := bd_some hf
    refine r_callVV X (As := [mI x6, mI x2]) (st := []) (as := fun ad => [.ref (ad 11), mI x6, mI x2]) (c_Plan_part hq2) rfl yw_X7_part yv_X7_part ml_RX7_106 o_X_11 rfl rfl ⟨rfl, rfl⟩ ⟨Nat.le_of_ble_eq_true rfl, Nat.le_of_ble_eq_true rfl⟩ rfl rfl (Nat.le_of_ble_eq_true rfl) dX7_prefer_105 ?_
    exact b_Plan_prefer_108_ok X  hf
set_option maxRecDepth 100000 in
set_option maxHeartbeats 4000000 in
theorem b_Plan_prefer_85_ok {p : Program} {l : Launch} {e : Env} {s : State} {m : MethodId} {args : Array Value} {below : List Frame} {meth : Method} {c : Code} {D : va_G} {cy : Nat → ClassId} {ad : Nat → Nat} (X : CX p s m args meth c cX7_prefer RX7 7 none D shX cy ad (aw shX ad)) {F : Nat} {q : St} {sg : St} {x1 x2 x3 x4 x5 x6 : Int} (hf : b_Plan_prefer_85  F  sg x1 x2 x3 x4 x5 x6 = some q) : GG p l e rm_Plan_prefer s m args below meth c (QV D shX cy ad below args s q) D shX cy ad (aw shX ad) 7 85 [(0, .ref (ad 11)), (1, mI x1), (2, mI x2), (3, mI x3), (4, mI x4), (5, mI x5), (6, mI x6)] [] sg := by
  refine r_iload_n X 3 dX7_prefer_85 rfl rfl ?_
  refine r_if_eq (tgt := 96) X dX7_prefer_86 (by decide) (fun hc1 => ?_) (fun hc1 => ?_)
  · have hf := ite_yes hc1 hf
    exact b_Plan_prefer_96_ok X  hf
  · have hf := ite_no hc1 hf
    refine r_aload_n X 0 dX7_prefer_89 rfl rfl ?_
    refine r_iload_n X 1 dX7_prefer_90 rfl rfl ?_
    refine r_iload X 5 dX7_prefer_91 rfl ?_
    obtain ⟨q2, hq2, hf⟩ := bd_some hf
    refine r_callVV X (As := [mI x1, mI x5]) (st := []) (as := fun ad => [.ref (ad 11), mI x1, mI x5]) (c_Plan_part hq2) rfl yw_X7_part yv_X7_part ml_RX7_106 o_X_11 rfl rfl ⟨rfl, rfl⟩ ⟨Nat.le_of_ble_eq_true rfl, Nat.le_of_ble_eq_true rfl⟩ rfl rfl (Nat.le_of_ble_eq_true rfl) dX7_prefer_93 ?_
    exact b_Plan_prefer_96_ok X  hf
set_option maxRecDepth 100000 in
set_option maxHeartbeats 4000000 in
theorem b_Plan_prefer_73_ok {p : Program} {l : Launch} {e : Env} {s : State} {m : MethodId} {args : Array Value} {below : List Frame} {meth : Method} {c : Code} {D : va_G} {cy : Nat → ClassId} {ad : Nat → Nat} (X : CX p s m args meth c cX7_prefer RX7 7 none D shX cy ad (aw shX ad)) {F : Nat} {q : St} {sg : St} {x1 x2 x3 x4 x5 x6 : Int} (hf : b_Plan_prefer_73  F  sg x1 x2 x3 x4 x5 x6 = some q) : GG p l e rm_Plan_prefer s m args below meth c (QV D shX cy ad below args s q) D shX cy ad (aw shX ad) 7 73 [(0, .ref (ad 11)), (1, mI x1), (2, mI x2), (3, mI x3), (4, mI x4), (5, mI x5), (6, mI x6)] [] sg := by
  refine r_iload X 4 dX7_prefer_73 rfl ?_
  refine r_if_eq (tgt := 85) X dX7_prefer_75 (by decide) (fun hc1 => ?_) (fun hc1 => ?_)
  · have hf := ite_yes hc1 hf
    exact b_Plan_prefer_85_ok X  hf
  · have hf := ite_no hc1 hf
    refine r_iload X 6 dX7_prefer_78 rfl ?_
    refine r_iconst X dX7_prefer_80 ?_
    refine r_icmp_ne (tgt := 85) X dX7_prefer_81 (by decide) (fun hc2 => ?_) (fun hc2 => ?_)
    · have hf := ite_yes hc2 hf
      exact r_vreturn X hf dX7_prefer_84
    · have hf := ite_no hc2 hf
      exact b_Plan_prefer_85_ok X  hf
set_option maxRecDepth 100000 in
set_option maxHeartbeats 4000000 in
theorem b_Plan_prefer_27_ok {p : Program} {l : Launch} {e : Env} {s : State} {m : MethodId} {args : Array Value} {below : List Frame} {meth : Method} {c : Code} {D : va_G} {cy : Nat → ClassId} {ad : Nat → Nat} (X : CX p s m args meth c cX7_prefer RX7 7 none D shX cy ad (aw shX ad)) {F : Nat} {q : St} {sg : St} {x1 x2 x3 z0 : Int} (hf : b_Plan_prefer_27  F  sg x1 x2 x3 z0 = some q) : GG p l e rm_Plan_prefer s m args below meth c (QV D shX cy ad below args s q) D shX cy ad (aw shX ad) 7 27 [(0, .ref (ad 11)), (1, mI x1), (2, mI x2), (3, mI x3)] [mI z0] sg := by
  refine r_istore (lv2 := [(4, mI z0), (0, .ref (ad 11)), (1, mI x1), (2, mI x2), (3, mI x3)]) X dX7_prefer_27 (by decide) rfl ?_
  refine r_aload_n X 1 dX7_prefer_29 rfl rfl ?_
  refine r_getR X fl_7_18 k_X_11_7 dX7_prefer_30 ?_
  refine r_iload_n X 2 dX7_prefer_33 rfl rfl ?_
  obtain ⟨hg1, hf⟩ := gd_some hf
  refine r_iald X a_X_14 hg1 dX7_prefer_34 ?_
  refine r_aload_n X 1 dX7_prefer_35 rfl rfl ?_
  refine r_iload_n X 2 dX7_prefer_36 rfl rfl ?_
  obtain ⟨q2, hq2, hf⟩ := bd_some hf
  refine r_callVI X (As := [mI x1]) (st := [mI (sg 14 (ix x1))]) (as := fun ad => [.ref (ad 11), mI x1]) (c_Plan_openJudges hq2) rfl yw_X7_openJudges yv_X7_openJudges ml_RX7_97 o_X_11 rfl rfl ⟨rfl, rfl⟩ ⟨Nat.le_of_ble_eq_true rfl, Nat.le_of_ble_eq_true rfl⟩ rfl rfl (Nat.le_of_ble_eq_true rfl) dX7_prefer_37 ?_
  refine r_iand X dX7_prefer_40 ?_
  obtain ⟨q3, hq3, hf⟩ := bd_some hf
  refine r_callNI X (As := [mI (andI (sg 14 (ix x1)) q2.1)]) (st := []) (as := fun ad => [mI (andI (sg 14 (ix x1)) q2.1)]) (c_H_lowestBit hq3) rfl yw_X11_lowestBit ys_X11_lowestBit ml_RX7_100 ⟨rfl, rfl⟩ ⟨Nat.le_of_ble_eq_true rfl, Nat.le_of_ble_eq_true rfl⟩ rfl rfl (Nat.le_of_ble_eq_true rfl) dX7_prefer_41 ?_
  refine r_istore (lv2 := [(5, mI q3.1), (4, mI z0), (0, .ref (ad 11)), (1, mI x1), (2, mI x2), (3, mI x3)]) X dX7_prefer_44 (by decide) rfl ?_
  refine r_aload_n X 2 dX7_prefer_46 rfl rfl ?_
  refine r_getR X fl_7_21 k_X_11_8 dX7_prefer_47 ?_
  refine r_iload_n X 4 dX7_prefer_50 rfl rfl ?_
  obtain ⟨hg4, hf⟩ := gd_some hf
  refine r_iald X a_X_15 hg4 dX7_prefer_51 ?_
  refine r_aload_n X 2 dX7_prefer_52 rfl rfl ?_
  refine r_iload_n X 4 dX7_prefer_53 rfl rfl ?_
  obtain ⟨q5, hq5, hf⟩ := bd_some hf
  refine r_callVI X (As := [mI x2]) (st := [mI (q3.2 15 (ix x2))]) (as := fun ad => [.ref (ad 11), mI x2]) (c_Plan_openBoards hq5) rfl yw_X7_openBoards yv_X7_openBoards ml_RX7_103 o_X_11 rfl rfl ⟨rfl, rfl⟩ ⟨Nat.le_of_ble_eq_true rfl, Nat.le_of_ble_eq_true rfl⟩ rfl rfl (Nat.le_of_ble_eq_true rfl) dX7_prefer_54 ?_
  refine r_iand X dX7_prefer_57 ?_
  obtain ⟨q6, hq6, hf⟩ := bd_some hf
  refine r_callNI X (As := [mI (andI (q3.2 15 (ix x2)) q5.1)]) (st := []) (as := fun ad => [mI (andI (q3.2 15 (ix x2)) q5.1)]) (c_H_lowestBit hq6) rfl yw_X11_lowestBit ys_X11_lowestBit ml_RX7_100 ⟨rfl, rfl⟩ ⟨Nat.le_of_ble_eq_true rfl, Nat.le_of_ble_eq_true rfl⟩ rfl rfl (Nat.le_of_ble_eq_true rfl) dX7_prefer_58 ?_
  refine r_istore (lv2 := [(6, mI q6.1), (5, mI q3.1), (4, mI z0), (0, .ref (ad 11)), (1, mI x1), (2, mI x2), (3, mI x3)]) X dX7_prefer_61 (by decide) rfl ?_
  refine r_iload_n X 6 dX7_prefer_63 rfl rfl ?_
  refine r_if_eq (tgt := 73) X dX7_prefer_64 (by decide) (fun hc7 => ?_) (fun hc7 => ?_)
  · have hf := ite_yes hc7 hf
    refine r_perm (lv2 := [(0, .ref (ad 11)), (1, mI x1), (2, mI x2), (3, mI x3), (4, mI z0), (5, mI q3.1), (6, mI q6.1)]) [3, 4, 5, 6, 2, 1, 0] rfl ?_
    exact b_Plan_prefer_73_ok X  hf
  · have hf := ite_no hc7 hf
    refine r_iload X 1 dX7_prefer_67 rfl ?_
    refine r_iconst X dX7_prefer_69 ?_
    refine r_icmp_eq (tgt := 84) X dX7_prefer_70 (by decide) (fun hc8 => ?_) (fun hc8 => ?_)
    · have hf := ite_yes hc8 hf
      exact r_vreturn X hf dX7_prefer_84
    · have hf := ite_no hc8 hf
      refine r_perm (lv2 := [(0, .ref (ad 11)), (1, mI x1), (2, mI x2), (3, mI x3), (4, mI z0), (5, mI q3.1), (6, mI q6.1)]) [3, 4, 5, 6, 2, 1, 0] rfl ?_
      exact b_Plan_prefer_73_ok X  hf
set_option maxRecDepth 100000 in
set_option maxHeartbeats 4000000 in
theorem b_Plan_prefer_13_ok {p : Program} {l : Launch} {e : Env} {s : State} {m : MethodId} {args : Array Value} {below : List Frame} {meth : Method} {c : Code} {D : va_G} {cy : Nat → ClassId} {ad : Nat → Nat} (X : CX p s m args meth c cX7_prefer RX7 7 none D shX cy ad (aw shX ad)) {F : Nat} {q : St} {sg : St} {x1 x2 z0 : Int} (hf : b_Plan_prefer_13  F  sg x1 x2 z0 = some q) : GG p l e rm_Plan_prefer s m args below meth c (QV D shX cy ad below args s q) D shX cy ad (aw shX ad) 7 13 [(0, .ref (ad 11)), (1, mI x1), (2, mI x2)] [mI z0] sg := by
  refine r_istore_n (lv2 := [(3, mI z0), (0, .ref (ad 11)), (1, mI x1), (2, mI x2)]) X dX7_prefer_13 rfl (by decide) rfl ?_
  refine r_aload_n X 1 dX7_prefer_14 rfl rfl ?_
  refine r_iload_n X 3 dX7_prefer_15 rfl rfl ?_
  obtain ⟨q1, hq1, hf⟩ := bd_some hf
  refine r_callVI X (As := [mI x2]) (st := []) (as := fun ad => [.ref (ad 11), mI x2]) (c_Plan_hasRoom hq1) rfl yw_X7_hasRoom yv_X7_hasRoom ml_RX7_94 o_X_11 rfl rfl ⟨rfl, rfl⟩ ⟨Nat.le_of_ble_eq_true rfl, Nat.le_of_ble_eq_true rfl⟩ rfl rfl (Nat.le_of_ble_eq_true rfl) dX7_prefer_16 ?_
  refine r_if_ne (tgt := 26) X dX7_prefer_19 (by decide) (fun hc2 => ?_) (fun hc2 => ?_)
  · have hf := ite_yes hc2 hf
    refine r_iconst X dX7_prefer_22 ?_
    refine r_goto (tgt := 27) X dX7_prefer_23 (by decide) ?_
    refine r_perm (lv2 := [(0, .ref (ad 11)), (1, mI x1), (2, mI x2), (3, mI z0)]) [1, 2, 3, 0] rfl ?_
    exact b_Plan_prefer_27_ok X  hf
  · have hf := ite_no hc2 hf
    refine r_iconst X dX7_prefer_26 ?_
    refine r_perm (lv2 := [(0, .ref (ad 11)), (1, mI x1), (2, mI x2), (3, mI z0)]) [1, 2, 3, 0] rfl ?_
    exact b_Plan_prefer_27_ok X  hf
set_option maxRecDepth 100000 in
set_option maxHeartbeats 4000000 in
theorem c_Plan_prefer {l : Launch} {F : Nat} {sg : St} {x1 x2 : Int} {q : St} (hf : f_Plan_prefer F  sg x1 x2 = some q) : MV l shX yX7_prefer cX7_prefer 7 none rm_Plan_prefer (fun ad => [.ref (ad 11), mI x1, mI x2]) sg q := by
  refine mk_v (by decide) (fun _ => Nat.le_of_ble_eq_true rfl) (fun p e s m args below meth c D cy ad X => ?_)
  have X : CX p s m args meth c cX7_prefer RX7 7 none D shX cy ad (aw shX ad) := X
  refine r_perm (lv2 := [(0, .ref (ad 11)), (1, mI x1), (2, mI x2)]) [0, 1, 2] rfl ?_
  refine r_aload_n X 0 dX7_prefer_0 rfl rfl ?_
  refine r_iload_n X 1 dX7_prefer_1 rfl rfl ?_
  obtain ⟨q1, hq1, hf⟩ := bd_some hf
  refine r_callVI X (As := [mI x1]) (st := []) (as := fun ad => [.ref (ad 11), mI x1]) (c_Plan_lacks hq1) rfl yw_X7_lacks yv_X7_lacks ml_RX7_90 o_X_11 rfl rfl ⟨rfl, rfl⟩ ⟨Nat.le_of_ble_eq_true rfl, Nat.le_of_ble_eq_true rfl⟩ rfl rfl (Nat.le_of_ble_eq_true rfl) dX7_prefer_2 ?_
  refine r_if_ne (tgt := 12) X dX7_prefer_5 (by decide) (fun hc2 => ?_) (fun hc2 => ?_)
  · have hf := ite_yes hc2 hf
    refine r_iconst X dX7_prefer_8 ?_
    refine r_goto (tgt := 13) X dX7_prefer_9 (by decide) ?_
    exact b_Plan_prefer_13_ok X  hf
  · have hf := ite_no hc2 hf
    refine r_iconst X dX7_prefer_12 ?_
    exact b_Plan_prefer_13_ok X  hf
set_option maxRecDepth 100000 in
set_option maxHeartbeats 4000000 in
theorem b_Scale_weighAll_2_ok {p : Program} {l : Launch} {e : Env} {s : State} {m : MethodId} {args : Array Value} {below : List Frame} {meth : Method} {c : Code} {D : va_G} {cy : Nat → ClassId} {ad : Nat → Nat} (X : CX p s m args meth c cX9_weighAll RX9 3 none D shX cy ad (aw shX ad)) {F : Nat} {kc : St → Int → Option (St)} {k30 : St → Option (St)} {q : St} (hkc : ∀ sg x2, kc sg x2 = some q → GG p l e rm_Scale_weighAll s m args below meth c (QV D shX cy ad below args s q) D shX cy ad (aw shX ad) 3 2 [(0, .ref (ad 29)), (1, .ref (ad 25)), (2, mI x2)] [] sg) (hk30 : ∀ sg , k30 sg  = some q → GG p l e rm_Scale_weighAll s m args below meth c (QV D shX cy ad below args s q) D shX cy ad (aw shX ad) 3 30 [] [] sg) {sg : St} {x2 : Int} (hf : b_Scale_weighAll_2  F kc k30 sg x2 = some q) : GG p l e rm_Scale_weighAll s m args below meth c (QV D shX cy ad below args s q) D shX cy ad (aw shX ad) 3 2 [(0, .ref (ad 29)), (1, .ref (ad 25)), (2, mI x2)] [] sg := by
  refine r_iload_n X 2 dX9_weighAll_2 rfl rfl ?_
  refine r_bipush X dX9_weighAll_3 (by decide) ?_
  refine r_icmp_ge (tgt := 30) X dX9_weighAll_5 (by decide) (fun hc1 => ?_) (fun hc1 => ?_)
  · have hf := ite_yes hc1 hf
    refine r_perm (lv2 := []) [] rfl ?_
    exact hk30 _ hf
  · have hf := ite_no hc1 hf
    refine r_aload_n X 1 dX9_weighAll_8 rfl rfl ?_
    refine r_getR X fl_9_30 k_X_25_0 dX9_weighAll_9 ?_
    refine r_iload_n X 2 dX9_weighAll_12 rfl rfl ?_
    obtain ⟨hg2, hf⟩ := gd_some hf
    refine r_iald X a_X_26 hg2 dX9_weighAll_13 ?_
    refine r_iload_n X 2 dX9_weighAll_14 rfl rfl ?_
    refine r_icmp_ne (tgt := 24) X dX9_weighAll_15 (by decide) (fun hc3 => ?_) (fun hc3 => ?_)
    · have hf := ite_yes hc3 hf
      refine r_aload_n X 0 dX9_weighAll_18 rfl rfl ?_
      refine r_aload_n X 1 dX9_weighAll_19 rfl rfl ?_
      refine r_iload_n X 2 dX9_weighAll_20 rfl rfl ?_
      obtain ⟨q4, hq4, hf⟩ := bd_some hf
      refine r_callVV X (As := [.ref (ad 25), mI x2]) (st := []) (as := fun ad => [.ref (ad 29), .ref (ad 25), mI x2]) (c_Scale_weigh hq4) rfl yw_X9_weigh yv_X9_weigh ml_RX9_35 o_X_29 rfl rfl ⟨rfl, rfl⟩ ⟨Nat.le_of_ble_eq_true rfl, Nat.le_of_ble_eq_true rfl⟩ rfl rfl (Nat.le_of_ble_eq_true rfl) dX9_weighAll_21 ?_
      refine r_iinc (lv2 := [(2, mI (x2 + 1)), (0, .ref (ad 29)), (1, .ref (ad 25))]) X 2 dX9_weighAll_24 rfl (by decide) rfl ?_
      refine r_goto (tgt := 2) X dX9_weighAll_27 (by decide) ?_
      refine r_perm (lv2 := [(0, .ref (ad 29)), (1, .ref (ad 25)), (2, mI (x2 + 1))]) [1, 2, 0] rfl ?_
      exact hkc _ _ hf
    · have hf := ite_no hc3 hf
      refine r_iinc (lv2 := [(2, mI (x2 + 1)), (0, .ref (ad 29)), (1, .ref (ad 25))]) X 2 dX9_weighAll_24 rfl (by decide) rfl ?_
      refine r_goto (tgt := 2) X dX9_weighAll_27 (by decide) ?_
      refine r_perm (lv2 := [(0, .ref (ad 29)), (1, .ref (ad 25)), (2, mI (x2 + 1))]) [1, 2, 0] rfl ?_
      exact hkc _ _ hf
set_option maxRecDepth 100000 in
set_option maxHeartbeats 4000000 in
theorem l_Scale_weighAll_2_ok {p : Program} {l : Launch} {e : Env} {s : State} {m : MethodId} {args : Array Value} {below : List Frame} {meth : Method} {c : Code} {D : va_G} {cy : Nat → ClassId} {ad : Nat → Nat} (X : CX p s m args meth c cX9_weighAll RX9 3 none D shX cy ad (aw shX ad)) {F : Nat} {k30 : St → Option (St)} {q : St} (hk30 : ∀ sg , k30 sg  = some q → GG p l e rm_Scale_weighAll s m args below meth c (QV D shX cy ad below args s q) D shX cy ad (aw shX ad) 3 30 [] [] sg) : ∀ (n : Nat) (sg : St) (x2 : Int), l_Scale_weighAll_2  F k30 n sg x2 = some q → GG p l e rm_Scale_weighAll s m args below meth c (QV D shX cy ad below args s q) D shX cy ad (aw shX ad) 3 2 [(0, .ref (ad 29)), (1, .ref (ad 25)), (2, mI x2)] [] sg := by
  intro n
  induction n with
  | zero => intro sg x2 h; cases h
  | succ n ih => exact fun sg x2 h => b_Scale_weighAll_2_ok X ih hk30 h
set_option maxRecDepth 100000 in
set_option maxHeartbeats 4000000 in
theorem c_Scale_weighAll {l : Launch} {F : Nat} {sg : St} {q : St} (hf : f_Scale_weighAll F  sg  = some q) : MV l shX yX9_weighAll cX9_weighAll 3 none rm_Scale_weighAll (fun ad => [.ref (ad 29), .ref (ad 25)]) sg q := by
  refine mk_v (by decide) (fun _ => Nat.le_of_ble_eq_true rfl) (fun p e s m args below meth c D cy ad X => ?_)
  have X : CX p s m args meth c cX9_weighAll RX9 3 none D shX cy ad (aw shX ad) := X
  refine r_perm (lv2 := [(0, .ref (ad 29)), (1, .ref (ad 25))]) [0, 1] rfl ?_
  refine r_iconst X dX9_weighAll_0 ?_
  refine r_istore_n (lv2 := [(2, mI 0), (0, .ref (ad 29)), (1, .ref (ad 25))]) X dX9_weighAll_1 rfl (by decide) rfl ?_
  refine r_perm (lv2 := [(0, .ref (ad 29)), (1, .ref (ad 25)), (2, mI 0)]) [1, 2, 0] rfl ?_
  refine l_Scale_weighAll_2_ok X ?_ F _ _ hf
  · intro s1  hf
    exact r_vreturn X hf dX9_weighAll_30
set_option maxRecDepth 100000 in
set_option maxHeartbeats 4000000 in
theorem b_Read_readPrize_95_ok {p : Program} {l : Launch} {e : Env} {s : State} {m : MethodId} {args : Array Value} {below : List Frame} {meth : Method} {c : Code} {D : va_G} {cy : Nat → ClassId} {ad : Nat → Nat} (X : CX p s m args meth c cX10_readPrize RX10 3 none D shX cy ad (aw shX ad)) {cp : Nat} (hcp : PRc cp) {F : Nat} {q : St} {sg : St} (hf : b_Read_readPrize_95 cp F  sg  = some q) : GG p l e rm_Read_readPrize s m args below meth c (QV D shX cy ad below args s q) D shX cy ad (aw shX ad) 3 95 [(0, .ref (ad 41))] [] sg := by
  refine r_aload_n X 0 dX10_readPrize_95 rfl rfl ?_
  obtain ⟨q1, hq1, hf⟩ := bd_some hf
  refine r_callVV X (As := []) (st := []) (as := fun ad => [.ref (ad 41)]) (c_Read_takeStop hq1) rfl yw_X10_takeStop yv_X10_takeStop ml_RX10_86 o_X_41 rfl rfl ⟨rfl, rfl⟩ ⟨Nat.le_of_ble_eq_true rfl, Nat.le_of_ble_eq_true rfl⟩ rfl rfl (Nat.le_of_ble_eq_true rfl) dX10_readPrize_96 ?_
  exact r_vreturn X hf dX10_readPrize_99
set_option maxRecDepth 100000 in
set_option maxHeartbeats 4000000 in
theorem c_Read_readPrize {l : Launch} {F : Nat} {cp : Nat} (hcp : PRc cp) {sg : St} {q : St} (hf : f_Read_readPrize F cp sg  = some q) : MV l shX yX10_readPrize cX10_readPrize 3 none rm_Read_readPrize (fun ad => [.ref (ad 41), .ref (ad cp)]) sg q := by
  refine mk_v (by decide) (fun _ => Nat.le_of_ble_eq_true rfl) (fun p e s m args below meth c D cy ad X => ?_)
  have X : CX p s m args meth c cX10_readPrize RX10 3 none D shX cy ad (aw shX ad) := X
  refine r_perm (lv2 := [(0, .ref (ad 41)), (1, .ref (ad cp))]) [0, 1] rfl ?_
  refine r_aload_n X 0 dX10_readPrize_0 rfl rfl ?_
  refine r_ldcS X 0 (by decide) rfl dX10_readPrize_1 ?_
  obtain ⟨q1, hq1, hf⟩ := bd_some hf
  refine r_callVI X (As := [.ref (ad 1000)]) (st := []) (as := fun ad => [.ref (ad 41), .ref (ad 1000)]) (c_Read_isWord (by decide) hq1) rfl yw_X10_isWord yv_X10_isWord ml_RX10_54 o_X_41 rfl rfl ⟨rfl, rfl⟩ ⟨Nat.le_of_ble_eq_true rfl, Nat.le_of_ble_eq_true rfl⟩ rfl rfl (Nat.le_of_ble_eq_true rfl) dX10_readPrize_3 ?_
  refine r_if_ne (tgt := 15) X dX10_readPrize_6 (by decide) (fun hc2 => ?_) (fun hc2 => ?_)
  · have hf := ite_yes hc2 hf
    refine r_aload_n X 0 dX10_readPrize_9 rfl rfl ?_
    refine r_iconst X dX10_readPrize_10 ?_
    obtain ⟨q3, hq3, hf⟩ := bd_some hf
    refine r_callVV X (As := [mI 2]) (st := []) (as := fun ad => [.ref (ad 41), mI 2]) (c_Read_blame hq3) rfl yw_X10_blame yv_X10_blame ml_RX10_58 o_X_41 rfl rfl ⟨rfl, rfl⟩ ⟨Nat.le_of_ble_eq_true rfl, Nat.le_of_ble_eq_true rfl⟩ rfl rfl (Nat.le_of_ble_eq_true rfl) dX10_readPrize_11 ?_
    exact r_vreturn X hf dX10_readPrize_14
  · have hf := ite_no hc2 hf
    refine r_aload_n X 1 dX10_readPrize_15 rfl rfl ?_
    refine r_getI X fl_10_37 (pr_k0 hcp) dX10_readPrize_16 ?_
    refine r_bipush X dX10_readPrize_19 (by decide) ?_
    refine r_icmp_lt (tgt := 30) X dX10_readPrize_21 (by decide) (fun hc4 => ?_) (fun hc4 => ?_)
    · have hf := ite_yes hc4 hf
      refine r_aload_n X 1 dX10_readPrize_30 rfl rfl ?_
      refine r_getI X fl_10_37 (pr_k0 hcp) dX10_readPrize_31 ?_
      refine r_istore_n (lv2 := [(2, mI (q1.2 cp 0)), (0, .ref (ad 41)), (1, .ref (ad cp))]) X dX10_readPrize_34 rfl (by decide) rfl ?_
      refine r_aload_n X 2 dX10_readPrize_35 rfl rfl ?_
      obtain ⟨q6, hq6, hf⟩ := bd_some hf
      refine r_callVV X (As := []) (st := []) (as := fun ad => [.ref (ad cp)]) (c_Prize_addEmpty hcp hq6) rfl yw_X8_addEmpty yv_X8_addEmpty ml_RX10_62 (pr_o hcp) rfl rfl ⟨rfl, rfl⟩ ⟨Nat.le_of_ble_eq_true rfl, Nat.le_of_ble_eq_true rfl⟩ rfl rfl (Nat.le_of_ble_eq_true rfl) dX10_readPrize_36 ?_
      refine r_aload_n X 1 dX10_readPrize_39 rfl rfl ?_
      obtain ⟨q7, hq7, hf⟩ := bd_some hf
      refine r_callVV X (As := []) (st := []) (as := fun ad => [.ref (ad 41)]) (c_Read_step hq7) rfl yw_X10_step yv_X10_step ml_RX10_42 o_X_41 rfl rfl ⟨rfl, rfl⟩ ⟨Nat.le_of_ble_eq_true rfl, Nat.le_of_ble_eq_true rfl⟩ rfl rfl (Nat.le_of_ble_eq_true rfl) dX10_readPrize_40 ?_
      refine r_aload_n X 1 dX10_readPrize_43 rfl rfl ?_
      refine r_aload_n X 2 dX10_readPrize_44 rfl rfl ?_
      refine r_iload_n X 0 dX10_readPrize_45 rfl rfl ?_
      obtain ⟨q8, hq8, hf⟩ := bd_some hf
      refine r_callVV X (As := [.ref (ad cp), mI (q1.2 cp 0)]) (st := []) (as := fun ad => [.ref (ad 41), .ref (ad cp), mI (q1.2 cp 0)]) (c_Read_readWishes hcp hq8) rfl yw_X10_readWishes yv_X10_readWishes ml_RX10_65 o_X_41 rfl rfl ⟨rfl, rfl⟩ ⟨Nat.le_of_ble_eq_true rfl, Nat.le_of_ble_eq_true rfl⟩ rfl rfl (Nat.le_of_ble_eq_true rfl) dX10_readPrize_46 ?_
      refine r_aload_n X 1 dX10_readPrize_49 rfl rfl ?_
      refine r_ldcS X 5 (by decide) rfl dX10_readPrize_50 ?_
      obtain ⟨q9, hq9, hf⟩ := bd_some hf
      refine r_callVV X (As := [.ref (ad 1005)]) (st := []) (as := fun ad => [.ref (ad 41), .ref (ad 1005)]) (c_Read_takeWord (by decide) hq9) rfl yw_X10_takeWord yv_X10_takeWord ml_RX10_71 o_X_41 rfl rfl ⟨rfl, rfl⟩ ⟨Nat.le_of_ble_eq_true rfl, Nat.le_of_ble_eq_true rfl⟩ rfl rfl (Nat.le_of_ble_eq_true rfl) dX10_readPrize_52 ?_
      refine r_aload_n X 2 dX10_readPrize_55 rfl rfl ?_
      refine r_getR X fl_10_75 (pr_k1 hcp) dX10_readPrize_56 ?_
      refine r_iload_n X 0 dX10_readPrize_59 rfl rfl ?_
      refine r_aload_n X 1 dX10_readPrize_60 rfl rfl ?_
      refine r_iconst X dX10_readPrize_61 ?_
      refine r_bipush X dX10_readPrize_62 (by decide) ?_
      obtain ⟨q10, hq10, hf⟩ := bd_some hf
      refine r_callVI X (As := [mI 1, mI 24]) (st := [mI (q1.2 cp 0), .ref (ad (cp + 1))]) (as := fun ad => [.ref (ad 41), mI 1, mI 24]) (c_Read_takeNumber hq10) rfl yw_X10_takeNumber yv_X10_takeNumber ml_RX10_78 o_X_41 rfl rfl ⟨rfl, rfl⟩ ⟨Nat.le_of_ble_eq_true rfl, Nat.le_of_ble_eq_true rfl⟩ rfl rfl (Nat.le_of_ble_eq_true rfl) dX10_readPrize_64 ?_
      obtain ⟨hg11, hf⟩ := gd_some hf
      refine r_iast X (pr_a1 hcp) hg11 dX10_readPrize_67 ?_
      refine r_aload_n X 1 dX10_readPrize_68 rfl rfl ?_
      refine r_getI X fl_10_9 k_X_41_1 dX10_readPrize_69 ?_
      refine r_if_ne (tgt := 95) X dX10_readPrize_72 (by decide) (fun hc13 => ?_) (fun hc13 => ?_)
      · have hf := ite_yes hc13 hf
        refine r_aload_n X 1 dX10_readPrize_75 rfl rfl ?_
        refine r_ldcS X 6 (by decide) rfl dX10_readPrize_76 ?_
        obtain ⟨q14, hq14, hf⟩ := bd_some hf
        refine r_callVI X (As := [.ref (ad 1006)]) (st := []) (as := fun ad => [.ref (ad 41), .ref (ad 1006)]) (c_Read_isWord (by decide) hq14) rfl yw_X10_isWord yv_X10_isWord ml_RX10_54 o_X_41 rfl rfl ⟨rfl, rfl⟩ ⟨Nat.le_of_ble_eq_true rfl, Nat.le_of_ble_eq_true rfl⟩ rfl rfl (Nat.le_of_ble_eq_true rfl) dX10_readPrize_78 ?_
        refine r_if_eq (tgt := 95) X dX10_readPrize_81 (by decide) (fun hc15 => ?_) (fun hc15 => ?_)
        · have hf := ite_yes hc15 hf
          refine r_perm (lv2 := [(0, .ref (ad 41))]) [1] rfl ?_
          exact b_Read_readPrize_95_ok X hcp  hf
        · have hf := ite_no hc15 hf
          refine r_aload_n X 2 dX10_readPrize_84 rfl rfl ?_
          refine r_getR X fl_10_83 (pr_k2 hcp) dX10_readPrize_85 ?_
          refine r_iload_n X 0 dX10_readPrize_88 rfl rfl ?_
          refine r_iconst X dX10_readPrize_89 ?_
          obtain ⟨hg16, hf⟩ := gd_some hf
          refine r_zast X (pr_a2 hcp) hg16 dX10_readPrize_90 ?_
          refine r_aload_n X 1 dX10_readPrize_91 rfl rfl ?_
          obtain ⟨q18, hq18, hf⟩ := bd_some hf
          refine r_callVV X (As := []) (st := []) (as := fun ad => [.ref (ad 41)]) (c_Read_step hq18) rfl yw_X10_step yv_X10_step ml_RX10_42 o_X_41 rfl rfl ⟨rfl, rfl⟩ ⟨Nat.le_of_ble_eq_true rfl, Nat.le_of_ble_eq_true rfl⟩ rfl rfl (Nat.le_of_ble_eq_true rfl) dX10_readPrize_92 ?_
          refine r_perm (lv2 := [(0, .ref (ad 41))]) [1] rfl ?_
          exact b_Read_readPrize_95_ok X hcp  hf
      · have hf := ite_no hc13 hf
        refine r_perm (lv2 := [(0, .ref (ad 41))]) [1] rfl ?_
        exact b_Read_readPrize_95_ok X hcp  hf
    · have hf := ite_no hc4 hf
      refine r_aload_n X 0 dX10_readPrize_24 rfl rfl ?_
      refine r_iconst X dX10_readPrize_25 ?_
      obtain ⟨q5, hq5, hf⟩ := bd_some hf
      refine r_callVV X (As := [mI 3]) (st := []) (as := fun ad => [.ref (ad 41), mI 3]) (c_Read_blame hq5) rfl yw_X10_blame yv_X10_blame ml_RX10_58 o_X_41 rfl rfl ⟨rfl, rfl⟩ ⟨Nat.le_of_ble_eq_true rfl, Nat.le_of_ble_eq_true rfl⟩ rfl rfl (Nat.le_of_ble_eq_true rfl) dX10_readPrize_26 ?_
      exact r_vreturn X hf dX10_readPrize_29
set_option maxRecDepth 100000 in
set_option maxHeartbeats 4000000 in
theorem b_H_given_15_ok {p : Program} {l : Launch} {e : Env} {s : State} {m : MethodId} {args : Array Value} {below : List Frame} {meth : Method} {c : Code} {D : va_G} {cy : Nat → ClassId} {ad : Nat → Nat} (X : CX p s m args meth c cX11_given RX11 4 (some .int) D shX cy ad (aw shX ad)) {F : Nat} {q : Int × St} {sg : St} (hf : b_H_given_15  F  sg  = some q) : GG p l e rm_H_given s m args below meth c (QI D shX cy ad below args s q) D shX cy ad (aw shX ad) 4 15 [(0, .ref (ad 0))] [] sg := by
  refine r_aload_n X 0 dX11_given_15 rfl rfl ?_
  refine r_iconst X dX11_given_16 ?_
  obtain ⟨q1, hq1, hf⟩ := bd_some hf
  refine r_callVI X (As := [mI 1]) (st := []) (as := fun ad => [.ref (ad 0), mI 1]) (c_H_none hq1) rfl yw_X11_none yv_X11_none ml_RX11_100 o_X_0 rfl rfl ⟨rfl, rfl⟩ ⟨Nat.le_of_ble_eq_true rfl, Nat.le_of_ble_eq_true rfl⟩ rfl rfl (Nat.le_of_ble_eq_true rfl) dX11_given_17 ?_
  exact r_ireturn X hf dX11_given_20
set_option maxRecDepth 100000 in
set_option maxHeartbeats 4000000 in
theorem c_H_given {l : Launch} {F : Nat} {sg : St} {x1 x2 x3 : Int} {q : Int × St} (hf : f_H_given F  sg x1 x2 x3 = some q) : MI l shX yX11_given cX11_given 4 (some .int) rm_H_given (fun ad => [.ref (ad 0), mI x1, mI x2, mI x3]) sg q.2 q.1 := by
  refine mk_i (by decide) (fun _ => Nat.le_of_ble_eq_true rfl) (fun p e s m args below meth c D cy ad X => ?_)
  have X : CX p s m args meth c cX11_given RX11 4 (some .int) D shX cy ad (aw shX ad) := X
  refine r_perm (lv2 := [(0, .ref (ad 0)), (1, mI x1), (2, mI x2), (3, mI x3)]) [0, 1, 2, 3] rfl ?_
  refine r_aload_n X 0 dX11_given_0 rfl rfl ?_
  obtain ⟨hp1, hf⟩ := gd_some hf
  refine r_getM X fl_11_82 k_X_0_10 dX11_given_1 ?_
  refine r_iload_n X 1 dX11_given_4 rfl rfl ?_
  obtain ⟨q2, hq2, hf⟩ := bd_some hf
  refine r_callVI X (As := [mI x1]) (st := []) (as := fun ad => [.ref (ad ((sg 0 10).toNat)), mI x1]) (c_Prize_has hp1 hq2) rfl yw_X8_has yv_X8_has ml_RX11_255 (pr_o hp1) rfl rfl ⟨rfl, rfl⟩ ⟨Nat.le_of_ble_eq_true rfl, Nat.le_of_ble_eq_true rfl⟩ rfl rfl (Nat.le_of_ble_eq_true rfl) dX11_given_5 ?_
  refine r_if_eq (tgt := 15) X dX11_given_8 (by decide) (fun hc3 => ?_) (fun hc3 => ?_)
  · have hf := ite_yes hc3 hf
    refine r_perm (lv2 := [(0, .ref (ad 0))]) [0] rfl ?_
    exact b_H_given_15_ok X  hf
  · have hf := ite_no hc3 hf
    refine r_iload_n X 2 dX11_given_11 rfl rfl ?_
    refine r_if_ge (tgt := 21) X dX11_given_12 (by decide) (fun hc4 => ?_) (fun hc4 => ?_)
    · have hf := ite_yes hc4 hf
      refine r_iload_n X 3 dX11_given_21 rfl rfl ?_
      obtain ⟨q5, hq5, hf⟩ := bd_some hf
      refine r_callSI X (As := [mI x3]) (st := []) (as := fun ad => [mI x3]) (c_H_isDay hq5) rfl yw_X11_isDay ys_X11_isDay ml_RX11_181 ⟨rfl, rfl⟩ ⟨Nat.le_of_ble_eq_true rfl, Nat.le_of_ble_eq_true rfl⟩ rfl rfl (Nat.le_of_ble_eq_true rfl) dX11_given_22 ?_
      refine r_if_ne (tgt := 34) X dX11_given_25 (by decide) (fun hc6 => ?_) (fun hc6 => ?_)
      · have hf := ite_yes hc6 hf
        refine r_aload_n X 0 dX11_given_28 rfl rfl ?_
        refine r_iconst X dX11_given_29 ?_
        obtain ⟨q7, hq7, hf⟩ := bd_some hf
        refine r_callVI X (As := [mI 2]) (st := []) (as := fun ad => [.ref (ad 0), mI 2]) (c_H_none hq7) rfl yw_X11_none yv_X11_none ml_RX11_100 o_X_0 rfl rfl ⟨rfl, rfl⟩ ⟨Nat.le_of_ble_eq_true rfl, Nat.le_of_ble_eq_true rfl⟩ rfl rfl (Nat.le_of_ble_eq_true rfl) dX11_given_30 ?_
        exact r_ireturn X hf dX11_given_33
      · have hf := ite_no hc6 hf
        refine r_aload_n X 0 dX11_given_34 rfl rfl ?_
        refine r_getR X fl_11_40 k_X_0_4 dX11_given_35 ?_
        refine r_aload_n X 0 dX11_given_38 rfl rfl ?_
        refine r_getR X fl_11_33 k_X_0_3 dX11_given_39 ?_
        refine r_iload_n X 3 dX11_given_42 rfl rfl ?_
        obtain ⟨q8, hq8, hf⟩ := bd_some hf
        refine r_callVV X (As := [.ref (ad 19), mI x3]) (st := []) (as := fun ad => [.ref (ad 25), .ref (ad 19), mI x3]) (c_Known_lookBack hq8) rfl yw_X5_lookBack yv_X5_lookBack ml_RX11_192 o_X_25 rfl rfl ⟨rfl, rfl⟩ ⟨Nat.le_of_ble_eq_true rfl, Nat.le_of_ble_eq_true rfl⟩ rfl rfl (Nat.le_of_ble_eq_true rfl) dX11_given_43 ?_
        refine r_aload_n X 0 dX11_given_46 rfl rfl ?_
        refine r_getR X fl_11_40 k_X_0_4 dX11_given_47 ?_
        obtain ⟨q9, hq9, hf⟩ := bd_some hf
        refine r_callVI X (As := []) (st := []) (as := fun ad => [.ref (ad 25)]) (c_Known_anyGreat hq9) rfl yw_X5_anyGreat yv_X5_anyGreat ml_RX11_256 o_X_25 rfl rfl ⟨rfl, rfl⟩ ⟨Nat.le_of_ble_eq_true rfl, Nat.le_of_ble_eq_true rfl⟩ rfl rfl (Nat.le_of_ble_eq_true rfl) dX11_given_50 ?_
        refine r_if_eq (tgt := 63) X dX11_given_53 (by decide) (fun hc10 => ?_) (fun hc10 => ?_)
        · have hf := ite_yes hc10 hf
          refine r_aload_n X 0 dX11_given_63 rfl rfl ?_
          refine r_getR X fl_11_47 k_X_0_5 dX11_given_64 ?_
          refine r_aload_n X 0 dX11_given_67 rfl rfl ?_
          refine r_getR X fl_11_40 k_X_0_4 dX11_given_68 ?_
          obtain ⟨q12, hq12, hf⟩ := bd_some hf
          refine r_callVV X (As := [.ref (ad 25)]) (st := []) (as := fun ad => [.ref (ad 29), .ref (ad 25)]) (c_Scale_weighAll hq12) rfl yw_X9_weighAll yv_X9_weighAll ml_RX11_259 o_X_29 rfl rfl ⟨rfl, rfl⟩ ⟨Nat.le_of_ble_eq_true rfl, Nat.le_of_ble_eq_true rfl⟩ rfl rfl (Nat.le_of_ble_eq_true rfl) dX11_given_71 ?_
          refine r_aload_n X 0 dX11_given_74 rfl rfl ?_
          refine r_getR X fl_11_68 k_X_0_8 dX11_given_75 ?_
          refine r_aload_n X 0 dX11_given_78 rfl rfl ?_
          refine r_getR X fl_11_40 k_X_0_4 dX11_given_79 ?_
          refine r_aload_n X 0 dX11_given_82 rfl rfl ?_
          refine r_getR X fl_11_47 k_X_0_5 dX11_given_83 ?_
          obtain ⟨q13, hq13, hf⟩ := bd_some hf
          refine r_callVV X (As := [.ref (ad 25), .ref (ad 29)]) (st := []) (as := fun ad => [.ref (ad 43), .ref (ad 25), .ref (ad 29)]) (c_Giver_rank hq13) rfl yw_X2_rank yv_X2_rank ml_RX11_263 o_X_43 rfl rfl ⟨rfl, rfl⟩ ⟨Nat.le_of_ble_eq_true rfl, Nat.le_of_ble_eq_true rfl⟩ rfl rfl (Nat.le_of_ble_eq_true rfl) dX11_given_86 ?_
          refine r_aload_n X 0 dX11_given_89 rfl rfl ?_
          refine r_getR X fl_11_68 k_X_0_8 dX11_given_90 ?_
          refine r_aload_n X 0 dX11_given_93 rfl rfl ?_
          obtain ⟨hp14, hf⟩ := gd_some hf
          refine r_getM X fl_11_82 k_X_0_10 dX11_given_94 ?_
          refine r_iload_n X 1 dX11_given_97 rfl rfl ?_
          refine r_aload_n X 0 dX11_given_98 rfl rfl ?_
          refine r_getR X fl_11_10 k_X_0_0 dX11_given_99 ?_
          refine r_aload_n X 0 dX11_given_102 rfl rfl ?_
          refine r_getR X fl_11_40 k_X_0_4 dX11_given_103 ?_
          obtain ⟨q15, hq15, hf⟩ := bd_some hf
          refine r_callVV X (As := [.ref (ad ((q13 0 10).toNat)), mI x1, .ref (ad 1), .ref (ad 25)]) (st := []) (as := fun ad => [.ref (ad 43), .ref (ad ((q13 0 10).toNat)), mI x1, .ref (ad 1), .ref (ad 25)]) (c_Giver_give hp14 hq15) rfl yw_X2_give yv_X2_give ml_RX11_267 o_X_43 rfl rfl ⟨rfl, rfl⟩ ⟨Nat.le_of_ble_eq_true rfl, Nat.le_of_ble_eq_true rfl⟩ rfl rfl (Nat.le_of_ble_eq_true rfl) dX11_given_106 ?_
          refine r_iload_n X 2 dX11_given_109 rfl rfl ?_
          refine r_aload_n X 0 dX11_given_110 rfl rfl ?_
          refine r_getR X fl_11_68 k_X_0_8 dX11_given_111 ?_
          refine r_getI X fl_11_271 k_X_43_0 dX11_given_114 ?_
          refine r_icmp_lt (tgt := 126) X dX11_given_117 (by decide) (fun hc16 => ?_) (fun hc16 => ?_)
          · have hf := ite_yes hc16 hf
            refine r_aload_n X 0 dX11_given_126 rfl rfl ?_
            refine r_aload_n X 0 dX11_given_127 rfl rfl ?_
            refine r_getR X fl_11_68 k_X_0_8 dX11_given_128 ?_
            refine r_getR X fl_11_274 k_X_43_1 dX11_given_131 ?_
            refine r_iload_n X 2 dX11_given_134 rfl rfl ?_
            obtain ⟨hg18, hf⟩ := gd_some hf
            refine r_iald X a_X_44 hg18 dX11_given_135 ?_
            obtain ⟨q19, hq19, hf⟩ := bd_some hf
            refine r_callVI X (As := [mI (q15 44 (ix x2))]) (st := []) (as := fun ad => [.ref (ad 0), mI (q15 44 (ix x2))]) (c_H_answer hq19) rfl yw_X11_answer yv_X11_answer ml_RX11_111 o_X_0 rfl rfl ⟨rfl, rfl⟩ ⟨Nat.le_of_ble_eq_true rfl, Nat.le_of_ble_eq_true rfl⟩ rfl rfl (Nat.le_of_ble_eq_true rfl) dX11_given_136 ?_
            exact r_ireturn X hf dX11_given_139
          · have hf := ite_no hc16 hf
            refine r_aload_n X 0 dX11_given_120 rfl rfl ?_
            refine r_iconst X dX11_given_121 ?_
            obtain ⟨q17, hq17, hf⟩ := bd_some hf
            refine r_callVI X (As := [mI 1]) (st := []) (as := fun ad => [.ref (ad 0), mI 1]) (c_H_none hq17) rfl yw_X11_none yv_X11_none ml_RX11_100 o_X_0 rfl rfl ⟨rfl, rfl⟩ ⟨Nat.le_of_ble_eq_true rfl, Nat.le_of_ble_eq_true rfl⟩ rfl rfl (Nat.le_of_ble_eq_true rfl) dX11_given_122 ?_
            exact r_ireturn X hf dX11_given_125
        · have hf := ite_no hc10 hf
          refine r_aload_n X 0 dX11_given_56 rfl rfl ?_
          refine r_bipush X dX11_given_57 (by decide) ?_
          obtain ⟨q11, hq11, hf⟩ := bd_some hf
          refine r_callVI X (As := [mI 9]) (st := []) (as := fun ad => [.ref (ad 0), mI 9]) (c_H_none hq11) rfl yw_X11_none yv_X11_none ml_RX11_100 o_X_0 rfl rfl ⟨rfl, rfl⟩ ⟨Nat.le_of_ble_eq_true rfl, Nat.le_of_ble_eq_true rfl⟩ rfl rfl (Nat.le_of_ble_eq_true rfl) dX11_given_59 ?_
          exact r_ireturn X hf dX11_given_62
    · have hf := ite_no hc4 hf
      refine r_perm (lv2 := [(0, .ref (ad 0))]) [0] rfl ?_
      exact b_H_given_15_ok X  hf
set_option maxRecDepth 100000 in
set_option maxHeartbeats 4000000 in
theorem b_Plan_turnToFirst_12_ok {p : Program} {l : Launch} {e : Env} {s : State} {m : MethodId} {args : Array Value} {below : List Frame} {meth : Method} {c : Code} {D : va_G} {cy : Nat → ClassId} {ad : Nat → Nat} (X : CX p s m args meth c cX7_turnToFirst RX7 3 none D shX cy ad (aw shX ad)) {F : Nat} {kc : St → Int → Int → Option (St)} {k67 : St → Int → Option (St)} {q : St} (hkc : ∀ sg x1 x2, kc sg x1 x2 = some q → GG p l e rm_Plan_turnToFirst s m args below meth c (QV D shX cy ad below args s q) D shX cy ad (aw shX ad) 3 12 [(0, .ref (ad 11)), (1, mI x1), (2, mI x2)] [] sg) (hk67 : ∀ sg x1, k67 sg x1 = some q → GG p l e rm_Plan_turnToFirst s m args below meth c (QV D shX cy ad below args s q) D shX cy ad (aw shX ad) 3 67 [(0, .ref (ad 11)), (1, mI x1)] [] sg) {sg : St} {x1 x2 : Int} (hf : b_Plan_turnToFirst_12  F kc k67 sg x1 x2 = some q) : GG p l e rm_Plan_turnToFirst s m args below meth c (QV D shX cy ad below args s q) D shX cy ad (aw shX ad) 3 12 [(0, .ref (ad 11)), (1, mI x1), (2, mI x2)] [] sg := by
  refine r_iload_n X 2 dX7_turnToFirst_12 rfl rfl ?_
  refine r_aload_n X 0 dX7_turnToFirst_13 rfl rfl ?_
  refine r_getI X fl_7_37 k_X_11_2 dX7_turnToFirst_14 ?_
  refine r_icmp_ge (tgt := 67) X dX7_turnToFirst_17 (by decide) (fun hc1 => ?_) (fun hc1 => ?_)
  · have hf := ite_yes hc1 hf
    refine r_perm (lv2 := [(0, .ref (ad 11)), (1, mI x1)]) [0, 1] rfl ?_
    exact hk67 _ _ hf
  · have hf := ite_no hc1 hf
    refine r_aload_n X 0 dX7_turnToFirst_20 rfl rfl ?_
    refine r_iload_n X 1 dX7_turnToFirst_21 rfl rfl ?_
    refine r_putI X fp_7_55 k_X_11_9 rfl rfl dX7_turnToFirst_22 ?_
    refine r_aload_n X 0 dX7_turnToFirst_25 rfl rfl ?_
    refine r_iload_n X 2 dX7_turnToFirst_26 rfl rfl ?_
    refine r_iconst X dX7_turnToFirst_27 ?_
    refine r_iadd X dX7_turnToFirst_28 ?_
    refine r_putI X fp_7_58 k_X_11_10 rfl rfl dX7_turnToFirst_29 ?_
    refine r_aload_n X 0 dX7_turnToFirst_32 rfl rfl ?_
    refine r_getR X fl_7_15 k_X_11_6 dX7_turnToFirst_33 ?_
    refine r_iload_n X 1 dX7_turnToFirst_36 rfl rfl ?_
    obtain ⟨hg4, hf⟩ := gd_some hf
    refine r_iald X a_X_13 hg4 dX7_turnToFirst_37 ?_
    refine r_aload_n X 0 dX7_turnToFirst_38 rfl rfl ?_
    refine r_getR X fl_7_18 k_X_11_7 dX7_turnToFirst_39 ?_
    refine r_iload_n X 1 dX7_turnToFirst_42 rfl rfl ?_
    obtain ⟨hg5, hf⟩ := gd_some hf
    refine r_iald X a_X_14 hg5 dX7_turnToFirst_43 ?_
    refine r_iconst X dX7_turnToFirst_44 ?_
    refine r_ixor X dX7_turnToFirst_45 ?_
    refine r_iand X dX7_turnToFirst_46 ?_
    refine r_iload_n X 2 dX7_turnToFirst_47 rfl rfl ?_
    refine r_ishr X dX7_turnToFirst_48 ?_
    refine r_iconst X dX7_turnToFirst_49 ?_
    refine r_iand X dX7_turnToFirst_50 ?_
    refine r_iconst X dX7_turnToFirst_51 ?_
    refine r_icmp_ne (tgt := 61) X dX7_turnToFirst_52 (by decide) (fun hc6 => ?_) (fun hc6 => ?_)
    · have hf := ite_yes hc6 hf
      refine r_aload_n X 0 dX7_turnToFirst_55 rfl rfl ?_
      refine r_iload_n X 1 dX7_turnToFirst_56 rfl rfl ?_
      refine r_iload_n X 2 dX7_turnToFirst_57 rfl rfl ?_
      obtain ⟨q7, hq7, hf⟩ := bd_some hf
      refine r_callVV X (As := [mI x1, mI x2]) (st := []) (as := fun ad => [.ref (ad 11), mI x1, mI x2]) (c_Plan_prefer hq7) rfl yw_X7_prefer yv_X7_prefer ml_RX7_70 o_X_11 rfl rfl ⟨rfl, rfl⟩ ⟨Nat.le_of_ble_eq_true rfl, Nat.le_of_ble_eq_true rfl⟩ rfl rfl (Nat.le_of_ble_eq_true rfl) dX7_turnToFirst_58 ?_
      refine r_iinc (lv2 := [(2, mI (x2 + 1)), (0, .ref (ad 11)), (1, mI x1)]) X 2 dX7_turnToFirst_61 rfl (by decide) rfl ?_
      refine r_goto (tgt := 12) X dX7_turnToFirst_64 (by decide) ?_
      refine r_perm (lv2 := [(0, .ref (ad 11)), (1, mI x1), (2, mI (x2 + 1))]) [1, 2, 0] rfl ?_
      exact hkc _ _ _ hf
    · have hf := ite_no hc6 hf
      refine r_iinc (lv2 := [(2, mI (x2 + 1)), (0, .ref (ad 11)), (1, mI x1)]) X 2 dX7_turnToFirst_61 rfl (by decide) rfl ?_
      refine r_goto (tgt := 12) X dX7_turnToFirst_64 (by decide) ?_
      refine r_perm (lv2 := [(0, .ref (ad 11)), (1, mI x1), (2, mI (x2 + 1))]) [1, 2, 0] rfl ?_
      exact hkc _ _ _ hf
set_option maxRecDepth 100000 in
set_option maxHeartbeats 4000000 in
theorem l_Plan_turnToFirst_12_ok {p : Program} {l : Launch} {e : Env} {s : State} {m : MethodId} {args : Array Value} {below : List Frame} {meth : Method} {c : Code} {D : va_G} {cy : Nat → ClassId} {ad : Nat → Nat} (X : CX p s m args meth c cX7_turnToFirst RX7 3 none D shX cy ad (aw shX ad)) {F : Nat} {k67 : St → Int → Option (St)} {q : St} (hk67 : ∀ sg x1, k67 sg x1 = some q → GG p l e rm_Plan_turnToFirst s m args below meth c (QV D shX cy ad below args s q) D shX cy ad (aw shX ad) 3 67 [(0, .ref (ad 11)), (1, mI x1)] [] sg) : ∀ (n : Nat) (sg : St) (x1 x2 : Int), l_Plan_turnToFirst_12  F k67 n sg x1 x2 = some q → GG p l e rm_Plan_turnToFirst s m args below meth c (QV D shX cy ad below args s q) D shX cy ad (aw shX ad) 3 12 [(0, .ref (ad 11)), (1, mI x1), (2, mI x2)] [] sg := by
  intro n
  induction n with
  | zero => intro sg x1 x2 h; cases h
  | succ n ih => exact fun sg x1 x2 h => b_Plan_turnToFirst_12_ok X ih hk67 h
set_option maxRecDepth 100000 in
set_option maxHeartbeats 4000000 in
theorem b_Plan_turnToFirst_2_ok {p : Program} {l : Launch} {e : Env} {s : State} {m : MethodId} {args : Array Value} {below : List Frame} {meth : Method} {c : Code} {D : va_G} {cy : Nat → ClassId} {ad : Nat → Nat} (X : CX p s m args meth c cX7_turnToFirst RX7 3 none D shX cy ad (aw shX ad)) {F : Nat} {kc : St → Int → Option (St)} {k73 : St → Option (St)} {q : St} (hkc : ∀ sg x1, kc sg x1 = some q → GG p l e rm_Plan_turnToFirst s m args below meth c (QV D shX cy ad below args s q) D shX cy ad (aw shX ad) 3 2 [(0, .ref (ad 11)), (1, mI x1)] [] sg) (hk73 : ∀ sg , k73 sg  = some q → GG p l e rm_Plan_turnToFirst s m args below meth c (QV D shX cy ad below args s q) D shX cy ad (aw shX ad) 3 73 [] [] sg) {sg : St} {x1 : Int} (hf : b_Plan_turnToFirst_2  F kc k73 sg x1 = some q) : GG p l e rm_Plan_turnToFirst s m args below meth c (QV D shX cy ad below args s q) D shX cy ad (aw shX ad) 3 2 [(0, .ref (ad 11)), (1, mI x1)] [] sg := by
  refine r_iload_n X 1 dX7_turnToFirst_2 rfl rfl ?_
  refine r_aload_n X 0 dX7_turnToFirst_3 rfl rfl ?_
  refine r_getI X fl_7_33 k_X_11_1 dX7_turnToFirst_4 ?_
  refine r_icmp_ge (tgt := 73) X dX7_turnToFirst_7 (by decide) (fun hc1 => ?_) (fun hc1 => ?_)
  · have hf := ite_yes hc1 hf
    refine r_perm (lv2 := []) [] rfl ?_
    exact hk73 _ hf
  · have hf := ite_no hc1 hf
    refine r_iconst X dX7_turnToFirst_10 ?_
    refine r_istore_n (lv2 := [(2, mI 0), (0, .ref (ad 11)), (1, mI x1)]) X dX7_turnToFirst_11 rfl (by decide) rfl ?_
    refine r_perm (lv2 := [(0, .ref (ad 11)), (1, mI x1), (2, mI 0)]) [1, 2, 0] rfl ?_
    refine l_Plan_turnToFirst_12_ok X ?_ F _ _ _ hf
    · intro s2 x1_3 hf
      refine r_iinc (lv2 := [(1, mI (x1_3 + 1)), (0, .ref (ad 11))]) X 1 dX7_turnToFirst_67 rfl (by decide) rfl ?_
      refine r_goto (tgt := 2) X dX7_turnToFirst_70 (by decide) ?_
      refine r_perm (lv2 := [(0, .ref (ad 11)), (1, mI (x1_3 + 1))]) [1, 0] rfl ?_
      exact hkc _ _ hf
set_option maxRecDepth 100000 in
set_option maxHeartbeats 4000000 in
theorem l_Plan_turnToFirst_2_ok {p : Program} {l : Launch} {e : Env} {s : State} {m : MethodId} {args : Array Value} {below : List Frame} {meth : Method} {c : Code} {D : va_G} {cy : Nat → ClassId} {ad : Nat → Nat} (X : CX p s m args meth c cX7_turnToFirst RX7 3 none D shX cy ad (aw shX ad)) {F : Nat} {k73 : St → Option (St)} {q : St} (hk73 : ∀ sg , k73 sg  = some q → GG p l e rm_Plan_turnToFirst s m args below meth c (QV D shX cy ad below args s q) D shX cy ad (aw shX ad) 3 73 [] [] sg) : ∀ (n : Nat) (sg : St) (x1 : Int), l_Plan_turnToFirst_2  F k73 n sg x1 = some q → GG p l e rm_Plan_turnToFirst s m args below meth c (QV D shX cy ad below args s q) D shX cy ad (aw shX ad) 3 2 [(0, .ref (ad 11)), (1, mI x1)] [] sg := by
  intro n
  induction n with
  | zero => intro sg x1 h; cases h
  | succ n ih => exact fun sg x1 h => b_Plan_turnToFirst_2_ok X ih hk73 h
set_option maxRecDepth 100000 in
set_option maxHeartbeats 4000000 in
theorem c_Plan_turnToFirst {l : Launch} {F : Nat} {sg : St} {q : St} (hf : f_Plan_turnToFirst F  sg  = some q) : MV l shX yX7_turnToFirst cX7_turnToFirst 3 none rm_Plan_turnToFirst (fun ad => [.ref (ad 11)]) sg q := by
  refine mk_v (by decide) (fun _ => Nat.le_of_ble_eq_true rfl) (fun p e s m args below meth c D cy ad X => ?_)
  have X : CX p s m args meth c cX7_turnToFirst RX7 3 none D shX cy ad (aw shX ad) := X
  refine r_perm (lv2 := [(0, .ref (ad 11))]) [0] rfl ?_
  refine r_iconst X dX7_turnToFirst_0 ?_
  refine r_istore_n (lv2 := [(1, mI 0), (0, .ref (ad 11))]) X dX7_turnToFirst_1 rfl (by decide) rfl ?_
  refine r_perm (lv2 := [(0, .ref (ad 11)), (1, mI 0)]) [1, 0] rfl ?_
  refine l_Plan_turnToFirst_2_ok X ?_ F _ _ hf
  · intro s1  hf
    exact r_vreturn X hf dX7_turnToFirst_73
set_option maxRecDepth 100000 in
set_option maxHeartbeats 4000000 in
theorem b_Read_read_37_ok {p : Program} {l : Launch} {e : Env} {s : State} {m : MethodId} {args : Array Value} {below : List Frame} {meth : Method} {c : Code} {D : va_G} {cy : Nat → ClassId} {ad : Nat → Nat} (X : CX p s m args meth c cX10_read RX10 4 none D shX cy ad (aw shX ad)) {cp : Nat} (hcp : PRc cp) {F : Nat} {kc : St → Int → Option (St)} {k68 : St → Option (St)} {q : St} (hkc : ∀ sg x3, kc sg x3 = some q → GG p l e rm_Read_read s m args below meth c (QV D shX cy ad below args s q) D shX cy ad (aw shX ad) 4 37 [(0, .ref (ad 41)), (2, .ref (ad cp)), (3, mI x3)] [] sg) (hk68 : ∀ sg , k68 sg  = some q → GG p l e rm_Read_read s m args below meth c (QV D shX cy ad below args s q) D shX cy ad (aw shX ad) 4 68 [] [] sg) {sg : St} {x3 : Int} (hf : b_Read_read_37 cp F kc k68 sg x3 = some q) : GG p l e rm_Read_read s m args below meth c (QV D shX cy ad below args s q) D shX cy ad (aw shX ad) 4 37 [(0, .ref (ad 41)), (2, .ref (ad cp)), (3, mI x3)] [] sg := by
  refine r_iload_n X 2 dX10_read_37 rfl rfl ?_
  refine r_bipush X dX10_read_38 (by decide) ?_
  refine r_icmp_gt (tgt := 68) X dX10_read_40 (by decide) (fun hc1 => ?_) (fun hc1 => ?_)
  · have hf := ite_yes hc1 hf
    refine r_perm (lv2 := []) [] rfl ?_
    exact hk68 _ hf
  · have hf := ite_no hc1 hf
    refine r_aload_n X 0 dX10_read_43 rfl rfl ?_
    refine r_getI X fl_10_45 k_X_41_5 dX10_read_44 ?_
    refine r_if_eq (tgt := 68) X dX10_read_47 (by decide) (fun hc2 => ?_) (fun hc2 => ?_)
    · have hf := ite_yes hc2 hf
      refine r_perm (lv2 := []) [] rfl ?_
      exact hk68 _ hf
    · have hf := ite_no hc2 hf
      refine r_aload_n X 0 dX10_read_50 rfl rfl ?_
      refine r_getI X fl_10_9 k_X_41_1 dX10_read_51 ?_
      refine r_if_ne (tgt := 68) X dX10_read_54 (by decide) (fun hc3 => ?_) (fun hc3 => ?_)
      · have hf := ite_yes hc3 hf
        refine r_aload_n X 0 dX10_read_57 rfl rfl ?_
        refine r_aload_n X 1 dX10_read_58 rfl rfl ?_
        obtain ⟨q4, hq4, hf⟩ := bd_some hf
        refine r_callVV X (As := [.ref (ad cp)]) (st := []) (as := fun ad => [.ref (ad 41), .ref (ad cp)]) (c_Read_readPrize hcp hq4) rfl yw_X10_readPrize yv_X10_readPrize ml_RX10_48 o_X_41 rfl rfl ⟨rfl, rfl⟩ ⟨Nat.le_of_ble_eq_true rfl, Nat.le_of_ble_eq_true rfl⟩ rfl rfl (Nat.le_of_ble_eq_true rfl) dX10_read_59 ?_
        refine r_iinc (lv2 := [(3, mI (x3 + 1)), (0, .ref (ad 41)), (2, .ref (ad cp))]) X 2 dX10_read_62 rfl (by decide) rfl ?_
        refine r_goto (tgt := 37) X dX10_read_65 (by decide) ?_
        refine r_perm (lv2 := [(0, .ref (ad 41)), (2, .ref (ad cp)), (3, mI (x3 + 1))]) [1, 2, 0] rfl ?_
        exact hkc _ _ hf
      · have hf := ite_no hc3 hf
        refine r_perm (lv2 := []) [] rfl ?_
        exact hk68 _ hf
set_option maxRecDepth 100000 in
set_option maxHeartbeats 4000000 in
theorem l_Read_read_37_ok {p : Program} {l : Launch} {e : Env} {s : State} {m : MethodId} {args : Array Value} {below : List Frame} {meth : Method} {c : Code} {D : va_G} {cy : Nat → ClassId} {ad : Nat → Nat} (X : CX p s m args meth c cX10_read RX10 4 none D shX cy ad (aw shX ad)) {cp : Nat} (hcp : PRc cp) {F : Nat} {k68 : St → Option (St)} {q : St} (hk68 : ∀ sg , k68 sg  = some q → GG p l e rm_Read_read s m args below meth c (QV D shX cy ad below args s q) D shX cy ad (aw shX ad) 4 68 [] [] sg) : ∀ (n : Nat) (sg : St) (x3 : Int), l_Read_read_37 cp F k68 n sg x3 = some q → GG p l e rm_Read_read s m args below meth c (QV D shX cy ad below args s q) D shX cy ad (aw shX ad) 4 37 [(0, .ref (ad 41)), (2, .ref (ad cp)), (3, mI x3)] [] sg := by
  intro n
  induction n with
  | zero => intro sg x3 h; cases h
  | succ n ih => exact fun sg x3 h => b_Read_read_37_ok X hcp ih hk68 h
set_option maxRecDepth 100000 in
set_option maxHeartbeats 4000000 in
theorem c_Read_read {l : Launch} {F : Nat} {cp : Nat} (hcp : PRc cp) {sg : St} {x1 : Int} {q : St} (hf : f_Read_read F cp sg x1 = some q) : MV l shX yX10_read cX10_read 4 none rm_Read_read (fun ad => [.ref (ad 41), mI x1, .ref (ad cp)]) sg q := by
  refine mk_v (by decide) (fun _ => Nat.le_of_ble_eq_true rfl) (fun p e s m args below meth c D cy ad X => ?_)
  have X : CX p s m args meth c cX10_read RX10 4 none D shX cy ad (aw shX ad) := X
  refine r_perm (lv2 := [(0, .ref (ad 41)), (1, mI x1), (2, .ref (ad cp))]) [0, 1, 2] rfl ?_
  refine r_aload_n X 0 dX10_read_0 rfl rfl ?_
  refine r_iconst X dX10_read_1 ?_
  refine r_putI X fp_10_9 k_X_41_1 rfl rfl dX10_read_2 ?_
  refine r_aload_n X 0 dX10_read_5 rfl rfl ?_
  refine r_iconst X dX10_read_6 ?_
  refine r_putI X fp_10_15 k_X_41_2 rfl rfl dX10_read_7 ?_
  refine r_aload_n X 0 dX10_read_10 rfl rfl ?_
  refine r_iload_n X 1 dX10_read_11 rfl rfl ?_
  refine r_sipush X dX10_read_12 (by decide) ?_
  obtain ⟨q3, hq3, hf⟩ := bd_some hf
  refine r_callSI X (As := [mI x1, mI 300]) (st := [.ref (ad 41)]) (as := fun ad => [mI x1, mI 300]) (c_XJ_min hq3) rfl yw_J9_min_7cf53 ys_J9_min_7cf53 ml_RX10_25 ⟨rfl, rfl⟩ ⟨Nat.le_of_ble_eq_true rfl, Nat.le_of_ble_eq_true rfl⟩ rfl rfl (Nat.le_of_ble_eq_true rfl) dX10_read_15 ?_
  refine r_putI X fp_10_31 k_X_41_4 rfl rfl dX10_read_18 ?_
  refine r_aload_n X 0 dX10_read_21 rfl rfl ?_
  refine r_iconst X dX10_read_22 ?_
  refine r_putI X fp_10_34 k_X_41_7 rfl rfl dX10_read_23 ?_
  refine r_aload_n X 2 dX10_read_26 rfl rfl ?_
  refine r_iconst X dX10_read_27 ?_
  refine r_putI X fp_10_37 (pr_k0 hcp) rfl rfl dX10_read_28 ?_
  refine r_aload_n X 0 dX10_read_31 rfl rfl ?_
  obtain ⟨q7, hq7, hf⟩ := bd_some hf
  refine r_callVV X (As := []) (st := []) (as := fun ad => [.ref (ad 41)]) (c_Read_step hq7) rfl yw_X10_step yv_X10_step ml_RX10_42 o_X_41 rfl rfl ⟨rfl, rfl⟩ ⟨Nat.le_of_ble_eq_true rfl, Nat.le_of_ble_eq_true rfl⟩ rfl rfl (Nat.le_of_ble_eq_true rfl) dX10_read_32 ?_
  refine r_iconst X dX10_read_35 ?_
  refine r_istore_n (lv2 := [(3, mI 0), (0, .ref (ad 41)), (1, mI x1), (2, .ref (ad cp))]) X dX10_read_36 rfl (by decide) rfl ?_
  refine r_perm (lv2 := [(0, .ref (ad 41)), (2, .ref (ad cp)), (3, mI 0)]) [1, 3, 0] rfl ?_
  refine l_Read_read_37_ok X hcp ?_ F _ _ hf
  · intro s8  hf
    exact r_vreturn X hf dX10_read_68
set_option maxRecDepth 100000 in
set_option maxHeartbeats 4000000 in
theorem c_H_plan {l : Launch} {F : Nat} {sg : St} {q : Int × St} (hf : f_H_plan F  sg  = some q) : MI l shX yX11_plan cX11_plan 1 (some .int) rm_H_plan (fun ad => [.ref (ad 0)]) sg q.2 q.1 := by
  refine mk_i (by decide) (fun _ => Nat.le_of_ble_eq_true rfl) (fun p e s m args below meth c D cy ad X => ?_)
  have X : CX p s m args meth c cX11_plan RX11 1 (some .int) D shX cy ad (aw shX ad) := X
  refine r_perm (lv2 := [(0, .ref (ad 0))]) [0] rfl ?_
  refine r_aload_n X 0 dX11_plan_0 rfl rfl ?_
  refine r_getR X fl_11_26 k_X_0_2 dX11_plan_1 ?_
  refine r_aload_n X 0 dX11_plan_4 rfl rfl ?_
  refine r_getR X fl_11_10 k_X_0_0 dX11_plan_5 ?_
  refine r_aload_n X 0 dX11_plan_8 rfl rfl ?_
  refine r_getR X fl_11_19 k_X_0_1 dX11_plan_9 ?_
  refine r_aload_n X 0 dX11_plan_12 rfl rfl ?_
  refine r_getI X fl_11_89 k_X_0_12 dX11_plan_13 ?_
  obtain ⟨q1, hq1, hf⟩ := bd_some hf
  refine r_callVV X (As := [.ref (ad 1), .ref (ad 7), mI (sg 0 12)]) (st := []) (as := fun ad => [.ref (ad 11), .ref (ad 1), .ref (ad 7), mI (sg 0 12)]) (c_Plan_begin hq1) rfl yw_X7_begin yv_X7_begin ml_RX11_147 o_X_11 rfl rfl ⟨rfl, rfl⟩ ⟨Nat.le_of_ble_eq_true rfl, Nat.le_of_ble_eq_true rfl⟩ rfl rfl (Nat.le_of_ble_eq_true rfl) dX11_plan_16 ?_
  refine r_aload_n X 0 dX11_plan_19 rfl rfl ?_
  refine r_getR X fl_11_26 k_X_0_2 dX11_plan_20 ?_
  obtain ⟨q2, hq2, hf⟩ := bd_some hf
  refine r_callVV X (As := []) (st := []) (as := fun ad => [.ref (ad 11)]) (c_Plan_giveAllLooks hq2) rfl yw_X7_giveAllLooks yv_X7_giveAllLooks ml_RX11_151 o_X_11 rfl rfl ⟨rfl, rfl⟩ ⟨Nat.le_of_ble_eq_true rfl, Nat.le_of_ble_eq_true rfl⟩ rfl rfl (Nat.le_of_ble_eq_true rfl) dX11_plan_23 ?_
  refine r_aload_n X 0 dX11_plan_26 rfl rfl ?_
  refine r_getR X fl_11_26 k_X_0_2 dX11_plan_27 ?_
  obtain ⟨q3, hq3, hf⟩ := bd_some hf
  refine r_callVV X (As := []) (st := []) (as := fun ad => [.ref (ad 11)]) (c_Plan_turnToFirst hq3) rfl yw_X7_turnToFirst yv_X7_turnToFirst ml_RX11_154 o_X_11 rfl rfl ⟨rfl, rfl⟩ ⟨Nat.le_of_ble_eq_true rfl, Nat.le_of_ble_eq_true rfl⟩ rfl rfl (Nat.le_of_ble_eq_true rfl) dX11_plan_30 ?_
  refine r_aload_n X 0 dX11_plan_33 rfl rfl ?_
  refine r_getR X fl_11_26 k_X_0_2 dX11_plan_34 ?_
  obtain ⟨q4, hq4, hf⟩ := bd_some hf
  refine r_callVV X (As := []) (st := []) (as := fun ad => [.ref (ad 11)]) (c_Plan_findHolding hq4) rfl yw_X7_findHolding yv_X7_findHolding ml_RX11_157 o_X_11 rfl rfl ⟨rfl, rfl⟩ ⟨Nat.le_of_ble_eq_true rfl, Nat.le_of_ble_eq_true rfl⟩ rfl rfl (Nat.le_of_ble_eq_true rfl) dX11_plan_37 ?_
  refine r_aload_n X 0 dX11_plan_40 rfl rfl ?_
  refine r_aload_n X 0 dX11_plan_41 rfl rfl ?_
  refine r_getR X fl_11_26 k_X_0_2 dX11_plan_42 ?_
  obtain ⟨q5, hq5, hf⟩ := bd_some hf
  refine r_callVI X (As := []) (st := [.ref (ad 0)]) (as := fun ad => [.ref (ad 11)]) (c_Plan_lackInAll hq5) rfl yw_X7_lackInAll yv_X7_lackInAll ml_RX11_160 o_X_11 rfl rfl ⟨rfl, rfl⟩ ⟨Nat.le_of_ble_eq_true rfl, Nat.le_of_ble_eq_true rfl⟩ rfl rfl (Nat.le_of_ble_eq_true rfl) dX11_plan_45 ?_
  obtain ⟨q6, hq6, hf⟩ := bd_some hf
  refine r_callVI X (As := [mI q5.1]) (st := []) (as := fun ad => [.ref (ad 0), mI q5.1]) (c_H_answer hq6) rfl yw_X11_answer yv_X11_answer ml_RX11_111 o_X_0 rfl rfl ⟨rfl, rfl⟩ ⟨Nat.le_of_ble_eq_true rfl, Nat.le_of_ble_eq_true rfl⟩ rfl rfl (Nat.le_of_ble_eq_true rfl) dX11_plan_48 ?_
  exact r_ireturn X hf dX11_plan_51
set_option maxRecDepth 100000 in
set_option maxHeartbeats 4000000 in
theorem c_H_prizes {l : Launch} {F : Nat} {sg : St} {x1 : Int} {q : Int × St} (hf : f_H_prizes F  sg x1 = some q) : MI l shX yX11_prizes cX11_prizes 3 (some .int) rm_H_prizes (fun ad => [.ref (ad 0), mI x1]) sg q.2 q.1 := by
  refine mk_i (by decide) (fun _ => Nat.le_of_ble_eq_true rfl) (fun p e s m args below meth c D cy ad X => ?_)
  have X : CX p s m args meth c cX11_prizes RX11 3 (some .int) D shX cy ad (aw shX ad) := X
  refine r_perm (lv2 := [(0, .ref (ad 0)), (1, mI x1)]) [0, 1] rfl ?_
  refine r_iload_n X 1 dX11_prizes_0 rfl rfl ?_
  refine r_iconst X dX11_prizes_1 ?_
  refine r_aload_n X 0 dX11_prizes_2 rfl rfl ?_
  refine r_getR X fl_11_61 k_X_0_7 dX11_prizes_3 ?_
  refine r_getI X fl_11_237 k_X_41_0 dX11_prizes_6 ?_
  obtain ⟨q1, hq1, hf⟩ := bd_some hf
  refine r_callSI X (As := [mI x1, mI 0, mI (sg 41 0)]) (st := []) (as := fun ad => [mI x1, mI 0, mI (sg 41 0)]) (c_H_within hq1) rfl yw_X11_within ys_X11_within ml_RX11_96 ⟨rfl, rfl⟩ ⟨Nat.le_of_ble_eq_true rfl, Nat.le_of_ble_eq_true rfl⟩ rfl rfl (Nat.le_of_ble_eq_true rfl) dX11_prizes_9 ?_
  refine r_if_ne (tgt := 21) X dX11_prizes_12 (by decide) (fun hc2 => ?_) (fun hc2 => ?_)
  · have hf := ite_yes hc2 hf
    refine r_aload_n X 0 dX11_prizes_15 rfl rfl ?_
    refine r_iconst X dX11_prizes_16 ?_
    obtain ⟨q3, hq3, hf⟩ := bd_some hf
    refine r_callVI X (As := [mI 2]) (st := []) (as := fun ad => [.ref (ad 0), mI 2]) (c_H_none hq3) rfl yw_X11_none yv_X11_none ml_RX11_100 o_X_0 rfl rfl ⟨rfl, rfl⟩ ⟨Nat.le_of_ble_eq_true rfl, Nat.le_of_ble_eq_true rfl⟩ rfl rfl (Nat.le_of_ble_eq_true rfl) dX11_prizes_17 ?_
    exact r_ireturn X hf dX11_prizes_20
  · have hf := ite_no hc2 hf
    refine r_aload_n X 0 dX11_prizes_21 rfl rfl ?_
    refine r_getR X fl_11_61 k_X_0_7 dX11_prizes_22 ?_
    refine r_iload_n X 1 dX11_prizes_25 rfl rfl ?_
    refine r_aload_n X 0 dX11_prizes_26 rfl rfl ?_
    obtain ⟨hp4, hf⟩ := gd_some hf
    refine r_getM X fl_11_86 k_X_0_11 dX11_prizes_27 ?_
    obtain ⟨q5, hq5, hf⟩ := bd_some hf
    refine r_callVV X (As := [mI x1, .ref (ad ((q1.2 0 11).toNat))]) (st := []) (as := fun ad => [.ref (ad 41), mI x1, .ref (ad ((q1.2 0 11).toNat))]) (c_Read_read hp4 hq5) rfl yw_X10_read yv_X10_read ml_RX11_244 o_X_41 rfl rfl ⟨rfl, rfl⟩ ⟨Nat.le_of_ble_eq_true rfl, Nat.le_of_ble_eq_true rfl⟩ rfl rfl (Nat.le_of_ble_eq_true rfl) dX11_prizes_30 ?_
    refine r_aload_n X 0 dX11_prizes_33 rfl rfl ?_
    refine r_getR X fl_11_61 k_X_0_7 dX11_prizes_34 ?_
    refine r_iconst X dX11_prizes_37 ?_
    refine r_putI X fp_11_237 k_X_41_0 rfl rfl dX11_prizes_38 ?_
    refine r_aload_n X 0 dX11_prizes_41 rfl rfl ?_
    refine r_getR X fl_11_61 k_X_0_7 dX11_prizes_42 ?_
    refine r_getI X fl_11_248 k_X_41_1 dX11_prizes_45 ?_
    refine r_if_eq (tgt := 58) X dX11_prizes_48 (by decide) (fun hc7 => ?_) (fun hc7 => ?_)
    · have hf := ite_yes hc7 hf
      refine r_aload_n X 0 dX11_prizes_58 rfl rfl ?_
      obtain ⟨hp9, hf⟩ := gd_some hf
      refine r_getM X fl_11_82 k_X_0_10 dX11_prizes_59 ?_
      refine r_astore_n (lv2 := [(2, .ref (ad (((put q5 41 0 0) 0 10).toNat))), (0, .ref (ad 0)), (1, mI x1)]) X dX11_prizes_62 rfl (by decide) rfl ?_
      refine r_aload_n X 1 dX11_prizes_63 rfl rfl ?_
      refine r_aload_n X 1 dX11_prizes_64 rfl rfl ?_
      obtain ⟨hp10, hf⟩ := gd_some hf
      refine r_getM X fl_11_86 k_X_0_11 dX11_prizes_65 ?_
      refine r_putM (v := (((put q5 41 0 0) 0 11).toNat)) X fp_11_82 k_X_0_10 rfl rfl dX11_prizes_68 ?_
      refine r_aload_n X 1 dX11_prizes_71 rfl rfl ?_
      refine r_aload_n X 0 dX11_prizes_72 rfl rfl ?_
      refine r_putM (v := (((put q5 41 0 0) 0 10).toNat)) X fp_11_86 k_X_0_11 rfl rfl dX11_prizes_73 ?_
      refine r_aload_n X 1 dX11_prizes_76 rfl rfl ?_
      refine r_aload_n X 1 dX11_prizes_77 rfl rfl ?_
      obtain ⟨hp13, hf⟩ := gd_some hf
      refine r_getM X fl_11_82 k_X_0_10 dX11_prizes_78 ?_
      refine r_getI X fl_11_251 (pr_k0 hp13) dX11_prizes_81 ?_
      obtain ⟨q14, hq14, hf⟩ := bd_some hf
      refine r_callVI X (As := [mI ((put (put (put q5 41 0 0) 0 10 (((((put q5 41 0 0) 0 11).toNat) : Nat) : Int)) 0 11 (((((put q5 41 0 0) 0 10).toNat) : Nat) : Int)) (((put (put (put q5 41 0 0) 0 10 (((((put q5 41 0 0) 0 11).toNat) : Nat) : Int)) 0 11 (((((put q5 41 0 0) 0 10).toNat) : Nat) : Int)) 0 10).toNat) 0)]) (st := []) (as := fun ad => [.ref (ad 0), mI ((put (put (put q5 41 0 0) 0 10 (((((put q5 41 0 0) 0 11).toNat) : Nat) : Int)) 0 11 (((((put q5 41 0 0) 0 10).toNat) : Nat) : Int)) (((put (put (put q5 41 0 0) 0 10 (((((put q5 41 0 0) 0 11).toNat) : Nat) : Int)) 0 11 (((((put q5 41 0 0) 0 10).toNat) : Nat) : Int)) 0 10).toNat) 0)]) (c_H_answer hq14) rfl yw_X11_answer yv_X11_answer ml_RX11_111 o_X_0 rfl rfl ⟨rfl, rfl⟩ ⟨Nat.le_of_ble_eq_true rfl, Nat.le_of_ble_eq_true rfl⟩ rfl rfl (Nat.le_of_ble_eq_true rfl) dX11_prizes_84 ?_
      exact r_ireturn X hf dX11_prizes_87
    · have hf := ite_no hc7 hf
      refine r_aload_n X 0 dX11_prizes_51 rfl rfl ?_
      refine r_bipush X dX11_prizes_52 (by decide) ?_
      obtain ⟨q8, hq8, hf⟩ := bd_some hf
      refine r_callVI X (As := [mI 7]) (st := []) (as := fun ad => [.ref (ad 0), mI 7]) (c_H_none hq8) rfl yw_X11_none yv_X11_none ml_RX11_100 o_X_0 rfl rfl ⟨rfl, rfl⟩ ⟨Nat.le_of_ble_eq_true rfl, Nat.le_of_ble_eq_true rfl⟩ rfl rfl (Nat.le_of_ble_eq_true rfl) dX11_prizes_54 ?_
      exact r_ireturn X hf dX11_prizes_57
