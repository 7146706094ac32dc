theorem law_end {p : Program} {l : Launch} {e : Env} {s : State} {m : MethodId} {below : List Frame} {meth : Method} {c : Code} {D : va_G} {cy : Nat → ClassId} {ax am : Nat → Nat} {b L : Nat} {xs : Nat → Int32} (X : LX p s m meth c D cy ax am b L xs) (hL : L ≤ 3072) {n : Nat} (hn : n ≤ L + 6) (hx : L < n + 6) {sx sm : St} : GL p l e s m below meth c D cy ax am b 18 [(0, .ref b), (1, .ref (ax 0)), (2, .ref (am 0)), (3, mI (n : Int))] [] sx sm := by
  refine g_iload_n X 3 dL_law_18 rfl rfl ?_
  refine g_aload_n X 0 dL_law_19 rfl rfl ?_
  refine g_slen X dL_law_20 ?_
  refine g_bipush X dL_law_21 (by decide) ?_
  refine g_isub X dL_law_23 ?_
  have e1 : w32 (n : Int) = n := w32_nat (by omega)
  have e2 : w32 ((L : Int) - 6) = (L : Int) - 6 := w32_id ⟨by omega, by omega⟩
  refine g_icmp_gt (tgt := 937) X dL_law_24 (by decide) (fun _ => ?_) (fun h9 => absurd (by omega) h9)
  refine g_iconst X dL_law_937 ?_
  intro H locs ls hX hM hS hl
  refine va_forget (fun q hq => hS.2.2 q hq) ?_
  exact lw_ret X.1 X.2.1 X.2.2.2.2.2.2.2.2.2.2.2.2.2.2.2.1 X.2.2.2.2.2.2.2.2.2.2.2.2.2.2.2.2 dL_law_938
set_option maxRecDepth 100000 in
set_option maxHeartbeats 4000000 in
theorem law_loop {p : Program} {l : Launch} {e : Env} {s : State} {m : MethodId} {below : List Frame} {meth : Method} {c : Code} {D : va_G} {cy : Nat → ClassId} {ax am : Nat → Nat} {b L : Nat} {xs : Nat → Int32} (X : LX p s m meth c D cy ax am b L xs) (hL : L ≤ 3072) {F : Nat} {INV : St → St → Prop} (h_status : st_status F INV) (h_board : st_board F INV) (h_judge : st_judge F INV) (h_told : st_told F INV) (h_may : st_may F INV) (h_looks : st_looks F INV) (h_plan : st_plan F INV) (h_sees : st_sees F INV) (h_holds : st_holds F INV) (h_mark : st_mark F INV) (h_lose : st_lose F INV) (h_seen : st_seen F INV) (h_heap : st_heap F INV) (h_hardness : st_hardness F INV) (h_fair : st_fair F INV) (h_upper : st_upper F INV) (h_lower : st_lower F INV) (h_feed : st_feed F INV) (h_prizes : st_prizes F INV) (h_fault : st_fault F INV) (h_given : st_given F INV) (h_hall : st_hall F INV) (h_clear : st_clear F INV) (h_laid : st_laid F INV) (h_tries : st_tries F INV) : ∀ (k n : Nat), n ≤ L + 6 → L < n + 6 * k + 6 → ∀ sx sm, INV sx sm → GL p l e s m below meth c D cy ax am b 18 [(0, .ref b), (1, .ref (ax 0)), (2, .ref (am 0)), (3, mI (n : Int))] [] sx sm := by
  intro k
  induction k with
  | zero =>
    intro n hn h0 sx sm hI
    exact law_end X hL hn (by omega) 
  | succ k ih =>
    intro n hn h0 sx sm hI
    by_cases hx : L < n + 6
    · exact law_end X hL hn hx
    have hk : ∀ sx sm, INV sx sm → GL p l e s m below meth c D cy ax am b 931 [(0, .ref b), (1, .ref (ax 0)), (2, .ref (am 0)), (3, mI (n : Int))] [] sx sm := by
      intro sx sm hI
      refine g_iinc (lv2 := [(3, mI ((n : Int) + 6)), (0, .ref b), (1, .ref (ax 0)), (2, .ref (am 0))]) X 3 dL_law_931 rfl (by decide) rfl ?_
      refine g_goto (tgt := 18) X dL_law_934 (by decide) ?_
      refine g_perm (lv2 := [(0, .ref b), (1, .ref (ax 0)), (2, .ref (am 0)), (3, mI (((n + 6 : Nat)) : Int))]) X [1, 2, 3, 0] (by rw [show (((n + 6 : Nat)) : Int) = (n : Int) + 6 by omega]; rfl) ?_
      exact ih (n + 6) (by omega) (by omega) sx sm hI
    refine g_iload_n X 3 dL_law_18 rfl rfl ?_
    refine g_aload_n X 0 dL_law_19 rfl rfl ?_
    refine g_slen X dL_law_20 ?_
    refine g_bipush X dL_law_21 (by decide) ?_
    refine g_isub X dL_law_23 ?_
    have e1 : w32 (n : Int) = n := w32_nat (by omega)
    have e2 : w32 ((L : Int) - 6) = (L : Int) - 6 := w32_id ⟨by omega, by omega⟩
    refine g_icmp_gt (tgt := 937) X dL_law_24 (by decide) (fun h9 => absurd h9 (by omega)) (fun _ => ?_)
    refine g_aload_n X 0 dL_law_27 rfl rfl ?_
    refine g_iload_n X 3 dL_law_28 rfl rfl ?_
    refine g_sld (n := n) X e1 (by omega) dL_law_29 ?_
    refine g_bipush X dL_law_30 (by decide) ?_
    refine g_iand X dL_law_32 ?_
    generalize andI (xs n).toInt 31 = z
    by_cases h0 : w32 z = 0
    · exact g_tableIn (tgt := 148) X dL_law_33 h0 (by decide) (by decide) rfl (by decide) (case_status X hL h_status (by omega) hk hI)
    by_cases h1 : w32 z = 1
    · exact g_tableIn (tgt := 161) X dL_law_33 h1 (by decide) (by decide) rfl (by decide) (case_board X hL h_board (by omega) hk hI)
    by_cases h2 : w32 z = 2
    · exact g_tableIn (tgt := 240) X dL_law_33 h2 (by decide) (by decide) rfl (by decide) (case_judge X hL h_judge (by omega) hk hI)
    by_cases h3 : w32 z = 3
    · exact g_tableIn (tgt := 283) X dL_law_33 h3 (by decide) (by decide) rfl (by decide) (case_told X hL h_told (by omega) hk hI)
    by_cases h4 : w32 z = 4
    · exact g_tableIn (tgt := 316) X dL_law_33 h4 (by decide) (by decide) rfl (by decide) (case_may X hL h_may (by omega) hk hI)
    by_cases h5 : w32 z = 5
    · exact g_tableIn (tgt := 349) X dL_law_33 h5 (by decide) (by decide) rfl (by decide) (case_looks X hL h_looks (by omega) hk hI)
    by_cases h6 : w32 z = 6
    · exact g_tableIn (tgt := 372) X dL_law_33 h6 (by decide) (by decide) rfl (by decide) (case_plan X hL h_plan (by omega) hk hI)
    by_cases h7 : w32 z = 7
    · exact g_tableIn (tgt := 385) X dL_law_33 h7 (by decide) (by decide) rfl (by decide) (case_sees X hL h_sees (by omega) hk hI)
    by_cases h8 : w32 z = 8
    · exact g_tableIn (tgt := 418) X dL_law_33 h8 (by decide) (by decide) rfl (by decide) (case_holds X hL h_holds (by omega) hk hI)
    by_cases h9 : w32 z = 9
    · exact g_tableIn (tgt := 441) X dL_law_33 h9 (by decide) (by decide) rfl (by decide) (case_mark X hL h_mark (by omega) hk hI)
    by_cases h10 : w32 z = 10
    · exact g_tableIn (tgt := 494) X dL_law_33 h10 (by decide) (by decide) rfl (by decide) (case_lose X hL h_lose (by omega) hk hI)
    by_cases h11 : w32 z = 11
    · exact g_tableIn (tgt := 527) X dL_law_33 h11 (by decide) (by decide) rfl (by decide) (case_seen X hL h_seen (by omega) hk hI)
    by_cases h12 : w32 z = 12
    · exact g_tableIn (tgt := 560) X dL_law_33 h12 (by decide) (by decide) rfl (by decide) (case_heap X hL h_heap (by omega) hk hI)
    by_cases h13 : w32 z = 13
    · exact g_tableIn (tgt := 593) X dL_law_33 h13 (by decide) (by decide) rfl (by decide) (case_hardness X hL h_hardness (by omega) hk hI)
    by_cases h14 : w32 z = 14
    · exact g_tableIn (tgt := 626) X dL_law_33 h14 (by decide) (by decide) rfl (by decide) (case_fair X hL h_fair (by omega) hk hI)
    by_cases h15 : w32 z = 15
    · exact g_tableIn (tgt := 659) X dL_law_33 h15 (by decide) (by decide) rfl (by decide) (case_upper X hL h_upper (by omega) hk hI)
    by_cases h16 : w32 z = 16
    · exact g_tableIn (tgt := 673) X dL_law_33 h16 (by decide) (by decide) rfl (by decide) (case_lower X hL h_lower (by omega) hk hI)
    by_cases h17 : w32 z = 17
    · exact g_tableIn (tgt := 687) X dL_law_33 h17 (by decide) (by decide) rfl (by decide) (case_feed X hL h_feed (by omega) hk hI)
    by_cases h18 : w32 z = 18
    · exact g_tableIn (tgt := 750) X dL_law_33 h18 (by decide) (by decide) rfl (by decide) (case_prizes X hL h_prizes (by omega) hk hI)
    by_cases h19 : w32 z = 19
    · exact g_tableIn (tgt := 773) X dL_law_33 h19 (by decide) (by decide) rfl (by decide) (case_fault X hL h_fault (by omega) hk hI)
    by_cases h20 : w32 z = 20
    · exact g_tableIn (tgt := 796) X dL_law_33 h20 (by decide) (by decide) rfl (by decide) (case_given X hL h_given (by omega) hk hI)
    by_cases h21 : w32 z = 21
    · exact g_tableIn (tgt := 839) X dL_law_33 h21 (by decide) (by decide) rfl (by decide) (case_hall X hL h_hall (by omega) hk hI)
    by_cases h22 : w32 z = 22
    · exact g_tableIn (tgt := 882) X dL_law_33 h22 (by decide) (by decide) rfl (by decide) (case_clear X hL h_clear (by omega) hk hI)
    by_cases h23 : w32 z = 23
    · exact g_tableIn (tgt := 895) X dL_law_33 h23 (by decide) (by decide) rfl (by decide) (case_laid X hL h_laid (by omega) hk hI)
    by_cases h24 : w32 z = 24
    · exact g_tableIn (tgt := 918) X dL_law_33 h24 (by decide) (by decide) rfl (by decide) (case_tries X hL h_tries (by omega) hk hI)
    exact g_tableOut (tgt := 931) X dL_law_33 (by have h9 := w32_bd z; omega) (by decide) (hk sx sm hI)
