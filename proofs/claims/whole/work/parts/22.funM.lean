def rm_MJ_floorDiv : Room := { frames := 0, cells := 0, slots := 0, locals := 0 }
def f_MJ_floorDiv (sg : St) (x0 x2 : Int) : Option (Int × St) := gd (¬ w64 x2 = 0) (if w64 0 ≤ w64 (xorL x0 x2) then some (divL x0 x2, sg) else if w64 ((divL x0 x2) * x2) = w64 x0 then some (divL x0 x2, sg) else some ((divL x0 x2) - 1, sg))
def rm_MJ_floorMod : Room := { frames := 0, cells := 0, slots := 0, locals := 0 }
def f_MJ_floorMod (sg : St) (x0 x2 : Int) : Option (Int × St) := gd (¬ w64 x2 = 0) (if w64 0 ≤ w64 (xorL x0 x2) then some (remL x0 x2, sg) else if w64 (remL x0 x2) = w64 0 then some (remL x0 x2, sg) else some ((remL x0 x2) + x2, sg))
def rm_MJ_abs : Room := { frames := 0, cells := 0, slots := 0, locals := 0 }
def f_MJ_abs (sg : St) (x0 : Int) : Option (Int × St) := if w64 0 ≤ w64 x0 then some (x0, sg) else some (-x0, sg)
def rm_MJ_max : Room := { frames := 0, cells := 0, slots := 0, locals := 0 }
def f_MJ_max (sg : St) (x0 x1 : Int) : Option (Int × St) := if w32 x0 < w32 x1 then some (x1, sg) else some (x0, sg)
def rm_MJ_min : Room := { frames := 0, cells := 0, slots := 0, locals := 0 }
def f_MJ_min (sg : St) (x0 x1 : Int) : Option (Int × St) := if w32 x1 < w32 x0 then some (x1, sg) else some (x0, sg)
def rm_M_status : Room := { frames := 0, cells := 0, slots := 0, locals := 0 }
def f_M_status (sg : St) : Option (Int × St) := let s1 := put sg 0 1 0; some (s1 0 0, s1)
def rm_M_refuse : Room := { frames := 0, cells := 0, slots := 0, locals := 0 }
def f_M_refuse (sg : St) (x1 : Int) : Option (Int × St) := let s1 := put sg 0 0 x1; some ((-1), s1)
def rm_M_no : Room := { frames := 0, cells := 0, slots := 0, locals := 0 }
def f_M_no (sg : St) (x1 : Int) : Option (Int × St) := let s1 := put sg 0 0 x1; some (0, s1)
def rm_M_board : Room := { frames := 1, cells := 0, slots := 0, locals := 21 }
def b_M_board_51 (F : Nat) (sg : St) : Option (Int × St) := (f_M_refuse sg 2).bind fun q1 => some (q1.1, q1.2)
def f_M_board (sg : St) (x1 x2 x3 x4 x5 : Int) : Option (Int × St) := let s1 := put sg 0 1 0; let s2 := put s1 0 0 0; if w32 x1 < 0 then b_M_board_51 0 s2 else if w32 7 < w32 x1 then b_M_board_51 0 s2 else if w32 x2 < 0 then b_M_board_51 0 s2 else if w32 3 < w32 x2 then b_M_board_51 0 s2 else if w32 x3 < 0 then b_M_board_51 0 s2 else if w32 15 < w32 x3 then b_M_board_51 0 s2 else if w32 x4 < 0 then b_M_board_51 0 s2 else if w32 x4 ≤ w32 99 then if w32 (s2 0 4) = w32 24 then (f_M_refuse s2 3).bind fun q12 => some (q12.1, q12.2) else gd (inb (s2 0 4) 24) (let s14 := put s2 1 (ix (s2 0 4)) x1; gd (inb (s14 0 4) 24) (let s16 := put s14 2 (ix (s14 0 4)) x2; gd (inb (s16 0 4) 24) (let s18 := put s16 3 (ix (s16 0 4)) x3; gd (inb (s18 0 4) 24) (let s20 := put s18 4 (ix (s18 0 4)) x4; gd (inb (s20 0 4) 24) (let s22 := put s20 8 (ix (s20 0 4)) (nz x5); let s23 := put s22 0 4 ((s22 0 4) + 1); some ((s23 0 4) - 1, s23)))))) else b_M_board_51 0 s2 
def rm_M_judge : Room := { frames := 1, cells := 0, slots := 0, locals := 21 }
def b_M_judge_42 (F : Nat) (sg : St) : Option (Int × St) := (f_M_refuse sg 2).bind fun q1 => some (q1.1, q1.2)
def f_M_judge (sg : St) (x1 x2 x3 : Int) : Option (Int × St) := let s1 := put sg 0 1 0; let s2 := put s1 0 0 0; if w32 x1 < 0 then b_M_judge_42 0 s2 else if w32 255 < w32 x1 then b_M_judge_42 0 s2 else if w32 x2 < w32 (-1) then b_M_judge_42 0 s2 else if w32 15 < w32 x2 then b_M_judge_42 0 s2 else if w32 x3 < 0 then b_M_judge_42 0 s2 else if w32 x3 ≤ w32 24 then if w32 (s2 0 5) = w32 12 then (f_M_refuse s2 3).bind fun q10 => some (q10.1, q10.2) else gd (inb (s2 0 5) 12) (let s12 := put s2 5 (ix (s2 0 5)) x1; gd (inb (s12 0 5) 12) (let s14 := put s12 6 (ix (s12 0 5)) x2; gd (inb (s14 0 5) 12) (let s16 := put s14 7 (ix (s14 0 5)) x3; let s17 := put s16 0 5 ((s16 0 5) + 1); some ((s17 0 5) - 1, s17)))) else b_M_judge_42 0 s2 
def rm_M_isBoard : Room := { frames := 0, cells := 0, slots := 0, locals := 0 }
def f_M_isBoard (sg : St) (x1 : Int) : Option (Int × St) := if w32 x1 < 0 then some (0, sg) else if w32 (sg 0 4) ≤ w32 x1 then some (0, sg) else some (1, sg)
def rm_M_isJudge : Room := { frames := 0, cells := 0, slots := 0, locals := 0 }
def f_M_isJudge (sg : St) (x1 : Int) : Option (Int × St) := if w32 x1 < 0 then some (0, sg) else if w32 (sg 0 5) ≤ w32 x1 then some (0, sg) else some (1, sg)
def rm_M_mayOf : Room := { frames := 0, cells := 0, slots := 0, locals := 0 }
def f_M_mayOf (sg : St) (x1 x2 : Int) : Option (Int × St) := gd (inb x1 12) (gd (inb x2 24) (if w32 (andI (shrI (sg 5 (ix x1)) (sg 1 (ix x2))) 1) = w32 1 then gd (inb x1 12) (gd (inb x2 24) (if w32 (sg 6 (ix x1)) = w32 (sg 3 (ix x2)) then some (0, sg) else some (1, sg))) else some (0, sg)))
def rm_M_told : Room := { frames := 1, cells := 0, slots := 0, locals := 22 }
def b_M_told_112 (F : Nat) (kc : St → Int → Int → Int → Option (Int × St)) (k145 : St → Int → Option (Int × St)) (sg : St) (x1 x3 x4 : Int) : Option (Int × St) := if w32 (sg 0 5) ≤ w32 x4 then k145 sg x3 else (f_M_mayOf sg x4 x1).bind fun q2 => if w32 q2.1 = 0 then kc q2.2 x1 (x3 + 0) (x4 + 1) else kc q2.2 x1 (x3 + 1) (x4 + 1)
def l_M_told_112 (F : Nat) (k145 : St → Int → Option (Int × St)) : Nat → St → Int → Int → Int → Option (Int × St)
  | 0 => fun _ _ _ _ => none
  | n + 1 => b_M_told_112  F (l_M_told_112  F k145 n) k145
def f_M_told (F : Nat) (sg : St) (x1 x2 : Int) : Option (Int × St) := let s1 := put sg 0 1 0; let s2 := put s1 0 0 0; (f_M_isBoard s2 x1).bind fun q3 => if w32 q3.1 = 0 then (f_M_refuse q3.2 1).bind fun q5 => some (q5.1, q5.2) else if w32 x2 = 0 then gd (inb x1 24) (some (q3.2 1 (ix x1), q3.2)) else if w32 x2 = 1 then gd (inb x1 24) (some (q3.2 2 (ix x1), q3.2)) else if w32 x2 = 2 then gd (inb x1 24) (some (q3.2 3 (ix x1), q3.2)) else if w32 x2 = 3 then gd (inb x1 24) (some (q3.2 4 (ix x1), q3.2)) else if w32 x2 = 4 then gd (inb x1 24) (if w32 (q3.2 8 (ix x1)) = 0 then some (0, q3.2) else some (1, q3.2)) else if w32 x2 = 5 then l_M_told_112 F (fun s7 x3_8 => some (x3_8, s7)) F q3.2 x1 0 0 else (f_M_refuse q3.2 2).bind fun q6 => some (q6.1, q6.2)
def rm_M_may : Room := { frames := 1, cells := 0, slots := 0, locals := 22 }
def b_M_may_26 (F : Nat) (sg : St) : Option (Int × St) := (f_M_refuse sg 1).bind fun q1 => some (q1.1, q1.2)
def f_M_may (sg : St) (x1 x2 : Int) : Option (Int × St) := let s1 := put sg 0 1 0; let s2 := put s1 0 0 0; (f_M_isJudge s2 x1).bind fun q3 => if w32 q3.1 = 0 then b_M_may_26 0 q3.2 else (f_M_isBoard q3.2 x2).bind fun q5 => if w32 q5.1 = 0 then b_M_may_26 0 q5.2 else (f_M_mayOf q5.2 x1 x2).bind fun q7 => if w32 q7.1 = 0 then some (0, q7.2) else some (1, q7.2)
def rm_M_looks : Room := { frames := 1, cells := 0, slots := 0, locals := 21 }
def b_M_looks_20 (F : Nat) (sg : St) : Option (Int × St) := (f_M_no sg 2).bind fun q1 => gd (w32 q1.1 = 0 ∨ w32 q1.1 = 1) (some (q1.1, q1.2))
def f_M_looks (sg : St) (x1 : Int) : Option (Int × St) := let s1 := put sg 0 1 0; let s2 := put s1 0 0 0; if w32 x1 < w32 1 then b_M_looks_20 0 s2 else if w32 x1 ≤ w32 4 then let s5 := put s2 0 6 x1; some (1, s5) else b_M_looks_20 0 s2 
def rm_M_at : Room := { frames := 0, cells := 0, slots := 0, locals := 0 }
def f_M_at (sg : St) (x0 x1 : Int) : Option (Int × St) := some ((12 * x0) + x1, sg)
def rm_M_isFree : Room := { frames := 1, cells := 0, slots := 0, locals := 22 }
def f_M_isFree (sg : St) (x1 x2 : Int) : Option (Int × St) := (f_M_mayOf sg x2 x1).bind fun q1 => if w32 q1.1 = 0 then some (0, q1.2) else (f_M_at q1.2 x1 x2).bind fun q3 => gd (inb q3.1 288) (if w32 (q3.2 14 (ix q3.1)) = 0 then some (1, q3.2) else some (0, q3.2))
def rm_M_turns : Room := { frames := 1, cells := 0, slots := 0, locals := 21 }
def b_M_turns_12 (F : Nat) (kc : St → Int → Option (St)) (k65 : St → Option (St)) (sg : St) (x2 : Int) : Option (St) := if w32 x2 < 0 then k65 sg  else gd (inb x2 12) ((f_M_at sg (sg 17 (ix x2)) x2).bind fun q3 => gd (inb q3.1 288) (let s5 := put q3.2 10 (ix q3.1) (nz 1); gd (inb (sg 17 (ix x2)) 24) (if w32 (s5 19 (ix (sg 17 (ix x2)))) < 0 then kc s5 (s5 19 (ix (sg 17 (ix x2)))) else (f_M_at s5 (sg 17 (ix x2)) (s5 19 (ix (sg 17 (ix x2))))).bind fun q8 => gd (inb q8.1 288) (let s10 := put q8.2 10 (ix q8.1) (nz 0); kc s10 (s5 19 (ix (sg 17 (ix x2))))))))
def l_M_turns_12 (F : Nat) (k65 : St → Option (St)) : Nat → St → Int → Option (St)
  | 0 => fun _ _ => none
  | n + 1 => b_M_turns_12  F (l_M_turns_12  F k65 n) k65
def f_M_turns (F : Nat) (sg : St) (x1 : Int) : Option (St) := gd (inb x1 12) (gd (inb x1 12) (let s3 := put sg 16 (ix x1) ((sg 16 (ix x1)) + 1); l_M_turns_12 F (fun s4 => some s4) F s3 x1))
def rm_M_sees : Room := { frames := 1, cells := 0, slots := 0, locals := 21 }
def b_M_sees_47 (F : Nat) (sg : St) : Option (Int × St) := (f_M_refuse sg 1).bind fun q1 => some (q1.1, q1.2)
def f_M_sees (sg : St) (x1 x2 : Int) : Option (Int × St) := let s1 := put sg 0 1 0; let s2 := put s1 0 0 0; if w32 (s2 0 15) = 0 then (f_M_refuse s2 4).bind fun q4 => some (q4.1, q4.2) else if w32 x1 < 0 then b_M_sees_47 0 s2 else if w32 (s2 0 17) ≤ w32 x1 then b_M_sees_47 0 s2 else if w32 x2 < 0 then b_M_sees_47 0 s2 else if w32 x2 < w32 (s2 0 16) then (f_M_at s2 x2 x1).bind fun q9 => gd (inb q9.1 288) (if w32 (q9.2 9 (ix q9.1)) = 0 then some (0, q9.2) else some (1, q9.2)) else b_M_sees_47 0 s2 
def rm_M_holds : Room := { frames := 1, cells := 0, slots := 0, locals := 21 }
def b_M_holds_35 (F : Nat) (sg : St) : Option (Int × St) := (f_M_refuse sg 1).bind fun q1 => some (q1.1, q1.2)
def f_M_holds (sg : St) (x1 : Int) : Option (Int × St) := let s1 := put sg 0 1 0; let s2 := put s1 0 0 0; if w32 (s2 0 15) = 0 then (f_M_refuse s2 4).bind fun q4 => some (q4.1, q4.2) else if w32 x1 < 0 then b_M_holds_35 0 s2 else if w32 x1 < w32 (s2 0 16) then gd (inb x1 24) (if w32 (s2 11 (ix x1)) = 0 then some (0, s2) else some (1, s2)) else b_M_holds_35 0 s2 
def rm_M_isDay : Room := { frames := 0, cells := 0, slots := 0, locals := 0 }
def f_M_isDay (sg : St) (x0 : Int) : Option (Int × St) := if w32 x0 < 0 then some (0, sg) else if w32 999 < w32 x0 then some (0, sg) else some (1, sg)
def rm_M_mark : Room := { frames := 1, cells := 0, slots := 0, locals := 21 }
def b_M_mark_50 (F : Nat) (sg : St) : Option (Int × St) := (f_M_refuse sg 2).bind fun q1 => some (q1.1, q1.2)
def b_M_mark_26 (F : Nat) (sg : St) : Option (Int × St) := (f_M_refuse sg 1).bind fun q1 => some (q1.1, q1.2)
def f_M_mark (sg : St) (x1 x2 x3 x4 : Int) : Option (Int × St) := let s1 := put sg 0 1 0; let s2 := put s1 0 0 0; (f_M_isJudge s2 x1).bind fun q3 => if w32 q3.1 = 0 then b_M_mark_26 0 q3.2 else (f_M_isBoard q3.2 x2).bind fun q5 => if w32 q5.1 = 0 then b_M_mark_26 0 q5.2 else if w32 x3 < 0 then b_M_mark_50 0 q5.2 else if w32 100 < w32 x3 then b_M_mark_50 0 q5.2 else (f_M_isDay q5.2 x4).bind fun q9 => if w32 q9.1 = 0 then b_M_mark_50 0 q9.2 else if w32 (q9.2 0 29) = w32 200 then (f_M_refuse q9.2 3).bind fun q12 => some (q12.1, q12.2) else gd (inb (q9.2 0 29) 200) (let s14 := put q9.2 20 (ix (q9.2 0 29)) x1; gd (inb (s14 0 29) 200) (let s16 := put s14 21 (ix (s14 0 29)) x2; gd (inb (s16 0 29) 200) (let s18 := put s16 22 (ix (s16 0 29)) x3; gd (inb (s18 0 29) 200) (let s20 := put s18 23 (ix (s18 0 29)) x4; gd (inb (s20 0 29) 200) (let s22 := put s20 24 (ix (s20 0 29)) (-1); let s23 := put s22 0 29 ((s22 0 29) + 1); some ((s23 0 29) - 1, s23))))))
def rm_M_lose : Room := { frames := 1, cells := 0, slots := 0, locals := 21 }
def b_M_lose_22 (F : Nat) (sg : St) : Option (Int × St) := (f_M_no sg 1).bind fun q1 => gd (w32 q1.1 = 0 ∨ w32 q1.1 = 1) (some (q1.1, q1.2))
def f_M_lose (sg : St) (x1 x2 : Int) : Option (Int × St) := let s1 := put sg 0 1 0; let s2 := put s1 0 0 0; if w32 x1 < 0 then b_M_lose_22 0 s2 else if w32 x1 < w32 (s2 0 29) then (f_M_isDay s2 x2).bind fun q5 => if w32 q5.1 = 0 then (f_M_no q5.2 2).bind fun q7 => gd (w32 q7.1 = 0 ∨ w32 q7.1 = 1) (some (q7.1, q7.2)) else gd (inb x1 200) (if w32 (q5.2 24 (ix x1)) < 0 then gd (inb x1 200) (let s14 := put q5.2 24 (ix x1) x2; some (1, s14)) else (f_M_no q5.2 5).bind fun q11 => gd (w32 q11.1 = 0 ∨ w32 q11.1 = 1) (some (q11.1, q11.2))) else b_M_lose_22 0 s2 
def rm_M_known : Room := { frames := 1, cells := 0, slots := 0, locals := 21 }
def b_M_known_252 (F : Nat) (kc : St → Int → Int → Int → Int → Option (St)) (k307 : St → Int → Int → Option (St)) (sg : St) (x2 x3 x4 x5 : Int) : Option (St) := if w32 (sg 0 5) ≤ w32 x5 then k307 sg x2 x3 else (f_M_at sg x3 x5).bind fun q2 => gd (inb q2.1 288) (if w32 (q2.2 25 (ix q2.1)) < 0 then kc q2.2 x2 x3 x4 (x5 + 1) else gd (inb x5 12) (if w32 (q2.2 26 (ix x5)) = w32 x4 then kc q2.2 x2 x3 x4 (x5 + 1) else gd (inb x5 12) (let s8 := put q2.2 26 (ix x5) x4; kc s8 1 x3 x4 (x5 + 1))))
def l_M_known_252 (F : Nat) (k307 : St → Int → Int → Option (St)) : Nat → St → Int → Int → Int → Int → Option (St)
  | 0 => fun _ _ _ _ _ => none
  | n + 1 => b_M_known_252  F (l_M_known_252  F k307 n) k307
def b_M_known_206 (F : Nat) (kc : St → Int → Int → Int → Int → Option (St)) (k249 : St → Int → Int → Int → Option (St)) (sg : St) (x2 x3 x4 x5 : Int) : Option (St) := if w32 (sg 0 5) ≤ w32 x5 then k249 sg x2 x3 x4 else (f_M_at sg x3 x5).bind fun q2 => gd (inb q2.1 288) (if w32 (q2.2 25 (ix q2.1)) < 0 then kc q2.2 x2 x3 x4 (x5 + 1) else gd (inb x5 12) ((f_MJ_min q2.2 x4 (q2.2 26 (ix x5))).bind fun q6 => kc q6.2 x2 x3 q6.1 (x5 + 1)))
def l_M_known_206 (F : Nat) (k249 : St → Int → Int → Int → Option (St)) : Nat → St → Int → Int → Int → Int → Option (St)
  | 0 => fun _ _ _ _ _ => none
  | n + 1 => b_M_known_206  F (l_M_known_206  F k249 n) k249
def b_M_known_191 (F : Nat) (kc : St → Int → Int → Option (St)) (k313 : St → Int → Option (St)) (sg : St) (x2 x3 : Int) : Option (St) := if w32 (sg 0 4) ≤ w32 x3 then k313 sg x2 else l_M_known_206  F (fun s2 x2_3 x3_4 x4_5 => l_M_known_252  F (fun s6 x2_7 x3_8 => kc s6 x2_7 (x3_8 + 1)) F s2 x2_3 x3_4 x4_5 0) F sg x2 x3 12 0
def l_M_known_191 (F : Nat) (k313 : St → Int → Option (St)) : Nat → St → Int → Int → Option (St)
  | 0 => fun _ _ _ => none
  | n + 1 => b_M_known_191  F (l_M_known_191  F k313 n) k313
def b_M_known_183 (F : Nat) (kc : St → Int → Option (St)) (k316 : St → Option (St)) (sg : St) (x2 : Int) : Option (St) := if w32 x2 = 0 then k316 sg  else l_M_known_191  F (fun s2 x2_3 => kc s2 x2_3) F sg 0 0
def l_M_known_183 (F : Nat) (k316 : St → Option (St)) : Nat → St → Int → Option (St)
  | 0 => fun _ _ => none
  | n + 1 => b_M_known_183  F (l_M_known_183  F k316 n) k316
def b_M_known_141 (F : Nat) (kc : St → Int → Int → Option (St)) (k175 : St → Int → Option (St)) (sg : St) (x2 x3 : Int) : Option (St) := if w32 (sg 0 4) ≤ w32 x3 then k175 sg x2 else (f_M_at sg x3 x2).bind fun q2 => gd (inb q2.1 288) (if w32 (q2.2 25 (ix q2.1)) < 0 then kc q2.2 x2 (x3 + 1) else gd (inb x2 12) (let s6 := put q2.2 26 (ix x2) x2; kc s6 x2 (x3 + 1)))
def l_M_known_141 (F : Nat) (k175 : St → Int → Option (St)) : Nat → St → Int → Int → Option (St)
  | 0 => fun _ _ _ => none
  | n + 1 => b_M_known_141  F (l_M_known_141  F k175 n) k175
def b_M_known_124 (F : Nat) (kc : St → Int → Option (St)) (k181 : St → Option (St)) (sg : St) (x2 : Int) : Option (St) := if w32 (sg 0 5) ≤ w32 x2 then k181 sg  else gd (inb x2 12) (let s3 := put sg 26 (ix x2) (-1); l_M_known_141  F (fun s4 x2_5 => kc s4 (x2_5 + 1)) F s3 x2 0)
def l_M_known_124 (F : Nat) (k181 : St → Option (St)) : Nat → St → Int → Option (St)
  | 0 => fun _ _ => none
  | n + 1 => b_M_known_124  F (l_M_known_124  F k181 n) k181
def b_M_known_109 (F : Nat) (kc : St → Int → Int → Option (St)) (k122 : St → Option (St)) (sg : St) (x1 x2 x3 : Int) : Option (St) := gd (inb x3 288) (let s2 := put sg 25 (ix x3) x2; kc s2 x1 (x2 + 1))
def b_M_known_64 (F : Nat) (kc : St → Int → Int → Option (St)) (k122 : St → Option (St)) (sg : St) (x1 x2 : Int) : Option (St) := gd (inb x2 200) (gd (inb x2 200) ((f_M_at sg (sg 21 (ix x2)) (sg 20 (ix x2))).bind fun q3 => gd (inb q3.1 288) (if w32 (q3.2 25 (ix q3.1)) < 0 then b_M_known_109  F kc k122 q3.2 x1 x2 q3.1 else gd (inb x2 200) (gd (inb q3.1 288) (gd (inb (q3.2 25 (ix q3.1)) 200) (if w32 (q3.2 23 (ix x2)) < w32 (q3.2 23 (ix (q3.2 25 (ix q3.1)))) then kc q3.2 x1 (x2 + 1) else b_M_known_109  F kc k122 q3.2 x1 x2 q3.1))))))
def b_M_known_24 (F : Nat) (kc : St → Int → Int → Option (St)) (k122 : St → Option (St)) (sg : St) (x1 x2 : Int) : Option (St) := if w32 (sg 0 29) ≤ w32 x2 then k122 sg  else gd (inb x2 200) (if w32 x1 < w32 (sg 23 (ix x2)) then kc sg x1 (x2 + 1) else gd (inb x2 200) (if w32 (sg 24 (ix x2)) < 0 then b_M_known_64  F kc k122 sg x1 x2 else gd (inb x2 200) (if w32 x1 < w32 (sg 24 (ix x2)) then b_M_known_64  F kc k122 sg x1 x2 else kc sg x1 (x2 + 1))))
def l_M_known_24 (F : Nat) (k122 : St → Option (St)) : Nat → St → Int → Int → Option (St)
  | 0 => fun _ _ _ => none
  | n + 1 => b_M_known_24  F (l_M_known_24  F k122 n) k122
def b_M_known_2 (F : Nat) (kc : St → Int → Int → Option (St)) (k22 : St → Int → Option (St)) (sg : St) (x1 x2 : Int) : Option (St) := if w32 288 ≤ w32 x2 then k22 sg x1 else gd (inb x2 288) (let s3 := put sg 25 (ix x2) (-1); kc s3 x1 (x2 + 1))
def l_M_known_2 (F : Nat) (k22 : St → Int → Option (St)) : Nat → St → Int → Int → Option (St)
  | 0 => fun _ _ _ => none
  | n + 1 => b_M_known_2  F (l_M_known_2  F k22 n) k22
def f_M_known (F : Nat) (sg : St) (x1 : Int) : Option (St) := l_M_known_2 F (fun s1 x1_2 => l_M_known_24 F (fun s3 => l_M_known_124 F (fun s4 => l_M_known_183 F (fun s5 => some s5) F s4 1) F s3 0) F s1 x1_2 0) F sg x1 0
def rm_M_countOf : Room := { frames := 1, cells := 0, slots := 0, locals := 21 }
def b_M_countOf_4 (F : Nat) (kc : St → Int → Int → Int → Option (Int × St)) (k39 : St → Int → Option (Int × St)) (sg : St) (x1 x2 x3 : Int) : Option (Int × St) := if w32 (sg 0 5) ≤ w32 x3 then k39 sg x2 else (f_M_at sg x1 x3).bind fun q2 => gd (inb q2.1 288) (if w32 (q2.2 25 (ix q2.1)) < 0 then kc q2.2 x1 (x2 + 0) (x3 + 1) else kc q2.2 x1 (x2 + 1) (x3 + 1))
def l_M_countOf_4 (F : Nat) (k39 : St → Int → Option (Int × St)) : Nat → St → Int → Int → Int → Option (Int × St)
  | 0 => fun _ _ _ _ => none
  | n + 1 => b_M_countOf_4  F (l_M_countOf_4  F k39 n) k39
def f_M_countOf (F : Nat) (sg : St) (x1 : Int) : Option (Int × St) := l_M_countOf_4 F (fun s1 x2_2 => some (x2_2, s1)) F sg x1 0 0
def rm_M_seen : Room := { frames := 2, cells := 0, slots := 0, locals := 46 }
def f_M_seen (F : Nat) (sg : St) (x1 x2 : Int) : Option (Int × St) := let s1 := put sg 0 1 0; let s2 := put s1 0 0 0; (f_M_isBoard s2 x1).bind fun q3 => if w32 q3.1 = 0 then (f_M_refuse q3.2 1).bind fun q5 => some (q5.1, q5.2) else (f_M_isDay q3.2 x2).bind fun q6 => if w32 q6.1 = 0 then (f_M_refuse q6.2 2).bind fun q8 => some (q8.1, q8.2) else (f_M_known F q6.2 x2).bind fun q9 => (f_M_countOf F q9 x1).bind fun q10 => some (q10.1, q10.2)
def rm_M_heap : Room := { frames := 2, cells := 0, slots := 0, locals := 46 }
def f_M_heap (F : Nat) (sg : St) (x1 x2 : Int) : Option (Int × St) := let s1 := put sg 0 1 0; let s2 := put s1 0 0 0; (f_M_isJudge s2 x1).bind fun q3 => if w32 q3.1 = 0 then (f_M_refuse q3.2 1).bind fun q5 => some (q5.1, q5.2) else (f_M_isDay q3.2 x2).bind fun q6 => if w32 q6.1 = 0 then (f_M_refuse q6.2 2).bind fun q8 => some (q8.1, q8.2) else (f_M_known F q6.2 x2).bind fun q9 => gd (inb x1 12) (if 0 ≤ w32 (q9 26 (ix x1)) then gd (inb x1 12) (some (q9 26 (ix x1), q9)) else (f_M_refuse q9 6).bind fun q12 => some (q12.1, q12.2))
def rm_M_sizeOf : Room := { frames := 0, cells := 0, slots := 0, locals := 0 }
def b_M_sizeOf_4 (F : Nat) (kc : St → Int → Int → Int → Option (Int × St)) (k36 : St → Int → Option (Int × St)) (sg : St) (x1 x2 x3 : Int) : Option (Int × St) := if w32 (sg 0 5) ≤ w32 x3 then k36 sg x2 else gd (inb x3 12) (if w32 (sg 26 (ix x3)) = w32 x1 then kc sg x1 (x2 + 1) (x3 + 1) else kc sg x1 (x2 + 0) (x3 + 1))
def l_M_sizeOf_4 (F : Nat) (k36 : St → Int → Option (Int × St)) : Nat → St → Int → Int → Int → Option (Int × St)
  | 0 => fun _ _ _ _ => none
  | n + 1 => b_M_sizeOf_4  F (l_M_sizeOf_4  F k36 n) k36
def f_M_sizeOf (F : Nat) (sg : St) (x1 : Int) : Option (Int × St) := l_M_sizeOf_4 F (fun s1 x2_2 => some (x2_2, s1)) F sg x1 0 0
def rm_M_square : Room := { frames := 0, cells := 0, slots := 0, locals := 0 }
def b_M_square_164 (F : Nat) (kc : St → Int → Int → Int → Int → Int → Int → Int → Option (Int × St)) (k219 : St → Int → Int → Int → Int → Int → Int → Option (Int × St)) (sg : St) (x1 x2 x3 x5 x6 x10 x12 : Int) : Option (Int × St) := if w32 x2 ≤ w32 x12 then k219 sg x1 x2 x3 x5 x6 x10 else gd (inb x12 5) (if w32 (sg 28 (ix x12)) = w32 x1 then gd (inb x12 5) (kc sg x1 x2 x3 x5 x6 (x10 * (sg 30 (ix x12))) (x12 + 1)) else gd (inb x12 5) (gd (inb ((5 * x12) + (sg 28 (ix x12))) 25) (kc sg x1 x2 x3 x5 x6 (x10 * (sg 29 (ix ((5 * x12) + (sg 28 (ix x12)))))) (x12 + 1))))
def l_M_square_164 (F : Nat) (k219 : St → Int → Int → Int → Int → Int → Int → Option (Int × St)) : Nat → St → Int → Int → Int → Int → Int → Int → Int → Option (Int × St)
  | 0 => fun _ _ _ _ _ _ _ _ => none
  | n + 1 => b_M_square_164  F (l_M_square_164  F k219 n) k219
def b_M_square_88 (F : Nat) (kc : St → Int → Int → Int → Int → Int → Int → Int → Int → Int → Int → Option (Int × St)) (k112 : St → Int → Int → Int → Int → Int → Int → Int → Int → Int → Option (Int × St)) (sg : St) (x1 x2 x3 x5 x6 x7 x8 x9 x10 x11 : Int) : Option (Int × St) := if w32 x2 ≤ w32 x11 then k112 sg x1 x2 x3 x5 x6 x7 x8 x9 x10 else kc sg x1 x2 x3 x5 x6 x7 x8 (x9 + (andI (shrI x8 x11) 1)) x10 (x11 + 1)
def l_M_square_88 (F : Nat) (k112 : St → Int → Int → Int → Int → Int → Int → Int → Int → Int → Option (Int × St)) : Nat → St → Int → Int → Int → Int → Int → Int → Int → Int → Int → Int → Option (Int × St)
  | 0 => fun _ _ _ _ _ _ _ _ _ _ _ => none
  | n + 1 => b_M_square_88  F (l_M_square_88  F k112 n) k112
def b_M_square_54 (F : Nat) (kc : St → Int → Int → Int → Int → Int → Int → Int → Int → Int → Option (Int × St)) (k132 : St → Int → Int → Int → Int → Int → Int → Int → Option (Int × St)) (sg : St) (x1 x2 x3 x5 x6 x7 x8 x9 x10 : Int) : Option (Int × St) := if w32 x2 ≤ w32 x10 then k132 sg x1 x2 x3 x5 x6 x8 x9 else gd (¬ w32 x2 = 0) (gd (inb x10 5) (let s4 := put sg 28 (ix x10) (remI x7 x2); gd (¬ w32 x2 = 0) (gd (inb x10 5) (l_M_square_88  F (fun s7 x1_8 x2_9 x3_10 x5_11 x6_12 x7_13 x8_14 x9_15 x10_16 => gd (inb x10_16 5) (kc s7 x1_8 x2_9 x3_10 x5_11 x6_12 x7_13 (orI x8_14 (shlI 1 (s7 28 (ix x10_16)))) x9_15 (x10_16 + 1))) F s4 x1 x2 x3 x5 x6 (divI x7 x2) x8 x9 x10 ((s4 28 (ix x10)) + 1)))))
def l_M_square_54 (F : Nat) (k132 : St → Int → Int → Int → Int → Int → Int → Int → Option (Int × St)) : Nat → St → Int → Int → Int → Int → Int → Int → Int → Int → Int → Option (Int × St)
  | 0 => fun _ _ _ _ _ _ _ _ _ _ => none
  | n + 1 => b_M_square_54  F (l_M_square_54  F k132 n) k132
def b_M_square_34 (F : Nat) (kc : St → Int → Int → Int → Int → Int → Option (Int × St)) (k230 : St → Int → Option (Int × St)) (sg : St) (x1 x2 x3 x5 x6 : Int) : Option (Int × St) := if w32 x5 ≤ w32 x6 then k230 sg x3 else l_M_square_54  F (fun s2 x1_3 x2_4 x3_5 x5_6 x6_7 x8_8 x9_9 => if w32 x8_8 = w32 ((shlI 1 x2_4) - 1) then gd (¬ w32 2 = 0) (if w32 (remI x9_9 2) = 0 then l_M_square_164  F (fun s13 x1_14 x2_15 x3_16 x5_17 x6_18 x10_19 => kc s13 x1_14 x2_15 (x3_16 + x10_19) x5_17 (x6_18 + 1)) F s2 x1_3 x2_4 x3_5 x5_6 x6_7 1 0 else l_M_square_164  F (fun s20 x1_21 x2_22 x3_23 x5_24 x6_25 x10_26 => kc s20 x1_21 x2_22 (x3_23 + x10_26) x5_24 (x6_25 + 1)) F s2 x1_3 x2_4 x3_5 x5_6 x6_7 (-1) 0) else kc s2 x1_3 x2_4 x3_5 x5_6 (x6_7 + 1)) F sg x1 x2 x3 x5 x6 x6 0 0 0
def l_M_square_34 (F : Nat) (k230 : St → Int → Option (Int × St)) : Nat → St → Int → Int → Int → Int → Int → Option (Int × St)
  | 0 => fun _ _ _ _ _ _ => none
  | n + 1 => b_M_square_34  F (l_M_square_34  F k230 n) k230
def b_M_square_13 (F : Nat) (kc : St → Int → Int → Int → Int → Int → Option (Int × St)) (k31 : St → Int → Int → Int → Int → Option (Int × St)) (sg : St) (x1 x2 x3 x5 x6 : Int) : Option (Int × St) := if w32 x2 ≤ w32 x6 then k31 sg x1 x2 x3 x5 else kc sg x1 x2 x3 (x5 * x2) (x6 + 1)
def l_M_square_13 (F : Nat) (k31 : St → Int → Int → Int → Int → Option (Int × St)) : Nat → St → Int → Int → Int → Int → Int → Option (Int × St)
  | 0 => fun _ _ _ _ _ _ => none
  | n + 1 => b_M_square_13  F (l_M_square_13  F k31 n) k31
def f_M_square (F : Nat) (sg : St) (x1 : Int) : Option (Int × St) := l_M_square_13 F (fun s1 x1_2 x2_3 x3_4 x5_5 => l_M_square_34 F (fun s6 x3_7 => some (x3_7, s6)) F s1 x1_2 x2_3 x3_4 x5_5 0) F sg x1 (sg 0 39) 0 1 0
def rm_M_solve : Room := { frames := 2, cells := 0, slots := 0, locals := 44 }
def b_M_solve_390 (F : Nat) (kc : St → Int → Int → Option (St)) (k412 : St → Option (St)) (sg : St) (x2 x3 : Int) : Option (St) := if w32 x2 ≤ w32 x3 then k412 sg  else (f_M_square F sg x3).bind fun q2 => gd (inb x3 5) (let s4 := put q2.2 31 (ix x3) q2.1; kc s4 x2 (x3 + 1))
def l_M_solve_390 (F : Nat) (k412 : St → Option (St)) : Nat → St → Int → Int → Option (St)
  | 0 => fun _ _ _ => none
  | n + 1 => b_M_solve_390  F (l_M_solve_390  F k412 n) k412
def b_M_solve_346 (F : Nat) (kc : St → Int → Int → Option (St)) (k370 : St → Int → Option (St)) (sg : St) (x2 x3 : Int) : Option (St) := if w32 x2 ≤ w32 x3 then k370 sg x2 else gd (inb ((5 * (x2 - 1)) + x3) 25) (let s3 := put sg 29 (ix ((5 * (x2 - 1)) + x3)) 1; kc s3 x2 (x3 + 1))
def l_M_solve_346 (F : Nat) (k370 : St → Int → Option (St)) : Nat → St → Int → Int → Option (St)
  | 0 => fun _ _ _ => none
  | n + 1 => b_M_solve_346  F (l_M_solve_346  F k370 n) k370
def b_M_solve_324 (F : Nat) (kc : St → Int → Int → Int → Int → Int → Int → Option (St)) (k332 : St → Int → Int → Int → Int → Int → Option (St)) (sg : St) (x2 x3 x4 x5 x7 x9 z0 z1 z2 : Int) : Option (St) := gd (inb z2 25) (let s2 := put sg 29 (ix z2) (z1 - z0); kc s2 x2 x3 x4 x5 x7 (x9 + 1))
def b_M_solve_275 (F : Nat) (kc : St → Int → Int → Int → Int → Int → Int → Option (St)) (k332 : St → Int → Int → Int → Int → Int → Option (St)) (sg : St) (x2 x3 x4 x5 x7 x9 : Int) : Option (St) := if w32 x2 ≤ w32 x9 then k332 sg x2 x3 x4 x5 x7 else gd (inb ((5 * x7) + x9) 25) (gd (inb x9 5) ((f_M_at sg x3 (sg 27 (ix x9))).bind fun q4 => gd (inb q4.1 288) (if w32 (q4.2 25 (ix q4.1)) < 0 then b_M_solve_324  F kc k332 q4.2 x2 x3 x4 x5 x7 x9 0 (sg 29 (ix ((5 * x7) + x9))) ((5 * x7) + x9) else gd (¬ w64 (w32 x4) = 0) (b_M_solve_324  F kc k332 q4.2 x2 x3 x4 x5 x7 x9 (divL 60 (w32 x4)) (sg 29 (ix ((5 * x7) + x9))) ((5 * x7) + x9)))))
def l_M_solve_275 (F : Nat) (k332 : St → Int → Int → Int → Int → Int → Option (St)) : Nat → St → Int → Int → Int → Int → Int → Int → Option (St)
  | 0 => fun _ _ _ _ _ _ _ => none
  | n + 1 => b_M_solve_275  F (l_M_solve_275  F k332 n) k332
def b_M_solve_189 (F : Nat) (kc : St → Int → Int → Int → Int → Int → Option (St)) (k338 : St → Int → Int → Option (St)) (sg : St) (x2 x3 x4 x5 x7 : Int) : Option (St) := if w32 x2 ≤ w32 x7 then k338 sg x2 x3 else gd (inb x7 5) ((f_M_at sg x3 (sg 27 (ix x7))).bind fun q3 => gd (inb q3.1 288) (if 0 ≤ w32 (q3.2 25 (ix q3.1)) then gd (inb ((5 * x7) + x7) 25) (gd (inb ((5 * x7) + x7) 25) (let s8 := put q3.2 29 (ix ((5 * x7) + x7)) ((q3.2 29 (ix ((5 * x7) + x7))) + 60); gd (inb x7 5) (gd (inb (q3.2 25 (ix q3.1)) 200) (gd (¬ w64 (w32 x4) = 0) (gd (inb x7 5) (let s13 := put s8 30 (ix x7) ((s8 30 (ix x7)) + ((60 * (w32 (s8 22 (ix (q3.2 25 (ix q3.1)))))) - ((divL 60 (w32 x4)) * x5))); l_M_solve_275  F (fun s14 x2_15 x3_16 x4_17 x5_18 x7_19 => kc s14 x2_15 x3_16 x4_17 x5_18 (x7_19 + 1)) F s13 x2 x3 x4 x5 x7 0)))))) else kc q3.2 x2 x3 x4 x5 (x7 + 1)))
def l_M_solve_189 (F : Nat) (k338 : St → Int → Int → Option (St)) : Nat → St → Int → Int → Int → Int → Int → Option (St)
  | 0 => fun _ _ _ _ _ _ => none
  | n + 1 => b_M_solve_189  F (l_M_solve_189  F k338 n) k338
def b_M_solve_131 (F : Nat) (kc : St → Int → Int → Int → Int → Int → Option (St)) (k186 : St → Int → Int → Int → Int → Option (St)) (sg : St) (x2 x3 x4 x5 x7 : Int) : Option (St) := if w32 (sg 0 5) ≤ w32 x7 then k186 sg x2 x3 x4 x5 else (f_M_at sg x3 x7).bind fun q2 => gd (inb q2.1 288) (if w32 (q2.2 25 (ix q2.1)) < 0 then kc q2.2 x2 x3 x4 (x5 + 0) (x7 + 1) else (f_M_at q2.2 x3 x7).bind fun q5 => gd (inb q5.1 288) (gd (inb (q5.2 25 (ix q5.1)) 200) (kc q5.2 x2 x3 x4 (x5 + (w32 (q5.2 22 (ix (q5.2 25 (ix q5.1)))))) (x7 + 1))))
def l_M_solve_131 (F : Nat) (k186 : St → Int → Int → Int → Int → Option (St)) : Nat → St → Int → Int → Int → Int → Int → Option (St)
  | 0 => fun _ _ _ _ _ _ => none
  | n + 1 => b_M_solve_131  F (l_M_solve_131  F k186 n) k186
def b_M_solve_102 (F : Nat) (kc : St → Int → Int → Option (St)) (k344 : St → Int → Option (St)) (sg : St) (x2 x3 : Int) : Option (St) := if w32 (sg 0 4) ≤ w32 x3 then k344 sg x2 else (f_M_countOf F sg x3).bind fun q2 => if w32 q2.1 = 0 then kc q2.2 x2 (x3 + 1) else l_M_solve_131  F (fun s4 x2_5 x3_6 x4_7 x5_8 => l_M_solve_189  F (fun s9 x2_10 x3_11 => kc s9 x2_10 (x3_11 + 1)) F s4 x2_5 x3_6 x4_7 x5_8 0) F q2.2 x2 x3 q2.1 0 0
def l_M_solve_102 (F : Nat) (k344 : St → Int → Option (St)) : Nat → St → Int → Int → Option (St)
  | 0 => fun _ _ _ => none
  | n + 1 => b_M_solve_102  F (l_M_solve_102  F k344 n) k344
def b_M_solve_82 (F : Nat) (kc : St → Int → Int → Option (St)) (k100 : St → Int → Option (St)) (sg : St) (x2 x3 : Int) : Option (St) := if w32 x2 ≤ w32 x3 then k100 sg x2 else gd (inb x3 5) (let s3 := put sg 30 (ix x3) 0; kc s3 x2 (x3 + 1))
def l_M_solve_82 (F : Nat) (k100 : St → Int → Option (St)) : Nat → St → Int → Int → Option (St)
  | 0 => fun _ _ _ => none
  | n + 1 => b_M_solve_82  F (l_M_solve_82  F k100 n) k100
def b_M_solve_61 (F : Nat) (kc : St → Int → Int → Option (St)) (k80 : St → Int → Option (St)) (sg : St) (x2 x3 : Int) : Option (St) := if w32 25 ≤ w32 x3 then k80 sg x2 else gd (inb x3 25) (let s3 := put sg 29 (ix x3) 0; kc s3 x2 (x3 + 1))
def l_M_solve_61 (F : Nat) (k80 : St → Int → Option (St)) : Nat → St → Int → Int → Option (St)
  | 0 => fun _ _ _ => none
  | n + 1 => b_M_solve_61  F (l_M_solve_61  F k80 n) k80
def b_M_solve_7 (F : Nat) (kc : St → Int → Int → Option (St)) (k54 : St → Option (St)) (sg : St) (x1 x2 : Int) : Option (St) := if w32 (sg 0 5) ≤ w32 x2 then k54 sg  else gd (inb x2 12) (if w32 (sg 26 (ix x2)) = w32 x1 then gd (inb (sg 0 39) 5) (let s5 := put sg 27 (ix (sg 0 39)) x2; let s6 := put s5 0 39 ((s5 0 39) + 1); kc s6 x1 (x2 + 1)) else kc sg x1 (x2 + 1))
def l_M_solve_7 (F : Nat) (k54 : St → Option (St)) : Nat → St → Int → Int → Option (St)
  | 0 => fun _ _ _ => none
  | n + 1 => b_M_solve_7  F (l_M_solve_7  F k54 n) k54
def f_M_solve (F : Nat) (sg : St) (x1 : Int) : Option (St) := let s1 := put sg 0 39 0; l_M_solve_7 F (fun s2 => l_M_solve_61 F (fun s3 x2_4 => l_M_solve_82 F (fun s5 x2_6 => l_M_solve_102 F (fun s7 x2_8 => l_M_solve_346 F (fun s9 x2_10 => gd (inb (x2_10 - 1) 5) (let s12 := put s9 30 (ix (x2_10 - 1)) 0; (f_M_square F s12 (-1)).bind fun q13 => let s14 := put q13.2 0 43 q13.1; l_M_solve_390 F (fun s15 => some s15) F s14 x2_10 0)) F s7 x2_8 0) F s5 x2_6 0) F s3 x2_4 0) F s2 (s2 0 39) 0) F s1 x1 0
def rm_M_common : Room := { frames := 1, cells := 0, slots := 0, locals := 21 }
def b_M_common_12 (F : Nat) (kc : St → Int → Int → Option (Int × St)) (k37 : St → Int → Option (Int × St)) (sg : St) (x4 x6 : Int) : Option (Int × St) := if w64 x6 = w64 0 then k37 sg x4 else gd (¬ w64 x6 = 0) (kc sg x6 (remL x4 x6))
def l_M_common_12 (F : Nat) (k37 : St → Int → Option (Int × St)) : Nat → St → Int → Int → Option (Int × St)
  | 0 => fun _ _ _ => none
  | n + 1 => b_M_common_12  F (l_M_common_12  F k37 n) k37
def f_M_common (F : Nat) (sg : St) (x0 x2 : Int) : Option (Int × St) := (f_MJ_abs sg x0).bind fun q1 => (f_MJ_abs q1.2 x2).bind fun q2 => l_M_common_12 F (fun s3 x4_4 => some (x4_4, s3)) F q2.2 q1.1 q2.1
def rm_M_tells : Room := { frames := 2, cells := 0, slots := 0, locals := 50 }
def b_M_tells_18 (F : Nat) (sg : St) (x1 x3 x5 : Int) : Option (St) := gd (¬ w64 x5 = 0) (let s2 := put sg 0 2 (divL x1 x5); gd (¬ w64 x5 = 0) (let s4 := put s2 0 3 (divL x3 x5); some s4))
def f_M_tells (F : Nat) (sg : St) (x1 x3 : Int) : Option (St) := (f_M_common F sg x1 x3).bind fun q1 => if w64 0 ≤ w64 x3 then b_M_tells_18 F q1.2 x1 x3 q1.1 else b_M_tells_18 F q1.2 x1 x3 (-q1.1)
def rm_M_hardness : Room := { frames := 3, cells := 0, slots := 0, locals := 76 }
def b_M_hardness_91 (F : Nat) (kc : St → Int → Int → Option (Int × St)) (k129 : St → Option (Int × St)) (sg : St) (x1 x3 : Int) : Option (Int × St) := if w32 (sg 0 39) ≤ w32 x3 then k129 sg  else gd (inb x3 5) (if w32 (sg 27 (ix x3)) = w32 x1 then gd (inb x3 5) ((f_M_tells F sg (sg 31 (ix x3)) (sg 0 43)).bind fun q5 => kc q5 x1 (x3 + 1)) else kc sg x1 (x3 + 1))
def l_M_hardness_91 (F : Nat) (k129 : St → Option (Int × St)) : Nat → St → Int → Int → Option (Int × St)
  | 0 => fun _ _ _ => none
  | n + 1 => b_M_hardness_91  F (l_M_hardness_91  F k129 n) k129
def f_M_hardness (F : Nat) (sg : St) (x1 x2 : Int) : Option (Int × St) := let s1 := put sg 0 1 0; let s2 := put s1 0 0 0; (f_M_isJudge s2 x1).bind fun q3 => if w32 q3.1 = 0 then (f_M_no q3.2 1).bind fun q5 => gd (w32 q5.1 = 0 ∨ w32 q5.1 = 1) (some (q5.1, q5.2)) else (f_M_isDay q3.2 x2).bind fun q7 => if w32 q7.1 = 0 then (f_M_no q7.2 2).bind fun q9 => gd (w32 q9.1 = 0 ∨ w32 q9.1 = 1) (some (q9.1, q9.2)) else (f_M_known F q7.2 x2).bind fun q11 => gd (inb x1 12) (if 0 ≤ w32 (q11 26 (ix x1)) then gd (inb x1 12) ((f_M_sizeOf F q11 (q11 26 (ix x1))).bind fun q17 => if w32 q17.1 ≤ w32 5 then gd (inb x1 12) ((f_M_solve F q17.2 (q17.2 26 (ix x1))).bind fun q22 => l_M_hardness_91 F (fun s23 => some (1, s23)) F q22 x1 0) else (f_M_no q17.2 9).bind fun q19 => gd (w32 q19.1 = 0 ∨ w32 q19.1 = 1) (some (q19.1, q19.2))) else (f_M_no q11 6).bind fun q14 => gd (w32 q14.1 = 0 ∨ w32 q14.1 = 1) (some (q14.1, q14.2)))
def rm_M_fairOf : Room := { frames := 3, cells := 0, slots := 0, locals := 73 }
def b_M_fairOf_51 (F : Nat) (kc : St → Int → Int → Int → Int → Option (St)) (k119 : St → Int → Int → Option (St)) (sg : St) (x1 x3 x5 x6 : Int) : Option (St) := if w32 (sg 0 39) ≤ w32 x6 then k119 sg x3 x5 else gd (inb x6 5) ((f_M_at sg x1 (sg 27 (ix x6))).bind fun q3 => gd (inb q3.1 288) (if 0 ≤ w32 (q3.2 25 (ix q3.1)) then gd (inb (q3.2 25 (ix q3.1)) 200) (gd (inb x6 5) (kc q3.2 x1 (x3 + (((w32 (q3.2 22 (ix (q3.2 25 (ix q3.1))))) * (q3.2 0 43)) - (q3.2 31 (ix x6)))) (x5 + 1) (x6 + 1))) else kc q3.2 x1 x3 x5 (x6 + 1)))
def l_M_fairOf_51 (F : Nat) (k119 : St → Int → Int → Option (St)) : Nat → St → Int → Int → Int → Int → Option (St)
  | 0 => fun _ _ _ _ _ => none
  | n + 1 => b_M_fairOf_51  F (l_M_fairOf_51  F k119 n) k119
def b_M_fairOf_4 (F : Nat) (kc : St → Int → Int → Int → Option (St)) (k38 : St → Int → Int → Option (St)) (sg : St) (x1 x2 x3 : Int) : Option (St) := if w32 (sg 0 5) ≤ w32 x3 then k38 sg x1 x2 else (f_M_at sg x1 x3).bind fun q2 => gd (inb q2.1 288) (if w32 (q2.2 25 (ix q2.1)) < 0 then kc q2.2 x1 x2 (x3 + 1) else gd (inb x3 12) (kc q2.2 x1 (q2.2 26 (ix x3)) (x3 + 1)))
def l_M_fairOf_4 (F : Nat) (k38 : St → Int → Int → Option (St)) : Nat → St → Int → Int → Int → Option (St)
  | 0 => fun _ _ _ _ => none
  | n + 1 => b_M_fairOf_4  F (l_M_fairOf_4  F k38 n) k38
def b_M_fairOf_149 (F : Nat) (sg : St) (x3 x6 x8 : Int) : Option (St) := gd (¬ w64 x8 = 0) (let s2 := put sg 0 79 (divL x3 x8); gd (¬ w64 x8 = 0) (let s4 := put s2 0 80 (divL x6 x8); some s4))
def f_M_fairOf (F : Nat) (sg : St) (x1 : Int) : Option (St) := l_M_fairOf_4 F (fun s1 x1_2 x2_3 => (f_M_solve F s1 x2_3).bind fun q4 => l_M_fairOf_51 F (fun s5 x3_6 x5_7 => (f_M_common F s5 x3_6 ((w32 x5_7) * (s5 0 43))).bind fun q8 => if w64 0 ≤ w64 ((w32 x5_7) * (s5 0 43)) then b_M_fairOf_149 F q8.2 x3_6 ((w32 x5_7) * (s5 0 43)) q8.1 else b_M_fairOf_149 F q8.2 x3_6 ((w32 x5_7) * (s5 0 43)) (-q8.1)) F q4 x1_2 0 0 0) F sg x1 (-1) 0
def rm_M_fair : Room := { frames := 4, cells := 0, slots := 0, locals := 102 }
def b_M_fair_59 (F : Nat) (kc : St → Int → Int → Option (Int × St)) (k107 : St → Int → Option (Int × St)) (sg : St) (x1 x3 : Int) : Option (Int × St) := if w32 (sg 0 5) ≤ w32 x3 then k107 sg x1 else (f_M_at sg x1 x3).bind fun q2 => gd (inb q2.1 288) (if w32 (q2.2 25 (ix q2.1)) < 0 then kc q2.2 x1 (x3 + 1) else gd (inb x3 12) ((f_M_sizeOf F q2.2 (q2.2 26 (ix x3))).bind fun q6 => if w32 q6.1 ≤ w32 5 then kc q6.2 x1 (x3 + 1) else (f_M_no q6.2 9).bind fun q8 => gd (w32 q8.1 = 0 ∨ w32 q8.1 = 1) (some (q8.1, q8.2))))
def l_M_fair_59 (F : Nat) (k107 : St → Int → Option (Int × St)) : Nat → St → Int → Int → Option (Int × St)
  | 0 => fun _ _ _ => none
  | n + 1 => b_M_fair_59  F (l_M_fair_59  F k107 n) k107
def f_M_fair (F : Nat) (sg : St) (x1 x2 : Int) : Option (Int × St) := let s1 := put sg 0 1 0; let s2 := put s1 0 0 0; (f_M_isBoard s2 x1).bind fun q3 => if w32 q3.1 = 0 then (f_M_no q3.2 1).bind fun q5 => gd (w32 q5.1 = 0 ∨ w32 q5.1 = 1) (some (q5.1, q5.2)) else (f_M_isDay q3.2 x2).bind fun q7 => if w32 q7.1 = 0 then (f_M_no q7.2 2).bind fun q9 => gd (w32 q9.1 = 0 ∨ w32 q9.1 = 1) (some (q9.1, q9.2)) else (f_M_known F q7.2 x2).bind fun q11 => (f_M_countOf F q11 x1).bind fun q12 => if w32 q12.1 = 0 then (f_M_no q12.2 6).bind fun q14 => gd (w32 q14.1 = 0 ∨ w32 q14.1 = 1) (some (q14.1, q14.2)) else l_M_fair_59 F (fun s16 x1_17 => (f_M_fairOf F s16 x1_17).bind fun q18 => let s19 := put q18 0 2 (q18 0 79); let s20 := put s19 0 3 (s19 0 80); some (1, s20)) F q12.2 x1 0
def rm_M_upper : Room := { frames := 0, cells := 0, slots := 0, locals := 0 }
def f_M_upper (sg : St) : Option (Int × St) := let s1 := put sg 0 1 0; some (s1 0 2, s1)
def rm_M_lower : Room := { frames := 0, cells := 0, slots := 0, locals := 0 }
def f_M_lower (sg : St) : Option (Int × St) := let s1 := put sg 0 1 0; some (s1 0 3, s1)
def rm_M_look : Room := { frames := 0, cells := 0, slots := 0, locals := 0 }
def f_M_look (sg : St) (x1 : Int) : Option (Int × St) := if w32 (sg 0 46) ≤ w32 x1 then some (0, sg) else gd (inb x1 300) (some (andI (sg 32 (ix x1)) 255, sg))
def rm_M_isLetter : Room := { frames := 0, cells := 0, slots := 0, locals := 0 }
def f_M_isLetter (sg : St) (x0 : Int) : Option (Int × St) := if w32 x0 < w32 97 then some (0, sg) else if w32 122 < w32 x0 then some (0, sg) else some (1, sg)
def rm_M_isDigit : Room := { frames := 0, cells := 0, slots := 0, locals := 0 }
def f_M_isDigit (sg : St) (x0 : Int) : Option (Int × St) := if w32 x0 < w32 48 then some (0, sg) else if w32 57 < w32 x0 then some (0, sg) else some (1, sg)
def rm_M_next : Room := { frames := 1, cells := 0, slots := 0, locals := 21 }
def b_M_next_244 (F : Nat) (kc : St → Option (St)) (k257 : St → Option (St)) (sg : St) : Option (St) := let s1 := put sg 0 83 ((sg 0 83) + 1); kc s1 
def b_M_next_194 (F : Nat) (kc : St → Option (St)) (k257 : St → Option (St)) (sg : St) : Option (St) := (f_M_look sg (sg 0 83)).bind fun q1 => (f_M_isDigit q1.2 q1.1).bind fun q2 => if w32 q2.1 = 0 then k257 q2.2  else if w32 3 ≤ w32 ((q2.2 0 83) - (q2.2 0 82)) then b_M_next_244  F kc k257 q2.2  else (f_M_look q2.2 (q2.2 0 83)).bind fun q5 => let s6 := put q5.2 0 84 (((10 * (q2.2 0 84)) + q5.1) - 48); b_M_next_244  F kc k257 s6 
def l_M_next_194 (F : Nat) (k257 : St → Option (St)) : Nat → St → Option (St)
  | 0 => fun _  => none
  | n + 1 => b_M_next_194  F (l_M_next_194  F k257 n) k257
def b_M_next_166 (F : Nat) (kc : St → Option (St)) (k307 : St → Option (St)) (sg : St) (z0 : Int) : Option (St) := let s1 := put sg 0 85 z0; let s2 := put s1 0 83 ((s1 0 83) + 1); kc s2 
def b_M_next_109 (F : Nat) (kc : St → Option (St)) (k307 : St → Option (St)) (sg : St) : Option (St) := (f_M_look sg (sg 0 83)).bind fun q1 => (f_M_isLetter q1.2 q1.1).bind fun q2 => if w32 q2.1 = 0 then k307 q2.2  else if w32 12 ≤ w32 ((q2.2 0 83) - (q2.2 0 82)) then b_M_next_166  F kc k307 q2.2 (-1) else (f_M_look q2.2 (q2.2 0 83)).bind fun q5 => b_M_next_166  F kc k307 q5.2 ((((q2.2 0 85) * 32) + (w32 q5.1)) - 96)
def l_M_next_109 (F : Nat) (k307 : St → Option (St)) : Nat → St → Option (St)
  | 0 => fun _  => none
  | n + 1 => b_M_next_109  F (l_M_next_109  F k307 n) k307
def b_M_next_45 (F : Nat) (kc : St → Option (St)) (k58 : St → Option (St)) (sg : St) : Option (St) := let s1 := put sg 0 82 ((sg 0 82) + 1); kc s1 
def b_M_next_8 (F : Nat) (kc : St → Option (St)) (k58 : St → Option (St)) (sg : St) : Option (St) := if w32 (sg 0 46) ≤ w32 (sg 0 82) then k58 sg  else (f_M_look sg (sg 0 82)).bind fun q2 => if w32 q2.1 = w32 10 then b_M_next_45  F kc k58 q2.2  else (f_M_look q2.2 (q2.2 0 82)).bind fun q4 => if w32 q4.1 = w32 32 then b_M_next_45  F kc k58 q4.2  else k58 q4.2 
def l_M_next_8 (F : Nat) (k58 : St → Option (St)) : Nat → St → Option (St)
  | 0 => fun _  => none
  | n + 1 => b_M_next_8  F (l_M_next_8  F k58 n) k58
def b_M_next_58 (F : Nat) (sg : St) : Option (St) := let s1 := put sg 0 83 (sg 0 82); if w32 (s1 0 82) < w32 (s1 0 46) then (f_M_look s1 (s1 0 82)).bind fun q4 => (f_M_isLetter q4.2 q4.1).bind fun q5 => if w32 q5.1 = 0 then (f_M_isDigit q5.2 q4.1).bind fun q10 => if w32 q10.1 = 0 then let s17 := put q10.2 0 83 ((q10.2 0 82) + 1); if w32 q4.1 = w32 59 then let s19 := put s17 0 81 3; some s19 else let s20 := put s17 0 81 4; some s20 else let s12 := put q10.2 0 84 0; l_M_next_194  F (fun s13  => if w32 ((s13 0 83) - (s13 0 82)) ≤ w32 3 then let s16 := put s13 0 81 2; some s16 else let s15 := put s13 0 81 4; some s15) F s12  else let s7 := put q5.2 0 81 1; let s8 := put s7 0 85 0; l_M_next_109  F (fun s9  => some s9) F s8  else let s3 := put s1 0 81 0; some s3
def f_M_next (F : Nat) (sg : St) : Option (St) := let s1 := put sg 0 82 (sg 0 83); l_M_next_8 F (fun s2 => b_M_next_58 F s2 ) F s1 
def rm_M_spelled : Room := { frames := 0, cells := 0, slots := 0, locals := 0 }
def b_M_spelled_86 (F : Nat) (sg : St) (x5 z0 : Int) : Option (Int × St) := if w32 x5 ≤ 0 then some (z0, sg) else some (((z0 * 32) + (w32 x5)) - 96, sg)
def b_M_spelled_60 (F : Nat) (sg : St) (x4 x5 z0 : Int) : Option (Int × St) := if w32 x4 ≤ 0 then b_M_spelled_86  F  sg x5 z0 else b_M_spelled_86  F  sg x5 (((z0 * 32) + (w32 x4)) - 96)
def f_M_spelled (sg : St) (x0 x1 x2 x3 x4 x5 : Int) : Option (Int × St) := if w32 x3 ≤ 0 then b_M_spelled_60 0 sg x4 x5 ((((((((w32 x0) - 96) * 32) + (w32 x1)) - 96) * 32) + (w32 x2)) - 96) else b_M_spelled_60 0 sg x4 x5 (((((((((((w32 x0) - 96) * 32) + (w32 x1)) - 96) * 32) + (w32 x2)) - 96) * 32) + (w32 x3)) - 96)
def rm_M_isWord : Room := { frames := 0, cells := 0, slots := 0, locals := 0 }
def f_M_isWord (sg : St) (x1 : Int) : Option (Int × St) := if w32 (sg 0 81) = w32 1 then if w64 (sg 0 85) = w64 x1 then some (1, sg) else some (0, sg) else some (0, sg)
def rm_M_fail : Room := { frames := 0, cells := 0, slots := 0, locals := 0 }
def f_M_fail (sg : St) (x1 x2 : Int) : Option (St) := if w32 (sg 0 49) ≤ 0 then let s2 := put sg 0 49 x1; let s3 := put s2 0 50 x2; some s3 else some sg
def rm_M_wrong : Room := { frames := 1, cells := 0, slots := 0, locals := 22 }
def b_M_wrong_14 (F : Nat) (sg : St) (z0 : Int) : Option (St) := (f_M_fail sg z0 (sg 0 82)).bind fun q1 => some q1
def f_M_wrong (sg : St) : Option (St) := if w32 (sg 0 81) = w32 4 then b_M_wrong_14 0 sg 1 else b_M_wrong_14 0 sg 2
def rm_M_numberOf : Room := { frames := 2, cells := 0, slots := 0, locals := 42 }
def b_M_numberOf_49 (F : Nat) (sg : St) (x1 x3 : Int) : Option (Int × St) := if w32 (sg 0 49) = 0 then some (x3, sg) else some (x1, sg)
def b_M_numberOf_38 (F : Nat) (sg : St) (x1 x3 : Int) : Option (Int × St) := if w32 (sg 0 49) = 0 then (f_M_next F sg ).bind fun q2 => b_M_numberOf_49  F  q2 x1 x3 else b_M_numberOf_49  F  sg x1 x3
def b_M_numberOf_29 (F : Nat) (sg : St) (x1 x3 : Int) : Option (Int × St) := (f_M_fail sg 4 (sg 0 82)).bind fun q1 => b_M_numberOf_38  F  q1 x1 x3
def f_M_numberOf (F : Nat) (sg : St) (x1 x2 : Int) : Option (Int × St) := if w32 (sg 0 81) = w32 2 then if w32 (sg 0 84) < w32 x1 then b_M_numberOf_29 F sg x1 (sg 0 84) else if w32 (sg 0 84) ≤ w32 x2 then b_M_numberOf_38 F sg x1 (sg 0 84) else b_M_numberOf_29 F sg x1 (sg 0 84) else (f_M_wrong sg ).bind fun q2 => some (x1, q2)
def rm_M_wishOf : Room := { frames := 1, cells := 0, slots := 0, locals := 27 }
def f_M_wishOf (sg : St) : Option (Int × St) := (f_M_spelled sg 102 105 101 108 100 0).bind fun q1 => (f_M_isWord q1.2 q1.1).bind fun q2 => if w32 q2.1 = 0 then (f_M_spelled q2.2 97 103 101 0 0 0).bind fun q4 => (f_M_isWord q4.2 q4.1).bind fun q5 => if w32 q5.1 = 0 then (f_M_spelled q5.2 115 99 104 111 111 108).bind fun q7 => (f_M_isWord q7.2 q7.1).bind fun q8 => if w32 q8.1 = 0 then (f_M_spelled q8.2 115 101 101 110 0 0).bind fun q10 => (f_M_isWord q10.2 q10.1).bind fun q11 => if w32 q11.1 = 0 then some ((-1), q11.2) else some (3, q11.2) else some (2, q8.2) else some (1, q5.2) else some (0, q2.2)
def rm_M_readPrize : Room := { frames := 3, cells := 0, slots := 0, locals := 65 }
def b_M_readPrize_218 (F : Nat) (kc : St → Int → Int → Int → Option (St)) (k237 : St → Int → Option (St)) (sg : St) (x1 x2 : Int) : Option (St) := if w32 (sg 0 49) = 0 then (f_M_wishOf sg ).bind fun q2 => kc q2.2 x1 x2 q2.1 else kc sg x1 x2 (-1)
def b_M_readPrize_158 (F : Nat) (kc : St → Int → Int → Int → Option (St)) (k237 : St → Int → Option (St)) (sg : St) (x1 x2 x3 z0 z1 : Int) : Option (St) := (f_M_numberOf F sg z1 z0).bind fun q1 => if w32 x3 = 0 then gd (inb x1 9) (let s4 := put q1.2 39 (ix x1) q1.1; b_M_readPrize_218  F kc k237 s4 x1 x2) else if w32 x3 = w32 1 then gd (inb x1 9) (let s7 := put q1.2 40 (ix x1) q1.1; b_M_readPrize_218  F kc k237 s7 x1 x2) else if w32 x3 = w32 2 then gd (inb x1 9) (let s10 := put q1.2 41 (ix x1) q1.1; b_M_readPrize_218  F kc k237 s10 x1 x2) else gd (inb x1 9) (let s12 := put q1.2 42 (ix x1) q1.1; b_M_readPrize_218  F kc k237 s12 x1 x2)
def b_M_readPrize_128 (F : Nat) (kc : St → Int → Int → Int → Option (St)) (k237 : St → Int → Option (St)) (sg : St) (x1 x2 x3 z0 : Int) : Option (St) := if w32 x3 = 0 then b_M_readPrize_158  F kc k237 sg x1 x2 x3 7 z0 else if w32 x3 = w32 1 then b_M_readPrize_158  F kc k237 sg x1 x2 x3 3 z0 else if w32 x3 = w32 2 then b_M_readPrize_158  F kc k237 sg x1 x2 x3 15 z0 else b_M_readPrize_158  F kc k237 sg x1 x2 x3 12 z0
def b_M_readPrize_99 (F : Nat) (kc : St → Int → Int → Int → Option (St)) (k237 : St → Int → Option (St)) (sg : St) (x1 x2 x3 : Int) : Option (St) := if w32 (sg 0 49) ≤ 0 then (f_M_next F sg ).bind fun q2 => if w32 x3 = w32 3 then b_M_readPrize_128  F kc k237 q2 x1 (orI x2 (shlI 1 x3)) x3 1 else b_M_readPrize_128  F kc k237 q2 x1 (orI x2 (shlI 1 x3)) x3 0 else some sg
def b_M_readPrize_70 (F : Nat) (kc : St → Int → Int → Int → Option (St)) (k237 : St → Int → Option (St)) (sg : St) (x1 x2 x3 : Int) : Option (St) := if w32 x3 < 0 then k237 sg x1 else if w32 (sg 0 49) = 0 then if w32 (andI (shrI x2 x3) 1) = w32 1 then (f_M_fail sg 5 (sg 0 82)).bind fun q4 => b_M_readPrize_99  F kc k237 q4 x1 x2 x3 else b_M_readPrize_99  F kc k237 sg x1 x2 x3 else k237 sg x1
def l_M_readPrize_70 (F : Nat) (k237 : St → Int → Option (St)) : Nat → St → Int → Int → Int → Option (St)
  | 0 => fun _ _ _ _ => none
  | n + 1 => b_M_readPrize_70  F (l_M_readPrize_70  F k237 n) k237
def b_M_readPrize_332 (F : Nat) (sg : St) : Option (St) := if w32 (sg 0 81) = w32 3 then (f_M_next F sg ).bind fun q3 => let s4 := put q3 0 52 ((q3 0 52) + 1); some s4 else (f_M_wrong sg ).bind fun q2 => some q2
def b_M_readPrize_237 (F : Nat) (sg : St) (x1 : Int) : Option (St) := if w32 (sg 0 49) ≤ 0 then (f_M_spelled sg 98 101 115 116 0 0).bind fun q2 => (f_M_isWord q2.2 q2.1).bind fun q3 => if w32 q3.1 = 0 then (f_M_wrong q3.2 ).bind fun q5 => some q5 else (f_M_next F q3.2 ).bind fun q6 => (f_M_numberOf F q6 1 24).bind fun q7 => gd (inb x1 9) (let s9 := put q7.2 43 (ix x1) q7.1; if w32 (s9 0 49) ≤ 0 then (f_M_spelled s9 97 108 111 110 101 0).bind fun q11 => (f_M_isWord q11.2 q11.1).bind fun q12 => gd (inb x1 9) (let s14 := put q12.2 44 (ix x1) (nz q12.1); gd (inb x1 9) (if w32 (s14 44 (ix x1)) = 0 then b_M_readPrize_332  F  s14  else (f_M_next F s14 ).bind fun q17 => b_M_readPrize_332  F  q17 )) else some s9) else some sg
def f_M_readPrize (F : Nat) (sg : St) : Option (St) := if w32 (sg 0 52) = w32 8 then (f_M_fail sg 3 (sg 0 82)).bind fun q2 => some q2 else (f_M_next F sg ).bind fun q3 => gd (inb (sg 0 52) 9) (let s5 := put q3 39 (ix (sg 0 52)) (-1); gd (inb (sg 0 52) 9) (let s7 := put s5 40 (ix (sg 0 52)) (-1); gd (inb (sg 0 52) 9) (let s9 := put s7 41 (ix (sg 0 52)) (-1); gd (inb (sg 0 52) 9) (let s11 := put s9 42 (ix (sg 0 52)) 1; gd (inb (sg 0 52) 9) (let s13 := put s11 44 (ix (sg 0 52)) (nz 0); (f_M_wishOf s13 ).bind fun q14 => l_M_readPrize_70 F (fun s15 x1_16 => b_M_readPrize_237 F s15 x1_16) F q14.2 (sg 0 52) 0 q14.1)))))
def rm_M_lay : Room := { frames := 0, cells := 0, slots := 0, locals := 0 }
def b_M_lay_2 (F : Nat) (kc : St → Int → Int → Option (St)) (k38 : St → Option (St)) (sg : St) (x1 x2 : Int) : Option (St) := if w32 x2 < 0 then k38 sg  else gd (inb (sg 0 45) 300) (let s3 := put sg 32 (ix (sg 0 45)) (w8 (w8 (shrI x1 (8 * x2)))); let s4 := put s3 0 45 ((s3 0 45) + 1); kc s4 x1 (x2 + (-1)))
def l_M_lay_2 (F : Nat) (k38 : St → Option (St)) : Nat → St → Int → Int → Option (St)
  | 0 => fun _ _ _ => none
  | n + 1 => b_M_lay_2  F (l_M_lay_2  F k38 n) k38
def f_M_lay (F : Nat) (sg : St) (x1 : Int) : Option (St) := l_M_lay_2 F (fun s1 => some s1) F sg x1 3
def rm_M_prizes : Room := { frames := 4, cells := 0, slots := 0, locals := 89 }
def b_M_prizes_161 (F : Nat) (kc : St → Int → Option (Int × St)) (k247 : St → Option (Int × St)) (sg : St) (x2 : Int) : Option (Int × St) := if w32 (sg 0 51) ≤ w32 x2 then k247 sg  else gd (inb x2 9) (gd (inb x2 8) (let s4 := put sg 33 (ix x2) (sg 39 (ix x2)); gd (inb x2 9) (gd (inb x2 8) (let s7 := put s4 34 (ix x2) (s4 40 (ix x2)); gd (inb x2 9) (gd (inb x2 8) (let s10 := put s7 35 (ix x2) (s7 41 (ix x2)); gd (inb x2 9) (gd (inb x2 8) (let s13 := put s10 36 (ix x2) (s10 42 (ix x2)); gd (inb x2 9) (gd (inb x2 8) (let s16 := put s13 37 (ix x2) (s13 43 (ix x2)); gd (inb x2 9) (gd (inb x2 8) (let s19 := put s16 38 (ix x2) (nz (s16 44 (ix x2))); kc s19 (x2 + 1)))))))))))))
def l_M_prizes_161 (F : Nat) (k247 : St → Option (Int × St)) : Nat → St → Int → Option (Int × St)
  | 0 => fun _ _ => none
  | n + 1 => b_M_prizes_161  F (l_M_prizes_161  F k247 n) k247
def b_M_prizes_57 (F : Nat) (kc : St → Option (Int × St)) (k92 : St → Option (Int × St)) (sg : St) : Option (Int × St) := if w32 (sg 0 49) = 0 then (f_M_spelled sg 112 114 105 122 101 0).bind fun q2 => (f_M_isWord q2.2 q2.1).bind fun q3 => if w32 q3.1 = 0 then k92 q3.2  else (f_M_readPrize F q3.2 ).bind fun q5 => kc q5  else k92 sg 
def l_M_prizes_57 (F : Nat) (k92 : St → Option (Int × St)) : Nat → St → Option (Int × St)
  | 0 => fun _  => none
  | n + 1 => b_M_prizes_57  F (l_M_prizes_57  F k92 n) k92
def b_M_prizes_134 (F : Nat) (sg : St) (z0 : Int) : Option (Int × St) := let s1 := put sg 0 48 z0; if w32 (s1 0 49) ≤ 0 then let s4 := put s1 0 51 (s1 0 52); l_M_prizes_161  F (fun s5  => some (s5 0 51, s5)) F s4 0 else (f_M_refuse s1 7).bind fun q3 => some (q3.1, q3.2)
def b_M_prizes_110 (F : Nat) (sg : St) : Option (Int × St) := let s1 := put sg 0 47 (sg 0 49); if w32 (s1 0 49) = 0 then b_M_prizes_134  F  s1 (-1) else b_M_prizes_134  F  s1 (s1 0 50)
def b_M_prizes_92 (F : Nat) (sg : St) : Option (Int × St) := if w32 (sg 0 49) = 0 then if w32 (sg 0 81) = 0 then b_M_prizes_110  F  sg  else (f_M_wrong sg ).bind fun q3 => b_M_prizes_110  F  q3  else b_M_prizes_110  F  sg 
def b_M_prizes_22 (F : Nat) (sg : St) : Option (Int × St) := (f_M_refuse sg 2).bind fun q1 => some (q1.1, q1.2)
def f_M_prizes (F : Nat) (sg : St) (x1 : Int) : Option (Int × St) := let s1 := put sg 0 1 0; let s2 := put s1 0 0 0; if w32 x1 < 0 then b_M_prizes_22 F s2 else if w32 x1 ≤ w32 (s2 0 45) then let s5 := put s2 0 46 x1; let s6 := put s5 0 45 0; let s7 := put s6 0 83 0; let s8 := put s7 0 49 0; let s9 := put s8 0 52 0; (f_M_next F s9 ).bind fun q10 => l_M_prizes_57 F (fun s11 => b_M_prizes_92 F s11 ) F q10 else b_M_prizes_22 F s2 
def rm_M_fault : Room := { frames := 0, cells := 0, slots := 0, locals := 0 }
def f_M_fault (sg : St) (x1 : Int) : Option (Int × St) := let s1 := put sg 0 1 0; if w32 x1 = 0 then some (s1 0 47, s1) else if w32 x1 = w32 1 then some (s1 0 48, s1) else some ((-1), s1)
def rm_M_isAbove : Room := { frames := 1, cells := 0, slots := 0, locals := 25 }
def b_M_isAbove_17 (F : Nat) (kc : St → Int → Int → Int → Int → Int → Option (Int × St)) (k98 : St → Int → Int → Int → Int → Int → Option (Int × St)) (sg : St) (x8 x10 x12 x14 x16 : Int) : Option (Int × St) := if w64 x10 = w64 0 then k98 sg x8 x10 x12 x14 x16 else if w64 x14 = w64 0 then k98 sg x8 x10 x12 x14 x16 else (f_MJ_floorDiv sg x8 x10).bind fun q3 => (f_MJ_floorDiv q3.2 x12 x14).bind fun q4 => if w64 q3.1 = w64 q4.1 then (f_MJ_floorMod q4.2 x8 x10).bind fun q6 => (f_MJ_floorMod q6.2 x12 x14).bind fun q7 => if w32 x16 = 0 then kc q7.2 x10 q6.1 x14 q7.1 1 else kc q7.2 x10 q6.1 x14 q7.1 0 else k98 q4.2 x8 x10 x12 x14 x16
def l_M_isAbove_17 (F : Nat) (k98 : St → Int → Int → Int → Int → Int → Option (Int × St)) : Nat → St → Int → Int → Int → Int → Int → Option (Int × St)
  | 0 => fun _ _ _ _ _ _ => none
  | n + 1 => b_M_isAbove_17  F (l_M_isAbove_17  F k98 n) k98
def b_M_isAbove_151 (F : Nat) (sg : St) (x16 z0 : Int) : Option (Int × St) := if w32 x16 = w32 z0 then some (0, sg) else some (1, sg)
def b_M_isAbove_114 (F : Nat) (sg : St) (x8 x10 x12 x14 x16 : Int) : Option (Int × St) := if w64 x14 = w64 0 then b_M_isAbove_151  F  sg x16 0 else if w64 x10 = w64 0 then b_M_isAbove_151  F  sg x16 1 else (f_MJ_floorDiv sg x8 x10).bind fun q3 => (f_MJ_floorDiv q3.2 x12 x14).bind fun q4 => if w64 q3.1 ≤ w64 q4.1 then b_M_isAbove_151  F  q4.2 x16 0 else b_M_isAbove_151  F  q4.2 x16 1
def b_M_isAbove_98 (F : Nat) (sg : St) (x8 x10 x12 x14 x16 : Int) : Option (Int × St) := if w64 x10 = w64 0 then if w64 x14 = w64 0 then some (0, sg) else b_M_isAbove_114  F  sg x8 x10 x12 x14 x16 else b_M_isAbove_114  F  sg x8 x10 x12 x14 x16
def f_M_isAbove (F : Nat) (sg : St) (x0 x2 x4 x6 : Int) : Option (Int × St) := l_M_isAbove_17 F (fun s1 x8_2 x10_3 x12_4 x14_5 x16_6 => b_M_isAbove_98 F s1 x8_2 x10_3 x12_4 x14_5 x16_6) F sg x0 x2 x4 x6 0
def rm_M_wants : Room := { frames := 2, cells := 0, slots := 0, locals := 44 }
def b_M_wants_91 (F : Nat) (sg : St) (x1 x2 : Int) : Option (Int × St) := gd (inb x1 8) (if w32 (sg 35 (ix x1)) < 0 then some (1, sg) else gd (inb x1 8) (gd (inb x2 24) (if w32 (sg 35 (ix x1)) = w32 (sg 3 (ix x2)) then some (1, sg) else some (0, sg))))
def b_M_wants_67 (F : Nat) (sg : St) (x1 x2 : Int) : Option (Int × St) := gd (inb x1 8) (if w32 (sg 34 (ix x1)) < 0 then b_M_wants_91  F  sg x1 x2 else gd (inb x1 8) (gd (inb x2 24) (if w32 (sg 34 (ix x1)) = w32 (sg 2 (ix x2)) then b_M_wants_91  F  sg x1 x2 else some (0, sg))))
def b_M_wants_43 (F : Nat) (sg : St) (x1 x2 : Int) : Option (Int × St) := gd (inb x1 8) (if w32 (sg 33 (ix x1)) < 0 then b_M_wants_67  F  sg x1 x2 else gd (inb x1 8) (gd (inb x2 24) (if w32 (sg 33 (ix x1)) = w32 (sg 1 (ix x2)) then b_M_wants_67  F  sg x1 x2 else some (0, sg))))
def f_M_wants (F : Nat) (sg : St) (x1 x2 : Int) : Option (Int × St) := gd (inb x2 24) (if w32 (sg 47 (ix x2)) = 0 then some (0, sg) else (f_M_countOf F sg x2).bind fun q3 => gd (inb x1 8) (if w32 q3.1 < w32 (q3.2 36 (ix x1)) then some (0, q3.2) else gd (inb x1 8) (if w32 (q3.2 38 (ix x1)) = 0 then b_M_wants_43 F q3.2 x1 x2 else gd (inb x2 24) (if w32 (q3.2 48 (ix x2)) = 0 then b_M_wants_43 F q3.2 x1 x2 else some (0, q3.2)))))
def rm_M_given : Room := { frames := 4, cells := 0, slots := 0, locals := 102 }
def b_M_given_259 (F : Nat) (kc : St → Int → Int → Int → Int → Int → Int → Option (Int × St)) (k327 : St → Int → Int → Int → Int → Int → Option (Int × St)) (sg : St) (x1 x2 x4 x5 x6 x7 : Int) : Option (Int × St) := if w32 (sg 0 4) ≤ w32 x7 then k327 sg x1 x2 x4 x5 x6 else gd (inb x7 24) (if w32 (sg 49 (ix x7)) = 0 then if w32 x6 < 0 then kc sg x1 x2 x4 x5 x7 (x7 + 1) else gd (inb x7 24) (gd (inb x7 24) (gd (inb x6 24) (gd (inb x6 24) ((f_M_isAbove F sg (sg 45 (ix x7)) (sg 46 (ix x7)) (sg 45 (ix x6)) (sg 46 (ix x6))).bind fun q9 => if w32 q9.1 = 0 then kc q9.2 x1 x2 x4 x5 x6 (x7 + 1) else kc q9.2 x1 x2 x4 x5 x7 (x7 + 1))))) else kc sg x1 x2 x4 x5 x6 (x7 + 1))
def l_M_given_259 (F : Nat) (k327 : St → Int → Int → Int → Int → Int → Option (Int × St)) : Nat → St → Int → Int → Int → Int → Int → Int → Option (Int × St)
  | 0 => fun _ _ _ _ _ _ _ => none
  | n + 1 => b_M_given_259  F (l_M_given_259  F k327 n) k327
def b_M_given_359 (F : Nat) (kc : St → Int → Int → Int → Int → Option (Int × St)) (k386 : St → Int → Int → Int → Option (Int × St)) (sg : St) (x1 x2 x4 x5 x6 : Int) : Option (Int × St) := if w32 x6 < 0 then kc sg x1 x2 x4 (x5 + 1) else gd (inb x6 24) (let s3 := put sg 49 (ix x6) (nz 1); gd (inb x6 24) (let s5 := put s3 48 (ix x6) (nz 1); kc s5 x1 x2 x4 (x5 + 1)))
def b_M_given_241 (F : Nat) (kc : St → Int → Int → Int → Int → Option (Int × St)) (k386 : St → Int → Int → Int → Option (Int × St)) (sg : St) (x1 x2 x4 x5 : Int) : Option (Int × St) := gd (inb x4 8) (if w32 (sg 37 (ix x4)) ≤ w32 x5 then k386 sg x1 x2 x4 else l_M_given_259  F (fun s3 x1_4 x2_5 x4_6 x5_7 x6_8 => if 0 ≤ w32 x6_8 then if w32 x4_6 = w32 x1_4 then if w32 x5_7 = w32 x2_5 then some (x6_8, s3) else b_M_given_359  F kc k386 s3 x1_4 x2_5 x4_6 x5_7 x6_8 else b_M_given_359  F kc k386 s3 x1_4 x2_5 x4_6 x5_7 x6_8 else gd (inb x4_6 8) (b_M_given_359  F kc k386 s3 x1_4 x2_5 x4_6 (s3 37 (ix x4_6)) x6_8)) F sg x1 x2 x4 x5 (-1) 0)
def l_M_given_241 (F : Nat) (k386 : St → Int → Int → Int → Option (Int × St)) : Nat → St → Int → Int → Int → Int → Option (Int × St)
  | 0 => fun _ _ _ _ _ => none
  | n + 1 => b_M_given_241  F (l_M_given_241  F k386 n) k386
def b_M_given_231 (F : Nat) (kc : St → Int → Int → Int → Int → Option (Int × St)) (k238 : St → Int → Int → Int → Option (Int × St)) (sg : St) (x1 x2 x4 x5 z0 z1 : Int) : Option (Int × St) := gd (inb z1 24) (let s2 := put sg 49 (ix z1) (nz z0); kc s2 x1 x2 x4 (x5 + 1))
def b_M_given_200 (F : Nat) (kc : St → Int → Int → Int → Int → Option (Int × St)) (k238 : St → Int → Int → Int → Option (Int × St)) (sg : St) (x1 x2 x4 x5 : Int) : Option (Int × St) := if w32 (sg 0 4) ≤ w32 x5 then k238 sg x1 x2 x4 else (f_M_wants F sg x4 x5).bind fun q2 => if w32 q2.1 = 0 then b_M_given_231  F kc k238 q2.2 x1 x2 x4 x5 1 x5 else b_M_given_231  F kc k238 q2.2 x1 x2 x4 x5 0 x5
def l_M_given_200 (F : Nat) (k238 : St → Int → Int → Int → Option (Int × St)) : Nat → St → Int → Int → Int → Int → Option (Int × St)
  | 0 => fun _ _ _ _ _ => none
  | n + 1 => b_M_given_200  F (l_M_given_200  F k238 n) k238
def b_M_given_191 (F : Nat) (kc : St → Int → Int → Int → Option (Int × St)) (k392 : St → Option (Int × St)) (sg : St) (x1 x2 x4 : Int) : Option (Int × St) := if w32 x1 < w32 x4 then k392 sg  else l_M_given_200  F (fun s2 x1_3 x2_4 x4_5 => l_M_given_241  F (fun s6 x1_7 x2_8 x4_9 => kc s6 x1_7 x2_8 (x4_9 + 1)) F s2 x1_3 x2_4 x4_5 0) F sg x1 x2 x4 0
def l_M_given_191 (F : Nat) (k392 : St → Option (Int × St)) : Nat → St → Int → Int → Int → Option (Int × St)
  | 0 => fun _ _ _ _ => none
  | n + 1 => b_M_given_191  F (l_M_given_191  F k392 n) k392
def b_M_given_140 (F : Nat) (kc : St → Int → Int → Int → Option (Int × St)) (k188 : St → Int → Int → Option (Int × St)) (sg : St) (x1 x2 x4 z0 z1 : Int) : Option (Int × St) := gd (inb z1 24) (let s2 := put sg 47 (ix z1) (nz z0); gd (inb x4 24) (if w32 (s2 47 (ix x4)) = 0 then kc s2 x1 x2 (x4 + 1) else (f_M_fairOf F s2 x4).bind fun q5 => gd (inb x4 24) (let s7 := put q5 45 (ix x4) (q5 0 79); gd (inb x4 24) (let s9 := put s7 46 (ix x4) (s7 0 80); kc s9 x1 x2 (x4 + 1)))))
def b_M_given_103 (F : Nat) (kc : St → Int → Int → Int → Option (Int × St)) (k188 : St → Int → Int → Option (Int × St)) (sg : St) (x1 x2 x4 : Int) : Option (Int × St) := if w32 (sg 0 4) ≤ w32 x4 then k188 sg x1 x2 else gd (inb x4 24) (let s3 := put sg 48 (ix x4) (nz 0); (f_M_countOf F s3 x4).bind fun q4 => if w32 q4.1 ≤ 0 then b_M_given_140  F kc k188 q4.2 x1 x2 x4 0 x4 else b_M_given_140  F kc k188 q4.2 x1 x2 x4 1 x4)
def l_M_given_103 (F : Nat) (k188 : St → Int → Int → Option (Int × St)) : Nat → St → Int → Int → Int → Option (Int × St)
  | 0 => fun _ _ _ _ => none
  | n + 1 => b_M_given_103  F (l_M_given_103  F k188 n) k188
def b_M_given_53 (F : Nat) (kc : St → Int → Int → Int → Option (Int × St)) (k100 : St → Int → Int → Option (Int × St)) (sg : St) (x1 x2 x4 : Int) : Option (Int × St) := if w32 (sg 0 5) ≤ w32 x4 then k100 sg x1 x2 else gd (inb x4 12) (if w32 (sg 26 (ix x4)) < 0 then kc sg x1 x2 (x4 + 1) else gd (inb x4 12) ((f_M_sizeOf F sg (sg 26 (ix x4))).bind fun q5 => if w32 q5.1 ≤ w32 5 then kc q5.2 x1 x2 (x4 + 1) else (f_M_refuse q5.2 9).bind fun q7 => some (q7.1, q7.2)))
def l_M_given_53 (F : Nat) (k100 : St → Int → Int → Option (Int × St)) : Nat → St → Int → Int → Int → Option (Int × St)
  | 0 => fun _ _ _ _ => none
  | n + 1 => b_M_given_53  F (l_M_given_53  F k100 n) k100
def b_M_given_26 (F : Nat) (sg : St) : Option (Int × St) := (f_M_refuse sg 1).bind fun q1 => some (q1.1, q1.2)
def f_M_given (F : Nat) (sg : St) (x1 x2 x3 : Int) : Option (Int × St) := let s1 := put sg 0 1 0; let s2 := put s1 0 0 0; if w32 x1 < 0 then b_M_given_26 F s2 else if w32 (s2 0 51) ≤ w32 x1 then b_M_given_26 F s2 else if 0 ≤ w32 x2 then (f_M_isDay s2 x3).bind fun q6 => if w32 q6.1 = 0 then (f_M_refuse q6.2 2).bind fun q8 => some (q8.1, q8.2) else (f_M_known F q6.2 x3).bind fun q9 => l_M_given_53 F (fun s10 x1_11 x2_12 => l_M_given_103 F (fun s13 x1_14 x2_15 => l_M_given_191 F (fun s16 => (f_M_refuse s16 1).bind fun q17 => some (q17.1, q17.2)) F s13 x1_14 x2_15 0) F s10 x1_11 x2_12 0) F q9 x1 x2 0 else b_M_given_26 F s2 
def rm_M_hall : Room := { frames := 1, cells := 0, slots := 0, locals := 21 }
def b_M_hall_41 (F : Nat) (sg : St) : Option (Int × St) := (f_M_refuse sg 2).bind fun q1 => some (q1.1, q1.2)
def f_M_hall (sg : St) (x1 x2 x3 : Int) : Option (Int × St) := let s1 := put sg 0 1 0; let s2 := put s1 0 0 0; if w32 x1 < 0 then b_M_hall_41 0 s2 else if w32 24 < w32 x1 then b_M_hall_41 0 s2 else if w32 x2 < 0 then b_M_hall_41 0 s2 else if w32 999 < w32 x2 then b_M_hall_41 0 s2 else if w32 x3 < 0 then b_M_hall_41 0 s2 else if w32 x3 ≤ w32 24 then if w32 (s2 0 70) = w32 4 then (f_M_refuse s2 3).bind fun q10 => some (q10.1, q10.2) else gd (inb (s2 0 70) 4) (let s12 := put s2 50 (ix (s2 0 70)) x1; gd (inb (s12 0 70) 4) (let s14 := put s12 51 (ix (s12 0 70)) x2; gd (inb (s14 0 70) 4) (let s16 := put s14 52 (ix (s14 0 70)) x3; let s17 := put s16 0 70 ((s16 0 70) + 1); some ((s17 0 70) - 1, s17)))) else b_M_hall_41 0 s2 
def rm_M_clear : Room := { frames := 0, cells := 0, slots := 0, locals := 0 }
def f_M_clear (sg : St) : Option (Int × St) := let s1 := put sg 0 1 0; let s2 := put s1 0 0 0; let s3 := put s2 0 70 0; some (1, s3)
def rm_M_puts : Room := { frames := 0, cells := 0, slots := 0, locals := 0 }
def b_M_puts_48 (F : Nat) (sg : St) (z0 z1 z2 : Int) : Option (St) := gd (inb z2 4) (let s2 := put sg 56 (ix z2) (z1 + z0); some s2)
def f_M_puts (sg : St) (x1 x2 x3 : Int) : Option (St) := gd (inb x2 4) (gd (inb x2 4) (let s3 := put sg 54 (ix x2) ((sg 54 (ix x2)) + x3); gd (inb x2 4) (gd (inb x1 24) (gd (inb x2 4) (let s7 := put s3 55 (ix x2) ((s3 55 (ix x2)) + (x3 * (s3 4 (ix x1)))); gd (inb x2 4) (gd (inb x1 24) (if w32 (s7 8 (ix x1)) = 0 then b_M_puts_48 0 s7 0 (s7 56 (ix x2)) x2 else b_M_puts_48 0 s7 x3 (s7 56 (ix x2)) x2)))))))
def rm_M_canBear : Room := { frames := 0, cells := 0, slots := 0, locals := 0 }
def b_M_canBear_57 (F : Nat) (sg : St) (x2 z0 z1 : Int) : Option (Int × St) := gd (inb x2 4) (if w32 (sg 52 (ix x2)) < w32 (z1 + z0) then some (0, sg) else some (1, sg))
def f_M_canBear (sg : St) (x1 x2 : Int) : Option (Int × St) := gd (inb x2 4) (gd (inb x2 4) (if w32 (sg 50 (ix x2)) ≤ w32 (sg 54 (ix x2)) then some (0, sg) else gd (inb x2 4) (gd (inb x1 24) (gd (inb x2 4) (if w32 (sg 51 (ix x2)) < w32 ((sg 55 (ix x2)) + (sg 4 (ix x1))) then some (0, sg) else gd (inb x2 4) (gd (inb x1 24) (if w32 (sg 8 (ix x1)) = 0 then b_M_canBear_57 0 sg x2 0 (sg 56 (ix x2)) else b_M_canBear_57 0 sg x2 1 (sg 56 (ix x2)))))))))
def rm_M_lays : Room := { frames := 1, cells := 0, slots := 0, locals := 23 }
def b_M_lays_95 (F : Nat) (kc : St → Int → Int → Int → Option (Int × St)) (k152 : St → Int → Int → Int → Option (Int × St)) (sg : St) (x1 x2 x3 : Int) : Option (Int × St) := if w32 (sg 0 70) ≤ w32 x2 then k152 sg x1 x2 x3 else if w32 x3 = 0 then if w32 (sg 0 71) = w32 20000 then some (10, sg) else let s4 := put sg 0 71 ((sg 0 71) + 1); (f_M_canBear s4 x1 x2).bind fun q5 => if w32 q5.1 = 0 then kc q5.2 x1 (x2 + 1) q5.1 else kc q5.2 x1 (x2 + 0) q5.1 else k152 sg x1 x2 x3
def l_M_lays_95 (F : Nat) (k152 : St → Int → Int → Int → Option (Int × St)) : Nat → St → Int → Int → Int → Option (Int × St)
  | 0 => fun _ _ _ _ => none
  | n + 1 => b_M_lays_95  F (l_M_lays_95  F k152 n) k152
def b_M_lays_152 (F : Nat) (kc : St → Int → Option (Int × St)) (k204 : St → Option (Int × St)) (sg : St) (x1 x2 x3 : Int) : Option (Int × St) := if w32 x3 = 0 then if 0 ≤ w32 (x1 + (-1)) then kc sg (x1 + (-1)) else some (8, sg) else gd (inb x1 24) (let s3 := put sg 53 (ix x1) x2; (f_M_puts s3 x1 x2 1).bind fun q4 => if w32 (q4 0 4) ≤ w32 (x1 + 1) then kc q4 (x1 + 1) else gd (inb (x1 + 1) 24) (let s7 := put q4 53 (ix (x1 + 1)) (-1); kc s7 (x1 + 1)))
def b_M_lays_84 (F : Nat) (kc : St → Int → Option (Int × St)) (k204 : St → Option (Int × St)) (sg : St) (x1 : Int) : Option (Int × St) := gd (inb x1 24) (l_M_lays_95  F (fun s2 x1_3 x2_4 x3_5 => b_M_lays_152  F kc k204 s2 x1_3 x2_4 x3_5) F sg x1 ((sg 53 (ix x1)) + 1) 0)
def b_M_lays_55 (F : Nat) (kc : St → Int → Option (Int × St)) (k204 : St → Option (Int × St)) (sg : St) (x1 : Int) : Option (Int × St) := if w32 (sg 0 4) ≤ w32 x1 then k204 sg  else gd (inb x1 24) (if w32 (sg 53 (ix x1)) < 0 then b_M_lays_84  F kc k204 sg x1 else gd (inb x1 24) ((f_M_puts sg x1 (sg 53 (ix x1)) (-1)).bind fun q5 => b_M_lays_84  F kc k204 q5 x1))
def l_M_lays_55 (F : Nat) (k204 : St → Option (Int × St)) : Nat → St → Int → Option (Int × St)
  | 0 => fun _ _ => none
  | n + 1 => b_M_lays_55  F (l_M_lays_55  F k204 n) k204
def b_M_lays_7 (F : Nat) (kc : St → Int → Option (Int × St)) (k39 : St → Option (Int × St)) (sg : St) (x1 : Int) : Option (Int × St) := if w32 4 ≤ w32 x1 then k39 sg  else gd (inb x1 4) (let s3 := put sg 54 (ix x1) 0; gd (inb x1 4) (let s5 := put s3 55 (ix x1) 0; gd (inb x1 4) (let s7 := put s5 56 (ix x1) 0; kc s7 (x1 + 1))))
def l_M_lays_7 (F : Nat) (k39 : St → Option (Int × St)) : Nat → St → Int → Option (Int × St)
  | 0 => fun _ _ => none
  | n + 1 => b_M_lays_7  F (l_M_lays_7  F k39 n) k39
def f_M_lays (F : Nat) (sg : St) : Option (Int × St) := let s1 := put sg 0 71 0; l_M_lays_7 F (fun s2 => if w32 (s2 0 4) ≤ 0 then l_M_lays_55 F (fun s7 => some (0, s7)) F s2 0 else gd (inb 0 24) (let s5 := put s2 53 (ix 0) (-1); l_M_lays_55 F (fun s6 => some (0, s6)) F s5 0)) F s1 0
def rm_M_laid : Room := { frames := 2, cells := 0, slots := 0, locals := 46 }
def f_M_laid (F : Nat) (sg : St) (x1 : Int) : Option (Int × St) := let s1 := put sg 0 1 0; let s2 := put s1 0 0 0; (f_M_isBoard s2 x1).bind fun q3 => if w32 q3.1 = 0 then (f_M_refuse q3.2 1).bind fun q5 => some (q5.1, q5.2) else (f_M_lays F q3.2 ).bind fun q6 => if w32 q6.1 ≤ 0 then gd (inb x1 24) (some (q6.2 53 (ix x1), q6.2)) else (f_M_refuse q6.2 q6.1).bind fun q8 => some (q8.1, q8.2)
def rm_M_tries : Room := { frames := 2, cells := 0, slots := 0, locals := 46 }
def f_M_tries (F : Nat) (sg : St) : Option (Int × St) := let s1 := put sg 0 1 0; let s2 := put s1 0 0 0; (f_M_lays F s2 ).bind fun q3 => if w32 q3.1 ≤ 0 then some (q3.2 0 71, q3.2) else (f_M_refuse q3.2 q3.1).bind fun q5 => some (q5.1, q5.2)
def rm_M_grows : Room := { frames := 2, cells := 0, slots := 0, locals := 45 }
def b_M_grows_190 (F : Nat) (kc : St → Int → Int → Int → Int → Int → Int → Option (Int × St)) (k272 : St → Int → Int → Int → Int → Int → Option (Int × St)) (sg : St) (x1 x2 x3 x4 x5 x6 : Int) : Option (Int × St) := if w32 (sg 0 4) ≤ w32 x6 then k272 sg x1 x2 x3 x4 x5 else gd (inb x6 24) (if w32 (sg 13 (ix x6)) = 0 then (f_M_at sg x6 x5).bind fun q4 => gd (inb q4.1 288) (if w32 (q4.2 10 (ix q4.1)) = 0 then kc q4.2 x1 x2 x3 x4 x5 (x6 + 1) else (f_M_isFree q4.2 x6 x5).bind fun q7 => if w32 q7.1 = 0 then kc q7.2 x1 x2 x3 x4 x5 (x6 + 1) else gd (inb x6 24) (let s10 := put q7.2 13 (ix x6) (nz 1); gd (inb x6 24) (let s12 := put s10 19 (ix x6) x5; gd (inb x2 24) (let s14 := put s12 18 (ix x2) x6; kc s14 x1 (x2 + 1) x3 x4 x5 (x6 + 1))))) else kc sg x1 x2 x3 x4 x5 (x6 + 1))
def l_M_grows_190 (F : Nat) (k272 : St → Int → Int → Int → Int → Int → Option (Int × St)) : Nat → St → Int → Int → Int → Int → Int → Int → Option (Int × St)
  | 0 => fun _ _ _ _ _ _ _ => none
  | n + 1 => b_M_grows_190  F (l_M_grows_190  F k272 n) k272
def b_M_grows_87 (F : Nat) (kc : St → Int → Int → Int → Int → Int → Option (Int × St)) (k278 : St → Int → Int → Int → Option (Int × St)) (sg : St) (x1 x2 x3 x4 x5 : Int) : Option (Int × St) := if w32 (sg 0 5) ≤ w32 x5 then k278 sg x1 x2 x3 else gd (inb x5 12) (if w32 (sg 12 (ix x5)) = 0 then (f_M_isFree sg x4 x5).bind fun q4 => if w32 q4.1 = 0 then kc q4.2 x1 x2 x3 x4 (x5 + 1) else (f_M_at q4.2 x4 x5).bind fun q6 => gd (inb q6.1 288) (if w32 (q6.2 10 (ix q6.1)) = 0 then gd (inb x5 12) (let s10 := put q6.2 12 (ix x5) (nz 1); gd (inb x5 12) (let s12 := put s10 17 (ix x5) x4; gd (inb x5 12) (gd (inb x5 12) (if w32 (s12 7 (ix x5)) ≤ w32 (s12 16 (ix x5)) then l_M_grows_190  F (fun s20 x1_21 x2_22 x3_23 x4_24 x5_25 => kc s20 x1_21 x2_22 x3_23 x4_24 (x5_25 + 1)) F s12 x1 x2 x3 x4 x5 0 else (f_M_turns F s12 x5).bind fun q16 => gd (inb x1 24) (gd (inb x1 24) (let s19 := put q16 15 (ix x1) ((q16 15 (ix x1)) + 1); some (1, s19))))))) else kc q6.2 x1 x2 x3 x4 (x5 + 1)) else kc sg x1 x2 x3 x4 (x5 + 1))
def l_M_grows_87 (F : Nat) (k278 : St → Int → Int → Int → Option (Int × St)) : Nat → St → Int → Int → Int → Int → Int → Option (Int × St)
  | 0 => fun _ _ _ _ _ _ => none
  | n + 1 => b_M_grows_87  F (l_M_grows_87  F k278 n) k278
def b_M_grows_71 (F : Nat) (kc : St → Int → Int → Int → Option (Int × St)) (k284 : St → Option (Int × St)) (sg : St) (x1 x2 x3 : Int) : Option (Int × St) := if w32 x2 ≤ w32 x3 then k284 sg  else gd (inb x3 24) (l_M_grows_87  F (fun s3 x1_4 x2_5 x3_6 => kc s3 x1_4 x2_5 (x3_6 + 1)) F sg x1 x2 x3 (sg 18 (ix x3)) 0)
def l_M_grows_71 (F : Nat) (k284 : St → Option (Int × St)) : Nat → St → Int → Int → Int → Option (Int × St)
  | 0 => fun _ _ _ _ => none
  | n + 1 => b_M_grows_71  F (l_M_grows_71  F k284 n) k284
def b_M_grows_25 (F : Nat) (kc : St → Int → Int → Option (Int × St)) (k46 : St → Int → Option (Int × St)) (sg : St) (x1 x2 : Int) : Option (Int × St) := if w32 (sg 0 4) ≤ w32 x2 then k46 sg x1 else gd (inb x2 24) (let s3 := put sg 13 (ix x2) (nz 0); kc s3 x1 (x2 + 1))
def l_M_grows_25 (F : Nat) (k46 : St → Int → Option (Int × St)) : Nat → St → Int → Int → Option (Int × St)
  | 0 => fun _ _ _ => none
  | n + 1 => b_M_grows_25  F (l_M_grows_25  F k46 n) k46
def b_M_grows_2 (F : Nat) (kc : St → Int → Int → Option (Int × St)) (k23 : St → Int → Option (Int × St)) (sg : St) (x1 x2 : Int) : Option (Int × St) := if w32 (sg 0 5) ≤ w32 x2 then k23 sg x1 else gd (inb x2 12) (let s3 := put sg 12 (ix x2) (nz 0); kc s3 x1 (x2 + 1))
def l_M_grows_2 (F : Nat) (k23 : St → Int → Option (Int × St)) : Nat → St → Int → Int → Option (Int × St)
  | 0 => fun _ _ _ => none
  | n + 1 => b_M_grows_2  F (l_M_grows_2  F k23 n) k23
def f_M_grows (F : Nat) (sg : St) (x1 : Int) : Option (Int × St) := l_M_grows_2 F (fun s1 x1_2 => l_M_grows_25 F (fun s3 x1_4 => gd (inb 0 24) (let s6 := put s3 18 (ix 0) x1_4; gd (inb x1_4 24) (let s8 := put s6 13 (ix x1_4) (nz 1); gd (inb x1_4 24) (let s10 := put s8 19 (ix x1_4) (-1); l_M_grows_71 F (fun s11 => some (0, s11)) F s10 x1_4 1 0)))) F s1 x1_2 0) F sg x1 0
def rm_M_feed : Room := { frames := 1, cells := 0, slots := 0, locals := 22 }
def f_M_feed (F : Nat) (sg : St) (x1 x2 x3 x4 x5 : Int) : Option (Int × St) := let s1 := put sg 0 1 0; if w32 ((s1 0 45) + 20) ≤ w32 300 then (f_M_lay F s1 x1).bind fun q3 => (f_M_lay F q3 x2).bind fun q4 => (f_M_lay F q4 x3).bind fun q5 => (f_M_lay F q5 x4).bind fun q6 => (f_M_lay F q6 x5).bind fun q7 => some (q7 0 45, q7) else some ((-1), s1)
def rm_M_find : Room := { frames := 3, cells := 0, slots := 0, locals := 71 }
def b_M_find_190 (F : Nat) (kc : St → Int → Int → Option (Int × St)) (k167 : St → Int → Int → Option (Int × St)) (k217 : St → Int → Int → Option (Int × St)) (sg : St) (x1 x2 : Int) : Option (Int × St) := gd (inb x2 24) (if w32 (sg 0 6) ≤ w32 (sg 15 (ix x2)) then k217 sg x1 x2 else (f_M_grows F sg x2).bind fun q3 => if w32 q3.1 = 0 then k217 q3.2 x1 x2 else kc q3.2 (x1 + 1) x2)
def l_M_find_190 (F : Nat) (k167 : St → Int → Int → Option (Int × St)) (k217 : St → Int → Int → Option (Int × St)) : Nat → St → Int → Int → Option (Int × St)
  | 0 => fun _ _ _ => none
  | n + 1 => b_M_find_190  F (l_M_find_190  F k167 k217 n) k167 k217
def b_M_find_167 (F : Nat) (kc : St → Int → Int → Option (Int × St)) (k223 : St → Int → Option (Int × St)) (sg : St) (x1 x2 : Int) : Option (Int × St) := if w32 (sg 0 4) ≤ w32 x2 then k223 sg x1 else gd (inb x2 24) (if w32 (sg 15 (ix x2)) ≤ w32 (sg 0 6) then l_M_find_190  F (fun s4 x1_5 x2_6 => kc s4 x1_5 x2_6) (fun s7 x1_8 x2_9 => kc s7 x1_8 (x2_9 + 1)) F sg x1 x2 else some ((-1), sg))
def l_M_find_167 (F : Nat) (k223 : St → Int → Option (Int × St)) : Nat → St → Int → Int → Option (Int × St)
  | 0 => fun _ _ _ => none
  | n + 1 => b_M_find_167  F (l_M_find_167  F k223 n) k223
def b_M_find_134 (F : Nat) (kc : St → Int → Int → Option (Int × St)) (k165 : St → Int → Option (Int × St)) (sg : St) (x1 x2 : Int) : Option (Int × St) := if w32 (sg 0 5) ≤ w32 x2 then k165 sg x1 else gd (inb x2 12) (gd (inb x2 12) (if w32 (sg 16 (ix x2)) ≤ w32 (sg 7 (ix x2)) then kc sg x1 (x2 + 1) else some ((-1), sg)))
def l_M_find_134 (F : Nat) (k165 : St → Int → Option (Int × St)) : Nat → St → Int → Int → Option (Int × St)
  | 0 => fun _ _ _ => none
  | n + 1 => b_M_find_134  F (l_M_find_134  F k165 n) k165
def b_M_find_80 (F : Nat) (kc : St → Int → Int → Int → Option (Int × St)) (k126 : St → Int → Int → Option (Int × St)) (sg : St) (x1 x2 x3 z0 z1 : Int) : Option (Int × St) := gd (inb z1 288) (let s2 := put sg 10 (ix z1) (nz z0); (f_M_at s2 x2 x3).bind fun q3 => gd (inb q3.1 288) (if w32 (q3.2 10 (ix q3.1)) = 0 then kc q3.2 x1 x2 (x3 + 1) else gd (inb x2 24) (gd (inb x2 24) (let s8 := put q3.2 15 (ix x2) ((q3.2 15 (ix x2)) + 1); gd (inb x3 12) (gd (inb x3 12) (let s11 := put s8 16 (ix x3) ((s8 16 (ix x3)) + 1); kc s11 (x1 + 1) x2 (x3 + 1)))))))
def b_M_find_44 (F : Nat) (kc : St → Int → Int → Int → Option (Int × St)) (k126 : St → Int → Int → Option (Int × St)) (sg : St) (x1 x2 x3 : Int) : Option (Int × St) := if w32 (sg 0 5) ≤ w32 x3 then k126 sg x1 x2 else (f_M_at sg x2 x3).bind fun q2 => (f_M_at q2.2 x2 x3).bind fun q3 => gd (inb q3.1 288) (if w32 (q3.2 14 (ix q3.1)) = w32 1 then b_M_find_80  F kc k126 q3.2 x1 x2 x3 1 q2.1 else b_M_find_80  F kc k126 q3.2 x1 x2 x3 0 q2.1)
def l_M_find_44 (F : Nat) (k126 : St → Int → Int → Option (Int × St)) : Nat → St → Int → Int → Int → Option (Int × St)
  | 0 => fun _ _ _ _ => none
  | n + 1 => b_M_find_44  F (l_M_find_44  F k126 n) k126
def b_M_find_27 (F : Nat) (kc : St → Int → Int → Option (Int × St)) (k132 : St → Int → Option (Int × St)) (sg : St) (x1 x2 : Int) : Option (Int × St) := if w32 (sg 0 4) ≤ w32 x2 then k132 sg x1 else gd (inb x2 24) (let s3 := put sg 15 (ix x2) 0; l_M_find_44  F (fun s4 x1_5 x2_6 => kc s4 x1_5 (x2_6 + 1)) F s3 x1 x2 0)
def l_M_find_27 (F : Nat) (k132 : St → Int → Option (Int × St)) : Nat → St → Int → Int → Option (Int × St)
  | 0 => fun _ _ _ => none
  | n + 1 => b_M_find_27  F (l_M_find_27  F k132 n) k132
def b_M_find_4 (F : Nat) (kc : St → Int → Int → Option (Int × St)) (k25 : St → Int → Option (Int × St)) (sg : St) (x1 x2 : Int) : Option (Int × St) := if w32 (sg 0 5) ≤ w32 x2 then k25 sg x1 else gd (inb x2 12) (let s3 := put sg 16 (ix x2) 0; kc s3 x1 (x2 + 1))
def l_M_find_4 (F : Nat) (k25 : St → Int → Option (Int × St)) : Nat → St → Int → Int → Option (Int × St)
  | 0 => fun _ _ _ => none
  | n + 1 => b_M_find_4  F (l_M_find_4  F k25 n) k25
def f_M_find (F : Nat) (sg : St) : Option (Int × St) := l_M_find_4 F (fun s1 x1_2 => l_M_find_27 F (fun s3 x1_4 => l_M_find_134 F (fun s5 x1_6 => l_M_find_167 F (fun s7 x1_8 => some (x1_8, s7)) F s5 x1_6 0) F s3 x1_4 0) F s1 x1_2 0) F sg 0 0
def rm_M_plan : Room := { frames := 4, cells := 0, slots := 0, locals := 94 }
def b_M_plan_314 (F : Nat) (kc : St → Int → Int → Int → Int → Int → Option (Int × St)) (k367 : St → Int → Int → Int → Int → Option (Int × St)) (sg : St) (x1 x2 x3 x4 x5 : Int) : Option (Int × St) := if w32 (sg 0 4) ≤ w32 x5 then k367 sg x1 x2 x3 x4 else (f_M_at sg x5 x4).bind fun q2 => gd (inb q2.1 288) (if w32 (q2.2 9 (ix q2.1)) = 0 then kc q2.2 x1 x2 x3 x4 (x5 + 1) else gd (inb x5 24) (if w32 (q2.2 11 (ix x5)) = 0 then gd (inb x5 24) (let s8 := put q2.2 11 (ix x5) (nz 1); kc s8 x1 1 x3 x4 (x5 + 1)) else kc q2.2 x1 x2 x3 x4 (x5 + 1)))
def l_M_plan_314 (F : Nat) (k367 : St → Int → Int → Int → Int → Option (Int × St)) : Nat → St → Int → Int → Int → Int → Int → Option (Int × St)
  | 0 => fun _ _ _ _ _ _ => none
  | n + 1 => b_M_plan_314  F (l_M_plan_314  F k367 n) k367
def b_M_plan_266 (F : Nat) (kc : St → Int → Int → Int → Int → Option (Int × St)) (k255 : St → Int → Int → Int → Option (Int × St)) (k373 : St → Int → Int → Int → Option (Int × St)) (sg : St) (x1 x2 x3 x4 : Int) : Option (Int × St) := if w32 (sg 0 5) ≤ w32 x4 then k373 sg x1 x2 x3 else gd (inb x3 24) (if w32 (sg 11 (ix x3)) = 0 then k373 sg x1 x2 x3 else (f_M_mayOf sg x4 x3).bind fun q4 => if w32 q4.1 = 0 then kc q4.2 x1 x2 x3 (x4 + 1) else (f_M_at q4.2 x3 x4).bind fun q6 => gd (inb q6.1 288) (if w32 (q6.2 9 (ix q6.1)) = 0 then l_M_plan_314  F (fun s9 x1_10 x2_11 x3_12 x4_13 => kc s9 x1_10 x2_11 x3_12 (x4_13 + 1)) F q6.2 x1 x2 x3 x4 0 else kc q6.2 x1 x2 x3 (x4 + 1)))
def l_M_plan_266 (F : Nat) (k255 : St → Int → Int → Int → Option (Int × St)) (k373 : St → Int → Int → Int → Option (Int × St)) : Nat → St → Int → Int → Int → Int → Option (Int × St)
  | 0 => fun _ _ _ _ _ => none
  | n + 1 => b_M_plan_266  F (l_M_plan_266  F k255 k373 n) k255 k373
def b_M_plan_255 (F : Nat) (kc : St → Int → Int → Int → Option (Int × St)) (k379 : St → Int → Int → Option (Int × St)) (sg : St) (x1 x2 x3 : Int) : Option (Int × St) := if w32 (sg 0 4) ≤ w32 x3 then k379 sg x1 x2 else l_M_plan_266  F (fun s2 x1_3 x2_4 x3_5 => kc s2 x1_3 x2_4 x3_5) (fun s6 x1_7 x2_8 x3_9 => kc s6 x1_7 x2_8 (x3_9 + 1)) F sg x1 x2 x3 0
def l_M_plan_255 (F : Nat) (k379 : St → Int → Int → Option (Int × St)) : Nat → St → Int → Int → Int → Option (Int × St)
  | 0 => fun _ _ _ _ => none
  | n + 1 => b_M_plan_255  F (l_M_plan_255  F k379 n) k379
def b_M_plan_247 (F : Nat) (kc : St → Int → Int → Option (Int × St)) (k382 : St → Int → Option (Int × St)) (sg : St) (x1 x2 : Int) : Option (Int × St) := if w32 x2 = 0 then k382 sg x1 else l_M_plan_255  F (fun s2 x1_3 x2_4 => kc s2 x1_3 x2_4) F sg x1 0 0
def l_M_plan_247 (F : Nat) (k382 : St → Int → Option (Int × St)) : Nat → St → Int → Int → Option (Int × St)
  | 0 => fun _ _ _ => none
  | n + 1 => b_M_plan_247  F (l_M_plan_247  F k382 n) k382
def b_M_plan_183 (F : Nat) (kc : St → Int → Int → Int → Int → Option (Int × St)) (k220 : St → Int → Int → Int → Option (Int × St)) (sg : St) (x1 x2 x3 x4 : Int) : Option (Int × St) := if w32 (sg 0 5) ≤ w32 x4 then k220 sg x1 x2 x3 else (f_M_at sg x2 x4).bind fun q2 => gd (inb q2.1 288) (if w32 (q2.2 9 (ix q2.1)) = 0 then kc q2.2 x1 x2 (x3 + 0) (x4 + 1) else kc q2.2 x1 x2 (x3 + 1) (x4 + 1))
def l_M_plan_183 (F : Nat) (k220 : St → Int → Int → Int → Option (Int × St)) : Nat → St → Int → Int → Int → Int → Option (Int × St)
  | 0 => fun _ _ _ _ _ => none
  | n + 1 => b_M_plan_183  F (l_M_plan_183  F k220 n) k220
def b_M_plan_238 (F : Nat) (kc : St → Int → Int → Option (Int × St)) (k245 : St → Int → Option (Int × St)) (sg : St) (x1 x2 z0 z1 : Int) : Option (Int × St) := gd (inb z1 24) (let s2 := put sg 11 (ix z1) (nz z0); kc s2 x1 (x2 + 1))
def b_M_plan_170 (F : Nat) (kc : St → Int → Int → Option (Int × St)) (k245 : St → Int → Option (Int × St)) (sg : St) (x1 x2 : Int) : Option (Int × St) := if w32 (sg 0 4) ≤ w32 x2 then k245 sg x1 else l_M_plan_183  F (fun s2 x1_3 x2_4 x3_5 => if w32 (s2 0 6) ≤ w32 x3_5 then b_M_plan_238  F kc k245 s2 x1_3 x2_4 0 x2_4 else b_M_plan_238  F kc k245 s2 x1_3 x2_4 1 x2_4) F sg x1 x2 0 0
def l_M_plan_170 (F : Nat) (k245 : St → Int → Option (Int × St)) : Nat → St → Int → Int → Option (Int × St)
  | 0 => fun _ _ _ => none
  | n + 1 => b_M_plan_170  F (l_M_plan_170  F k245 n) k245
def b_M_plan_140 (F : Nat) (kc : St → Int → Int → Option (Int × St)) (k147 : St → Int → Option (Int × St)) (sg : St) (x1 x2 z0 z1 : Int) : Option (Int × St) := gd (inb z1 288) (let s2 := put sg 9 (ix z1) (nz z0); kc s2 x1 (x2 + 1))
def b_M_plan_113 (F : Nat) (kc : St → Int → Int → Option (Int × St)) (k147 : St → Int → Option (Int × St)) (sg : St) (x1 x2 : Int) : Option (Int × St) := if w32 288 ≤ w32 x2 then k147 sg x1 else gd (inb x2 288) (if w32 (sg 14 (ix x2)) = w32 1 then b_M_plan_140  F kc k147 sg x1 x2 1 x2 else b_M_plan_140  F kc k147 sg x1 x2 0 x2)
def l_M_plan_113 (F : Nat) (k147 : St → Int → Option (Int × St)) : Nat → St → Int → Int → Option (Int × St)
  | 0 => fun _ _ _ => none
  | n + 1 => b_M_plan_113  F (l_M_plan_113  F k147 n) k147
def b_M_plan_49 (F : Nat) (kc : St → Int → Int → Int → Option (Int × St)) (k105 : St → Int → Int → Option (Int × St)) (sg : St) (x1 x2 x3 : Int) : Option (Int × St) := if w32 (sg 0 5) ≤ w32 x3 then k105 sg x1 x2 else (f_M_mayOf sg x3 x2).bind fun q2 => if w32 q2.1 = 0 then kc q2.2 x1 x2 (x3 + 1) else (f_M_at q2.2 x2 x3).bind fun q4 => gd (inb q4.1 288) (let s6 := put q4.2 14 (ix q4.1) 1; (f_M_find F s6 ).bind fun q7 => if w32 q7.1 = w32 x1 then kc q7.2 x1 x2 (x3 + 1) else (f_M_at q7.2 x2 x3).bind fun q9 => gd (inb q9.1 288) (let s11 := put q9.2 14 (ix q9.1) 2; kc s11 x1 x2 (x3 + 1)))
def l_M_plan_49 (F : Nat) (k105 : St → Int → Int → Option (Int × St)) : Nat → St → Int → Int → Int → Option (Int × St)
  | 0 => fun _ _ _ _ => none
  | n + 1 => b_M_plan_49  F (l_M_plan_49  F k105 n) k105
def b_M_plan_39 (F : Nat) (kc : St → Int → Int → Option (Int × St)) (k111 : St → Int → Option (Int × St)) (sg : St) (x1 x2 : Int) : Option (Int × St) := if w32 (sg 0 4) ≤ w32 x2 then k111 sg x1 else l_M_plan_49  F (fun s2 x1_3 x2_4 => kc s2 x1_3 (x2_4 + 1)) F sg x1 x2 0
def l_M_plan_39 (F : Nat) (k111 : St → Int → Option (Int × St)) : Nat → St → Int → Int → Option (Int × St)
  | 0 => fun _ _ _ => none
  | n + 1 => b_M_plan_39  F (l_M_plan_39  F k111 n) k111
def b_M_plan_12 (F : Nat) (kc : St → Int → Option (Int × St)) (k32 : St → Option (Int × St)) (sg : St) (x1 : Int) : Option (Int × St) := if w32 288 ≤ w32 x1 then k32 sg  else gd (inb x1 288) (let s3 := put sg 14 (ix x1) 0; kc s3 (x1 + 1))
def l_M_plan_12 (F : Nat) (k32 : St → Option (Int × St)) : Nat → St → Int → Option (Int × St)
  | 0 => fun _ _ => none
  | n + 1 => b_M_plan_12  F (l_M_plan_12  F k32 n) k32
def f_M_plan (F : Nat) (sg : St) : Option (Int × St) := let s1 := put sg 0 1 0; let s2 := put s1 0 0 0; l_M_plan_12 F (fun s3 => (f_M_find F s3 ).bind fun q4 => l_M_plan_39 F (fun s5 x1_6 => l_M_plan_113 F (fun s7 x1_8 => let s9 := put s7 0 15 1; let s10 := put s9 0 16 (s9 0 4); let s11 := put s10 0 17 (s10 0 5); l_M_plan_170 F (fun s12 x1_13 => l_M_plan_247 F (fun s14 x1_15 => some (((s14 0 6) * (s14 0 4)) - x1_15, s14)) F s12 x1_13 1) F s11 x1_8 0) F s5 x1_6 0) F q4.2 q4.1 0) F s2 0
