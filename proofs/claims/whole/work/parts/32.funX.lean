def slen (cs : Nat) : Int := (lenK.getD (cs - 1000) 0 : Nat)
def schr (cs : Nat) (i : Int) : Int := (((bytK.getD (cs - 1000) []).getD (ix i) 0) : Int32).toInt
def f_S_length (cs : Nat) (sg : St) : Option (Int × St) := some (slen cs, sg)
def f_S_charAt (cs : Nat) (sg : St) (x1 : Int) : Option (Int × St) := gd (inb x1 (lenK.getD (cs - 1000) 0)) (some (schr cs x1, sg))
def rm_S_length : Room := { frames := 1, cells := 0, slots := 0, locals := 20 }
def rm_S_charAt : Room := { frames := 4, cells := 0, slots := 0, locals := 90 }
def rm_XJ_bitCount : Room := { frames := 0, cells := 0, slots := 0, locals := 0 }
def f_XJ_bitCount (sg : St) (x0 : Int) : Option (Int × St) := some (andI (((andI (((andI (x0 - (andI (ushrI x0 1) 1431655765)) 858993459) + (andI (ushrI (x0 - (andI (ushrI x0 1) 1431655765)) 2) 858993459)) + (ushrI ((andI (x0 - (andI (ushrI x0 1) 1431655765)) 858993459) + (andI (ushrI (x0 - (andI (ushrI x0 1) 1431655765)) 2) 858993459)) 4)) 252645135) + (ushrI (andI (((andI (x0 - (andI (ushrI x0 1) 1431655765)) 858993459) + (andI (ushrI (x0 - (andI (ushrI x0 1) 1431655765)) 2) 858993459)) + (ushrI ((andI (x0 - (andI (ushrI x0 1) 1431655765)) 858993459) + (andI (ushrI (x0 - (andI (ushrI x0 1) 1431655765)) 2) 858993459)) 4)) 252645135) 8)) + (ushrI ((andI (((andI (x0 - (andI (ushrI x0 1) 1431655765)) 858993459) + (andI (ushrI (x0 - (andI (ushrI x0 1) 1431655765)) 2) 858993459)) + (ushrI ((andI (x0 - (andI (ushrI x0 1) 1431655765)) 858993459) + (andI (ushrI (x0 - (andI (ushrI x0 1) 1431655765)) 2) 858993459)) 4)) 252645135) + (ushrI (andI (((andI (x0 - (andI (ushrI x0 1) 1431655765)) 858993459) + (andI (ushrI (x0 - (andI (ushrI x0 1) 1431655765)) 2) 858993459)) + (ushrI ((andI (x0 - (andI (ushrI x0 1) 1431655765)) 858993459) + (andI (ushrI (x0 - (andI (ushrI x0 1) 1431655765)) 2) 858993459)) 4)) 252645135) 8)) 16)) 63, sg)
def rm_XJ_abs : Room := { frames := 0, cells := 0, slots := 0, locals := 0 }
def f_XJ_abs (sg : St) (x0 : Int) : Option (Int × St) := if w64 0 ≤ w64 x0 then some (x0, sg) else some (-x0, sg)
def rm_XJ_floorDiv : Room := { frames := 0, cells := 0, slots := 0, locals := 0 }
def f_XJ_floorDiv (sg : St) (x0 x2 : Int) : Option (Int × St) := gd (¬ w64 x2 = 0) (if w64 0 ≤ w64 (xorL x0 x2) then some (divL x0 x2, sg) else if w64 ((divL x0 x2) * x2) = w64 x0 then some (divL x0 x2, sg) else some ((divL x0 x2) - 1, sg))
def rm_XJ_min : Room := { frames := 0, cells := 0, slots := 0, locals := 0 }
def f_XJ_min (sg : St) (x0 x1 : Int) : Option (Int × St) := if w32 x1 < w32 x0 then some (x1, sg) else some (x0, sg)
def rm_XJ_max : Room := { frames := 0, cells := 0, slots := 0, locals := 0 }
def f_XJ_max (sg : St) (x0 x1 : Int) : Option (Int × St) := if w32 x0 < w32 x1 then some (x1, sg) else some (x0, sg)
def rm_Boards_has : Room := { frames := 0, cells := 0, slots := 0, locals := 0 }
def f_Boards_has (sg : St) (x1 : Int) : Option (Int × St) := if w32 x1 < 0 then some (0, sg) else if w32 (sg 1 0) ≤ w32 x1 then some (0, sg) else some (1, sg)
def rm_Boards_add : Room := { frames := 0, cells := 0, slots := 0, locals := 0 }
def b_Boards_add_55 (F : Nat) (sg : St) (x6 z0 z1 : Int) : Option (Int × St) := gd (inb z1 24) (let s2 := put sg 6 (ix z1) z0; let s3 := put s2 1 0 ((s2 1 0) + 1); some (x6, s3))
def f_Boards_add (sg : St) (x1 x2 x3 x4 x5 : Int) : Option (Int × St) := gd (inb (sg 1 0) 24) (let s2 := put sg 2 (ix (sg 1 0)) x1; gd (inb (sg 1 0) 24) (let s4 := put s2 3 (ix (sg 1 0)) x2; gd (inb (sg 1 0) 24) (let s6 := put s4 4 (ix (sg 1 0)) x3; gd (inb (sg 1 0) 24) (let s8 := put s6 5 (ix (sg 1 0)) x4; if w32 x5 = 0 then b_Boards_add_55 0 s8 (sg 1 0) 0 (sg 1 0) else b_Boards_add_55 0 s8 (sg 1 0) 1 (sg 1 0)))))
def rm_Boards_trait : Room := { frames := 0, cells := 0, slots := 0, locals := 0 }
def f_Boards_trait (sg : St) (x1 x2 : Int) : Option (Int × St) := if w32 x2 = 0 then gd (inb x1 24) (some (sg 2 (ix x1), sg)) else if w32 x2 = 1 then gd (inb x1 24) (some (sg 3 (ix x1), sg)) else if w32 x2 = 2 then gd (inb x1 24) (some (sg 4 (ix x1), sg)) else if w32 x2 = 3 then gd (inb x1 24) (some (sg 5 (ix x1), sg)) else gd (inb x1 24) (some (sg 6 (ix x1), sg))
def rm_Frac_isAbove : Room := { frames := 1, cells := 0, slots := 0, locals := 25 }
def b_Frac_isAbove_29 (cf co : Nat) (F : Nat) (kc : St → Int → Int → Int → Int → Int → Int → Option (Int × St)) (k89 : St → Int → Int → Option (Int × St)) (k152 : St → Int → Int → Int → Option (Int × St)) (sg : St) (x2 x4 x6 x8 x10 x11 : Int) : Option (Int × St) := if w32 200 ≤ w32 x11 then k152 sg x4 x8 x10 else if w64 x4 ≤ w64 0 then k152 sg x4 x8 x10 else if w64 x8 ≤ w64 0 then k152 sg x4 x8 x10 else (f_XJ_floorDiv sg x2 x4).bind fun q4 => (f_XJ_floorDiv q4.2 x6 x8).bind fun q5 => if w64 q4.1 = w64 q5.1 then if w32 x10 = 0 then kc q5.2 x4 (x2 - (q4.1 * x4)) x8 (x6 - (q5.1 * x8)) 1 (x11 + 1) else kc q5.2 x4 (x2 - (q4.1 * x4)) x8 (x6 - (q5.1 * x8)) 0 (x11 + 1) else if w64 q4.1 ≤ w64 q5.1 then k89 q5.2 x10 0 else k89 q5.2 x10 1
def l_Frac_isAbove_29 (cf co : Nat) (F : Nat) (k89 : St → Int → Int → Option (Int × St)) (k152 : St → Int → Int → Int → Option (Int × St)) : Nat → St → Int → Int → Int → Int → Int → Int → Option (Int × St)
  | 0 => fun _ _ _ _ _ _ _ => none
  | n + 1 => b_Frac_isAbove_29 cf co F (l_Frac_isAbove_29 cf co F k89 k152 n) k89 k152
def b_Frac_isAbove_172 (cf co : Nat) (F : Nat) (sg : St) (x10 z0 : Int) : Option (Int × St) := if w32 z0 = w32 x10 then some (0, sg) else some (1, sg)
def b_Frac_isAbove_152 (cf co : Nat) (F : Nat) (sg : St) (x4 x8 x10 : Int) : Option (Int × St) := if w64 x4 = w64 x8 then some (0, sg) else if w64 x4 = w64 0 then b_Frac_isAbove_172 cf co F  sg x10 1 else b_Frac_isAbove_172 cf co F  sg x10 0
def b_Frac_isAbove_89 (cf co : Nat) (F : Nat) (sg : St) (x10 z0 : Int) : Option (Int × St) := if w32 z0 = w32 x10 then some (0, sg) else some (1, sg)
def f_Frac_isAbove (F : Nat) (cf co : Nat) (sg : St) : Option (Int × St) := l_Frac_isAbove_29 cf co F (fun s1 x10_2 z0_3 => b_Frac_isAbove_89 cf co F s1 x10_2 z0_3) (fun s4 x4_5 x8_6 x10_7 => b_Frac_isAbove_152 cf co F s4 x4_5 x8_6 x10_7) F sg (sg cf 0) (sg cf 1) (sg co 0) (sg co 1) 0 0
def rm_Frac_commonDivisor : Room := { frames := 0, cells := 0, slots := 0, locals := 0 }
def b_Frac_commonDivisor_9 (F : Nat) (kc : St → Int → Int → Int → Option (Int × St)) (k45 : St → Int → Option (Int × St)) (sg : St) (x4 x6 x8 : Int) : Option (Int × St) := if w32 200 ≤ w32 x8 then k45 sg x4 else if w64 x6 ≤ w64 0 then k45 sg x4 else gd (¬ w64 x6 = 0) (kc sg x6 (remL x4 x6) (x8 + 1))
def l_Frac_commonDivisor_9 (F : Nat) (k45 : St → Int → Option (Int × St)) : Nat → St → Int → Int → Int → Option (Int × St)
  | 0 => fun _ _ _ _ => none
  | n + 1 => b_Frac_commonDivisor_9  F (l_Frac_commonDivisor_9  F k45 n) k45
def f_Frac_commonDivisor (F : Nat) (sg : St) (x0 x2 : Int) : Option (Int × St) := l_Frac_commonDivisor_9 F (fun s1 x4_2 => some (x4_2, s1)) F sg x0 x2 0
def rm_Giver_insert : Room := { frames := 2, cells := 0, slots := 0, locals := 64 }
def b_Giver_insert_5 (F : Nat) (kc : St → Int → Int → Option (St)) (k54 : St → Int → Int → Option (St)) (sg : St) (x1 x2 : Int) : Option (St) := if w32 x2 ≤ 0 then k54 sg x1 x2 else gd (inb x1 24) (gd (inb (x2 - 1) 24) (gd (inb (sg 46 (ix (x2 - 1))) 24) ((f_Frac_isAbove F (48 + ix x1) (48 + ix (sg 46 (ix (x2 - 1)))) sg ).bind fun q5 => if w32 q5.1 = 0 then k54 q5.2 x1 x2 else gd (inb (x2 - 1) 24) (gd (inb x2 24) (let s9 := put q5.2 46 (ix x2) (q5.2 46 (ix (x2 - 1))); kc s9 x1 (x2 + (-1)))))))
def l_Giver_insert_5 (F : Nat) (k54 : St → Int → Int → Option (St)) : Nat → St → Int → Int → Option (St)
  | 0 => fun _ _ _ => none
  | n + 1 => b_Giver_insert_5  F (l_Giver_insert_5  F k54 n) k54
def b_Giver_insert_54 (F : Nat) (sg : St) (x1 x2 : Int) : Option (St) := gd (inb x2 24) (let s2 := put sg 46 (ix x2) x1; let s3 := put s2 43 3 ((s2 43 3) + 1); some s3)
def f_Giver_insert (F : Nat) (sg : St) (x1 : Int) : Option (St) := l_Giver_insert_5 F (fun s1 x1_2 x2_3 => b_Giver_insert_54 F s1 x1_2 x2_3) F sg x1 (sg 43 3)
def rm_Halls_add : Room := { frames := 0, cells := 0, slots := 0, locals := 0 }
def f_Halls_add (sg : St) (x1 x2 x3 : Int) : Option (Int × St) := gd (inb (sg 72 0) 4) (let s2 := put sg 74 (ix (sg 72 0)) x1; gd (inb (sg 72 0) 4) (let s4 := put s2 75 (ix (sg 72 0)) x2; gd (inb (sg 72 0) 4) (let s6 := put s4 76 (ix (sg 72 0)) x3; let s7 := put s6 72 0 ((s6 72 0) + 1); let s8 := put s7 72 9 (-1); some (sg 72 0, s8))))
def rm_Halls_removeAll : Room := { frames := 0, cells := 0, slots := 0, locals := 0 }
def f_Halls_removeAll (sg : St) : Option (St) := let s1 := put sg 72 0 0; let s2 := put s1 72 9 (-1); some s2
def rm_Halls_emptyAll : Room := { frames := 0, cells := 0, slots := 0, locals := 0 }
def b_Halls_emptyAll_14 (F : Nat) (kc : St → Int → Option (St)) (k64 : St → Option (St)) (sg : St) (x1 : Int) : Option (St) := if w32 (sg 72 0) ≤ w32 x1 then k64 sg  else gd (inb x1 4) (gd (inb x1 4) (let s4 := put sg 77 (ix x1) (sg 74 (ix x1)); gd (inb x1 4) (gd (inb x1 4) (let s7 := put s4 78 (ix x1) (s4 75 (ix x1)); gd (inb x1 4) (gd (inb x1 4) (let s10 := put s7 79 (ix x1) (s7 76 (ix x1)); kc s10 (x1 + 1)))))))
def l_Halls_emptyAll_14 (F : Nat) (k64 : St → Option (St)) : Nat → St → Int → Option (St)
  | 0 => fun _ _ => none
  | n + 1 => b_Halls_emptyAll_14  F (l_Halls_emptyAll_14  F k64 n) k64
def f_Halls_emptyAll (F : Nat) (sg : St) : Option (St) := let s1 := put sg 72 1 0; gd (inb 0 24) (let s3 := put s1 73 (ix 0) 0; l_Halls_emptyAll_14 F (fun s4 => some s4) F s3 0)
def rm_Halls_move : Room := { frames := 0, cells := 0, slots := 0, locals := 0 }
def f_Halls_move (sg : St) (x2 x3 : Int) : Option (St) := gd (inb x2 24) (gd (inb (sg 73 (ix x2)) 4) (gd (inb (sg 73 (ix x2)) 4) (let s4 := put sg 77 (ix (sg 73 (ix x2))) ((sg 77 (ix (sg 73 (ix x2)))) + x3); gd (inb (sg 73 (ix x2)) 4) (gd (inb x2 24) (gd (inb (sg 73 (ix x2)) 4) (let s8 := put s4 78 (ix (sg 73 (ix x2))) ((s4 78 (ix (sg 73 (ix x2)))) + (x3 * (s4 5 (ix x2)))); gd (inb (sg 73 (ix x2)) 4) (gd (inb x2 24) (gd (inb (sg 73 (ix x2)) 4) (let s12 := put s8 79 (ix (sg 73 (ix x2))) ((s8 79 (ix (sg 73 (ix x2)))) + (x3 * (s8 6 (ix x2)))); some s12)))))))))
def rm_Judges_has : Room := { frames := 0, cells := 0, slots := 0, locals := 0 }
def f_Judges_has (sg : St) (x1 : Int) : Option (Int × St) := if w32 x1 < 0 then some (0, sg) else if w32 (sg 7 0) ≤ w32 x1 then some (0, sg) else some (1, sg)
def rm_Judges_add : Room := { frames := 0, cells := 0, slots := 0, locals := 0 }
def f_Judges_add (sg : St) (x1 x2 x3 : Int) : Option (Int × St) := gd (inb (sg 7 0) 12) (let s2 := put sg 8 (ix (sg 7 0)) x1; gd (inb (sg 7 0) 12) (let s4 := put s2 9 (ix (sg 7 0)) x2; gd (inb (sg 7 0) 12) (let s6 := put s4 10 (ix (sg 7 0)) x3; let s7 := put s6 7 0 ((s6 7 0) + 1); some (sg 7 0, s7))))
def rm_Judges_isAllowed : Room := { frames := 0, cells := 0, slots := 0, locals := 0 }
def b_Judges_isAllowed_24 (F : Nat) (sg : St) (x1 x3 z0 : Int) : Option (Int × St) := if w32 z0 = 0 then some (0, sg) else gd (inb x1 12) (gd (inb x3 24) (if w32 (sg 9 (ix x1)) = w32 (sg 4 (ix x3)) then some (0, sg) else some (1, sg)))
def f_Judges_isAllowed (sg : St) (x1 x3 : Int) : Option (Int × St) := gd (inb x1 12) (gd (inb x3 24) (if w32 (andI (shrI (sg 8 (ix x1)) (sg 2 (ix x3))) 1) = w32 1 then b_Judges_isAllowed_24 0 sg x1 x3 1 else b_Judges_isAllowed_24 0 sg x1 x3 0))
def rm_Judges_allowedFor : Room := { frames := 1, cells := 0, slots := 0, locals := 24 }
def b_Judges_allowedFor_5 (F : Nat) (kc : St → Int → Int → Int → Option (Int × St)) (k38 : St → Int → Option (Int × St)) (sg : St) (x2 x3 x4 : Int) : Option (Int × St) := if w32 (sg 7 0) ≤ w32 x4 then k38 sg x3 else (f_Judges_isAllowed sg x4 x2).bind fun q2 => if w32 q2.1 = 0 then kc q2.2 x2 x3 (x4 + 1) else kc q2.2 x2 (orI x3 (shlI 1 x4)) (x4 + 1)
def l_Judges_allowedFor_5 (F : Nat) (k38 : St → Int → Option (Int × St)) : Nat → St → Int → Int → Int → Option (Int × St)
  | 0 => fun _ _ _ _ => none
  | n + 1 => b_Judges_allowedFor_5  F (l_Judges_allowedFor_5  F k38 n) k38
def f_Judges_allowedFor (F : Nat) (sg : St) (x2 : Int) : Option (Int × St) := l_Judges_allowedFor_5 F (fun s1 x3_2 => some (x3_2, s1)) F sg x2 0 0
def rm_Known_pointsOf : Room := { frames := 0, cells := 0, slots := 0, locals := 0 }
def f_Known_pointsOf (sg : St) (x1 x2 : Int) : Option (Int × St) := gd (inb ((x1 * 24) + x2) 288) (some (sg 27 (ix ((x1 * 24) + x2)), sg))
def rm_Known_marksOf : Room := { frames := 1, cells := 0, slots := 0, locals := 22 }
def b_Known_marksOf_4 (F : Nat) (kc : St → Int → Int → Int → Option (Int × St)) (k29 : St → Int → Option (Int × St)) (sg : St) (x1 x2 x3 : Int) : Option (Int × St) := if w32 12 ≤ w32 x3 then k29 sg x2 else (f_Known_pointsOf sg x3 x1).bind fun q2 => if w32 q2.1 = w32 (-1) then kc q2.2 x1 x2 (x3 + 1) else kc q2.2 x1 (x2 + 1) (x3 + 1)
def l_Known_marksOf_4 (F : Nat) (k29 : St → Int → Option (Int × St)) : Nat → St → Int → Int → Int → Option (Int × St)
  | 0 => fun _ _ _ _ => none
  | n + 1 => b_Known_marksOf_4  F (l_Known_marksOf_4  F k29 n) k29
def f_Known_marksOf (F : Nat) (sg : St) (x1 : Int) : Option (Int × St) := l_Known_marksOf_4 F (fun s1 x2_2 => some (x2_2, s1)) F sg x1 0 0
def rm_Known_heapAround : Room := { frames := 1, cells := 0, slots := 0, locals := 22 }
def b_Known_heapAround_2 (F : Nat) (kc : St → Int → Int → Option (Int × St)) (k31 : St → Option (Int × St)) (sg : St) (x1 x2 : Int) : Option (Int × St) := if w32 12 ≤ w32 x2 then k31 sg  else (f_Known_pointsOf sg x2 x1).bind fun q2 => if w32 q2.1 = w32 (-1) then kc q2.2 x1 (x2 + 1) else gd (inb x2 12) (some (q2.2 26 (ix x2), q2.2))
def l_Known_heapAround_2 (F : Nat) (k31 : St → Option (Int × St)) : Nat → St → Int → Int → Option (Int × St)
  | 0 => fun _ _ _ => none
  | n + 1 => b_Known_heapAround_2  F (l_Known_heapAround_2  F k31 n) k31
def f_Known_heapAround (F : Nat) (sg : St) (x1 : Int) : Option (Int × St) := l_Known_heapAround_2 F (fun s1 => some ((-1), s1)) F sg x1 0
def rm_Known_isGreat : Room := { frames := 0, cells := 0, slots := 0, locals := 0 }
def b_Known_isGreat_4 (F : Nat) (kc : St → Int → Int → Int → Option (Int × St)) (k29 : St → Int → Option (Int × St)) (sg : St) (x1 x2 x3 : Int) : Option (Int × St) := if w32 12 ≤ w32 x3 then k29 sg x2 else gd (inb x3 12) (if w32 (sg 26 (ix x3)) = w32 x1 then kc sg x1 (x2 + 1) (x3 + 1) else kc sg x1 x2 (x3 + 1))
def l_Known_isGreat_4 (F : Nat) (k29 : St → Int → Option (Int × St)) : Nat → St → Int → Int → Int → Option (Int × St)
  | 0 => fun _ _ _ _ => none
  | n + 1 => b_Known_isGreat_4  F (l_Known_isGreat_4  F k29 n) k29
def f_Known_isGreat (F : Nat) (sg : St) (x1 : Int) : Option (Int × St) := l_Known_isGreat_4 F (fun s1 x2_2 => if w32 x2_2 ≤ w32 5 then some (0, s1) else some (1, s1)) F sg x1 0 0
def rm_Known_anyGreat : Room := { frames := 1, cells := 0, slots := 0, locals := 23 }
def b_Known_anyGreat_2 (F : Nat) (kc : St → Int → Option (Int × St)) (k34 : St → Option (Int × St)) (sg : St) (x1 : Int) : Option (Int × St) := if w32 12 ≤ w32 x1 then k34 sg  else gd (inb x1 12) (if w32 (sg 26 (ix x1)) = w32 x1 then (f_Known_isGreat F sg x1).bind fun q4 => if w32 q4.1 = 0 then kc q4.2 (x1 + 1) else some (1, q4.2) else kc sg (x1 + 1))
def l_Known_anyGreat_2 (F : Nat) (k34 : St → Option (Int × St)) : Nat → St → Int → Option (Int × St)
  | 0 => fun _ _ => none
  | n + 1 => b_Known_anyGreat_2  F (l_Known_anyGreat_2  F k34 n) k34
def f_Known_anyGreat (F : Nat) (sg : St) : Option (Int × St) := l_Known_anyGreat_2 F (fun s1 => some (0, s1)) F sg 0
def rm_Known_joinHeaps : Room := { frames := 1, cells := 0, slots := 0, locals := 21 }
def b_Known_joinHeaps_16 (F : Nat) (kc : St → Int → Int → Int → Option (St)) (k55 : St → Option (St)) (sg : St) (x3 x4 x5 : Int) : Option (St) := if w32 12 ≤ w32 x5 then k55 sg  else if w32 x4 ≤ w32 x3 then k55 sg  else gd (inb x5 12) (if w32 (sg 26 (ix x5)) = w32 x4 then gd (inb x5 12) (let s6 := put sg 26 (ix x5) x3; kc s6 x3 x4 (x5 + 1)) else kc sg x3 x4 (x5 + 1))
def l_Known_joinHeaps_16 (F : Nat) (k55 : St → Option (St)) : Nat → St → Int → Int → Int → Option (St)
  | 0 => fun _ _ _ _ => none
  | n + 1 => b_Known_joinHeaps_16  F (l_Known_joinHeaps_16  F k55 n) k55
def f_Known_joinHeaps (F : Nat) (sg : St) (x1 x2 : Int) : Option (St) := (f_XJ_min sg x1 x2).bind fun q1 => (f_XJ_max q1.2 x1 x2).bind fun q2 => l_Known_joinHeaps_16 F (fun s3 => some s3) F q2.2 q1.1 q2.1 0
def rm_Marks_has : Room := { frames := 0, cells := 0, slots := 0, locals := 0 }
def f_Marks_has (sg : St) (x1 : Int) : Option (Int × St) := if w32 x1 < 0 then some (0, sg) else if w32 (sg 19 0) ≤ w32 x1 then some (0, sg) else some (1, sg)
def rm_Marks_add : Room := { frames := 0, cells := 0, slots := 0, locals := 0 }
def f_Marks_add (sg : St) (x1 x2 x3 x4 : Int) : Option (Int × St) := gd (inb (sg 19 0) 200) (let s2 := put sg 20 (ix (sg 19 0)) x1; gd (inb (sg 19 0) 200) (let s4 := put s2 21 (ix (sg 19 0)) x2; gd (inb (sg 19 0) 200) (let s6 := put s4 22 (ix (sg 19 0)) x3; gd (inb (sg 19 0) 200) (let s8 := put s6 23 (ix (sg 19 0)) x4; gd (inb (sg 19 0) 200) (let s10 := put s8 24 (ix (sg 19 0)) (-1); let s11 := put s10 19 0 ((s10 19 0) + 1); some (sg 19 0, s11))))))
def rm_Marks_standsOn : Room := { frames := 0, cells := 0, slots := 0, locals := 0 }
def f_Marks_standsOn (sg : St) (x1 x2 : Int) : Option (Int × St) := gd (inb x1 200) (if w32 x2 < w32 (sg 23 (ix x1)) then some (0, sg) else gd (inb x1 200) (if w32 (sg 24 (ix x1)) = w32 (-1) then some (1, sg) else gd (inb x1 200) (if w32 (sg 24 (ix x1)) ≤ w32 x2 then some (0, sg) else some (1, sg))))
def rm_Plan_hasBoard : Room := { frames := 0, cells := 0, slots := 0, locals := 0 }
def f_Plan_hasBoard (sg : St) (x1 : Int) : Option (Int × St) := if w32 x1 < 0 then some (0, sg) else if w32 (sg 11 1) ≤ w32 x1 then some (0, sg) else some (1, sg)
def rm_Plan_hasJudge : Room := { frames := 0, cells := 0, slots := 0, locals := 0 }
def f_Plan_hasJudge (sg : St) (x1 : Int) : Option (Int × St) := if w32 x1 < 0 then some (0, sg) else if w32 (sg 11 2) ≤ w32 x1 then some (0, sg) else some (1, sg)
def rm_Plan_begin : Room := { frames := 2, cells := 0, slots := 0, locals := 48 }
def b_Plan_begin_79 (F : Nat) (kc : St → Int → Option (St)) (k116 : St → Option (St)) (sg : St) (x4 : Int) : Option (St) := if w32 (sg 11 2) ≤ w32 x4 then k116 sg  else gd (inb x4 12) (gd (inb x4 12) (let s4 := put sg 12 (ix x4) (sg 10 (ix x4)); gd (inb x4 12) (let s6 := put s4 15 (ix x4) 0; kc s6 (x4 + 1))))
def l_Plan_begin_79 (F : Nat) (k116 : St → Option (St)) : Nat → St → Int → Option (St)
  | 0 => fun _ _ => none
  | n + 1 => b_Plan_begin_79  F (l_Plan_begin_79  F k116 n) k116
def b_Plan_begin_39 (F : Nat) (kc : St → Int → Option (St)) (k76 : St → Option (St)) (sg : St) (x4 : Int) : Option (St) := if w32 (sg 11 1) ≤ w32 x4 then k76 sg  else (f_Judges_allowedFor F sg x4).bind fun q2 => gd (inb x4 24) (let s4 := put q2.2 13 (ix x4) q2.1; gd (inb x4 24) (let s6 := put s4 14 (ix x4) 0; kc s6 (x4 + 1)))
def l_Plan_begin_39 (F : Nat) (k76 : St → Option (St)) : Nat → St → Int → Option (St)
  | 0 => fun _ _ => none
  | n + 1 => b_Plan_begin_39  F (l_Plan_begin_39  F k76 n) k76
def f_Plan_begin (F : Nat) (sg : St) (x3 : Int) : Option (St) := let s1 := put sg 11 0 1; let s2 := put s1 11 1 (s1 1 0); let s3 := put s2 11 2 (s2 7 0); let s4 := put s3 11 3 x3; let s5 := put s4 11 9 0; let s6 := put s5 11 10 0; l_Plan_begin_39 F (fun s7 => l_Plan_begin_79 F (fun s8 => some s8) F s7 0) F s6 0
def rm_Plan_lackInAll : Room := { frames := 1, cells := 0, slots := 0, locals := 20 }
def b_Plan_lackInAll_4 (F : Nat) (kc : St → Int → Int → Option (Int × St)) (k35 : St → Int → Option (Int × St)) (sg : St) (x1 x2 : Int) : Option (Int × St) := if w32 (sg 11 1) ≤ w32 x2 then k35 sg x1 else gd (inb x2 24) ((f_XJ_bitCount sg (sg 14 (ix x2))).bind fun q3 => kc q3.2 (x1 + ((sg 11 3) - q3.1)) (x2 + 1))
def l_Plan_lackInAll_4 (F : Nat) (k35 : St → Int → Option (Int × St)) : Nat → St → Int → Int → Option (Int × St)
  | 0 => fun _ _ _ => none
  | n + 1 => b_Plan_lackInAll_4  F (l_Plan_lackInAll_4  F k35 n) k35
def f_Plan_lackInAll (F : Nat) (sg : St) : Option (Int × St) := l_Plan_lackInAll_4 F (fun s1 x1_2 => some (x1_2, s1)) F sg 0 0
def rm_Plan_reach : Room := { frames := 0, cells := 0, slots := 0, locals := 0 }
def f_Plan_reach (sg : St) (x1 x2 : Int) : Option (St) := if w32 24 ≤ w32 (sg 11 13) then some sg else let s2 := put sg 11 11 (orI (sg 11 11) (shlI 1 x1)); gd (inb x1 24) (let s4 := put s2 17 (ix x1) x2; gd (inb (s4 11 13) 24) (let s6 := put s4 16 (ix (s4 11 13)) x1; let s7 := put s6 11 13 ((s6 11 13) + 1); some s7))
def rm_Plan_lacks : Room := { frames := 1, cells := 0, slots := 0, locals := 20 }
def f_Plan_lacks (sg : St) (x1 : Int) : Option (Int × St) := gd (inb x1 24) ((f_XJ_bitCount sg (sg 14 (ix x1))).bind fun q2 => if w32 (q2.2 11 3) ≤ w32 q2.1 then some (0, q2.2) else some (1, q2.2))
def rm_Plan_hasRoom : Room := { frames := 1, cells := 0, slots := 0, locals := 20 }
def f_Plan_hasRoom (sg : St) (x1 : Int) : Option (Int × St) := gd (inb x1 12) ((f_XJ_bitCount sg (sg 15 (ix x1))).bind fun q2 => gd (inb x1 12) (if w32 (q2.2 12 (ix x1)) ≤ w32 q2.1 then some (0, q2.2) else some (1, q2.2)))
def rm_Plan_openJudges : Room := { frames := 0, cells := 0, slots := 0, locals := 0 }
def f_Plan_openJudges (sg : St) (x1 : Int) : Option (Int × St) := if w32 (sg 11 9) ≤ w32 x1 then if w32 x1 ≤ w32 (sg 11 9) then some (shlI (-1) (sg 11 10), sg) else some ((-1), sg) else some (0, sg)
def rm_Plan_openBoards : Room := { frames := 0, cells := 0, slots := 0, locals := 0 }
def f_Plan_openBoards (sg : St) (x1 : Int) : Option (Int × St) := if w32 (sg 11 10) ≤ w32 x1 then some (shlI (-1) (sg 11 9), sg) else some (shlI (-1) ((sg 11 9) + 1), sg)
def rm_Plan_join : Room := { frames := 0, cells := 0, slots := 0, locals := 0 }
def f_Plan_join (sg : St) (x1 x2 : Int) : Option (St) := gd (inb x1 24) (gd (inb x1 24) (let s3 := put sg 14 (ix x1) (orI (sg 14 (ix x1)) (shlI 1 x2)); gd (inb x2 12) (gd (inb x2 12) (let s6 := put s3 15 (ix x2) (orI (s3 15 (ix x2)) (shlI 1 x1)); some s6))))
def rm_Plan_part : Room := { frames := 0, cells := 0, slots := 0, locals := 0 }
def f_Plan_part (sg : St) (x1 x2 : Int) : Option (St) := gd (inb x1 24) (gd (inb x1 24) (let s3 := put sg 14 (ix x1) (andI (sg 14 (ix x1)) (xorI (shlI 1 x2) (-1))); gd (inb x2 12) (gd (inb x2 12) (let s6 := put s3 15 (ix x2) (andI (s3 15 (ix x2)) (xorI (shlI 1 x1) (-1))); some s6))))
def rm_Prize_has : Room := { frames := 0, cells := 0, slots := 0, locals := 0 }
def f_Prize_has (cp : Nat) (sg : St) (x1 : Int) : Option (Int × St) := if w32 x1 < 0 then some (0, sg) else if w32 (sg cp 0) ≤ w32 x1 then some (0, sg) else some (1, sg)
def rm_Prize_addEmpty : Room := { frames := 0, cells := 0, slots := 0, locals := 0 }
def b_Prize_addEmpty_11 (cp : Nat) (F : Nat) (kc : St → Int → Option (St)) (k34 : St → Option (St)) (sg : St) (x1 : Int) : Option (St) := if w32 4 ≤ w32 x1 then k34 sg  else gd (inb x1 4) (gd (inb (sg cp 0) 8) (let s4 := put sg (cp + 4 + ix x1) (ix (sg cp 0)) (-1); kc s4 (x1 + 1)))
def l_Prize_addEmpty_11 (cp : Nat) (F : Nat) (k34 : St → Option (St)) : Nat → St → Int → Option (St)
  | 0 => fun _ _ => none
  | n + 1 => b_Prize_addEmpty_11 cp F (l_Prize_addEmpty_11 cp F k34 n) k34
def f_Prize_addEmpty (F : Nat) (cp : Nat) (sg : St) : Option (St) := if w32 8 ≤ w32 (sg cp 0) then some sg else l_Prize_addEmpty_11 cp F (fun s2 => gd (inb (s2 cp 0) 8) (let s4 := put s2 (cp + 2) (ix (s2 cp 0)) (nz 0); let s5 := put s4 cp 0 ((s4 cp 0) + 1); some s5)) F sg 0
def rm_Prize_meets : Room := { frames := 0, cells := 0, slots := 0, locals := 0 }
def f_Prize_meets (cp : Nat) (sg : St) (x1 x2 x3 : Int) : Option (Int × St) := gd (inb x1 4) (gd (inb x2 8) (if w32 (sg (cp + 4 + ix x1) (ix x2)) = w32 (-1) then some (1, sg) else gd (inb x1 4) (gd (inb x2 8) (if w32 (sg (cp + 4 + ix x1) (ix x2)) = w32 x3 then some (1, sg) else some (0, sg)))))
def rm_Scale_gather : Room := { frames := 0, cells := 0, slots := 0, locals := 0 }
def b_Scale_gather_7 (F : Nat) (kc : St → Int → Int → Option (St)) (k57 : St → Option (St)) (sg : St) (x2 x3 : Int) : Option (St) := if w32 12 ≤ w32 x3 then k57 sg  else gd (inb x3 12) (if w32 (sg 26 (ix x3)) = w32 x2 then if w32 5 ≤ w32 (sg 29 2) then kc sg x2 (x3 + 1) else gd (inb (sg 29 2) 5) (let s6 := put sg 32 (ix (sg 29 2)) x3; let s7 := put s6 29 2 ((s6 29 2) + 1); kc s7 x2 (x3 + 1)) else kc sg x2 (x3 + 1))
def l_Scale_gather_7 (F : Nat) (k57 : St → Option (St)) : Nat → St → Int → Int → Option (St)
  | 0 => fun _ _ _ => none
  | n + 1 => b_Scale_gather_7  F (l_Scale_gather_7  F k57 n) k57
def f_Scale_gather (F : Nat) (sg : St) (x2 : Int) : Option (St) := let s1 := put sg 29 2 0; l_Scale_gather_7 F (fun s2 => some s2) F s1 x2 0
def rm_Scale_takeShares : Room := { frames := 1, cells := 0, slots := 0, locals := 22 }
def b_Scale_takeShares_3 (F : Nat) (kc : St → Int → Int → Int → Int → Option (St)) (k49 : St → Option (St)) (sg : St) (x2 x3 x4 x5 : Int) : Option (St) := if w32 (sg 29 2) ≤ w32 x5 then k49 sg  else gd (inb x5 5) ((f_Known_pointsOf sg (sg 32 (ix x5)) x2).bind fun q3 => if w32 q3.1 = w32 (-1) then kc q3.2 x2 x3 x4 (x5 + 1) else gd (inb x3 5) (gd (inb x5 6) (gd (inb x5 6) (let s8 := put q3.2 (34 + ix x3) (ix x5) ((q3.2 (34 + ix x3) (ix x5)) - (w32 x4)); kc s8 x2 x3 x4 (x5 + 1)))))
def l_Scale_takeShares_3 (F : Nat) (k49 : St → Option (St)) : Nat → St → Int → Int → Int → Int → Option (St)
  | 0 => fun _ _ _ _ _ => none
  | n + 1 => b_Scale_takeShares_3  F (l_Scale_takeShares_3  F k49 n) k49
def f_Scale_takeShares (F : Nat) (sg : St) (x2 x3 x4 : Int) : Option (St) := l_Scale_takeShares_3 F (fun s1 => some s1) F sg x2 x3 x4 0
def rm_Scale_minor : Room := { frames := 1, cells := 0, slots := 0, locals := 20 }
def b_Scale_minor_13 (F : Nat) (kc : St → Int → Int → Int → Int → Int → Option (Int × St)) (k108 : St → Int → Option (Int × St)) (sg : St) (x1 x2 x3 x4 x6 : Int) : Option (Int × St) := if w32 (sg 29 2) ≤ w32 x6 then k108 sg x4 else if w32 (andI (shrI x1 x6) 1) = w32 1 then gd (inb x3 5) (if w32 x6 = w32 x2 then gd (inb 5 6) (gd (inb (andI x1 (xorI (shlI 1 x6) (-1))) 32) ((f_XJ_bitCount sg (shrI x1 (x6 + 1))).bind fun q7 => if w32 (andI q7.1 1) = 0 then kc q7.2 x1 x2 x3 (x4 + ((sg (34 + ix x3) (ix 5)) * (sg 39 (ix (andI x1 (xorI (shlI 1 x6) (-1))))))) (x6 + 1) else kc q7.2 x1 x2 x3 (x4 + (-((sg (34 + ix x3) (ix 5)) * (sg 39 (ix (andI x1 (xorI (shlI 1 x6) (-1)))))))) (x6 + 1))) else gd (inb x6 6) (gd (inb (andI x1 (xorI (shlI 1 x6) (-1))) 32) ((f_XJ_bitCount sg (shrI x1 (x6 + 1))).bind fun q11 => if w32 (andI q11.1 1) = 0 then kc q11.2 x1 x2 x3 (x4 + ((sg (34 + ix x3) (ix x6)) * (sg 39 (ix (andI x1 (xorI (shlI 1 x6) (-1))))))) (x6 + 1) else kc q11.2 x1 x2 x3 (x4 + (-((sg (34 + ix x3) (ix x6)) * (sg 39 (ix (andI x1 (xorI (shlI 1 x6) (-1)))))))) (x6 + 1)))) else kc sg x1 x2 x3 x4 (x6 + 1)
def l_Scale_minor_13 (F : Nat) (k108 : St → Int → Option (Int × St)) : Nat → St → Int → Int → Int → Int → Int → Option (Int × St)
  | 0 => fun _ _ _ _ _ _ => none
  | n + 1 => b_Scale_minor_13  F (l_Scale_minor_13  F k108 n) k108
def f_Scale_minor (F : Nat) (sg : St) (x1 x2 : Int) : Option (Int × St) := (f_XJ_bitCount sg x1).bind fun q1 => l_Scale_minor_13 F (fun s2 x4_3 => some (x4_3, s2)) F q1.2 x1 x2 (q1.1 - 1) 0 0
def rm_Read_take : Room := { frames := 0, cells := 0, slots := 0, locals := 0 }
def b_Read_take_3 (F : Nat) (kc : St → Int → Int → Option (St)) (k46 : St → Option (St)) (sg : St) (x1 x2 : Int) : Option (St) := if w32 x2 < 0 then k46 sg  else if w32 300 ≤ w32 (sg 41 0) then k46 sg  else gd (inb (sg 41 0) 300) (let s4 := put sg 42 (ix (sg 41 0)) (w8 (w8 (shrI x1 x2))); let s5 := put s4 41 0 ((s4 41 0) + 1); kc s5 x1 (x2 + (-8)))
def l_Read_take_3 (F : Nat) (k46 : St → Option (St)) : Nat → St → Int → Int → Option (St)
  | 0 => fun _ _ _ => none
  | n + 1 => b_Read_take_3  F (l_Read_take_3  F k46 n) k46
def f_Read_take (F : Nat) (sg : St) (x1 : Int) : Option (St) := l_Read_take_3 F (fun s1 => some s1) F sg x1 24
def rm_Read_blame : Room := { frames := 0, cells := 0, slots := 0, locals := 0 }
def f_Read_blame (sg : St) (x1 : Int) : Option (St) := if w32 (sg 41 1) = 0 then let s2 := put sg 41 1 x1; let s3 := put s2 41 2 (s2 41 6); some s3 else some sg
def rm_Read_isWord : Room := { frames := 5, cells := 0, slots := 0, locals := 111 }
def b_Read_isWord_28 (cs : Nat) (F : Nat) (kc : St → Int → Option (Int × St)) (k63 : St → Option (Int × St)) (sg : St) (x2 : Int) : Option (Int × St) := (f_S_length cs sg ).bind fun q1 => if w32 q1.1 ≤ w32 x2 then k63 q1.2  else gd (inb ((q1.2 41 6) + x2) 300) ((f_S_charAt cs q1.2 x2).bind fun q4 => if w32 (q1.2 42 (ix ((q1.2 41 6) + x2))) = w32 q4.1 then kc q4.2 (x2 + 1) else some (0, q4.2))
def l_Read_isWord_28 (cs : Nat) (F : Nat) (k63 : St → Option (Int × St)) : Nat → St → Int → Option (Int × St)
  | 0 => fun _ _ => none
  | n + 1 => b_Read_isWord_28 cs F (l_Read_isWord_28 cs F k63 n) k63
def f_Read_isWord (F : Nat) (cs : Nat) (sg : St) : Option (Int × St) := if w32 (sg 41 5) = w32 1 then (f_S_length cs sg ).bind fun q2 => if w32 ((sg 41 7) - (sg 41 6)) = w32 q2.1 then l_Read_isWord_28 cs F (fun s4 => some (1, s4)) F q2.2 0 else some (0, q2.2) else some (0, sg)
def rm_Read_endOfRun : Room := { frames := 0, cells := 0, slots := 0, locals := 0 }
def b_Read_endOfRun_5 (F : Nat) (kc : St → Int → Int → Int → Option (Int × St)) (k39 : St → Int → Option (Int × St)) (sg : St) (x1 x2 x3 : Int) : Option (Int × St) := if w32 (sg 41 4) ≤ w32 x3 then k39 sg x3 else gd (inb x3 300) (if w32 (sg 42 (ix x3)) < w32 x1 then k39 sg x3 else gd (inb x3 300) (if w32 x2 < w32 (sg 42 (ix x3)) then k39 sg x3 else kc sg x1 x2 (x3 + 1)))
def l_Read_endOfRun_5 (F : Nat) (k39 : St → Int → Option (Int × St)) : Nat → St → Int → Int → Int → Option (Int × St)
  | 0 => fun _ _ _ _ => none
  | n + 1 => b_Read_endOfRun_5  F (l_Read_endOfRun_5  F k39 n) k39
def f_Read_endOfRun (F : Nat) (sg : St) (x1 x2 : Int) : Option (Int × St) := l_Read_endOfRun_5 F (fun s1 x3_2 => some (x3_2, s1)) F sg x1 x2 (sg 41 6)
def rm_H_status : Room := { frames := 0, cells := 0, slots := 0, locals := 0 }
def f_H_status (sg : St) : Option (Int × St) := some (sg 0 13, sg)
def rm_H_upper : Room := { frames := 0, cells := 0, slots := 0, locals := 0 }
def f_H_upper (sg : St) : Option (Int × St) := some (sg 40 0, sg)
def rm_H_lower : Room := { frames := 0, cells := 0, slots := 0, locals := 0 }
def f_H_lower (sg : St) : Option (Int × St) := some (sg 40 1, sg)
def rm_H_feed : Room := { frames := 1, cells := 0, slots := 0, locals := 22 }
def f_H_feed (F : Nat) (sg : St) (x1 x2 x3 x4 x5 : Int) : Option (Int × St) := if w32 ((sg 41 0) + 20) ≤ w32 300 then (f_Read_take F sg x1).bind fun q2 => (f_Read_take F q2 x2).bind fun q3 => (f_Read_take F q3 x3).bind fun q4 => (f_Read_take F q4 x4).bind fun q5 => (f_Read_take F q5 x5).bind fun q6 => some (q6 41 0, q6) else some ((-1), sg)
def rm_H_fault : Room := { frames := 0, cells := 0, slots := 0, locals := 0 }
def f_H_fault (sg : St) (x1 : Int) : Option (Int × St) := if w32 x1 = 0 then some (sg 41 1, sg) else if w32 x1 = w32 1 then some (sg 41 2, sg) else some ((-1), sg)
def rm_H_answer : Room := { frames := 0, cells := 0, slots := 0, locals := 0 }
def f_H_answer (sg : St) (x1 : Int) : Option (Int × St) := let s1 := put sg 0 13 0; some (x1, s1)
def rm_H_yes : Room := { frames := 0, cells := 0, slots := 0, locals := 0 }
def f_H_yes (sg : St) : Option (Int × St) := let s1 := put sg 0 13 0; some (1, s1)
def rm_H_none : Room := { frames := 0, cells := 0, slots := 0, locals := 0 }
def f_H_none (sg : St) (x1 : Int) : Option (Int × St) := let s1 := put sg 0 13 x1; some ((-1), s1)
def rm_H_no : Room := { frames := 0, cells := 0, slots := 0, locals := 0 }
def f_H_no (sg : St) (x1 : Int) : Option (Int × St) := let s1 := put sg 0 13 x1; some (0, s1)
def rm_H_within : Room := { frames := 0, cells := 0, slots := 0, locals := 0 }
def f_H_within (sg : St) (x0 x1 x2 : Int) : Option (Int × St) := if w32 x0 < w32 x1 then some (0, sg) else if w32 x2 < w32 x0 then some (0, sg) else some (1, sg)
def rm_H_isDay : Room := { frames := 1, cells := 0, slots := 0, locals := 22 }
def f_H_isDay (sg : St) (x0 : Int) : Option (Int × St) := (f_H_within sg x0 0 999).bind fun q1 => gd (w32 q1.1 = 0 ∨ w32 q1.1 = 1) (some (q1.1, q1.2))
def rm_H_lowestBit : Room := { frames := 1, cells := 0, slots := 0, locals := 20 }
def f_H_lowestBit (sg : St) (x0 : Int) : Option (Int × St) := if w32 x0 = 0 then some ((-1), sg) else (f_XJ_bitCount sg ((andI x0 (-x0)) - 1)).bind fun q2 => some (q2.1, q2.2)
def rm_Frac_become : Room := { frames := 1, cells := 0, slots := 0, locals := 30 }
def f_Frac_become (F : Nat) (cf : Nat) (sg : St) (x1 x3 : Int) : Option (St) := (f_XJ_abs sg x1).bind fun q1 => (f_Frac_commonDivisor F q1.2 q1.1 x3).bind fun q2 => if w64 x3 ≤ w64 0 then some q2.2 else if w64 q2.1 ≤ w64 0 then some q2.2 else gd (¬ w64 q2.1 = 0) (let s6 := put q2.2 cf 0 (divL x1 q2.1); gd (¬ w64 q2.1 = 0) (let s8 := put s6 cf 1 (divL x3 q2.1); some s8))
def rm_Halls_place : Room := { frames := 1, cells := 0, slots := 0, locals := 24 }
def b_Halls_place_45 (F : Nat) (sg : St) (x2 z0 : Int) : Option (Int × St) := if w32 z0 = 0 then gd (inb x2 24) (gd (inb x2 24) (let s4 := put sg 73 (ix x2) ((sg 73 (ix x2)) + 1); some (x2, s4))) else (f_Halls_move sg x2 (-1)).bind fun q5 => if w32 24 ≤ w32 (x2 + 1) then some (x2 + 1, q5) else gd (inb (x2 + 1) 24) (let s8 := put q5 73 (ix (x2 + 1)) 0; some (x2 + 1, s8))
def f_Halls_place (sg : St) (x2 x3 : Int) : Option (Int × St) := gd (inb x3 4) (if w32 (sg 77 (ix x3)) < w32 1 then b_Halls_place_45 0 sg x2 0 else gd (inb x3 4) (gd (inb x2 24) (if w32 (sg 78 (ix x3)) < w32 (sg 5 (ix x2)) then b_Halls_place_45 0 sg x2 0 else gd (inb x3 4) (gd (inb x2 24) (if w32 (sg 79 (ix x3)) < w32 (sg 6 (ix x2)) then b_Halls_place_45 0 sg x2 0 else b_Halls_place_45 0 sg x2 1)))))
def rm_Known_takeLatest : Room := { frames := 1, cells := 0, slots := 0, locals := 22 }
def b_Known_takeLatest_82 (F : Nat) (kc : St → Int → Int → Option (St)) (k130 : St → Option (St)) (sg : St) (x2 x3 x4 z0 : Int) : Option (St) := if w32 z0 = 0 then kc sg x2 (x3 + 1) else (f_Marks_standsOn sg x3 x2).bind fun q2 => if w32 q2.1 = 0 then kc q2.2 x2 (x3 + 1) else gd (inb x3 200) (gd (inb x4 288) (let s6 := put q2.2 27 (ix x4) (q2.2 22 (ix x3)); gd (inb x3 200) (gd (inb x4 288) (let s9 := put s6 28 (ix x4) (s6 23 (ix x3)); kc s9 x2 (x3 + 1)))))
def b_Known_takeLatest_24 (F : Nat) (kc : St → Int → Int → Option (St)) (k130 : St → Option (St)) (sg : St) (x2 x3 : Int) : Option (St) := if w32 (sg 19 0) ≤ w32 x3 then k130 sg  else gd (inb x3 200) (gd (inb x3 200) (gd (inb (((sg 20 (ix x3)) * 24) + (sg 21 (ix x3))) 288) (if w32 (sg 27 (ix (((sg 20 (ix x3)) * 24) + (sg 21 (ix x3))))) = w32 (-1) then b_Known_takeLatest_82  F kc k130 sg x2 x3 (((sg 20 (ix x3)) * 24) + (sg 21 (ix x3))) 1 else gd (inb (((sg 20 (ix x3)) * 24) + (sg 21 (ix x3))) 288) (gd (inb x3 200) (if w32 (sg 23 (ix x3)) < w32 (sg 28 (ix (((sg 20 (ix x3)) * 24) + (sg 21 (ix x3))))) then b_Known_takeLatest_82  F kc k130 sg x2 x3 (((sg 20 (ix x3)) * 24) + (sg 21 (ix x3))) 0 else b_Known_takeLatest_82  F kc k130 sg x2 x3 (((sg 20 (ix x3)) * 24) + (sg 21 (ix x3))) 1)))))
def l_Known_takeLatest_24 (F : Nat) (k130 : St → Option (St)) : Nat → St → Int → Int → Option (St)
  | 0 => fun _ _ _ => none
  | n + 1 => b_Known_takeLatest_24  F (l_Known_takeLatest_24  F k130 n) k130
def b_Known_takeLatest_2 (F : Nat) (kc : St → Int → Int → Option (St)) (k22 : St → Int → Option (St)) (sg : St) (x2 x3 : Int) : Option (St) := if w32 288 ≤ w32 x3 then k22 sg x2 else gd (inb x3 288) (let s3 := put sg 27 (ix x3) (-1); kc s3 x2 (x3 + 1))
def l_Known_takeLatest_2 (F : Nat) (k22 : St → Int → Option (St)) : Nat → St → Int → Int → Option (St)
  | 0 => fun _ _ _ => none
  | n + 1 => b_Known_takeLatest_2  F (l_Known_takeLatest_2  F k22 n) k22
def f_Known_takeLatest (F : Nat) (sg : St) (x2 : Int) : Option (St) := l_Known_takeLatest_2 F (fun s1 x2_2 => l_Known_takeLatest_24 F (fun s3 => some s3) F s1 x2_2 0) F sg x2 0
def rm_Known_formHeaps : Room := { frames := 2, cells := 0, slots := 0, locals := 46 }
def b_Known_formHeaps_76 (F : Nat) (kc : St → Int → Int → Int → Option (St)) (k99 : St → Int → Option (St)) (sg : St) (x1 x3 z0 : Int) : Option (St) := gd (inb z0 12) (gd (inb x3 12) ((f_Known_joinHeaps F sg (sg 26 (ix z0)) (sg 26 (ix x3))).bind fun q3 => kc q3 x1 z0 (x3 + 1)))
def b_Known_formHeaps_66 (F : Nat) (kc : St → Int → Int → Int → Option (St)) (k99 : St → Int → Option (St)) (sg : St) (x1 x2 x3 : Int) : Option (St) := if w32 x2 = w32 (-1) then b_Known_formHeaps_76  F kc k99 sg x1 x3 x3 else b_Known_formHeaps_76  F kc k99 sg x1 x3 x2
def b_Known_formHeaps_33 (F : Nat) (kc : St → Int → Int → Int → Option (St)) (k99 : St → Int → Option (St)) (sg : St) (x1 x2 x3 : Int) : Option (St) := if w32 12 ≤ w32 x3 then k99 sg x1 else (f_Known_pointsOf sg x3 x1).bind fun q2 => if w32 q2.1 = w32 (-1) then kc q2.2 x1 x2 (x3 + 1) else gd (inb x3 12) (if w32 (q2.2 26 (ix x3)) = w32 (-1) then gd (inb x3 12) (let s7 := put q2.2 26 (ix x3) x3; b_Known_formHeaps_66  F kc k99 s7 x1 x2 x3) else b_Known_formHeaps_66  F kc k99 q2.2 x1 x2 x3)
def l_Known_formHeaps_33 (F : Nat) (k99 : St → Int → Option (St)) : Nat → St → Int → Int → Int → Option (St)
  | 0 => fun _ _ _ _ => none
  | n + 1 => b_Known_formHeaps_33  F (l_Known_formHeaps_33  F k99 n) k99
def b_Known_formHeaps_23 (F : Nat) (kc : St → Int → Option (St)) (k105 : St → Option (St)) (sg : St) (x1 : Int) : Option (St) := if w32 24 ≤ w32 x1 then k105 sg  else l_Known_formHeaps_33  F (fun s2 x1_3 => kc s2 (x1_3 + 1)) F sg x1 (-1) 0
def l_Known_formHeaps_23 (F : Nat) (k105 : St → Option (St)) : Nat → St → Int → Option (St)
  | 0 => fun _ _ => none
  | n + 1 => b_Known_formHeaps_23  F (l_Known_formHeaps_23  F k105 n) k105
def b_Known_formHeaps_2 (F : Nat) (kc : St → Int → Option (St)) (k21 : St → Option (St)) (sg : St) (x1 : Int) : Option (St) := if w32 12 ≤ w32 x1 then k21 sg  else gd (inb x1 12) (let s3 := put sg 26 (ix x1) (-1); kc s3 (x1 + 1))
def l_Known_formHeaps_2 (F : Nat) (k21 : St → Option (St)) : Nat → St → Int → Option (St)
  | 0 => fun _ _ => none
  | n + 1 => b_Known_formHeaps_2  F (l_Known_formHeaps_2  F k21 n) k21
def f_Known_formHeaps (F : Nat) (sg : St) : Option (St) := l_Known_formHeaps_2 F (fun s1 => l_Known_formHeaps_23 F (fun s2 => some s2) F s1 0) F sg 0
def rm_Plan_startAtLacking : Room := { frames := 2, cells := 0, slots := 0, locals := 41 }
def b_Plan_startAtLacking_17 (F : Nat) (kc : St → Int → Option (St)) (k45 : St → Option (St)) (sg : St) (x1 : Int) : Option (St) := if w32 (sg 11 1) ≤ w32 x1 then k45 sg  else (f_Plan_lacks sg x1).bind fun q2 => if w32 q2.1 = 0 then kc q2.2 (x1 + 1) else (f_Plan_reach q2.2 x1 (-1)).bind fun q4 => kc q4 (x1 + 1)
def l_Plan_startAtLacking_17 (F : Nat) (k45 : St → Option (St)) : Nat → St → Int → Option (St)
  | 0 => fun _ _ => none
  | n + 1 => b_Plan_startAtLacking_17  F (l_Plan_startAtLacking_17  F k45 n) k45
def f_Plan_startAtLacking (F : Nat) (sg : St) : Option (St) := let s1 := put sg 11 11 0; let s2 := put s1 11 12 0; let s3 := put s2 11 13 0; l_Plan_startAtLacking_17 F (fun s4 => some s4) F s3 0
def rm_Plan_reachShown : Room := { frames := 1, cells := 0, slots := 0, locals := 22 }
def b_Plan_reachShown_22 (F : Nat) (kc : St → Int → Int → Int → Option (St)) (k55 : St → Option (St)) (sg : St) (x1 x2 x3 : Int) : Option (St) := if w32 (sg 11 1) ≤ w32 x3 then k55 sg  else if w32 x2 = 0 then k55 sg  else if w32 (andI (shrI x2 x3) 1) = w32 1 then (f_Plan_reach sg x3 x1).bind fun q4 => kc q4 x1 x2 (x3 + 1) else kc sg x1 x2 (x3 + 1)
def l_Plan_reachShown_22 (F : Nat) (k55 : St → Option (St)) : Nat → St → Int → Int → Int → Option (St)
  | 0 => fun _ _ _ _ => none
  | n + 1 => b_Plan_reachShown_22  F (l_Plan_reachShown_22  F k55 n) k55
def f_Plan_reachShown (F : Nat) (sg : St) (x1 : Int) : Option (St) := gd (inb x1 12) ((f_Plan_openBoards sg x1).bind fun q2 => l_Plan_reachShown_22 F (fun s3 => some s3) F q2.2 x1 (andI (andI (sg 15 (ix x1)) q2.1) (xorI (q2.2 11 11) (-1))) 0)
def rm_Prize_isWished : Room := { frames := 1, cells := 0, slots := 0, locals := 23 }
def f_Prize_isWished (cp : Nat) (sg : St) (x1 x3 x4 : Int) : Option (Int × St) := gd (inb x3 24) ((f_Prize_meets cp sg 0 x1 (sg 2 (ix x3))).bind fun q2 => if w32 q2.1 = 0 then some (0, q2.2) else gd (inb x3 24) ((f_Prize_meets cp q2.2 1 x1 (q2.2 3 (ix x3))).bind fun q5 => if w32 q5.1 = 0 then some (0, q5.2) else gd (inb x3 24) ((f_Prize_meets cp q5.2 2 x1 (q5.2 4 (ix x3))).bind fun q8 => if w32 q8.1 = 0 then some (0, q8.2) else gd (inb 3 4) (gd (inb x1 8) ((f_XJ_max q8.2 1 (q8.2 (cp + 4 + ix 3) (ix x1))).bind fun q12 => if w32 x4 < w32 q12.1 then some (0, q12.2) else some (1, q12.2))))))
def rm_Scale_rate : Room := { frames := 2, cells := 0, slots := 0, locals := 56 }
def b_Scale_rate_9 (co : Nat) (F : Nat) (kc : St → Int → Int → Int → Int → Option (St)) (k73 : St → Int → Int → Option (St)) (sg : St) (x2 x4 x6 x8 : Int) : Option (St) := if w32 12 ≤ w32 x8 then k73 sg x4 x6 else (f_Known_pointsOf sg x8 x2).bind fun q2 => if w32 q2.1 = w32 (-1) then kc q2.2 x2 x4 x6 (x8 + 1) else gd (inb x8 12) (gd (inb x8 12) (gd (inb x8 12) (kc q2.2 x2 (x4 + (((w32 q2.1) * (q2.2 31 (ix x8))) - (q2.2 30 (ix x8)))) (x6 + (q2.2 31 (ix x8))) (x8 + 1))))
def l_Scale_rate_9 (co : Nat) (F : Nat) (k73 : St → Int → Int → Option (St)) : Nat → St → Int → Int → Int → Int → Option (St)
  | 0 => fun _ _ _ _ _ => none
  | n + 1 => b_Scale_rate_9 co F (l_Scale_rate_9 co F k73 n) k73
def f_Scale_rate (F : Nat) (co : Nat) (sg : St) (x2 : Int) : Option (St) := l_Scale_rate_9 co F (fun s1 x4_2 x6_3 => (f_Frac_become F co s1 x4_2 x6_3).bind fun q4 => some q4) F sg x2 0 0 0
def rm_Scale_addBoard : Room := { frames := 2, cells := 0, slots := 0, locals := 47 }
def b_Scale_addBoard_70 (F : Nat) (kc : St → Int → Int → Int → Int → Int → Option (St)) (k160 : St → Option (St)) (sg : St) (x2 x3 x4 x5 x6 : Int) : Option (St) := if w32 (sg 29 2) ≤ w32 x6 then k160 sg  else if w32 x3 ≤ w32 1 then k160 sg  else gd (inb x6 5) ((f_Known_pointsOf sg (sg 32 (ix x6)) x2).bind fun q4 => if w32 q4.1 = w32 (-1) then kc q4.2 x2 x3 x4 x5 (x6 + 1) else gd (inb x6 5) (gd (inb x6 6) (gd (inb x6 6) (let s9 := put q4.2 (34 + ix x6) (ix x6) ((q4.2 (34 + ix x6) (ix x6)) + 60); gd (inb x6 5) (gd (inb 5 6) (gd (inb 5 6) (let s13 := put s9 (34 + ix x6) (ix 5) ((s9 (34 + ix x6) (ix 5)) + (w32 ((60 * q4.1) - (x5 * x4)))); (f_Scale_takeShares F s13 x2 x6 x5).bind fun q14 => kc q14 x2 x3 x4 x5 (x6 + 1))))))))
def l_Scale_addBoard_70 (F : Nat) (k160 : St → Option (St)) : Nat → St → Int → Int → Int → Int → Int → Option (St)
  | 0 => fun _ _ _ _ _ _ => none
  | n + 1 => b_Scale_addBoard_70  F (l_Scale_addBoard_70  F k160 n) k160
def b_Scale_addBoard_8 (F : Nat) (kc : St → Int → Int → Int → Int → Option (St)) (k53 : St → Int → Int → Int → Option (St)) (sg : St) (x2 x3 x4 x5 : Int) : Option (St) := if w32 (sg 29 2) ≤ w32 x5 then k53 sg x2 x3 x4 else gd (inb x5 5) ((f_Known_pointsOf sg (sg 32 (ix x5)) x2).bind fun q3 => if w32 q3.1 = w32 (-1) then kc q3.2 x2 x3 x4 (x5 + 1) else kc q3.2 x2 (x3 + 1) (x4 + q3.1) (x5 + 1))
def l_Scale_addBoard_8 (F : Nat) (k53 : St → Int → Int → Int → Option (St)) : Nat → St → Int → Int → Int → Int → Option (St)
  | 0 => fun _ _ _ _ _ => none
  | n + 1 => b_Scale_addBoard_8  F (l_Scale_addBoard_8  F k53 n) k53
def f_Scale_addBoard (F : Nat) (sg : St) (x2 : Int) : Option (St) := l_Scale_addBoard_8 F (fun s1 x2_2 x3_3 x4_4 => if w32 x3_3 = 0 then l_Scale_addBoard_70 F (fun s6 => some s6) F s1 x2_2 x3_3 x4_4 0 0 else gd (¬ w32 x3_3 = 0) (l_Scale_addBoard_70 F (fun s8 => some s8) F s1 x2_2 x3_3 x4_4 (divI 60 x3_3) 0)) F sg x2 0 0 0
def rm_Scale_determinant : Room := { frames := 2, cells := 0, slots := 0, locals := 51 }
def b_Scale_determinant_18 (F : Nat) (kc : St → Int → Int → Int → Option (Int × St)) (k41 : St → Int → Option (Int × St)) (sg : St) (x1 x2 x3 : Int) : Option (Int × St) := if w32 x2 < w32 x3 then k41 sg x2 else (f_Scale_minor F sg x3 x1).bind fun q2 => gd (inb x3 32) (let s4 := put q2.2 39 (ix x3) q2.1; kc s4 x1 x2 (x3 + 1))
def l_Scale_determinant_18 (F : Nat) (k41 : St → Int → Option (Int × St)) : Nat → St → Int → Int → Int → Option (Int × St)
  | 0 => fun _ _ _ _ => none
  | n + 1 => b_Scale_determinant_18  F (l_Scale_determinant_18  F k41 n) k41
def f_Scale_determinant (F : Nat) (sg : St) (x1 : Int) : Option (Int × St) := gd (inb 0 32) (let s2 := put sg 39 (ix 0) 1; l_Scale_determinant_18 F (fun s3 x2_4 => gd (inb x2_4 32) (some (s3 39 (ix x2_4), s3))) F s2 x1 ((shlI 1 (sg 29 2)) - 1) 1)
def rm_Read_wishInHand : Room := { frames := 6, cells := 0, slots := 0, locals := 133 }
def f_Read_wishInHand (F : Nat) (sg : St) : Option (Int × St) := (f_Read_isWord F 1001 sg ).bind fun q1 => if w32 q1.1 = 0 then (f_Read_isWord F 1002 q1.2 ).bind fun q3 => if w32 q3.1 = 0 then (f_Read_isWord F 1003 q3.2 ).bind fun q5 => if w32 q5.1 = 0 then (f_Read_isWord F 1004 q5.2 ).bind fun q7 => if w32 q7.1 = 0 then some ((-1), q7.2) else some (3, q7.2) else some (2, q5.2) else some (1, q3.2) else some (0, q1.2)
def rm_Read_step : Room := { frames := 1, cells := 0, slots := 0, locals := 23 }
def b_Read_step_55 (F : Nat) (kc : St → Option (St)) (k68 : St → Option (St)) (sg : St) : Option (St) := let s1 := put sg 41 6 ((sg 41 6) + 1); kc s1 
def b_Read_step_16 (F : Nat) (kc : St → Option (St)) (k68 : St → Option (St)) (sg : St) : Option (St) := if w32 (sg 41 4) ≤ w32 (sg 41 6) then k68 sg  else gd (inb (sg 41 6) 300) (if w32 (sg 42 (ix (sg 41 6))) = w32 10 then b_Read_step_55  F kc k68 sg  else gd (inb (sg 41 6) 300) (if w32 (sg 42 (ix (sg 41 6))) = w32 32 then b_Read_step_55  F kc k68 sg  else k68 sg ))
def l_Read_step_16 (F : Nat) (k68 : St → Option (St)) : Nat → St → Option (St)
  | 0 => fun _  => none
  | n + 1 => b_Read_step_16  F (l_Read_step_16  F k68 n) k68
def b_Read_step_204 (F : Nat) (sg : St) : Option (St) := (f_Read_blame sg 1).bind fun q1 => some q1
def b_Read_step_144 (F : Nat) (sg : St) : Option (St) := if w32 (sg 41 5) = w32 1 then if w32 (sg 41 7) = w32 (sg 41 6) then let s3 := put sg 41 5 2; (f_Read_endOfRun F s3 48 57).bind fun q4 => let s5 := put q4.2 41 7 q4.1; if w32 (s5 41 7) = w32 (s5 41 6) then b_Read_step_204  F  s5  else if w32 ((s5 41 7) - (s5 41 6)) ≤ w32 3 then some s5 else b_Read_step_204  F  s5  else some sg else some sg
def b_Read_step_68 (F : Nat) (sg : St) : Option (St) := if w32 (sg 41 6) < w32 (sg 41 4) then gd (inb (sg 41 6) 300) (if w32 (sg 42 (ix (sg 41 6))) = w32 59 then let s6 := put sg 41 5 3; let s7 := put s6 41 7 ((s6 41 6) + 1); b_Read_step_144  F  s7  else let s8 := put sg 41 5 1; (f_Read_endOfRun F s8 97 122).bind fun q9 => let s10 := put q9.2 41 7 q9.1; b_Read_step_144  F  s10 ) else let s2 := put sg 41 5 0; let s3 := put s2 41 7 (s2 41 4); b_Read_step_144  F  s3 
def f_Read_step (F : Nat) (sg : St) : Option (St) := if w32 (sg 41 1) = 0 then let s2 := put sg 41 6 (sg 41 7); l_Read_step_16 F (fun s3 => b_Read_step_68 F s3 ) F s2 else some sg
def rm_H_board : Room := { frames := 1, cells := 0, slots := 0, locals := 26 }
def b_H_board_40 (F : Nat) (sg : St) : Option (Int × St) := (f_H_none sg 2).bind fun q1 => some (q1.1, q1.2)
def f_H_board (sg : St) (x1 x2 x3 x4 x5 : Int) : Option (Int × St) := (f_H_within sg x1 0 7).bind fun q1 => if w32 q1.1 = 0 then b_H_board_40 0 q1.2 else (f_H_within q1.2 x2 0 3).bind fun q3 => if w32 q3.1 = 0 then b_H_board_40 0 q3.2 else (f_H_within q3.2 x3 0 15).bind fun q5 => if w32 q5.1 = 0 then b_H_board_40 0 q5.2 else (f_H_within q5.2 x4 0 99).bind fun q7 => if w32 q7.1 = 0 then b_H_board_40 0 q7.2 else if w32 (q7.2 1 0) < w32 24 then (f_Boards_add q7.2 x1 x2 x3 x4 x5).bind fun q11 => (f_H_answer q11.2 q11.1).bind fun q12 => some (q12.1, q12.2) else (f_H_none q7.2 3).bind fun q10 => some (q10.1, q10.2)
def rm_H_judge : Room := { frames := 1, cells := 0, slots := 0, locals := 24 }
def b_H_judge_31 (F : Nat) (sg : St) : Option (Int × St) := (f_H_none sg 2).bind fun q1 => some (q1.1, q1.2)
def f_H_judge (sg : St) (x1 x2 x3 : Int) : Option (Int × St) := (f_H_within sg x1 0 255).bind fun q1 => if w32 q1.1 = 0 then b_H_judge_31 0 q1.2 else (f_H_within q1.2 x2 (-1) 15).bind fun q3 => if w32 q3.1 = 0 then b_H_judge_31 0 q3.2 else (f_H_within q3.2 x3 0 24).bind fun q5 => if w32 q5.1 = 0 then b_H_judge_31 0 q5.2 else if w32 (q5.2 7 0) < w32 12 then (f_Judges_add q5.2 x1 x2 x3).bind fun q9 => (f_H_answer q9.2 q9.1).bind fun q10 => some (q10.1, q10.2) else (f_H_none q5.2 3).bind fun q8 => some (q8.1, q8.2)
def rm_H_told : Room := { frames := 2, cells := 0, slots := 0, locals := 48 }
def f_H_told (F : Nat) (sg : St) (x1 x2 : Int) : Option (Int × St) := (f_Boards_has sg x1).bind fun q1 => if w32 q1.1 = 0 then (f_H_none q1.2 1).bind fun q3 => some (q3.1, q3.2) else (f_H_within q1.2 x2 0 5).bind fun q4 => if w32 q4.1 = 0 then (f_H_none q4.2 2).bind fun q6 => some (q6.1, q6.2) else if w32 x2 = w32 5 then (f_Judges_allowedFor F q4.2 x1).bind fun q8 => (f_XJ_bitCount q8.2 q8.1).bind fun q9 => (f_H_answer q9.2 q9.1).bind fun q10 => some (q10.1, q10.2) else (f_Boards_trait q4.2 x1 x2).bind fun q11 => (f_H_answer q11.2 q11.1).bind fun q12 => some (q12.1, q12.2)
def rm_H_may : Room := { frames := 1, cells := 0, slots := 0, locals := 24 }
def b_H_may_50 (F : Nat) (sg : St) (z0 : Int) : Option (Int × St) := (f_H_answer sg z0).bind fun q1 => some (q1.1, q1.2)
def b_H_may_22 (F : Nat) (sg : St) : Option (Int × St) := (f_H_none sg 1).bind fun q1 => some (q1.1, q1.2)
def f_H_may (sg : St) (x1 x2 : Int) : Option (Int × St) := (f_Judges_has sg x1).bind fun q1 => if w32 q1.1 = 0 then b_H_may_22 0 q1.2 else (f_Boards_has q1.2 x2).bind fun q3 => if w32 q3.1 = 0 then b_H_may_22 0 q3.2 else (f_Judges_isAllowed q3.2 x1 x2).bind fun q5 => if w32 q5.1 = 0 then b_H_may_50 0 q5.2 0 else b_H_may_50 0 q5.2 1
def rm_H_looks : Room := { frames := 1, cells := 0, slots := 0, locals := 22 }
def f_H_looks (sg : St) (x1 : Int) : Option (Int × St) := (f_H_within sg x1 1 4).bind fun q1 => if w32 q1.1 = 0 then (f_H_no q1.2 2).bind fun q3 => gd (w32 q3.1 = 0 ∨ w32 q3.1 = 1) (some (q3.1, q3.2)) else let s5 := put q1.2 0 12 x1; (f_H_yes s5 ).bind fun q6 => gd (w32 q6.1 = 0 ∨ w32 q6.1 = 1) (some (q6.1, q6.2))
def rm_H_sees : Room := { frames := 1, cells := 0, slots := 0, locals := 21 }
def b_H_sees_38 (F : Nat) (sg : St) : Option (Int × St) := (f_H_none sg 1).bind fun q1 => some (q1.1, q1.2)
def f_H_sees (sg : St) (x1 x2 : Int) : Option (Int × St) := if w32 (sg 11 0) = 0 then (f_H_none sg 4).bind fun q2 => some (q2.1, q2.2) else (f_Plan_hasJudge sg x1).bind fun q3 => if w32 q3.1 = 0 then b_H_sees_38 0 q3.2 else (f_Plan_hasBoard q3.2 x2).bind fun q5 => if w32 q5.1 = 0 then b_H_sees_38 0 q5.2 else gd (inb x2 24) ((f_H_answer q5.2 (andI (shrI (q5.2 14 (ix x2)) x1) 1)).bind fun q8 => some (q8.1, q8.2))
def rm_H_holds : Room := { frames := 1, cells := 0, slots := 0, locals := 21 }
def f_H_holds (sg : St) (x1 : Int) : Option (Int × St) := if w32 (sg 11 0) = 0 then (f_H_none sg 4).bind fun q2 => some (q2.1, q2.2) else (f_Plan_hasBoard sg x1).bind fun q3 => if w32 q3.1 = 0 then (f_H_none q3.2 1).bind fun q5 => some (q5.1, q5.2) else (f_H_answer q3.2 (andI (shrI (q3.2 11 4) x1) 1)).bind fun q6 => some (q6.1, q6.2)
def rm_H_mark : Room := { frames := 2, cells := 0, slots := 0, locals := 42 }
def b_H_mark_46 (F : Nat) (sg : St) : Option (Int × St) := (f_H_none sg 2).bind fun q1 => some (q1.1, q1.2)
def b_H_mark_22 (F : Nat) (sg : St) : Option (Int × St) := (f_H_none sg 1).bind fun q1 => some (q1.1, q1.2)
def f_H_mark (sg : St) (x1 x2 x3 x4 : Int) : Option (Int × St) := (f_Judges_has sg x1).bind fun q1 => if w32 q1.1 = 0 then b_H_mark_22 0 q1.2 else (f_Boards_has q1.2 x2).bind fun q3 => if w32 q3.1 = 0 then b_H_mark_22 0 q3.2 else (f_H_within q3.2 x3 0 100).bind fun q5 => if w32 q5.1 = 0 then b_H_mark_46 0 q5.2 else (f_H_isDay q5.2 x4).bind fun q7 => if w32 q7.1 = 0 then b_H_mark_46 0 q7.2 else if w32 (q7.2 19 0) < w32 200 then (f_Marks_add q7.2 x1 x2 x3 x4).bind fun q11 => (f_H_answer q11.2 q11.1).bind fun q12 => some (q12.1, q12.2) else (f_H_none q7.2 3).bind fun q10 => some (q10.1, q10.2)
def rm_H_lose : Room := { frames := 2, cells := 0, slots := 0, locals := 42 }
def f_H_lose (sg : St) (x1 x2 : Int) : Option (Int × St) := (f_Marks_has sg x1).bind fun q1 => if w32 q1.1 = 0 then (f_H_no q1.2 1).bind fun q3 => gd (w32 q3.1 = 0 ∨ w32 q3.1 = 1) (some (q3.1, q3.2)) else (f_H_isDay q1.2 x2).bind fun q5 => if w32 q5.1 = 0 then (f_H_no q5.2 2).bind fun q7 => gd (w32 q7.1 = 0 ∨ w32 q7.1 = 1) (some (q7.1, q7.2)) else gd (inb x1 200) (if w32 (q5.2 24 (ix x1)) = w32 (-1) then gd (inb x1 200) (let s14 := put q5.2 24 (ix x1) x2; (f_H_yes s14 ).bind fun q15 => gd (w32 q15.1 = 0 ∨ w32 q15.1 = 1) (some (q15.1, q15.2))) else (f_H_no q5.2 5).bind fun q11 => gd (w32 q11.1 = 0 ∨ w32 q11.1 = 1) (some (q11.1, q11.2)))
def rm_H_hall : Room := { frames := 1, cells := 0, slots := 0, locals := 24 }
def b_H_hall_31 (F : Nat) (sg : St) : Option (Int × St) := (f_H_none sg 2).bind fun q1 => some (q1.1, q1.2)
def f_H_hall (sg : St) (x1 x2 x3 : Int) : Option (Int × St) := (f_H_within sg x1 0 24).bind fun q1 => if w32 q1.1 = 0 then b_H_hall_31 0 q1.2 else (f_H_within q1.2 x2 0 999).bind fun q3 => if w32 q3.1 = 0 then b_H_hall_31 0 q3.2 else (f_H_within q3.2 x3 0 24).bind fun q5 => if w32 q5.1 = 0 then b_H_hall_31 0 q5.2 else if w32 (q5.2 72 0) < w32 4 then (f_Halls_add q5.2 x1 x2 x3).bind fun q9 => (f_H_answer q9.2 q9.1).bind fun q10 => some (q10.1, q10.2) else (f_H_none q5.2 3).bind fun q8 => some (q8.1, q8.2)
def rm_H_clear : Room := { frames := 1, cells := 0, slots := 0, locals := 20 }
def f_H_clear (sg : St) : Option (Int × St) := (f_Halls_removeAll sg ).bind fun q1 => (f_H_yes q1 ).bind fun q2 => gd (w32 q2.1 = 0 ∨ w32 q2.1 = 1) (some (q2.1, q2.2))
def rm_Giver_rank : Room := { frames := 3, cells := 0, slots := 0, locals := 86 }
def b_Giver_rank_7 (F : Nat) (kc : St → Int → Option (St)) (k44 : St → Option (St)) (sg : St) (x3 : Int) : Option (St) := if w32 24 ≤ w32 x3 then k44 sg  else (f_Known_marksOf F sg x3).bind fun q2 => if w32 q2.1 ≤ 0 then kc q2.2 (x3 + 1) else gd (inb x3 24) ((f_Scale_rate F (48 + ix x3) q2.2 x3).bind fun q5 => (f_Giver_insert F q5 x3).bind fun q6 => kc q6 (x3 + 1))
def l_Giver_rank_7 (F : Nat) (k44 : St → Option (St)) : Nat → St → Int → Option (St)
  | 0 => fun _ _ => none
  | n + 1 => b_Giver_rank_7  F (l_Giver_rank_7  F k44 n) k44
def f_Giver_rank (F : Nat) (sg : St) : Option (St) := let s1 := put sg 43 3 0; l_Giver_rank_7 F (fun s2 => some s2) F s1 0
def rm_Giver_giveOne : Room := { frames := 2, cells := 0, slots := 0, locals := 47 }
def b_Giver_giveOne_63 (cp : Nat) (F : Nat) (kc : St → Int → Int → Option (St)) (k123 : St → Option (St)) (sg : St) (x2 x5 x6 z0 : Int) : Option (St) := if w32 z0 = 0 then (f_Known_marksOf F sg x6).bind fun q2 => (f_Prize_isWished cp q2.2 x2 x6 q2.1).bind fun q3 => if w32 q3.1 = 0 then kc q3.2 x2 (x5 + 1) else gd (inb x6 24) (let s6 := put q3.2 47 (ix x6) (nz 1); gd (inb (s6 43 0) 24) (let s8 := put s6 44 (ix (s6 43 0)) x6; let s9 := put s8 43 0 ((s8 43 0) + 1); kc s9 x2 (x5 + 1))) else kc sg x2 (x5 + 1)
def b_Giver_giveOne_8 (cp : Nat) (F : Nat) (kc : St → Int → Int → Option (St)) (k123 : St → Option (St)) (sg : St) (x2 x5 : Int) : Option (St) := if w32 (sg 43 3) ≤ w32 x5 then k123 sg  else gd (inb x2 8) (if w32 (sg (cp + 1) (ix x2)) ≤ w32 (sg 43 0) then k123 sg  else gd (inb x5 24) (gd (inb x2 8) (if w32 (sg (cp + 2) (ix x2)) = 0 then b_Giver_giveOne_63 cp F kc k123 sg x2 x5 (sg 46 (ix x5)) 0 else gd (inb (sg 46 (ix x5)) 24) (if w32 (sg 47 (ix (sg 46 (ix x5)))) = 0 then b_Giver_giveOne_63 cp F kc k123 sg x2 x5 (sg 46 (ix x5)) 0 else b_Giver_giveOne_63 cp F kc k123 sg x2 x5 (sg 46 (ix x5)) 1))))
def l_Giver_giveOne_8 (cp : Nat) (F : Nat) (k123 : St → Option (St)) : Nat → St → Int → Int → Option (St)
  | 0 => fun _ _ _ => none
  | n + 1 => b_Giver_giveOne_8 cp F (l_Giver_giveOne_8 cp F k123 n) k123
def f_Giver_giveOne (F : Nat) (cp : Nat) (sg : St) (x2 : Int) : Option (St) := let s1 := put sg 43 0 0; l_Giver_giveOne_8 cp F (fun s2 => some s2) F s1 x2 0
def rm_Halls_search : Room := { frames := 2, cells := 0, slots := 0, locals := 48 }
def b_Halls_search_4 (F : Nat) (kc : St → Int → Int → Option (Int × St)) (k104 : St → Int → Option (Int × St)) (sg : St) (x2 x3 : Int) : Option (Int × St) := if w32 40024 ≤ w32 x3 then k104 sg x2 else if w32 x2 < 0 then k104 sg x2 else if w32 (sg 1 0) ≤ w32 x2 then k104 sg x2 else gd (inb x2 24) (if w32 (sg 73 (ix x2)) < w32 (sg 72 0) then if w32 (sg 72 1) < w32 20000 then let s12 := put sg 72 1 ((sg 72 1) + 1); (f_Halls_place s12 x2 (sg 73 (ix x2))).bind fun q13 => kc q13.2 q13.1 (x3 + 1) else some (10, sg) else if w32 (x2 + (-1)) < 0 then kc sg (x2 + (-1)) (x3 + 1) else (f_Halls_move sg (x2 + (-1)) 1).bind fun q7 => gd (inb (x2 + (-1)) 24) (gd (inb (x2 + (-1)) 24) (let s10 := put q7 73 (ix (x2 + (-1))) ((q7 73 (ix (x2 + (-1)))) + 1); kc s10 (x2 + (-1)) (x3 + 1))))
def l_Halls_search_4 (F : Nat) (k104 : St → Int → Option (Int × St)) : Nat → St → Int → Int → Option (Int × St)
  | 0 => fun _ _ _ => none
  | n + 1 => b_Halls_search_4  F (l_Halls_search_4  F k104 n) k104
def b_Halls_search_104 (F : Nat) (sg : St) (x2 : Int) : Option (Int × St) := if 0 ≤ w32 x2 then some (0, sg) else some (8, sg)
def f_Halls_search (F : Nat) (sg : St) : Option (Int × St) := l_Halls_search_4 F (fun s1 x2_2 => b_Halls_search_104 F s1 x2_2) F sg 0 0
def rm_Known_lookBack : Room := { frames := 3, cells := 0, slots := 0, locals := 69 }
def f_Known_lookBack (F : Nat) (sg : St) (x2 : Int) : Option (St) := (f_Known_takeLatest F sg x2).bind fun q1 => (f_Known_formHeaps F q1 ).bind fun q2 => some q2
def rm_Plan_reachRoom : Room := { frames := 3, cells := 0, slots := 0, locals := 62 }
def b_Plan_reachRoom_59 (F : Nat) (kc : St → Int → Int → Int → Int → Option (Int × St)) (k6 : St → Int → Option (Int × St)) (k127 : St → Int → Option (Int × St)) (sg : St) (x1 x2 x3 x4 : Int) : Option (Int × St) := if w32 (sg 11 2) ≤ w32 x4 then k127 sg x1 else if w32 x3 = 0 then k127 sg x1 else if w32 (andI (shrI x3 x4) 1) = w32 1 then let s4 := put sg 11 12 (orI (sg 11 12) (shlI 1 x4)); gd (inb x4 12) (let s6 := put s4 18 (ix x4) x2; (f_Plan_hasRoom s6 x4).bind fun q7 => if w32 q7.1 = 0 then (f_Plan_reachShown F q7.2 x4).bind fun q9 => kc q9 x1 x2 x3 (x4 + 1) else some (x4, q7.2)) else kc sg x1 x2 x3 (x4 + 1)
def l_Plan_reachRoom_59 (F : Nat) (k6 : St → Int → Option (Int × St)) (k127 : St → Int → Option (Int × St)) : Nat → St → Int → Int → Int → Int → Option (Int × St)
  | 0 => fun _ _ _ _ _ => none
  | n + 1 => b_Plan_reachRoom_59  F (l_Plan_reachRoom_59  F k6 k127 n) k6 k127
def b_Plan_reachRoom_6 (F : Nat) (kc : St → Int → Option (Int × St)) (k133 : St → Option (Int × St)) (sg : St) (x1 : Int) : Option (Int × St) := if w32 (sg 11 13) ≤ w32 x1 then k133 sg  else if w32 24 ≤ w32 x1 then k133 sg  else gd (inb x1 24) (gd (inb (sg 16 (ix x1)) 24) (gd (inb (sg 16 (ix x1)) 24) ((f_Plan_openJudges sg (sg 16 (ix x1))).bind fun q6 => l_Plan_reachRoom_59  F (fun s7 x1_8 => kc s7 x1_8) (fun s9 x1_10 => kc s9 (x1_10 + 1)) F q6.2 x1 (sg 16 (ix x1)) (andI (andI (andI (sg 13 (ix (sg 16 (ix x1)))) (xorI (sg 14 (ix (sg 16 (ix x1)))) (-1))) q6.1) (xorI (q6.2 11 12) (-1))) 0)))
def l_Plan_reachRoom_6 (F : Nat) (k133 : St → Option (Int × St)) : Nat → St → Int → Option (Int × St)
  | 0 => fun _ _ => none
  | n + 1 => b_Plan_reachRoom_6  F (l_Plan_reachRoom_6  F k133 n) k133
def f_Plan_reachRoom (F : Nat) (sg : St) : Option (Int × St) := (f_Plan_startAtLacking F sg ).bind fun q1 => l_Plan_reachRoom_6 F (fun s2 => some ((-1), s2)) F q1 0
def rm_Scale_setRows : Room := { frames := 3, cells := 0, slots := 0, locals := 74 }
def b_Scale_setRows_67 (F : Nat) (kc : St → Int → Int → Option (St)) (k100 : St → Option (St)) (sg : St) (x2 x3 : Int) : Option (St) := if w32 5 < w32 x3 then k100 sg  else if w32 x2 < 0 then k100 sg  else gd (inb x2 5) (if w32 x3 = w32 5 then gd (inb x3 6) (let s6 := put sg (34 + ix x2) (ix x3) 0; kc s6 x2 (x3 + 1)) else gd (inb x3 6) (let s8 := put sg (34 + ix x2) (ix x3) 1; kc s8 x2 (x3 + 1)))
def l_Scale_setRows_67 (F : Nat) (k100 : St → Option (St)) : Nat → St → Int → Int → Option (St)
  | 0 => fun _ _ _ => none
  | n + 1 => b_Scale_setRows_67  F (l_Scale_setRows_67  F k100 n) k100
def b_Scale_setRows_40 (F : Nat) (kc : St → Int → Option (St)) (k58 : St → Option (St)) (sg : St) (x2 : Int) : Option (St) := if w32 24 ≤ w32 x2 then k58 sg  else (f_Scale_addBoard F sg x2).bind fun q2 => kc q2 (x2 + 1)
def l_Scale_setRows_40 (F : Nat) (k58 : St → Option (St)) : Nat → St → Int → Option (St)
  | 0 => fun _ _ => none
  | n + 1 => b_Scale_setRows_40  F (l_Scale_setRows_40  F k58 n) k58
def b_Scale_setRows_12 (F : Nat) (kc : St → Int → Int → Option (St)) (k32 : St → Int → Option (St)) (sg : St) (x2 x3 : Int) : Option (St) := if w32 5 < w32 x3 then k32 sg x2 else gd (inb x2 5) (gd (inb x3 6) (let s4 := put sg (34 + ix x2) (ix x3) 0; kc s4 x2 (x3 + 1)))
def l_Scale_setRows_12 (F : Nat) (k32 : St → Int → Option (St)) : Nat → St → Int → Int → Option (St)
  | 0 => fun _ _ _ => none
  | n + 1 => b_Scale_setRows_12  F (l_Scale_setRows_12  F k32 n) k32
def b_Scale_setRows_2 (F : Nat) (kc : St → Int → Option (St)) (k38 : St → Option (St)) (sg : St) (x2 : Int) : Option (St) := if w32 (sg 29 2) ≤ w32 x2 then k38 sg  else l_Scale_setRows_12  F (fun s2 x2_3 => kc s2 (x2_3 + 1)) F sg x2 0
def l_Scale_setRows_2 (F : Nat) (k38 : St → Option (St)) : Nat → St → Int → Option (St)
  | 0 => fun _ _ => none
  | n + 1 => b_Scale_setRows_2  F (l_Scale_setRows_2  F k38 n) k38
def f_Scale_setRows (F : Nat) (sg : St) : Option (St) := l_Scale_setRows_2 F (fun s1 => l_Scale_setRows_40 F (fun s2 => l_Scale_setRows_67 F (fun s3 => some s3) F s2 ((s2 29 2) - 1) 0) F s1 0) F sg 0
def rm_Read_takeWord : Room := { frames := 6, cells := 0, slots := 0, locals := 133 }
def b_Read_takeWord_13 (cs : Nat) (F : Nat) (sg : St) : Option (St) := (f_Read_step F sg ).bind fun q1 => some q1
def f_Read_takeWord (F : Nat) (cs : Nat) (sg : St) : Option (St) := (f_Read_isWord F cs sg ).bind fun q1 => if w32 q1.1 = 0 then (f_Read_blame q1.2 2).bind fun q3 => b_Read_takeWord_13 cs F q3 else b_Read_takeWord_13 cs F q1.2 
def rm_Read_takeStop : Room := { frames := 2, cells := 0, slots := 0, locals := 43 }
def b_Read_takeStop_13 (F : Nat) (sg : St) : Option (St) := (f_Read_step F sg ).bind fun q1 => some q1
def f_Read_takeStop (F : Nat) (sg : St) : Option (St) := if w32 (sg 41 5) = w32 3 then b_Read_takeStop_13 F sg else (f_Read_blame sg 2).bind fun q2 => b_Read_takeStop_13 F q2 
def rm_Read_takeNumber : Room := { frames := 2, cells := 0, slots := 0, locals := 43 }
def b_Read_takeNumber_24 (F : Nat) (kc : St → Int → Int → Int → Int → Option (Int × St)) (k55 : St → Int → Int → Int → Option (Int × St)) (sg : St) (x1 x2 x3 x4 : Int) : Option (Int × St) := if w32 (sg 41 7) ≤ w32 x4 then k55 sg x1 x2 x3 else gd (inb x4 300) (kc sg x1 x2 ((x3 * 10) + ((sg 42 (ix x4)) - 48)) (x4 + 1))
def l_Read_takeNumber_24 (F : Nat) (k55 : St → Int → Int → Int → Option (Int × St)) : Nat → St → Int → Int → Int → Int → Option (Int × St)
  | 0 => fun _ _ _ _ _ => none
  | n + 1 => b_Read_takeNumber_24  F (l_Read_takeNumber_24  F k55 n) k55
def b_Read_takeNumber_69 (F : Nat) (sg : St) (x3 : Int) : Option (Int × St) := (f_Read_step F sg ).bind fun q1 => some (x3, q1)
def f_Read_takeNumber (F : Nat) (sg : St) (x1 x2 : Int) : Option (Int × St) := if w32 (sg 41 5) = w32 2 then l_Read_takeNumber_24 F (fun s3 x1_4 x2_5 x3_6 => (f_H_within s3 x3_6 x1_4 x2_5).bind fun q7 => if w32 q7.1 = 0 then (f_Read_blame q7.2 4).bind fun q9 => b_Read_takeNumber_69 F q9 x3_6 else b_Read_takeNumber_69 F q7.2 x3_6) F sg x1 x2 0 (sg 41 6) else (f_Read_blame sg 2).bind fun q2 => b_Read_takeNumber_69 F q2 0
def rm_H_seen : Room := { frames := 4, cells := 0, slots := 0, locals := 91 }
def f_H_seen (F : Nat) (sg : St) (x1 x2 : Int) : Option (Int × St) := (f_Boards_has sg x1).bind fun q1 => if w32 q1.1 = 0 then (f_H_none q1.2 1).bind fun q3 => some (q3.1, q3.2) else (f_H_isDay q1.2 x2).bind fun q4 => if w32 q4.1 = 0 then (f_H_none q4.2 2).bind fun q6 => some (q6.1, q6.2) else (f_Known_lookBack F q4.2 x2).bind fun q7 => (f_Known_marksOf F q7 x1).bind fun q8 => (f_H_answer q8.2 q8.1).bind fun q9 => some (q9.1, q9.2)
def rm_H_whyNoHeap : Room := { frames := 4, cells := 0, slots := 0, locals := 91 }
def f_H_whyNoHeap (F : Nat) (sg : St) (x1 x2 : Int) : Option (Int × St) := (f_Judges_has sg x1).bind fun q1 => if w32 q1.1 = 0 then some (1, q1.2) else (f_H_isDay q1.2 x2).bind fun q3 => if w32 q3.1 = 0 then some (2, q3.2) else (f_Known_lookBack F q3.2 x2).bind fun q5 => gd (inb x1 12) (if w32 (q5 26 (ix x1)) = w32 (-1) then some (6, q5) else some (0, q5))
def rm_Giver_give : Room := { frames := 3, cells := 0, slots := 0, locals := 74 }
def b_Giver_give_27 (cp : Nat) (F : Nat) (kc : St → Int → Int → Option (St)) (k56 : St → Option (St)) (sg : St) (x2 x5 : Int) : Option (St) := if w32 x2 < w32 x5 then k56 sg  else if w32 8 ≤ w32 x5 then k56 sg  else (f_Giver_giveOne F cp sg x5).bind fun q3 => kc q3 x2 (x5 + 1)
def l_Giver_give_27 (cp : Nat) (F : Nat) (k56 : St → Option (St)) : Nat → St → Int → Int → Option (St)
  | 0 => fun _ _ _ => none
  | n + 1 => b_Giver_give_27 cp F (l_Giver_give_27 cp F k56 n) k56
def b_Giver_give_3 (cp : Nat) (F : Nat) (kc : St → Int → Int → Option (St)) (k24 : St → Int → Option (St)) (sg : St) (x2 x5 : Int) : Option (St) := if w32 24 ≤ w32 x5 then k24 sg x2 else gd (inb x5 24) (let s3 := put sg 47 (ix x5) (nz 0); kc s3 x2 (x5 + 1))
def l_Giver_give_3 (cp : Nat) (F : Nat) (k24 : St → Int → Option (St)) : Nat → St → Int → Int → Option (St)
  | 0 => fun _ _ _ => none
  | n + 1 => b_Giver_give_3 cp F (l_Giver_give_3 cp F k24 n) k24
def f_Giver_give (F : Nat) (cp : Nat) (sg : St) (x2 : Int) : Option (St) := l_Giver_give_3 cp F (fun s1 x2_2 => l_Giver_give_27 cp F (fun s3 => some s3) F s1 x2_2 0) F sg x2 0
def rm_Halls_lay : Room := { frames := 3, cells := 0, slots := 0, locals := 72 }
def f_Halls_lay (F : Nat) (sg : St) : Option (Int × St) := if w32 (sg 72 9) = w32 (sg 1 0) then some (sg 72 10, sg) else let s2 := put sg 72 9 (sg 1 0); (f_Halls_emptyAll F s2 ).bind fun q3 => (f_Halls_search F q3 ).bind fun q4 => let s5 := put q4.2 72 10 q4.1; some (s5 72 10, s5)
def rm_Plan_findHolding : Room := { frames := 4, cells := 0, slots := 0, locals := 86 }
def f_Plan_findHolding (F : Nat) (sg : St) : Option (St) := let s1 := put sg 11 9 0; let s2 := put s1 11 10 0; (f_Plan_reachRoom F s2 ).bind fun q3 => let s4 := put q3.2 11 4 (q3.2 11 11); some s4
def rm_Plan_addLook : Room := { frames := 4, cells := 0, slots := 0, locals := 86 }
def b_Plan_addLook_53 (F : Nat) (kc : St → Int → Int → Option (Int × St)) (k68 : St → Option (Int × St)) (sg : St) (x1 x2 x3 x4 : Int) : Option (Int × St) := (f_Plan_join sg x3 x1).bind fun q1 => kc q1 x4 (x2 + 1)
def b_Plan_addLook_14 (F : Nat) (kc : St → Int → Int → Option (Int × St)) (k68 : St → Option (Int × St)) (sg : St) (x1 x2 : Int) : Option (Int × St) := if w32 12 ≤ w32 x2 then k68 sg  else if w32 x1 = w32 (-1) then k68 sg  else gd (inb x1 12) (gd (inb (sg 18 (ix x1)) 24) (if w32 (sg 17 (ix (sg 18 (ix x1)))) = w32 (-1) then b_Plan_addLook_53  F kc k68 sg x1 x2 (sg 18 (ix x1)) (sg 17 (ix (sg 18 (ix x1)))) else (f_Plan_part sg (sg 18 (ix x1)) (sg 17 (ix (sg 18 (ix x1))))).bind fun q6 => b_Plan_addLook_53  F kc k68 q6 x1 x2 (sg 18 (ix x1)) (sg 17 (ix (sg 18 (ix x1))))))
def l_Plan_addLook_14 (F : Nat) (k68 : St → Option (Int × St)) : Nat → St → Int → Int → Option (Int × St)
  | 0 => fun _ _ _ => none
  | n + 1 => b_Plan_addLook_14  F (l_Plan_addLook_14  F k68 n) k68
def f_Plan_addLook (F : Nat) (sg : St) : Option (Int × St) := (f_Plan_reachRoom F sg ).bind fun q1 => if w32 q1.1 = w32 (-1) then some (0, q1.2) else l_Plan_addLook_14 F (fun s3 => some (1, s3)) F q1.2 q1.1 0
def rm_Scale_weigh : Room := { frames := 4, cells := 0, slots := 0, locals := 97 }
def b_Scale_weigh_62 (F : Nat) (kc : St → Int → Int → Option (St)) (k85 : St → Option (St)) (sg : St) (x3 x5 z0 z1 : Int) : Option (St) := gd (inb z1 12) (let s2 := put sg 30 (ix z1) z0; gd (inb x5 5) ((f_XJ_abs s2 x3).bind fun q4 => gd (inb (s2 32 (ix x5)) 12) (let s6 := put q4.2 31 (ix (s2 32 (ix x5))) q4.1; kc s6 x3 (x5 + 1))))
def b_Scale_weigh_20 (F : Nat) (kc : St → Int → Int → Option (St)) (k85 : St → Option (St)) (sg : St) (x3 x5 : Int) : Option (St) := if w32 (sg 29 2) ≤ w32 x5 then k85 sg  else (f_Scale_determinant F sg x5).bind fun q2 => gd (inb x5 5) (if w64 0 ≤ w64 x3 then b_Scale_weigh_62  F kc k85 q2.2 x3 x5 q2.1 (q2.2 32 (ix x5)) else b_Scale_weigh_62  F kc k85 q2.2 x3 x5 (-q2.1) (q2.2 32 (ix x5)))
def l_Scale_weigh_20 (F : Nat) (k85 : St → Option (St)) : Nat → St → Int → Int → Option (St)
  | 0 => fun _ _ _ => none
  | n + 1 => b_Scale_weigh_20  F (l_Scale_weigh_20  F k85 n) k85
def f_Scale_weigh (F : Nat) (sg : St) (x2 : Int) : Option (St) := (f_Scale_gather F sg x2).bind fun q1 => (f_Scale_setRows F q1 ).bind fun q2 => (f_Scale_determinant F q2 (-1)).bind fun q3 => l_Scale_weigh_20 F (fun s4 => some s4) F q3.2 q3.1 0
def rm_Read_readWishes : Room := { frames := 7, cells := 0, slots := 0, locals := 153 }
def b_Read_readWishes_8 (cp : Nat) (F : Nat) (kc : St → Int → Int → Int → Option (St)) (k83 : St → Option (St)) (sg : St) (x2 x3 x4 : Int) : Option (St) := if w32 4 < w32 x4 then k83 sg  else if w32 x3 = w32 (-1) then k83 sg  else if w32 (sg 41 1) = 0 then gd (inb x3 4) (gd (inb x2 8) (if w32 (sg (cp + 4 + ix x3) (ix x2)) = w32 (-1) then (f_Read_step F sg ).bind fun q8 => gd (inb x3 4) (gd (inb x3 4) (gd (inb x3 4) ((f_Read_takeNumber F q8 (leastW (ix x3)) (greatW (ix x3))).bind fun q12 => gd (inb x2 8) (let s14 := put q12.2 (cp + 4 + ix x3) (ix x2) q12.1; (f_Read_wishInHand F s14 ).bind fun q15 => kc q15.2 x2 q15.1 (x4 + 1))))) else (f_Read_blame sg 5).bind fun q7 => kc q7 x2 x3 (x4 + 1))) else k83 sg 
def l_Read_readWishes_8 (cp : Nat) (F : Nat) (k83 : St → Option (St)) : Nat → St → Int → Int → Int → Option (St)
  | 0 => fun _ _ _ _ => none
  | n + 1 => b_Read_readWishes_8 cp F (l_Read_readWishes_8 cp F k83 n) k83
def f_Read_readWishes (F : Nat) (cp : Nat) (sg : St) (x2 : Int) : Option (St) := (f_Read_wishInHand F sg ).bind fun q1 => l_Read_readWishes_8 cp F (fun s2 => some s2) F q1.2 x2 q1.1 0
def rm_H_heap : Room := { frames := 5, cells := 0, slots := 0, locals := 113 }
def f_H_heap (F : Nat) (sg : St) (x1 x2 : Int) : Option (Int × St) := (f_H_whyNoHeap F sg x1 x2).bind fun q1 => if w32 q1.1 = 0 then gd (inb x1 12) ((f_H_answer q1.2 (q1.2 26 (ix x1))).bind fun q4 => some (q4.1, q4.2)) else (f_H_none q1.2 q1.1).bind fun q5 => some (q5.1, q5.2)
def rm_H_hardness : Room := { frames := 5, cells := 0, slots := 0, locals := 124 }
def f_H_hardness (F : Nat) (sg : St) (x1 x2 : Int) : Option (Int × St) := (f_H_whyNoHeap F sg x1 x2).bind fun q1 => if w32 q1.1 = 0 then gd (inb x1 12) ((f_Known_isGreat F q1.2 (q1.2 26 (ix x1))).bind fun q6 => if w32 q6.1 = 0 then (f_Scale_weigh F q6.2 (q1.2 26 (ix x1))).bind fun q10 => gd (inb x1 12) (gd (inb x1 12) ((f_Frac_become F 40 q10 (q10 30 (ix x1)) (q10 31 (ix x1))).bind fun q13 => (f_H_yes q13 ).bind fun q14 => gd (w32 q14.1 = 0 ∨ w32 q14.1 = 1) (some (q14.1, q14.2)))) else (f_H_no q6.2 9).bind fun q8 => gd (w32 q8.1 = 0 ∨ w32 q8.1 = 1) (some (q8.1, q8.2))) else (f_H_no q1.2 q1.1).bind fun q3 => gd (w32 q3.1 = 0 ∨ w32 q3.1 = 1) (some (q3.1, q3.2))
def rm_H_fair : Room := { frames := 5, cells := 0, slots := 0, locals := 124 }
def f_H_fair (F : Nat) (sg : St) (x1 x2 : Int) : Option (Int × St) := (f_Boards_has sg x1).bind fun q1 => if w32 q1.1 = 0 then (f_H_no q1.2 1).bind fun q3 => gd (w32 q3.1 = 0 ∨ w32 q3.1 = 1) (some (q3.1, q3.2)) else (f_H_isDay q1.2 x2).bind fun q5 => if w32 q5.1 = 0 then (f_H_no q5.2 2).bind fun q7 => gd (w32 q7.1 = 0 ∨ w32 q7.1 = 1) (some (q7.1, q7.2)) else (f_Known_lookBack F q5.2 x2).bind fun q9 => (f_Known_heapAround F q9 x1).bind fun q10 => if w32 q10.1 = w32 (-1) then (f_H_no q10.2 6).bind fun q12 => gd (w32 q12.1 = 0 ∨ w32 q12.1 = 1) (some (q12.1, q12.2)) else (f_Known_isGreat F q10.2 q10.1).bind fun q14 => if w32 q14.1 = 0 then (f_Scale_weigh F q14.2 q10.1).bind fun q18 => (f_Scale_rate F 40 q18 x1).bind fun q19 => (f_H_yes q19 ).bind fun q20 => gd (w32 q20.1 = 0 ∨ w32 q20.1 = 1) (some (q20.1, q20.2)) else (f_H_no q14.2 9).bind fun q16 => gd (w32 q16.1 = 0 ∨ w32 q16.1 = 1) (some (q16.1, q16.2))
def rm_H_laid : Room := { frames := 4, cells := 0, slots := 0, locals := 93 }
def f_H_laid (F : Nat) (sg : St) (x1 : Int) : Option (Int × St) := (f_Boards_has sg x1).bind fun q1 => if w32 q1.1 = 0 then (f_H_none q1.2 1).bind fun q3 => some (q3.1, q3.2) else (f_Halls_lay F q1.2 ).bind fun q4 => if w32 q4.1 = 0 then gd (inb x1 24) ((f_H_answer q4.2 (q4.2 73 (ix x1))).bind fun q7 => some (q7.1, q7.2)) else (f_H_none q4.2 q4.1).bind fun q8 => some (q8.1, q8.2)
def rm_H_tries : Room := { frames := 4, cells := 0, slots := 0, locals := 93 }
def f_H_tries (F : Nat) (sg : St) : Option (Int × St) := (f_Halls_lay F sg ).bind fun q1 => if w32 q1.1 = 0 then (f_H_answer q1.2 (q1.2 72 1)).bind fun q3 => some (q3.1, q3.2) else (f_H_none q1.2 q1.1).bind fun q4 => some (q4.1, q4.2)
def rm_Plan_giveAllLooks : Room := { frames := 5, cells := 0, slots := 0, locals := 110 }
def b_Plan_giveAllLooks_4 (F : Nat) (kc : St → Int → Int → Option (St)) (k26 : St → Option (St)) (sg : St) (x1 x2 : Int) : Option (St) := if w32 288 ≤ w32 x2 then k26 sg  else if w32 x1 = 0 then k26 sg  else (f_Plan_addLook F sg ).bind fun q3 => kc q3.2 q3.1 (x2 + 1)
def l_Plan_giveAllLooks_4 (F : Nat) (k26 : St → Option (St)) : Nat → St → Int → Int → Option (St)
  | 0 => fun _ _ _ => none
  | n + 1 => b_Plan_giveAllLooks_4  F (l_Plan_giveAllLooks_4  F k26 n) k26
def f_Plan_giveAllLooks (F : Nat) (sg : St) : Option (St) := l_Plan_giveAllLooks_4 F (fun s1 => some s1) F sg 1 0
def rm_Plan_prefer : Room := { frames := 5, cells := 0, slots := 0, locals := 110 }
def b_Plan_prefer_108 (F : Nat) (sg : St) (x1 x2 x3 x4 x5 x6 : Int) : Option (St) := (f_Plan_join sg x1 x2).bind fun q1 => if w32 x3 = 0 then some q1 else if w32 x4 = 0 then some q1 else (f_Plan_addLook F q1 ).bind fun q4 => if w32 q4.1 = 0 then (f_Plan_part q4.2 x1 x2).bind fun q6 => (f_Plan_join q6 x1 x5).bind fun q7 => (f_Plan_join q7 x6 x2).bind fun q8 => some q8 else some q4.2
def b_Plan_prefer_96 (F : Nat) (sg : St) (x1 x2 x3 x4 x5 x6 : Int) : Option (St) := if w32 x4 = 0 then b_Plan_prefer_108  F  sg x1 x2 x3 x4 x5 x6 else (f_Plan_part sg x6 x2).bind fun q2 => b_Plan_prefer_108  F  q2 x1 x2 x3 x4 x5 x6
def b_Plan_prefer_85 (F : Nat) (sg : St) (x1 x2 x3 x4 x5 x6 : Int) : Option (St) := if w32 x3 = 0 then b_Plan_prefer_96  F  sg x1 x2 x3 x4 x5 x6 else (f_Plan_part sg x1 x5).bind fun q2 => b_Plan_prefer_96  F  q2 x1 x2 x3 x4 x5 x6
def b_Plan_prefer_73 (F : Nat) (sg : St) (x1 x2 x3 x4 x5 x6 : Int) : Option (St) := if w32 x4 = 0 then b_Plan_prefer_85  F  sg x1 x2 x3 x4 x5 x6 else if w32 x6 = w32 (-1) then some sg else b_Plan_prefer_85  F  sg x1 x2 x3 x4 x5 x6
def b_Plan_prefer_27 (F : Nat) (sg : St) (x1 x2 x3 z0 : Int) : Option (St) := gd (inb x1 24) ((f_Plan_openJudges sg x1).bind fun q2 => (f_H_lowestBit q2.2 (andI (sg 14 (ix x1)) q2.1)).bind fun q3 => gd (inb x2 12) ((f_Plan_openBoards q3.2 x2).bind fun q5 => (f_H_lowestBit q5.2 (andI (q3.2 15 (ix x2)) q5.1)).bind fun q6 => if w32 x3 = 0 then b_Plan_prefer_73  F  q6.2 x1 x2 x3 z0 q3.1 q6.1 else if w32 q3.1 = w32 (-1) then some q6.2 else b_Plan_prefer_73  F  q6.2 x1 x2 x3 z0 q3.1 q6.1))
def b_Plan_prefer_13 (F : Nat) (sg : St) (x1 x2 z0 : Int) : Option (St) := (f_Plan_hasRoom sg x2).bind fun q1 => if w32 q1.1 = 0 then b_Plan_prefer_27  F  q1.2 x1 x2 z0 1 else b_Plan_prefer_27  F  q1.2 x1 x2 z0 0
def f_Plan_prefer (F : Nat) (sg : St) (x1 x2 : Int) : Option (St) := (f_Plan_lacks sg x1).bind fun q1 => if w32 q1.1 = 0 then b_Plan_prefer_13 F q1.2 x1 x2 1 else b_Plan_prefer_13 F q1.2 x1 x2 0
def rm_Scale_weighAll : Room := { frames := 5, cells := 0, slots := 0, locals := 124 }
def b_Scale_weighAll_2 (F : Nat) (kc : St → Int → Option (St)) (k30 : St → Option (St)) (sg : St) (x2 : Int) : Option (St) := if w32 12 ≤ w32 x2 then k30 sg  else gd (inb x2 12) (if w32 (sg 26 (ix x2)) = w32 x2 then (f_Scale_weigh F sg x2).bind fun q4 => kc q4 (x2 + 1) else kc sg (x2 + 1))
def l_Scale_weighAll_2 (F : Nat) (k30 : St → Option (St)) : Nat → St → Int → Option (St)
  | 0 => fun _ _ => none
  | n + 1 => b_Scale_weighAll_2  F (l_Scale_weighAll_2  F k30 n) k30
def f_Scale_weighAll (F : Nat) (sg : St) : Option (St) := l_Scale_weighAll_2 F (fun s1 => some s1) F sg 0
def rm_Read_readPrize : Room := { frames := 8, cells := 0, slots := 0, locals := 177 }
def b_Read_readPrize_95 (cp : Nat) (F : Nat) (sg : St) : Option (St) := (f_Read_takeStop F sg ).bind fun q1 => some q1
def f_Read_readPrize (F : Nat) (cp : Nat) (sg : St) : Option (St) := (f_Read_isWord F 1000 sg ).bind fun q1 => if w32 q1.1 = 0 then (f_Read_blame q1.2 2).bind fun q3 => some q3 else if w32 (q1.2 cp 0) < w32 8 then (f_Prize_addEmpty F cp q1.2 ).bind fun q6 => (f_Read_step F q6 ).bind fun q7 => (f_Read_readWishes F cp q7 (q1.2 cp 0)).bind fun q8 => (f_Read_takeWord F 1005 q8 ).bind fun q9 => (f_Read_takeNumber F q9 1 24).bind fun q10 => gd (inb (q1.2 cp 0) 8) (let s12 := put q10.2 (cp + 1) (ix (q1.2 cp 0)) q10.1; if w32 (s12 41 1) = 0 then (f_Read_isWord F 1006 s12 ).bind fun q14 => if w32 q14.1 = 0 then b_Read_readPrize_95 cp F q14.2 else gd (inb (q1.2 cp 0) 8) (let s17 := put q14.2 (cp + 2) (ix (q1.2 cp 0)) (nz 1); (f_Read_step F s17 ).bind fun q18 => b_Read_readPrize_95 cp F q18 ) else b_Read_readPrize_95 cp F s12 ) else (f_Read_blame q1.2 3).bind fun q5 => some q5
def rm_H_given : Room := { frames := 6, cells := 0, slots := 0, locals := 146 }
def b_H_given_15 (F : Nat) (sg : St) : Option (Int × St) := (f_H_none sg 1).bind fun q1 => some (q1.1, q1.2)
def f_H_given (F : Nat) (sg : St) (x1 x2 x3 : Int) : Option (Int × St) := gd (PRc ((sg 0 10).toNat)) ((f_Prize_has ((sg 0 10).toNat) sg x1).bind fun q2 => if w32 q2.1 = 0 then b_H_given_15 F q2.2 else if 0 ≤ w32 x2 then (f_H_isDay q2.2 x3).bind fun q5 => if w32 q5.1 = 0 then (f_H_none q5.2 2).bind fun q7 => some (q7.1, q7.2) else (f_Known_lookBack F q5.2 x3).bind fun q8 => (f_Known_anyGreat F q8 ).bind fun q9 => if w32 q9.1 = 0 then (f_Scale_weighAll F q9.2 ).bind fun q12 => (f_Giver_rank F q12 ).bind fun q13 => gd (PRc ((q13 0 10).toNat)) ((f_Giver_give F ((q13 0 10).toNat) q13 x1).bind fun q15 => if w32 x2 < w32 (q15 43 0) then gd (inb x2 24) ((f_H_answer q15 (q15 44 (ix x2))).bind fun q19 => some (q19.1, q19.2)) else (f_H_none q15 1).bind fun q17 => some (q17.1, q17.2)) else (f_H_none q9.2 9).bind fun q11 => some (q11.1, q11.2) else b_H_given_15 F q2.2 )
def rm_Plan_turnToFirst : Room := { frames := 6, cells := 0, slots := 0, locals := 136 }
def b_Plan_turnToFirst_12 (F : Nat) (kc : St → Int → Int → Option (St)) (k67 : St → Int → Option (St)) (sg : St) (x1 x2 : Int) : Option (St) := if w32 (sg 11 2) ≤ w32 x2 then k67 sg x1 else let s2 := put sg 11 9 x1; let s3 := put s2 11 10 (x2 + 1); gd (inb x1 24) (gd (inb x1 24) (if w32 (andI (shrI (andI (s3 13 (ix x1)) (xorI (s3 14 (ix x1)) (-1))) x2) 1) = w32 1 then (f_Plan_prefer F s3 x1 x2).bind fun q7 => kc q7 x1 (x2 + 1) else kc s3 x1 (x2 + 1)))
def l_Plan_turnToFirst_12 (F : Nat) (k67 : St → Int → Option (St)) : Nat → St → Int → Int → Option (St)
  | 0 => fun _ _ _ => none
  | n + 1 => b_Plan_turnToFirst_12  F (l_Plan_turnToFirst_12  F k67 n) k67
def b_Plan_turnToFirst_2 (F : Nat) (kc : St → Int → Option (St)) (k73 : St → Option (St)) (sg : St) (x1 : Int) : Option (St) := if w32 (sg 11 1) ≤ w32 x1 then k73 sg  else l_Plan_turnToFirst_12  F (fun s2 x1_3 => kc s2 (x1_3 + 1)) F sg x1 0
def l_Plan_turnToFirst_2 (F : Nat) (k73 : St → Option (St)) : Nat → St → Int → Option (St)
  | 0 => fun _ _ => none
  | n + 1 => b_Plan_turnToFirst_2  F (l_Plan_turnToFirst_2  F k73 n) k73
def f_Plan_turnToFirst (F : Nat) (sg : St) : Option (St) := l_Plan_turnToFirst_2 F (fun s1 => some s1) F sg 0
def rm_Read_read : Room := { frames := 9, cells := 0, slots := 0, locals := 199 }
def b_Read_read_37 (cp : Nat) (F : Nat) (kc : St → Int → Option (St)) (k68 : St → Option (St)) (sg : St) (x3 : Int) : Option (St) := if w32 8 < w32 x3 then k68 sg  else if w32 (sg 41 5) = 0 then k68 sg  else if w32 (sg 41 1) = 0 then (f_Read_readPrize F cp sg ).bind fun q4 => kc q4 (x3 + 1) else k68 sg 
def l_Read_read_37 (cp : Nat) (F : Nat) (k68 : St → Option (St)) : Nat → St → Int → Option (St)
  | 0 => fun _ _ => none
  | n + 1 => b_Read_read_37 cp F (l_Read_read_37 cp F k68 n) k68
def f_Read_read (F : Nat) (cp : Nat) (sg : St) (x1 : Int) : Option (St) := let s1 := put sg 41 1 0; let s2 := put s1 41 2 (-1); (f_XJ_min s2 x1 300).bind fun q3 => let s4 := put q3.2 41 4 q3.1; let s5 := put s4 41 7 0; let s6 := put s5 cp 0 0; (f_Read_step F s6 ).bind fun q7 => l_Read_read_37 cp F (fun s8 => some s8) F q7 0
def rm_H_plan : Room := { frames := 7, cells := 0, slots := 0, locals := 158 }
def f_H_plan (F : Nat) (sg : St) : Option (Int × St) := (f_Plan_begin F sg (sg 0 12)).bind fun q1 => (f_Plan_giveAllLooks F q1 ).bind fun q2 => (f_Plan_turnToFirst F q2 ).bind fun q3 => (f_Plan_findHolding F q3 ).bind fun q4 => (f_Plan_lackInAll F q4 ).bind fun q5 => (f_H_answer q5.2 q5.1).bind fun q6 => some (q6.1, q6.2)
def rm_H_prizes : Room := { frames := 10, cells := 0, slots := 0, locals := 222 }
def f_H_prizes (F : Nat) (sg : St) (x1 : Int) : Option (Int × St) := (f_H_within sg x1 0 (sg 41 0)).bind fun q1 => if w32 q1.1 = 0 then (f_H_none q1.2 2).bind fun q3 => some (q3.1, q3.2) else gd (PRc ((q1.2 0 11).toNat)) ((f_Read_read F ((q1.2 0 11).toNat) q1.2 x1).bind fun q5 => let s6 := put q5 41 0 0; if w32 (s6 41 1) = 0 then gd (PRc ((s6 0 10).toNat)) (gd (PRc ((s6 0 11).toNat)) (let s11 := put s6 0 10 ((((s6 0 11).toNat) : Nat) : Int); let s12 := put s11 0 11 ((((s6 0 10).toNat) : Nat) : Int); gd (PRc ((s12 0 10).toNat)) ((f_H_answer s12 (s12 ((s12 0 10).toNat) 0)).bind fun q14 => some (q14.1, q14.2)))) else (f_H_none s6 7).bind fun q8 => some (q8.1, q8.2))
