/-! fair -/
def DD (hs : Nat → Nat → Bool) (pt : Nat → Nat → Int) (P : Nat → Bool) (n : Nat) (col : Int) : Int := DT (EE hs pt (nthq P 12) n col) n n (segq n)
def SS (hs : Nat → Nat → Bool) (pt : Nat → Nat → Int) (P : Nat → Bool) (n b : Nat) : Int := fb_si (fun j => if hs b j = true then pt b j * DD hs pt P n (-1) - DD hs pt P n ((fb_ct P j : Nat) : Int) else 0) 12
def LL (hs : Nat → Nat → Bool) (pt : Nat → Nat → Int) (P : Nat → Bool) (n b : Nat) : Int := ((manyq hs b : Nat) : Int) * DD hs pt P n (-1)
def FA (hs : Nat → Nat → Bool) (pt : Nat → Nat → Int) (P : Nat → Bool) (n b : Nat) : Int := (SS hs pt P n b).tdiv (gsg (SS hs pt P n b) (LL hs pt P n b))
def FB (hs : Nat → Nat → Bool) (pt : Nat → Nat → Int) (P : Nat → Bool) (n b : Nat) : Int := (LL hs pt P n b).tdiv (gsg (SS hs pt P n b) (LL hs pt P n b))
def KFa (c j : Nat) : Bool := KS c j || (c == 0 && (j == 79 || j == 80))
theorem KS_KF {s t : St} (h : frs KS s t) : frs KFa s t := frs_sub h (fun c j e => by unfold KFa; rw [e]; rfl)
section FR
variable {F nb nj n : Nat} {hs : Nat → Nat → Bool} {pt : Nat → Nat → Int} {P : Nat → Bool}
theorem DD_bd (hB : BOX nb nj n hs pt P) : (DD hs pt P n (-1)).natAbs ≤ 515978035200000 ∧ DD hs pt P n (-1) ≠ 0 ∧ ∀ i : Nat, i < n → (DD hs pt P n i).natAbs ≤ 51597803520000000 := by
  have bd := EE_bd hB (col := -1) (c := 99) (fun q hq => ⟨fun e => by omega, fun e => by have := hB.2.2.2.2.2.2.2.2.1; omega⟩)
  rw [if_neg (by have := hB.2.2.2.2.2.2.2.2.1; omega), Nat.mul_one] at bd
  exact ⟨bd, EE_ne hB, fun i hi => ((det_R hB).2 i hi).1⟩
theorem SS_R (hB : BOX nb nj n hs pt P) {b j0 : Nat} (hb : hs b j0 = true) (hj : P j0 = true) : R63 (SS hs pt P n b) ∧ R63 (LL hs pt P n b) ∧ LL hs pt P n b ≠ 0 ∧ ((0 ≤ LL hs pt P n b) ↔ 0 ≤ DD hs pt P n (-1)) := by
  have d := DD_bd hB
  have mm := BX_many hB hb hj
  have each : ∀ j, j < 12 → (if hs b j = true then pt b j * DD hs pt P n (-1) - DD hs pt P n ((fb_ct P j : Nat) : Int) else 0).natAbs ≤ if hs b j = true then 103195607040000000 else 0 := by
    intro j hj2
    by_cases c : hs b j = true
    · rw [if_pos c, if_pos c]
      have p := hB.2.2.2.1 b j c
      have pj : P j = true := by rw [hB.2.2.2.2.2.1 b j j0 c hb]; exact hj
      have u := d.2.2 _ (BX_of hB pj).1
      have m : (pt b j * DD hs pt P n (-1)).natAbs ≤ 100 * 515978035200000 := by
        rw [Int.natAbs_mul]
        exact Nat.mul_le_mul (by omega) d.1
      omega
    · rw [if_neg c, if_neg c]; exact Nat.le_refl _
  have z := si_absS each
  have z2 : fb_ct (hs b) 12 * 103195607040000000 ≤ 5 * 103195607040000000 := Nat.mul_le_mul_right _ mm.2.2
  have l : (LL hs pt P n b).natAbs ≤ 5 * 515978035200000 := by
    unfold LL
    rw [Int.natAbs_mul]
    exact Nat.mul_le_mul (by have := mm.2.2; omega) d.1
  have mp : (0 : Int) < ((manyq hs b : Nat) : Int) := by omega
  refine ⟨R63_abs.mpr (by unfold SS; omega), R63_abs.mpr (by omega), fun e => ?_, ?_⟩
  · unfold LL at e
    rcases Int.mul_eq_zero.mp e with q | q
    · omega
    · exact d.2.1 q
  · unfold LL
    constructor
    · intro q
      rcases Int.lt_or_le (DD hs pt P n (-1)) 0 with c | c
      · have := Int.mul_neg_of_pos_of_neg mp c
        omega
      · exact c
    · intro q
      exact Int.mul_nonneg (by omega) q
theorem fair_4 (hB : BOX nb nj n hs pt P) {s : St} (hR : REF nb nj hs pt s) {h : Int} {b j0 : Nat} (hb : hs b j0 = true) (hh : ∀ j, hs b j = true → s 26 j = h) {k38 : St → Int → Int → Option St} {Q : St → Prop} (hk : T (k38 s b h) Q) (hF : 20 ≤ F) : T (l_M_fairOf_4 F k38 F s b (-1) 0) Q := by
  obtain ⟨h1, h2, h3, h4, h5, h6, h7, h8, h9, h10⟩ := hB
  have r5 : s 0 5 = nj := hR.1.2.2.2.1
  have hbn := (h3 b j0 hb).1
  refine loopG (l := fun m (v : Int) x => l_M_fairOf_4 F k38 m s b v (x : Nat)) (N := nj) (I := fun j v => ∀ k, k < j → hs b k = true → v = h) (G := fun r => T r Q) ?_ ?_ nj 0 F (-1) (by omega) (by omega) (fun k hk => absurd hk (Nat.not_lt_zero k))
  · intro m j v hj hI next
    show T (b_M_fairOf_4 F (l_M_fairOf_4 F k38 m) k38 s b v j) Q
    unfold b_M_fairOf_4
    have cl := cell_ref hR hbn hj
    refine T_no (by rw [r5, wnat (by omega), wnat (by omega)]; omega) (T_bind (T_eq at_eq (T_gd (inbN (by omega) (by decide)) ?_)))
    show T (if w32 (s 25 (ix ((12 * b + j : Nat) : Int))) < 0 then l_M_fairOf_4 F k38 m s b v ((j : Int) + 1) else gd (inb (j : Int) 12) (l_M_fairOf_4 F k38 m s b (s 26 (ix (j : Int))) ((j : Int) + 1))) Q
    rw [ix_nat (by omega), ix_nat (by omega)]
    cases e : hs b j with
    | false =>
      refine T_yes (cl.2 e) (next v (fun k hk2 hs2 => ?_))
      have : k ≠ j := fun q => by rw [q, e] at hs2; cases hs2
      exact hI k (by omega) hs2
    | true =>
      refine T_no (by have := (cl.1 e).1; omega) (T_gd (inbN (by omega) (by decide)) (next _ (fun k hk2 hs2 => hh j e)))
  · intro m v hI
    show T (b_M_fairOf_4 F (l_M_fairOf_4 F k38 m) k38 s b v nj) Q
    unfold b_M_fairOf_4
    refine T_yes (by rw [r5]; exact Int.le_refl _) ?_
    rw [hI j0 (h3 b j0 hb).2 hb]
    exact hk
theorem fair_51 (hB : BOX nb nj n hs pt P) {s : St} (hR : REF nb nj hs pt s) (e39 : s 0 39 = n) (hm : ∀ i, i < n → s 27 i = ((nthq P 12 i : Nat) : Int)) (h43 : s 0 43 = DD hs pt P n (-1)) (h31 : ∀ q : Nat, q < n → s 31 q = DD hs pt P n q) {b j0 : Nat} (hb : hs b j0 = true) (hj : P j0 = true) {k119 : St → Int → Int → Option St} {Q : St → Prop} (hk : T (k119 s (SS hs pt P n b) ((manyq hs b : Nat) : Int)) Q) (hF : 20 ≤ F) : T (l_M_fairOf_51 F k119 F s b 0 0 0) Q := by
  have hB0 := hB
  obtain ⟨h1, h2, h3, h4, h5, h6, h7, h8, h9, h10⟩ := hB
  have hbn := (h3 b j0 hb).1
  refine loopG (l := fun m (a : Int × Int) x => l_M_fairOf_51 F k119 m s b a.1 a.2 (x : Nat)) (N := n) (I := fun x a => a.1 = fb_si (fun q => if hs b (nthq P 12 q) = true then pt b (nthq P 12 q) * DD hs pt P n (-1) - DD hs pt P n ((fb_ct P (nthq P 12 q) : Nat) : Int) else 0) x ∧ a.2 = ((fb_ct (fun q => hs b (nthq P 12 q)) x : Nat) : Int)) (G := fun r => T r Q) ?_ ?_ n 0 F ((0 : Int), (0 : Int)) (by omega) (by omega) ⟨rfl, rfl⟩
  · intro m x a hx hI next
    obtain ⟨a1, a2⟩ := a
    obtain ⟨i1, i2⟩ := hI
    simp only at i1 i2
    have mx := BX_mem hB0 hx
    have cl := cell_ref hR hbn mx.1
    show T (b_M_fairOf_51 F (l_M_fairOf_51 F k119 m) k119 s b a1 a2 x) Q
    unfold b_M_fairOf_51
    refine T_no (by rw [e39, wnat (by omega), wnat (by omega)]; omega) (T_gd (inbN (by omega) (by decide)) ?_)
    rw [ix_nat (show x < 2147483648 by omega), hm x hx]
    refine T_bind (T_eq at_eq (T_gd (inbN (by omega) (by decide)) ?_))
    show T (if 0 ≤ w32 (s 25 (ix ((12 * b + nthq P 12 x : Nat) : Int))) then gd (inb (s 25 (ix ((12 * b + nthq P 12 x : Nat) : Int))) 200) (gd (inb (x : Int) 5) (l_M_fairOf_51 F k119 m s b (a1 + (w32 (s 22 (ix (s 25 (ix ((12 * b + nthq P 12 x : Nat) : Int))))) * s 0 43 - s 31 x)) (a2 + 1) ((x : Int) + 1))) else l_M_fairOf_51 F k119 m s b a1 a2 ((x : Int) + 1)) Q
    rw [ix_nat (show 12 * b + nthq P 12 x < 2147483648 by omega)]
    cases e : hs b (nthq P 12 x) with
    | false =>
      refine T_no (by have := cl.2 e; omega) (next (a1, a2) ⟨?_, ?_⟩)
      · show a1 = _
        rw [i1, fb_si_succ, e]; simp
      · show a2 = _
        rw [i2, fb_ct_succ, e]; simp
    | true =>
      have y := cl.1 e
      have p := h4 b _ e
      refine T_yes y.1 (T_gd y.2.1 (T_gd (inbN (by omega) (by decide)) ?_))
      rw [y.2.2, wid (by omega) (by omega), h43, h31 x hx]
      refine next (a1 + (pt b (nthq P 12 x) * DD hs pt P n (-1) - DD hs pt P n x), a2 + 1) ⟨?_, ?_⟩
      · show a1 + (pt b (nthq P 12 x) * DD hs pt P n (-1) - DD hs pt P n x) = _
        rw [i1, fb_si_succ, e, mx.2.2.2]; simp
      · show a2 + 1 = _
        rw [i2, fb_ct_succ, e]; simp
  · intro m a hI
    obtain ⟨a1, a2⟩ := a
    obtain ⟨i1, i2⟩ := hI
    simp only at i1 i2
    show T (b_M_fairOf_51 F (l_M_fairOf_51 F k119 m) k119 s b a1 a2 n) Q
    unfold b_M_fairOf_51
    refine T_yes (by rw [e39]; exact Int.le_refl _) ?_
    have z := BX_sum hB0 hb hj (fun j => pt b j * DD hs pt P n (-1) - DD hs pt P n ((fb_ct P j : Nat) : Int))
    rw [i1, i2, z, (BX_many hB0 hb hj).1]
    exact hk
theorem fairOf_eq (hB : BOX nb nj n hs pt P) {s0 : St} (hR : REF nb nj hs pt s0) {h : Int} (hP : ∀ j, j < nj → (w32 (s0 26 j) = w32 h ↔ P j = true)) {b j0 : Nat} (hb : hs b j0 = true) (hj : P j0 = true) (hh : ∀ j, hs b j = true → s0 26 j = h) (hF : 4000 ≤ F) : T (f_M_fairOf F s0 b) (fun t => frs KFa s0 t ∧ t 0 79 = FA hs pt P n b ∧ t 0 80 = FB hs pt P n b) := by
  have sr := SS_R hB hb hj
  have g := gsg_R (a := SS hs pt P n b) sr.2.1 sr.2.2.1
  have ml := (BX_many hB hb hj).2.2
  unfold f_M_fairOf
  refine fair_4 hB hR hb hh ?_ (by omega)
  refine T_bind (T_mono (solve_eq hB hR hP hF) (fun u hu => ?_))
  obtain ⟨u1, u2, u3, u4, u5⟩ := hu
  refine fair_51 hB (REF_cong hR u1) u2 u3 u4 u5 hb hj ?_ (by omega)
  have eL : w32 ((manyq hs b : Nat) : Int) * u 0 43 = LL hs pt P n b := by rw [wnat (by omega), u4]; rfl
  rw [eL]
  refine T_bind (T_eq (commonM_eq sr.1 sr.2.1 (by omega)) ?_)
  dsimp only
  have fin : ∀ x8 : Int, x8 = gsg (SS hs pt P n b) (LL hs pt P n b) → T (b_M_fairOf_149 F u (SS hs pt P n b) (LL hs pt P n b) x8) (fun t => frs KFa s0 t ∧ t 0 79 = FA hs pt P n b ∧ t 0 80 = FB hs pt P n b) := by
    intro x8 h8
    unfold b_M_fairOf_149
    rw [h8]
    refine T_gd (by rw [w64_R g.1]; exact g.2) (T_gd (by rw [w64_R g.1]; exact g.2) (T_some ⟨frs_put (frs_put (KS_KF u1) rfl) rfl, ?_, ?_⟩))
    · rw [put_j (by decide), put_eq, divL_id sr.1 g.1]; rfl
    · rw [put_eq, divL_id sr.2.1 g.1]; rfl
  rw [w64_0, w64_R sr.2.1]
  by_cases c : 0 ≤ LL hs pt P n b
  · exact T_yes c (fin _ (by unfold gsg; rw [if_pos c]))
  · exact T_no c (fin _ (by unfold gsg; rw [if_neg c]))
theorem rate_eq (hB : BOX nb nj n hs pt P) {s : St} (hC : CLS hs pt s) {b j0 co : Nat} (hb : hs b j0 = true) (hj : P j0 = true) (hw : ∀ j, hs b j = true → s 30 j = (if 0 ≤ DD hs pt P n (-1) then DD hs pt P n ((fb_ct P j : Nat) : Int) else - DD hs pt P n ((fb_ct P j : Nat) : Int)) ∧ s 31 j = ((DD hs pt P n (-1)).natAbs : Int)) (hF : 200 ≤ F) : f_Scale_rate F co s b = some (put (put s co 0 (FA hs pt P n b)) co 1 (FB hs pt P n b)) := by
  have sr := SS_R hB hb hj
  have h4 := hB.2.2.2.1
  have hb24 : b < 24 := by have := (hB.2.2.1 b j0 hb).1; have := hB.1; omega
  have mm := BX_many hB hb hj
  unfold f_Scale_rate
  refine loopG (l := fun m (a : Int × Int) x => l_Scale_rate_9 co F (fun s1 x4_2 x6_3 => (f_Frac_become F co s1 x4_2 x6_3).bind fun q4 => some q4) m s b a.1 a.2 (x : Nat)) (N := 12) (I := fun x a => a.1 = fb_si (fun j => if hs b j = true then pt b j * s 31 j - s 30 j else 0) x ∧ a.2 = fb_si (fun j => if hs b j = true then s 31 j else 0) x) (G := fun r => r = some (put (put s co 0 (FA hs pt P n b)) co 1 (FB hs pt P n b))) ?_ ?_ 12 0 F ((0 : Int), (0 : Int)) (by omega) (by omega) ⟨rfl, rfl⟩
  · intro m x a hx hI next
    obtain ⟨a1, a2⟩ := a
    obtain ⟨i1, i2⟩ := hI
    simp only at i1 i2
    have cl := cls_cell hC hb24 hx
    show b_Scale_rate_9 co F (l_Scale_rate_9 co F _ m) _ s b a1 a2 x = _
    unfold b_Scale_rate_9
    rw [if_neg (by rw [show w32 12 = 12 by decide, wnat (by omega)]; omega), points_eq hb24 hx]
    show (if w32 (s 27 (24 * x + b)) = w32 (-1) then l_Scale_rate_9 co F _ m s b a1 a2 ((x : Int) + 1) else gd (inb (x : Int) 12) (gd (inb (x : Int) 12) (gd (inb (x : Int) 12) (l_Scale_rate_9 co F _ m s b (a1 + (w32 (s 27 (24 * x + b)) * s 31 (ix (x : Int)) - s 30 (ix (x : Int)))) (a2 + s 31 (ix (x : Int))) ((x : Int) + 1))))) = _
    rw [ix_nat (by omega)]
    cases e : hs b x with
    | false =>
      rw [if_pos (cl.mpr e)]
      refine next (a1, a2) ⟨?_, ?_⟩
      · show a1 = _
        rw [i1, fb_si_succ, e]; simp
      · show a2 = _
        rw [i2, fb_si_succ, e]; simp
    | true =>
      have p := h4 b x e
      rw [if_neg (fun q => by have := cl.mp q; rw [e] at this; cases this), gd_yes (inbN hx (by decide)), gd_yes (inbN hx (by decide)), gd_yes (inbN hx (by decide)), hC.2 b x e, wid (by omega) (by omega)]
      refine next (a1 + (pt b x * s 31 x - s 30 x), a2 + s 31 x) ⟨?_, ?_⟩
      · show a1 + (pt b x * s 31 x - s 30 x) = _
        rw [i1, fb_si_succ, e]; simp
      · show a2 + s 31 x = _
        rw [i2, fb_si_succ, e]; simp
  · intro m a hI
    obtain ⟨a1, a2⟩ := a
    obtain ⟨i1, i2⟩ := hI
    simp only at i1 i2
    show b_Scale_rate_9 co F (l_Scale_rate_9 co F _ m) _ s b a1 a2 ((12 : Nat) : Int) = _
    unfold b_Scale_rate_9
    rw [if_pos (by decide)]
    have e1 : a1 = if 0 ≤ LL hs pt P n b then SS hs pt P n b else - SS hs pt P n b := by
      rw [i1]
      by_cases c : 0 ≤ DD hs pt P n (-1)
      · rw [if_pos (sr.2.2.2.mpr c)]
        refine fb_si_cong (fun j _ => ?_)
        by_cases hsj : hs b j = true
        · have w := hw j hsj
          rw [if_pos hsj, if_pos hsj, w.1, w.2, if_pos c]
          rw [show ((DD hs pt P n (-1)).natAbs : Int) = DD hs pt P n (-1) by omega]
        · rw [if_neg hsj, if_neg hsj]
      · rw [if_neg (fun q => c (sr.2.2.2.mp q))]
        have z := fb_si_mul (-1) (fun j => if hs b j = true then pt b j * DD hs pt P n (-1) - DD hs pt P n ((fb_ct P j : Nat) : Int) else 0) 12
        have z2 : - SS hs pt P n b = fb_si (fun j => (-1) * (if hs b j = true then pt b j * DD hs pt P n (-1) - DD hs pt P n ((fb_ct P j : Nat) : Int) else 0)) 12 := by
          rw [z]; unfold SS; omega
        rw [z2]
        refine fb_si_cong (fun j _ => ?_)
        by_cases hsj : hs b j = true
        · have w := hw j hsj
          rw [if_pos hsj, if_pos hsj, w.1, w.2, if_neg c]
          rw [show ((DD hs pt P n (-1)).natAbs : Int) = - DD hs pt P n (-1) by omega, Int.mul_neg]
          omega
        · rw [if_neg hsj, if_neg hsj]; rfl
    have e2 : a2 = ((LL hs pt P n b).natAbs : Int) := by
      rw [i2]
      have z := fb_si_mul ((DD hs pt P n (-1)).natAbs : Int) (fun j => if hs b j = true then 1 else 0) 12
      rw [← ctq_si (hs b) 12] at z
      unfold LL
      rw [Int.natAbs_mul, Int.natAbs_natCast, Int.natCast_mul, Int.mul_comm]
      refine Eq.trans (fb_si_cong (fun j _ => ?_)) z
      by_cases hsj : hs b j = true
      · rw [if_pos hsj, if_pos hsj, (hw j hsj).2, Int.mul_one]
      · rw [if_neg hsj, if_neg hsj, Int.mul_zero]
    have la := R63_abs.mp sr.2.1
    have sa := R63_abs.mp sr.1
    show ((f_Frac_become F co s a1 a2).bind fun q4 => some q4) = _
    rw [e1, e2, become_eq (by
      refine R63_abs.mpr ?_
      split
      · exact sa
      · rw [Int.natAbs_neg]; exact sa) (RNt la) (by have := sr.2.2.1; omega) hF]
    unfold FA FB
    rw [frac_up, frac_lo]
    rfl
end FR
theorem around_eq {F : Nat} {hs : Nat → Nat → Bool} {s : St} (hC : HX hs s) {b : Nat} (hb : b < 24) {h : Int} (hh : ∀ j, hs b j = true → s 26 j = h) (hF : 20 ≤ F) : ((∃ j, hs b j = true) → f_Known_heapAround F s b = some (h, s)) ∧ ((¬ ∃ j, hs b j = true) → f_Known_heapAround F s b = some (-1, s)) := by
  have h1 := hC.1
  have gen : ∀ w : Option (Int × St), ((∃ j, hs b j = true) → w = some (h, s)) → ((¬ ∃ j, hs b j = true) → w = some (-1, s)) → f_Known_heapAround F s b = w := by
    intro w w1 w2
    unfold f_Known_heapAround
    refine loopG (l := fun m (_ : Unit) x => l_Known_heapAround_2 F (fun s1 => some ((-1), s1)) m s b (x : Nat)) (N := 12) (I := fun x _ => ∀ k, k < x → hs b k = false) (G := fun r => r = w) ?_ ?_ 12 0 F () (by omega) (by omega) (fun k hk => absurd hk (Nat.not_lt_zero k))
    · intro m x _ hx hI next
      have cl := hx_cell hC (frs_refl _ _) hb hx
      show b_Known_heapAround_2 F (l_Known_heapAround_2 F _ m) _ s b x = _
      unfold b_Known_heapAround_2
      rw [if_neg (by rw [show w32 12 = 12 by decide, wnat (by omega)]; omega), points_eq hb hx]
      show (if w32 (s 27 (24 * x + b)) = w32 (-1) then l_Known_heapAround_2 F _ m s b ((x : Int) + 1) else gd (inb (x : Int) 12) (some (s 26 (ix (x : Int)), s))) = _
      rw [ix_nat (by omega)]
      cases e : hs b x with
      | false =>
        rw [if_pos (cl.mpr e)]
        refine next () (fun k hk => ?_)
        by_cases c : k = x
        · rw [c]; exact e
        · exact hI k (by omega)
      | true =>
        rw [if_neg (fun q => by have := cl.mp q; rw [e] at this; cases this), gd_yes (inbN hx (by decide)), hh x e]
        exact (w1 ⟨x, e⟩).symm
    · intro m _ hI
      show b_Known_heapAround_2 F (l_Known_heapAround_2 F _ m) _ s b ((12 : Nat) : Int) = _
      unfold b_Known_heapAround_2
      rw [if_pos (by decide)]
      exact (w2 (fun ⟨j, e⟩ => by
        have := hI j (h1 b j e).2
        rw [e] at this; cases this)).symm
  exact ⟨fun e => gen _ (fun _ => rfl) (fun q => absurd e q), fun e => gen _ (fun q => absurd q e) (fun _ => rfl)⟩
theorem fair_59 {F nb nj : Nat} {hs : Nat → Nat → Bool} {pt : Nat → Nat → Int} {s : St} (hR : REF nb nj hs pt s) {h : Int} {P : Nat → Bool} (hP : ∀ j, j < nj → (w32 (s 26 j) = w32 h ↔ P j = true)) {b : Nat} (hb : b < nb) (hh : ∀ j, hs b j = true → s 26 j = h) {k107 : St → Int → Option (Int × St)} {Q : Int × St → Prop} (hF : 20 ≤ F) : (fb_ct P nj ≤ 5 → T (k107 s b) Q → T (l_M_fair_59 F k107 F s b 0) Q) ∧ (5 < fb_ct P nj → (∃ j, hs b j = true) → Q (0, put s 0 0 9) → T (l_M_fair_59 F k107 F s b 0) Q) := by
  have d1 := hR.1.1
  have d2 := hR.1.2.1
  have d5 := hR.1.2.2.2.2.1
  have r5 : s 0 5 = nj := hR.1.2.2.2.1
  have cl5 := fb_ct_le P nj
  have w5 : w32 5 = 5 := by decide
  refine ⟨fun c hk => ?_, fun c he hq => ?_⟩
  · refine loopG (l := fun m (_ : Unit) x => l_M_fair_59 F k107 m s b (x : Nat)) (N := nj) (I := fun _ _ => True) (G := fun r => T r Q) ?_ ?_ nj 0 F () (by omega) (by omega) trivial
    · intro m x _ hx hI next
      have cl := cell_ref hR hb hx
      show T (b_M_fair_59 F (l_M_fair_59 F k107 m) k107 s b x) Q
      unfold b_M_fair_59
      refine T_no (by rw [r5, wnat (by omega), wnat (by omega)]; omega) (T_bind (T_eq at_eq (T_gd (inbN (by omega) (by decide)) ?_)))
      dsimp only
      rw [ix_nat (by omega), ix_nat (by omega)]
      cases e : hs b x with
      | false => exact T_yes (cl.2 e) (next () trivial)
      | true =>
        refine T_no (by have := (cl.1 e).1; omega) (T_gd (inbN (by omega) (by decide)) ?_)
        rw [hh x e]
        exact T_bind (T_eq (size_eq d2 r5 hP hF) (T_yes (by rw [w5, wnat (by omega)]; omega) (next () trivial)))
    · intro m _ hI
      show T (b_M_fair_59 F (l_M_fair_59 F k107 m) k107 s b nj) Q
      unfold b_M_fair_59
      exact T_yes (by rw [r5]; exact Int.le_refl _) hk
  · refine loopG (l := fun m (_ : Unit) x => l_M_fair_59 F k107 m s b (x : Nat)) (N := nj) (I := fun x _ => ∀ k, k < x → hs b k = false) (G := fun r => T r Q) ?_ ?_ nj 0 F () (by omega) (by omega) (fun k hk => absurd hk (Nat.not_lt_zero k))
    · intro m x _ hx hI next
      have cl := cell_ref hR hb hx
      show T (b_M_fair_59 F (l_M_fair_59 F k107 m) k107 s b x) Q
      unfold b_M_fair_59
      refine T_no (by rw [r5, wnat (by omega), wnat (by omega)]; omega) (T_bind (T_eq at_eq (T_gd (inbN (by omega) (by decide)) ?_)))
      dsimp only
      rw [ix_nat (by omega), ix_nat (by omega)]
      cases e : hs b x with
      | false =>
        refine T_yes (cl.2 e) (next () (fun k hk => ?_))
        by_cases c : k = x
        · rw [c]; exact e
        · exact hI k (by omega)
      | true =>
        refine T_no (by have := (cl.1 e).1; omega) (T_gd (inbN (by omega) (by decide)) ?_)
        rw [hh x e]
        exact T_bind (T_eq (size_eq d2 r5 hP hF) (T_no (by rw [w5, wnat (by omega)]; omega) (T_bind (T_some (T_gd gq0 (T_some hq))))))
    · intro m _ hI
      obtain ⟨j, e⟩ := he
      have := hI j (d5 b j e).2
      rw [e] at this; cases this
