/-! the laying of boards into halls: both searches go in step -/
theorem inbN {k n : Nat} (h : k < n) (h2 : n < 2147483648) : inb (k : Int) n := inb_id (by omega) (by omega) h2
theorem move_eq {s : St} {b h : Nat} {v : Int} (hb : b < 24) (hh : h < 4) (h73 : s 73 b = h) : f_Halls_move s b v = some (put (put (put s 77 h (s 77 h + v)) 78 h (s 78 h + v * s 5 b)) 79 h (s 79 h + v * s 6 b)) := by
  unfold f_Halls_move
  have i1 : inb (b : Int) 24 := inbN hb (by decide)
  have i2 : inb (h : Int) 4 := inbN hh (by decide)
  have e1 : ix (b : Int) = b := ix_nat (by omega)
  have e2 : ix (h : Int) = h := ix_nat (by omega)
  rw [gd_yes i1]
  simp only [e1, h73, e2]
  rw [gd_yes i2, gd_yes i2, gd_yes i2, gd_yes i1, gd_yes i2, gd_yes i2, gd_yes i1, gd_yes i2]
  rw [put_c (show (78 : Nat) ≠ 77 by decide), put_c (show (5 : Nat) ≠ 77 by decide), put_c (show (79 : Nat) ≠ 78 by decide), put_c (show (79 : Nat) ≠ 77 by decide), put_c (show (6 : Nat) ≠ 78 by decide), put_c (show (6 : Nat) ≠ 77 by decide)]
theorem puts_eq {s : St} {b h : Nat} {v : Int} (hb : b < 24) (hh : h < 4) (h8 : i32 (s 8 b)) : f_M_puts s b h v = some (put (put (put s 54 h (s 54 h + v)) 55 h (s 55 h + v * s 4 b)) 56 h (s 56 h + if s 8 b = 0 then 0 else v)) := by
  unfold f_M_puts b_M_puts_48
  have i1 : inb (b : Int) 24 := inbN hb (by decide)
  have i2 : inb (h : Int) 4 := inbN hh (by decide)
  have e1 : ix (b : Int) = b := ix_nat (by omega)
  have e2 : ix (h : Int) = h := ix_nat (by omega)
  simp only [e1, e2]
  rw [gd_yes i2, gd_yes i2, gd_yes i2, gd_yes i1, gd_yes i2, gd_yes i2, gd_yes i1, gd_yes i2, gd_yes i2]
  rw [put_c (show (55 : Nat) ≠ 54 by decide), put_c (show (4 : Nat) ≠ 54 by decide), put_c (show (8 : Nat) ≠ 55 by decide), put_c (show (8 : Nat) ≠ 54 by decide), put_c (show (56 : Nat) ≠ 55 by decide), put_c (show (56 : Nat) ≠ 54 by decide), wid h8.1 h8.2]
  by_cases c : s 8 b = 0
  · rw [if_pos c, if_pos c]
  · rw [if_neg c, if_neg c]
def bearP (s : St) (b h : Nat) : Prop := ¬ s 50 h ≤ s 54 h ∧ ¬ s 51 h < s 55 h + s 4 b ∧ ¬ s 52 h < s 56 h + (if s 8 b = 0 then 0 else 1)
theorem canBear_eq {s : St} {b h : Nat} (hb : b < 24) (hh : h < 4) (h8 : 0 ≤ s 8 b ∧ s 8 b ≤ 1) (h4 : 0 ≤ s 4 b ∧ s 4 b ≤ 99) (h5 : (0 ≤ s 50 h ∧ s 50 h ≤ 24) ∧ (0 ≤ s 51 h ∧ s 51 h ≤ 999) ∧ (0 ≤ s 52 h ∧ s 52 h ≤ 24)) (hu : (-50000 ≤ s 54 h ∧ s 54 h ≤ 50000) ∧ (-5000000 ≤ s 55 h ∧ s 55 h ≤ 5000000) ∧ (-50000 ≤ s 56 h ∧ s 56 h ≤ 50000)) : (bearP s b h → f_M_canBear s b h = some (1, s)) ∧ (¬ bearP s b h → f_M_canBear s b h = some (0, s)) := by
  unfold f_M_canBear b_M_canBear_57 bearP
  have i1 : inb (b : Int) 24 := inbN hb (by decide)
  have i2 : inb (h : Int) 4 := inbN hh (by decide)
  have e1 : ix (b : Int) = b := ix_nat (by omega)
  have e2 : ix (h : Int) = h := ix_nat (by omega)
  simp only [e1, e2]
  rw [gd_yes i2, gd_yes i2, gd_yes i2, gd_yes i1, gd_yes i2, gd_yes i2, gd_yes i1, gd_yes i2, gd_yes i2]
  rw [wid (a := s 8 b) (by omega) (by omega), wid (a := s 50 h) (by omega) (by omega), wid (a := s 54 h) (by omega) (by omega), wid (a := s 51 h) (by omega) (by omega), wid (a := s 55 h + s 4 b) (by omega) (by omega), wid (a := s 52 h) (by omega) (by omega), wid (a := s 56 h + 0) (by omega) (by omega), wid (a := s 56 h + 1) (by omega) (by omega)]
  by_cases c1 : s 50 h ≤ s 54 h
  · rw [if_pos c1]
    exact ⟨fun q => absurd c1 q.1, fun _ => rfl⟩
  · rw [if_neg c1]
    by_cases c2 : s 51 h < s 55 h + s 4 b
    · rw [if_pos c2]
      exact ⟨fun q => absurd c2 q.2.1, fun _ => rfl⟩
    · rw [if_neg c2]
      by_cases c3 : s 8 b = 0
      · rw [if_pos c3, if_pos c3]
        by_cases c4 : s 52 h < s 56 h + 0
        · rw [if_pos c4]
          exact ⟨fun q => absurd c4 q.2.2, fun _ => rfl⟩
        · rw [if_neg c4]
          exact ⟨fun _ => rfl, fun q => absurd ⟨c1, c2, c4⟩ q⟩
      · rw [if_neg c3, if_neg c3]
        by_cases c4 : s 52 h < s 56 h + 1
        · rw [if_pos c4]
          exact ⟨fun q => absurd c4 q.2.2, fun _ => rfl⟩
        · rw [if_neg c4]
          exact ⟨fun _ => rfl, fun q => absurd ⟨c1, c2, c4⟩ q⟩
def bearX (s : St) (b h : Nat) : Prop := ¬ s 77 h < 1 ∧ ¬ s 78 h < s 5 b ∧ ¬ s 79 h < s 6 b
theorem place_eq {s : St} {b h : Nat} (hb : b < 24) (hh : h < 4) (h73 : s 73 b = h) (h6 : 0 ≤ s 6 b ∧ s 6 b ≤ 1) (h5 : 0 ≤ s 5 b ∧ s 5 b ≤ 99) (hu : (-60000 ≤ s 77 h ∧ s 77 h ≤ 60000) ∧ (-6000000 ≤ s 78 h ∧ s 78 h ≤ 6000000) ∧ (-60000 ≤ s 79 h ∧ s 79 h ≤ 60000)) : (bearX s b h → f_Halls_place s b h = some (((b + 1 : Nat) : Int), if 24 ≤ b + 1 then put (put (put s 77 h (s 77 h + -1)) 78 h (s 78 h + -1 * s 5 b)) 79 h (s 79 h + -1 * s 6 b) else put (put (put (put s 77 h (s 77 h + -1)) 78 h (s 78 h + -1 * s 5 b)) 79 h (s 79 h + -1 * s 6 b)) 73 (b + 1) 0)) ∧ (¬ bearX s b h → f_Halls_place s b h = some ((b : Int), put s 73 b (h + 1))) := by
  unfold f_Halls_place b_Halls_place_45 bearX
  have i1 : inb (b : Int) 24 := inbN hb (by decide)
  have i2 : inb (h : Int) 4 := inbN hh (by decide)
  have e1 : ix (b : Int) = b := ix_nat (by omega)
  have e2 : ix (h : Int) = h := ix_nat (by omega)
  have k1 : w32 1 = 1 := by decide
  have k0 : w32 0 = 0 := by decide
  have k24 : w32 24 = 24 := by decide
  have eb1 : (b : Int) + 1 = ((b + 1 : Nat) : Int) := by omega
  simp only [e1, e2, h73, move_eq hb hh h73, Option.bind_some, eb1, wnat (show b + 1 < 2147483648 by omega)]
  rw [gd_yes i2, gd_yes i2, gd_yes i1, gd_yes i2, gd_yes i1, gd_yes i1, gd_yes i1, k0, k1, k24]
  rw [wid (a := s 77 h) (by omega) (by omega), wid (a := s 78 h) (by omega) (by omega), wid (a := s 79 h) (by omega) (by omega), wid (a := s 5 b) (by omega) (by omega), wid (a := s 6 b) (by omega) (by omega)]
  simp only [if_pos, if_neg (show ¬ (1 : Int) = 0 by decide)]
  by_cases c1 : s 77 h < 1
  · rw [if_pos c1]
    exact ⟨fun q => absurd c1 q.1, fun _ => rfl⟩
  · rw [if_neg c1]
    by_cases c2 : s 78 h < s 5 b
    · rw [if_pos c2]
      exact ⟨fun q => absurd c2 q.2.1, fun _ => rfl⟩
    · rw [if_neg c2]
      by_cases c3 : s 79 h < s 6 b
      · rw [if_pos c3]
        exact ⟨fun q => absurd c3 q.2.2, fun _ => rfl⟩
      · rw [if_neg c3]
        refine ⟨fun _ => ?_, fun q => absurd ⟨c1, c2, c3⟩ q⟩
        by_cases c4 : 24 ≤ b + 1
        · rw [if_pos (by omega), if_pos c4]
        · rw [if_neg (by omega), if_neg c4, gd_yes (inbN (by omega) (by decide)), ix_nat (by omega)]
def LayX (c j : Nat) : Bool := c == 73 || c == 77 || c == 78 || c == 79 || (c == 72 && j == 1)
def LayM (c j : Nat) : Bool := c == 53 || c == 54 || c == 55 || c == 56 || (c == 0 && j == 71)
def DATA (nb nh : Nat) (sx sm : St) : Prop := nb ≤ 24 ∧ nh ≤ 4 ∧ sx 1 0 = nb ∧ sm 0 4 = nb ∧ sx 72 0 = nh ∧ sm 0 70 = nh ∧ (∀ b, b < nb → (sx 5 b = sm 4 b ∧ 0 ≤ sm 4 b ∧ sm 4 b ≤ 99) ∧ (sx 6 b = sm 8 b ∧ 0 ≤ sm 8 b ∧ sm 8 b ≤ 1)) ∧ ∀ h, h < nh → (sx 74 h = sm 50 h ∧ 0 ≤ sm 50 h ∧ sm 50 h ≤ 24) ∧ (sx 75 h = sm 51 h ∧ 0 ≤ sm 51 h ∧ sm 51 h ≤ 999) ∧ (sx 76 h = sm 52 h ∧ 0 ≤ sm 52 h ∧ sm 52 h ≤ 24)
def USED (nh i : Nat) (sx sm : St) : Prop := ∀ g, g < nh → (sx 77 g = sm 50 g - sm 54 g ∧ -(i : Int) ≤ sm 54 g ∧ sm 54 g ≤ i) ∧ (sx 78 g = sm 51 g - sm 55 g ∧ -(99 * i : Int) ≤ sm 55 g ∧ sm 55 g ≤ 99 * i) ∧ (sx 79 g = sm 52 g - sm 56 g ∧ -(i : Int) ≤ sm 56 g ∧ sm 56 g ≤ i)
def RLAY (nb nh : Nat) (sx0 sm0 : St) (b h t i : Nat) (sx sm : St) : Prop := b < nb ∧ h ≤ nh ∧ t ≤ 20000 ∧ i + b ≤ 2 * t ∧ sx 72 1 = t ∧ sm 0 71 = t ∧ sx 73 b = h ∧ (∀ k, k < b → sx 73 k = sm 53 k ∧ 0 ≤ sm 53 k ∧ sm 53 k < nh) ∧ USED nh i sx sm ∧ frs LayX sx0 sx ∧ frs LayM sm0 sm
def POSTL (nb : Nat) (sx0 sm0 : St) (q1 q2 : Int × St) : Prop := q1.1 = q2.1 ∧ 0 ≤ q2.1 ∧ q2.1 ≤ 10 ∧ q1.2 72 1 = q2.2 0 71 ∧ (q2.1 = 0 → ∀ b, b < nb → q1.2 73 b = q2.2 53 b) ∧ frs LayX sx0 q1.2 ∧ frs LayM sm0 q2.2
def kXs (F : Nat) : St → Int → Option (Int × St) := fun s1 x2_2 => b_Halls_search_104 F s1 x2_2
def k204 : St → Option (Int × St) := fun s6 => some (0, s6)
def kMs (F no : Nat) : St → Int → Int → Int → Option (Int × St) := fun s2 x1_3 x2_4 x3_5 => b_M_lays_152 F (l_M_lays_55 F k204 no) k204 s2 x1_3 x2_4 x3_5
theorem USED_add {nh i : Nat} {sx sm sx2 sm2 : St} {h : Nat} {v p w : Int} (hU : USED nh i sx sm) (hv : v = 1 ∨ v = -1) (hp : 0 ≤ p ∧ p ≤ 99) (hw : 0 ≤ w ∧ w ≤ 1) (a1 : ∀ g, sx2 77 g = if g = h then sx 77 g - v else sx 77 g) (a2 : ∀ g, sx2 78 g = if g = h then sx 78 g - v * p else sx 78 g) (a3 : ∀ g, sx2 79 g = if g = h then sx 79 g - v * w else sx 79 g) (b1 : ∀ g, sm2 54 g = if g = h then sm 54 g + v else sm 54 g) (b2 : ∀ g, sm2 55 g = if g = h then sm 55 g + v * p else sm 55 g) (b3 : ∀ g, sm2 56 g = if g = h then sm 56 g + v * w else sm 56 g) (c1 : ∀ g, sm2 50 g = sm 50 g) (c2 : ∀ g, sm2 51 g = sm 51 g) (c3 : ∀ g, sm2 52 g = sm 52 g) : USED nh (i + 1) sx2 sm2 := by
  intro g hg
  obtain ⟨u1, u2, u3⟩ := hU g hg
  rw [a1, a2, a3, b1, b2, b3, c1, c2, c3]
  by_cases e : g = h
  · simp only [if_pos e]
    rcases hv with rfl | rfl
    · simp only [Int.one_mul]
      omega
    · simp only [Int.neg_mul, Int.one_mul]
      omega
  · simp only [if_neg e]
    omega
theorem USED_same {nh i : Nat} {sx sm sx2 sm2 : St} (hU : USED nh i sx sm) (a1 : ∀ g, sx2 77 g = sx 77 g) (a2 : ∀ g, sx2 78 g = sx 78 g) (a3 : ∀ g, sx2 79 g = sx 79 g) (b1 : ∀ g, sm2 54 g = sm 54 g) (b2 : ∀ g, sm2 55 g = sm 55 g) (b3 : ∀ g, sm2 56 g = sm 56 g) (c1 : ∀ g, sm2 50 g = sm 50 g) (c2 : ∀ g, sm2 51 g = sm 51 g) (c3 : ∀ g, sm2 52 g = sm 52 g) : USED nh (i + 1) sx2 sm2 := by
  intro g hg
  obtain ⟨u1, u2, u3⟩ := hU g hg
  rw [a1, a2, a3, b1, b2, b3, c1, c2, c3]
  omega
set_option maxHeartbeats 2000000 in
theorem SIML {F nb nh : Nat} {sx0 sm0 : St} (hD : DATA nb nh sx0 sm0) (hF : 10 ≤ F) : ∀ (d b h t i nx ni no : Nat) (sx sm : St), RLAY nb nh sx0 sm0 b h t i sx sm → i + d = 40001 → d + 3 ≤ nx → nh + 2 ≤ ni + h → d + 2 ≤ no → ∃ q1 q2, l_Halls_search_4 F (kXs F) nx sx b i = some q1 ∧ l_M_lays_95 F (kMs F no) ni sm b h 0 = some q2 ∧ POSTL nb sx0 sm0 q1 q2 := by
  intro d
  induction d with
  | zero =>
    intro b h t i nx ni no sx sm hR h1 h2 h3 h4
    obtain ⟨r1, r2, r3, r4, -⟩ := hR
    omega
  | succ d ih =>
    intro b h t i nx ni no sx sm hR h1 h2 h3 h4
    obtain ⟨r1, r2, r3, r4, r5, r6, r7, r8, r9, rx, rm⟩ := hR
    obtain ⟨d1, d2, d3, d4, d5, d6, d7, d8⟩ := hD
    have x10 : sx 1 0 = nb := (rx 1 0 rfl).trans d3
    have x720 : sx 72 0 = nh := (rx 72 0 rfl).trans d5
    have m04 : sm 0 4 = nb := (rm 0 4 rfl).trans d4
    have m070 : sm 0 70 = nh := (rm 0 70 rfl).trans d6
    obtain ⟨nx, rfl⟩ : ∃ m, nx = m + 1 := ⟨nx - 1, by omega⟩
    obtain ⟨no, rfl⟩ : ∃ m, no = m + 1 := ⟨no - 1, by omega⟩
    obtain ⟨ni, rfl⟩ : ∃ m, ni = m + 1 := ⟨ni - 1, by omega⟩
    have kS : w32 40024 = 40024 := by decide
    have kT : w32 20000 = 20000 := by decide
    have k0 : w32 0 = 0 := by decide
    have k1 : w32 1 = 1 := by decide
    have stepX : ∀ (kc : St → Int → Int → Option (Int × St)) (k : St → Int → Option (Int × St)), b_Halls_search_4 F kc k sx b i = if (h : Int) < nh then if (t : Int) < 20000 then (f_Halls_place (put sx 72 1 (t + 1)) b h).bind fun q13 => kc q13.2 q13.1 ((i : Int) + 1) else some (10, sx) else if w32 ((b : Int) + (-1)) < 0 then kc sx ((b : Int) + (-1)) ((i : Int) + 1) else (f_Halls_move sx ((b : Int) + (-1)) 1).bind fun q7 => gd (inb ((b : Int) + (-1)) 24) (gd (inb ((b : Int) + (-1)) 24) (let s10 := put q7 73 (ix ((b : Int) + (-1))) ((q7 73 (ix ((b : Int) + (-1)))) + 1); kc s10 ((b : Int) + (-1)) ((i : Int) + 1))) := by
      intro kc k
      unfold b_Halls_search_4
      rw [if_neg (show ¬ w32 40024 ≤ w32 (i : Int) by rw [kS, wnat (by omega)]; omega), if_neg (show ¬ w32 (b : Int) < 0 by rw [wnat (by omega)]; omega), if_neg (show ¬ w32 (sx 1 0) ≤ w32 (b : Int) by rw [x10, wnat (by omega), wnat (by omega)]; omega), gd_yes (inbN (show b < 24 by omega) (by decide)), ix_nat (by omega), r7, x720, wnat (k := h) (by omega), wnat (k := nh) (by omega), r5, wnat (k := t) (by omega), kT]
    have stepM : ∀ (kc k : St → Int → Int → Int → Option (Int × St)), b_M_lays_95 F kc k sm b h 0 = if (nh : Int) ≤ h then k sm b h 0 else if (t : Int) = 20000 then some (10, sm) else (f_M_canBear (put sm 0 71 (t + 1)) b h).bind fun q5 => if w32 q5.1 = 0 then kc q5.2 b ((h : Int) + 1) q5.1 else kc q5.2 b ((h : Int) + 0) q5.1 := by
      intro kc k
      unfold b_M_lays_95
      rw [m070, wnat (k := nh) (by omega), wnat (k := h) (by omega), k0, if_pos rfl, r6, wnat (k := t) (by omega), kT]
    show ∃ q1 q2, b_Halls_search_4 F (l_Halls_search_4 F (kXs F) nx) (kXs F) sx b i = some q1 ∧ b_M_lays_95 F (l_M_lays_95 F (kMs F (no + 1)) ni) (kMs F (no + 1)) sm b h 0 = some q2 ∧ _
    rw [stepX, stepM]
    by_cases cA : h < nh
    · rw [if_pos (show (h : Int) < nh by omega), if_neg (show ¬ (nh : Int) ≤ h by omega)]
      by_cases cT : t = 20000
      · rw [if_neg (by omega), if_pos (by omega)]
        exact ⟨_, _, rfl, rfl, rfl, show (0 : Int) ≤ 10 by decide, show (10 : Int) ≤ 10 by decide, by show sx 72 1 = sm 0 71; rw [r5, r6], fun q => absurd q (show ¬ (10 : Int) = 0 by decide), rx, rm⟩
      · rw [if_pos (by omega), if_neg (by omega)]
        have x5 : sx 5 b = sx0 5 b := rx 5 b rfl
        have x6 : sx 6 b = sx0 6 b := rx 6 b rfl
        have m4 : sm 4 b = sm0 4 b := rm 4 b rfl
        have m8 : sm 8 b = sm0 8 b := rm 8 b rfl
        have m50 : sm 50 h = sm0 50 h := rm 50 h rfl
        have m51 : sm 51 h = sm0 51 h := rm 51 h rfl
        have m52 : sm 52 h = sm0 52 h := rm 52 h rfl
        have db := d7 b r1
        have dh := d8 h cA
        have uh := r9 h cA
        have pl := place_eq (s := put sx 72 1 (t + 1)) (b := b) (h := h) (by omega) (by omega) r7 (by show 0 ≤ sx 6 b ∧ sx 6 b ≤ 1; omega) (by show 0 ≤ sx 5 b ∧ sx 5 b ≤ 99; omega) (by show (-60000 ≤ sx 77 h ∧ sx 77 h ≤ 60000) ∧ (-6000000 ≤ sx 78 h ∧ sx 78 h ≤ 6000000) ∧ (-60000 ≤ sx 79 h ∧ sx 79 h ≤ 60000); omega)
        have cb := canBear_eq (s := put sm 0 71 (t + 1)) (b := b) (h := h) (by omega) (by omega) (by show 0 ≤ sm 8 b ∧ sm 8 b ≤ 1; omega) (by show 0 ≤ sm 4 b ∧ sm 4 b ≤ 99; omega) (by show (0 ≤ sm 50 h ∧ sm 50 h ≤ 24) ∧ (0 ≤ sm 51 h ∧ sm 51 h ≤ 999) ∧ (0 ≤ sm 52 h ∧ sm 52 h ≤ 24); omega) (by show (-50000 ≤ sm 54 h ∧ sm 54 h ≤ 50000) ∧ (-5000000 ≤ sm 55 h ∧ sm 55 h ≤ 5000000) ∧ (-50000 ≤ sm 56 h ∧ sm 56 h ≤ 50000); omega)
        have hw : (if sm 8 b = 0 then (0 : Int) else 1) = sm 8 b := by
          by_cases q : sm 8 b = 0
          · rw [if_pos q, q]
          · rw [if_neg q]; omega
        have eqv : bearX (put sx 72 1 (t + 1)) b h ↔ bearP (put sm 0 71 (t + 1)) b h := by
          show (¬ sx 77 h < 1 ∧ ¬ sx 78 h < sx 5 b ∧ ¬ sx 79 h < sx 6 b) ↔ (¬ sm 50 h ≤ sm 54 h ∧ ¬ sm 51 h < sm 55 h + sm 4 b ∧ ¬ sm 52 h < sm 56 h + (if sm 8 b = 0 then 0 else 1))
          rw [hw]
          omega
        have fx1 : frs LayX sx0 (put sx 72 1 (t + 1)) := frs_put rx rfl
        have fm1 : frs LayM sm0 (put sm 0 71 (t + 1)) := frs_put rm rfl
        by_cases cB : bearP (put sm 0 71 (t + 1)) b h
        · rw [pl.1 (eqv.mpr cB), cb.1 cB]
          obtain ⟨ni, rfl⟩ : ∃ m, ni = m + 1 := ⟨ni - 1, by omega⟩
          have p8 : i32 ((put (put sm 0 71 (t + 1)) 53 b h) 8 b) := by show i32 (sm 8 b); exact ⟨by omega, by omega⟩
          have stM : l_M_lays_95 F (kMs F (no + 1)) (ni + 1) (put sm 0 71 (t + 1)) b ((h : Int) + 0) 1 = kMs F (no + 1) (put sm 0 71 (t + 1)) b ((h : Int) + 0) 1 := by
            show b_M_lays_95 F (l_M_lays_95 F (kMs F (no + 1)) ni) (kMs F (no + 1)) (put sm 0 71 (t + 1)) b ((h : Int) + 0) 1 = _
            unfold b_M_lays_95
            rw [show (put sm 0 71 (t + 1)) 0 70 = nh from m070, wnat (k := nh) (by omega), Int.add_zero, wnat (k := h) (by omega), if_neg (by omega), k1, if_neg (by decide)]
          show ∃ q1 q2, l_Halls_search_4 F (kXs F) nx (if 24 ≤ b + 1 then put (put (put (put sx 72 1 (t + 1)) 77 h (sx 77 h + -1)) 78 h (sx 78 h + -1 * sx 5 b)) 79 h (sx 79 h + -1 * sx 6 b) else put (put (put (put (put sx 72 1 (t + 1)) 77 h (sx 77 h + -1)) 78 h (sx 78 h + -1 * sx 5 b)) 79 h (sx 79 h + -1 * sx 6 b)) 73 (b + 1) 0) ((b + 1 : Nat) : Int) ((i : Int) + 1) = some q1 ∧ (if w32 1 = 0 then l_M_lays_95 F (kMs F (no + 1)) (ni + 1) (put sm 0 71 (t + 1)) b ((h : Int) + 1) 1 else l_M_lays_95 F (kMs F (no + 1)) (ni + 1) (put sm 0 71 (t + 1)) b ((h : Int) + 0) 1) = some q2 ∧ _
          rw [k1, if_neg (show ¬ (1 : Int) = 0 by decide), stM, Int.add_zero, show (i : Int) + 1 = ((i + 1 : Nat) : Int) by omega]
          unfold kMs b_M_lays_152
          rw [k1, if_neg (show ¬ (1 : Int) = 0 by decide), gd_yes (inbN (show b < 24 by omega) (by decide)), ix_nat (k := b) (by omega)]
          simp only [puts_eq (s := put (put sm 0 71 (t + 1)) 53 b h) (b := b) (h := h) (v := 1) (by omega) (by omega) p8, Option.bind_some]
          rw [show (b : Int) + 1 = ((b + 1 : Nat) : Int) by omega]
          generalize hs3 : (put (put (put (put (put sm 0 71 (t + 1)) 53 b h) 54 h ((put (put sm 0 71 (t + 1)) 53 b h) 54 h + 1)) 55 h ((put (put sm 0 71 (t + 1)) 53 b h) 55 h + 1 * (put (put sm 0 71 (t + 1)) 53 b h) 4 b)) 56 h ((put (put sm 0 71 (t + 1)) 53 b h) 56 h + if (put (put sm 0 71 (t + 1)) 53 b h) 8 b = 0 then 0 else 1)) = sm3
          have f3 : frs LayM sm0 sm3 := by
            rw [← hs3]
            exact frs_put (frs_put (frs_put (frs_put fm1 rfl) rfl) rfl) rfl
          have a04 : sm3 0 4 = nb := (f3 0 4 rfl).trans d4
          have a53 : ∀ k, sm3 53 k = if k = b then (h : Int) else sm 53 k := by
            intro k
            rw [← hs3]
            show (put (put sm 0 71 (t + 1)) 53 b h) 53 k = _
            rw [put_at]
            rfl
          have a54 : ∀ g, sm3 54 g = if g = h then sm 54 g + 1 else sm 54 g := by
            intro g
            rw [← hs3]
            show (put (put (put sm 0 71 (t + 1)) 53 b h) 54 h (sm 54 h + 1)) 54 g = _
            rw [put_at]
            by_cases e : g = h
            · rw [if_pos e, if_pos e, e]
            · rw [if_neg e, if_neg e]; rfl
          have a55 : ∀ g, sm3 55 g = if g = h then sm 55 g + 1 * sm 4 b else sm 55 g := by
            intro g
            rw [← hs3]
            show (put (put (put (put sm 0 71 (t + 1)) 53 b h) 54 h (sm 54 h + 1)) 55 h (sm 55 h + 1 * sm 4 b)) 55 g = _
            rw [put_at]
            by_cases e : g = h
            · rw [if_pos e, if_pos e, e]
            · rw [if_neg e, if_neg e]; rfl
          have a56 : ∀ g, sm3 56 g = if g = h then sm 56 g + 1 * sm 8 b else sm 56 g := by
            intro g
            rw [← hs3]
            show (put (put (put (put (put sm 0 71 (t + 1)) 53 b h) 54 h (sm 54 h + 1)) 55 h (sm 55 h + 1 * sm 4 b)) 56 h (sm 56 h + if sm 8 b = 0 then 0 else 1)) 56 g = _
            rw [put_at, hw]
            by_cases e : g = h
            · rw [if_pos e, if_pos e, e, Int.one_mul (sm 8 b)]
            · rw [if_neg e, if_neg e]; rfl
          have a71 : sm3 0 71 = ((t + 1 : Nat) : Int) := by
            rw [← hs3]
            show (t : Int) + 1 = _
            omega
          clear hs3
          have hx2 : ∃ sx2, (if 24 ≤ b + 1 then put (put (put (put sx 72 1 (t + 1)) 77 h (sx 77 h + -1)) 78 h (sx 78 h + -1 * sx 5 b)) 79 h (sx 79 h + -1 * sx 6 b) else put (put (put (put (put sx 72 1 (t + 1)) 77 h (sx 77 h + -1)) 78 h (sx 78 h + -1 * sx 5 b)) 79 h (sx 79 h + -1 * sx 6 b)) 73 (b + 1) 0) = sx2 ∧ (∀ g, sx2 77 g = if g = h then sx 77 g - 1 else sx 77 g) ∧ (∀ g, sx2 78 g = if g = h then sx 78 g - 1 * sm 4 b else sx 78 g) ∧ (∀ g, sx2 79 g = if g = h then sx 79 g - 1 * sm 8 b else sx 79 g) ∧ (∀ k, k < b + 1 → sx2 73 k = sx 73 k) ∧ (b + 1 < 24 → sx2 73 (b + 1) = 0) ∧ sx2 72 1 = ((t + 1 : Nat) : Int) ∧ frs LayX sx0 sx2 := by
            have q5 : sx 5 b = sm 4 b := by rw [x5, m4]; exact db.1.1
            have q6 : sx 6 b = sm 8 b := by rw [x6, m8]; exact db.2.1
            refine ⟨_, rfl, ?_, ?_, ?_, ?_, ?_, ?_, ?_⟩
            · intro g
              have e0 : (put (put sx 72 1 (t + 1)) 77 h (sx 77 h + -1)) 77 g = if g = h then sx 77 g - 1 else sx 77 g := by
                rw [put_at]
                by_cases e : g = h
                · rw [if_pos e, if_pos e, e]; omega
                · rw [if_neg e, if_neg e]; rfl
              split
              · exact e0
              · exact e0
            · intro g
              have e0 : (put (put (put sx 72 1 (t + 1)) 77 h (sx 77 h + -1)) 78 h (sx 78 h + -1 * sx 5 b)) 78 g = if g = h then sx 78 g - 1 * sm 4 b else sx 78 g := by
                rw [put_at, q5]
                by_cases e : g = h
                · rw [if_pos e, if_pos e, e]; omega
                · rw [if_neg e, if_neg e]; rfl
              split
              · exact e0
              · exact e0
            · intro g
              have e0 : (put (put (put (put sx 72 1 (t + 1)) 77 h (sx 77 h + -1)) 78 h (sx 78 h + -1 * sx 5 b)) 79 h (sx 79 h + -1 * sx 6 b)) 79 g = if g = h then sx 79 g - 1 * sm 8 b else sx 79 g := by
                rw [put_at, q6]
                by_cases e : g = h
                · rw [if_pos e, if_pos e, e]; omega
                · rw [if_neg e, if_neg e]; rfl
              split
              · exact e0
              · exact e0
            · intro k hk
              split
              · rfl
              · rw [put_at, if_neg (by omega)]; rfl
            · intro hb
              rw [if_neg (by omega), put_eq]
            · split
              · show (t : Int) + 1 = _; omega
              · show (t : Int) + 1 = _; omega
            · split
              · exact frs_put (frs_put (frs_put fx1 rfl) rfl) rfl
              · exact frs_put (frs_put (frs_put (frs_put fx1 rfl) rfl) rfl) rfl
          obtain ⟨sx2, hsx2, c77, c78, c79, c73, c73b, c721, fx2⟩ := hx2
          rw [hsx2]
          clear hsx2
          have U2 : USED nh (i + 1) sx2 sm3 := by
            refine USED_add r9 (.inl rfl) (p := sm 4 b) (w := sm 8 b) (by omega) (by omega) c77 c78 c79 a54 a55 a56 ?_ ?_ ?_
            · intro g; rw [f3 50 g rfl, rm 50 g rfl]
            · intro g; rw [f3 51 g rfl, rm 51 g rfl]
            · intro g; rw [f3 52 g rfl, rm 52 g rfl]
          by_cases cE : b + 1 = nb
          · rw [if_pos (show w32 (sm3 0 4) ≤ w32 ((b + 1 : Nat) : Int) by rw [a04, wnat (by omega), wnat (by omega)]; omega)]
            obtain ⟨nx, rfl⟩ : ∃ m, nx = m + 1 := ⟨nx - 1, by omega⟩
            have eX : l_Halls_search_4 F (kXs F) (nx + 1) sx2 ((b + 1 : Nat) : Int) ((i + 1 : Nat) : Int) = some (0, sx2) := by
              show b_Halls_search_4 F (l_Halls_search_4 F (kXs F) nx) (kXs F) sx2 ((b + 1 : Nat) : Int) ((i + 1 : Nat) : Int) = _
              unfold b_Halls_search_4
              rw [if_neg (show ¬ w32 40024 ≤ w32 ((i + 1 : Nat) : Int) by rw [kS, wnat (by omega)]; omega), if_neg (show ¬ w32 ((b + 1 : Nat) : Int) < 0 by rw [wnat (by omega)]; omega), if_pos (show w32 (sx2 1 0) ≤ w32 ((b + 1 : Nat) : Int) by rw [(fx2 1 0 rfl).trans d3, wnat (by omega), wnat (by omega)]; omega)]
              unfold kXs b_Halls_search_104
              rw [wnat (k := b + 1) (by omega), if_pos (by omega)]
            have eM : l_M_lays_55 F k204 (no + 1) sm3 ((b + 1 : Nat) : Int) = some (0, sm3) := by
              show b_M_lays_55 F (l_M_lays_55 F k204 no) k204 sm3 ((b + 1 : Nat) : Int) = _
              unfold b_M_lays_55
              rw [if_pos (show w32 (sm3 0 4) ≤ w32 ((b + 1 : Nat) : Int) by rw [a04, wnat (by omega), wnat (by omega)]; omega)]
              rfl
            refine ⟨_, _, eX, eM, rfl, show (0 : Int) ≤ 0 by decide, show (0 : Int) ≤ 10 by decide, ?_, ?_, fx2, f3⟩
            · show sx2 72 1 = sm3 0 71
              rw [c721, a71]
            · intro _ k hk
              show sx2 73 k = sm3 53 k
              rw [c73 k (by omega), a53]
              by_cases e : k = b
              · rw [if_pos e, e, r7]
              · rw [if_neg e]; exact (r8 k (by omega)).1
          · rw [if_neg (show ¬ w32 (sm3 0 4) ≤ w32 ((b + 1 : Nat) : Int) by rw [a04, wnat (by omega), wnat (by omega)]; omega), gd_yes (inbN (show b + 1 < 24 by omega) (by decide)), ix_nat (k := b + 1) (by omega)]
            have f4 : frs LayM sm0 (put sm3 53 (b + 1) (-1)) := frs_put f3 rfl
            have eM : l_M_lays_55 F k204 (no + 1) (put sm3 53 (b + 1) (-1)) ((b + 1 : Nat) : Int) = l_M_lays_95 F (kMs F no) F (put sm3 53 (b + 1) (-1)) ((b + 1 : Nat) : Int) ((0 : Nat) : Int) 0 := by
              show b_M_lays_55 F (l_M_lays_55 F k204 no) k204 (put sm3 53 (b + 1) (-1)) ((b + 1 : Nat) : Int) = _
              unfold b_M_lays_55 b_M_lays_84
              rw [if_neg (show ¬ w32 ((put sm3 53 (b + 1) (-1)) 0 4) ≤ w32 ((b + 1 : Nat) : Int) by rw [(f4 0 4 rfl).trans d4, wnat (by omega), wnat (by omega)]; omega), gd_yes (inbN (show b + 1 < 24 by omega) (by decide)), ix_nat (k := b + 1) (by omega), put_eq, if_pos (by decide), gd_yes (inbN (show b + 1 < 24 by omega) (by decide))]
              rfl
            show ∃ q1 q2, _ ∧ l_M_lays_55 F k204 (no + 1) (put sm3 53 (b + 1) (-1)) ((b + 1 : Nat) : Int) = some q2 ∧ _
            rw [eM]
            refine ih (b + 1) 0 (t + 1) (i + 1) nx F no sx2 _ ⟨by omega, by omega, by omega, by omega, c721, ?_, ?_, ?_, ?_, fx2, f4⟩ (by omega) (by omega) (by omega) (by omega)
            · exact a71
            · rw [c73b (by omega)]; rfl
            · intro k hk
              rw [put_at, if_neg (by omega), c73 k (by omega), a53]
              by_cases e : k = b
              · rw [if_pos e, e, r7]; exact ⟨rfl, by omega, by omega⟩
              · rw [if_neg e]; exact r8 k (by omega)
            · exact U2
        · rw [pl.2 (fun q => cB (eqv.mp q)), cb.2 cB]
          show ∃ q1 q2, l_Halls_search_4 F (kXs F) nx (put (put sx 72 1 (t + 1)) 73 b (h + 1)) b ((i : Int) + 1) = some q1 ∧ (if w32 0 = 0 then l_M_lays_95 F (kMs F (no + 1)) ni (put sm 0 71 (t + 1)) b ((h : Int) + 1) 0 else l_M_lays_95 F (kMs F (no + 1)) ni (put sm 0 71 (t + 1)) b ((h : Int) + 0) 0) = some q2 ∧ _
          rw [if_pos k0, show (i : Int) + 1 = ((i + 1 : Nat) : Int) by omega, show (h : Int) + 1 = ((h + 1 : Nat) : Int) by omega]
          refine ih b (h + 1) (t + 1) (i + 1) nx ni (no + 1) _ _ ⟨r1, by omega, by omega, by omega, ?_, ?_, ?_, ?_, ?_, frs_put fx1 rfl, fm1⟩ (by omega) (by omega) (by omega) (by omega)
          · show (t : Int) + 1 = _; omega
          · show (t : Int) + 1 = _; omega
          · exact put_eq _ _ _ _
          · intro k hk
            rw [put_at, if_neg (by omega)]
            exact r8 k hk
          · exact USED_same r9 (fun _ => rfl) (fun _ => rfl) (fun _ => rfl) (fun _ => rfl) (fun _ => rfl) (fun _ => rfl) (fun _ => rfl) (fun _ => rfl) (fun _ => rfl)
    · have eh : h = nh := by omega
      rw [if_neg (show ¬ (h : Int) < nh by omega), if_pos (show (nh : Int) ≤ h by omega)]
      unfold kMs b_M_lays_152
      rw [k0, if_pos rfl]
      by_cases c0 : b = 0
      · subst c0
        rw [if_pos (by decide), if_neg (by decide)]
        obtain ⟨nx, rfl⟩ : ∃ m, nx = m + 1 := ⟨nx - 1, by omega⟩
        have eX : l_Halls_search_4 F (kXs F) (nx + 1) sx (((0 : Nat) : Int) + -1) ((i : Int) + 1) = some (8, sx) := by
          rw [show (i : Int) + 1 = ((i + 1 : Nat) : Int) by omega]
          show b_Halls_search_4 F (l_Halls_search_4 F (kXs F) nx) (kXs F) sx (((0 : Nat) : Int) + -1) ((i + 1 : Nat) : Int) = _
          unfold b_Halls_search_4
          rw [if_neg (show ¬ w32 40024 ≤ w32 ((i + 1 : Nat) : Int) by rw [kS, wnat (by omega)]; omega), if_pos (by decide)]
          rfl
        refine ⟨_, _, eX, rfl, rfl, show (0 : Int) ≤ 8 by decide, show (8 : Int) ≤ 10 by decide, ?_, fun q => absurd q (show ¬ (8 : Int) = 0 by decide), rx, rm⟩
        show sx 72 1 = sm 0 71
        rw [r5, r6]
      · obtain ⟨b, rfl⟩ : ∃ m, b = m + 1 := ⟨b - 1, by omega⟩
        have eb : ((b + 1 : Nat) : Int) + -1 = (b : Int) := by omega
        rw [eb, if_neg (show ¬ w32 (b : Int) < 0 by rw [wnat (by omega)]; omega), if_pos (show (0 : Int) ≤ w32 (b : Int) by rw [wnat (by omega)]; omega)]
        obtain ⟨e1, e2, e3⟩ := r8 b (by omega)
        obtain ⟨g, hg⟩ : ∃ g : Nat, sm 53 b = g := ⟨(sm 53 b).toNat, by omega⟩
        have gx : sx 73 b = g := by rw [e1, hg]
        have hgn : g < nh := by omega
        have m4 : sm 4 b = sm0 4 b := rm 4 b rfl
        have m8 : sm 8 b = sm0 8 b := rm 8 b rfl
        have db := d7 b (by omega)
        have q5 : sx 5 b = sm 4 b := by rw [rx 5 b rfl, m4]; exact db.1.1
        have q6 : sx 6 b = sm 8 b := by rw [rx 6 b rfl, m8]; exact db.2.1
        have hw : (if sm 8 b = 0 then (0 : Int) else -1) = -1 * sm 8 b := by
          by_cases q : sm 8 b = 0
          · rw [if_pos q, q]; rfl
          · rw [if_neg q]; omega
        have eM : l_M_lays_55 F k204 (no + 1) sm b = l_M_lays_95 F (kMs F no) F (put (put (put sm 54 g (sm 54 g + -1)) 55 g (sm 55 g + -1 * sm 4 b)) 56 g (sm 56 g + if sm 8 b = 0 then 0 else -1)) b ((g + 1 : Nat) : Int) 0 := by
          show b_M_lays_55 F (l_M_lays_55 F k204 no) k204 sm b = _
          unfold b_M_lays_55 b_M_lays_84
          rw [if_neg (show ¬ w32 (sm 0 4) ≤ w32 (b : Int) by rw [m04, wnat (by omega), wnat (by omega)]; omega), gd_yes (inbN (show b < 24 by omega) (by decide)), ix_nat (k := b) (by omega), hg, if_neg (show ¬ w32 (g : Int) < 0 by rw [wnat (by omega)]; omega), gd_yes (inbN (show b < 24 by omega) (by decide)), puts_eq (by omega) (by omega) ⟨by omega, by omega⟩]
          simp only [Option.bind_some]
          rw [gd_yes (inbN (show b < 24 by omega) (by decide))]
          show l_M_lays_95 F (kMs F no) F _ b (sm 53 b + 1) 0 = _
          rw [hg, show (g : Int) + 1 = ((g + 1 : Nat) : Int) by omega]
        rw [move_eq (by omega) (by omega) gx]
        simp only [Option.bind_some]
        rw [gd_yes (inbN (show b < 24 by omega) (by decide)), gd_yes (inbN (show b < 24 by omega) (by decide)), ix_nat (k := b) (by omega), show (i : Int) + 1 = ((i + 1 : Nat) : Int) by omega]
        rw [eM]
        refine ih b (g + 1) t (i + 1) nx F no _ _ ⟨by omega, by omega, by omega, by omega, r5, r6, ?_, ?_, ?_, ?_, ?_⟩ (by omega) (by omega) (by omega) (by omega)
        · rw [put_eq]
          show sx 73 b + 1 = _
          rw [gx]; omega
        · intro k hk
          rw [put_at, if_neg (by omega)]
          exact r8 k (by omega)
        · refine USED_add r9 (.inr rfl) (h := g) (p := sm 4 b) (w := sm 8 b) (by omega) (by omega) ?_ ?_ ?_ ?_ ?_ ?_ (fun _ => rfl) (fun _ => rfl) (fun _ => rfl)
          · intro k
            show (put sx 77 g (sx 77 g + 1)) 77 k = _
            rw [put_at]
            by_cases e : k = g
            · rw [if_pos e, if_pos e, e]; omega
            · rw [if_neg e, if_neg e]
          · intro k
            show (put (put sx 77 g (sx 77 g + 1)) 78 g (sx 78 g + 1 * sx 5 b)) 78 k = _
            rw [put_at, q5]
            by_cases e : k = g
            · rw [if_pos e, if_pos e, e]; omega
            · rw [if_neg e, if_neg e]; rfl
          · intro k
            show (put (put (put sx 77 g (sx 77 g + 1)) 78 g (sx 78 g + 1 * sx 5 b)) 79 g (sx 79 g + 1 * sx 6 b)) 79 k = _
            rw [put_at, q6]
            by_cases e : k = g
            · rw [if_pos e, if_pos e, e]; omega
            · rw [if_neg e, if_neg e]; rfl
          · intro k
            show (put sm 54 g (sm 54 g + -1)) 54 k = _
            rw [put_at]
            by_cases e : k = g
            · rw [if_pos e, if_pos e, e]
            · rw [if_neg e, if_neg e]
          · intro k
            show (put (put sm 54 g (sm 54 g + -1)) 55 g (sm 55 g + -1 * sm 4 b)) 55 k = _
            rw [put_at]
            by_cases e : k = g
            · rw [if_pos e, if_pos e, e]
            · rw [if_neg e, if_neg e]; rfl
          · intro k
            show (put (put (put sm 54 g (sm 54 g + -1)) 55 g (sm 55 g + -1 * sm 4 b)) 56 g (sm 56 g + if sm 8 b = 0 then 0 else -1)) 56 k = _
            rw [put_at, hw]
            by_cases e : k = g
            · rw [if_pos e, if_pos e, e]
            · rw [if_neg e, if_neg e]; rfl
        · exact frs_put (frs_put (frs_put (frs_put rx rfl) rfl) rfl) rfl
        · exact frs_put (frs_put (frs_put rm rfl) rfl) rfl
