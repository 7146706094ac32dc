/-! the text of prizes: tokens -/
def isSp (x : Int) : Bool := decide (x = 10) || decide (x = 32)
def isLt (x : Int) : Bool := decide (97 ≤ x) && decide (x ≤ 122)
def isDg (x : Int) : Bool := decide (48 ≤ x) && decide (x ≤ 57)
def run (f : Int → Bool) (g : Nat → Int) : Nat → Nat → Nat
  | 0, p => p
  | d + 1, p => if f (g p) then run f g d (p + 1) else p
theorem run_spec (f : Int → Bool) (g : Nat → Int) : ∀ d p, p ≤ run f g d p ∧ run f g d p ≤ p + d ∧ (∀ k, p ≤ k → k < run f g d p → f (g k) = true) ∧ (run f g d p < p + d → f (g (run f g d p)) = false)
  | 0, p => ⟨Nat.le_refl p, Nat.le_refl p, fun k h1 h2 => absurd h2 (by show ¬ k < p; omega), fun h => absurd h (by show ¬ p < p + 0; omega)⟩
  | d + 1, p => by
    have ih := run_spec f g d (p + 1)
    have e : run f g (d + 1) p = if f (g p) then run f g d (p + 1) else p := rfl
    rw [e]
    by_cases c : f (g p) = true
    · rw [if_pos c]
      refine ⟨by omega, by omega, fun k h1 h2 => ?_, fun h => ih.2.2.2 (by omega)⟩
      by_cases ek : k = p
      · rw [ek]; exact c
      · exact ih.2.2.1 k (by omega) h2
    · rw [if_neg c]
      exact ⟨by omega, by omega, fun k h1 h2 => by omega, fun _ => by simpa using c⟩
def lk (x : Int) : Int := if x < 0 then x + 256 else x
theorem and255 {x : Int} (h1 : -128 ≤ x) (h2 : x ≤ 127) : andI x 255 = lk x := by
  have h3 : nv (andI x 255) = nv x % 256 := by rw [nv_and, show nv 255 = 2 ^ 8 - 1 by decide, Nat.and_two_pow_sub_one_eq_mod]
  have h4 : w32 (andI x 255) = ((nv x % 256 : Nat) : Int) := by rw [w32_nv (by omega), h3]
  rw [w32_andI] at h4
  rw [h4]
  have h5 := nv_eq x
  unfold lk
  split <;> omega
def MTP (e : Nat) (tp : Nat → Int) (s : St) : Prop := e ≤ 300 ∧ s 0 46 = e ∧ (∀ k, s 32 k = tp k) ∧ ∀ k, -128 ≤ tp k ∧ tp k ≤ 127
theorem look_eq {e : Nat} {tp : Nat → Int} {s : St} (h : MTP e tp s) {k : Nat} (hk : k < 2147483648) : f_M_look s k = some (if k < e then lk (tp k) else 0, s) := by
  obtain ⟨h1, h2, h3, h4⟩ := h
  unfold f_M_look
  by_cases c : k < e
  · rw [if_neg (show ¬ w32 (s 0 46) ≤ w32 (k : Int) by rw [h2, wnat (by omega), wnat hk]; omega), if_pos c, gd_yes (inbN (show k < 300 by omega) (by decide)), ix_nat hk, h3, and255 (h4 k).1 (h4 k).2]
  · rw [if_pos (show w32 (s 0 46) ≤ w32 (k : Int) by rw [h2, wnat (by omega), wnat hk]; omega), if_neg c]
theorem lk_rng {x : Int} (h1 : -128 ≤ x) (h2 : x ≤ 127) : 0 ≤ lk x ∧ lk x ≤ 255 ∧ (lk x ≤ 127 → lk x = x) ∧ (0 ≤ x → lk x = x) ∧ (x < 0 → 128 ≤ lk x) := by
  unfold lk
  split <;> omega
theorem isLetter_eq {s : St} {x : Int} (h : 0 ≤ x ∧ x ≤ 255) : f_M_isLetter s x = some (b01 (isLt x = true), s) := by
  unfold f_M_isLetter isLt
  rw [wid (a := x) (by omega) (by omega), show w32 97 = 97 by decide, show w32 122 = 122 by decide]
  by_cases c1 : x < 97
  · rw [if_pos c1, b01_not (by simp; omega)]
  · rw [if_neg c1]
    by_cases c2 : 122 < x
    · rw [if_pos c2, b01_not (by simp; omega)]
    · rw [if_neg c2, b01_of (by simp; omega)]
theorem isDigit_eq {s : St} {x : Int} (h : 0 ≤ x ∧ x ≤ 255) : f_M_isDigit s x = some (b01 (isDg x = true), s) := by
  unfold f_M_isDigit isDg
  rw [wid (a := x) (by omega) (by omega), show w32 48 = 48 by decide, show w32 57 = 57 by decide]
  by_cases c1 : x < 48
  · rw [if_pos c1, b01_not (by simp; omega)]
  · rw [if_neg c1]
    by_cases c2 : 57 < x
    · rw [if_pos c2, b01_not (by simp; omega)]
    · rw [if_neg c2, b01_of (by simp; omega)]
theorem lk_lt {x : Int} (h1 : -128 ≤ x) (h2 : x ≤ 127) : isLt (lk x) = isLt x := by
  have z := lk_rng h1 h2
  unfold isLt
  by_cases c : x < 0
  · have := z.2.2.2.2 c
    simp [show ¬ (97 ≤ x) by omega, show ¬ (lk x ≤ 122) by omega]
  · rw [z.2.2.2.1 (by omega)]
theorem lk_dg {x : Int} (h1 : -128 ≤ x) (h2 : x ≤ 127) : isDg (lk x) = isDg x := by
  have z := lk_rng h1 h2
  unfold isDg
  by_cases c : x < 0
  · have := z.2.2.2.2 c
    simp [show ¬ (48 ≤ x) by omega, show ¬ (lk x ≤ 57) by omega]
  · rw [z.2.2.2.1 (by omega)]
def KN (c j : Nat) : Bool := c == 0 && (j == 81 || j == 82 || j == 83 || j == 84 || j == 85)
theorem MTP_fr {e : Nat} {tp : Nat → Int} {s t : St} (h : MTP e tp s) (f : frs KN s t) : MTP e tp t := by
  obtain ⟨h1, h2, h3, h4⟩ := h
  exact ⟨h1, by rw [f 0 46 rfl]; exact h2, fun k => by rw [f 32 k rfl]; exact h3 k, h4⟩
/-- a word's number -/
def wdc (tp : Nat → Int) (a : Nat) : Nat → Int
  | 0 => 0
  | n + 1 => if 12 ≤ n then -1 else wdc tp a n * 32 + tp (a + n) - 96
def NM (tp : Nat → Int) (a : Nat) : Nat → Int
  | 0 => 0
  | n + 1 => if n < 3 then 10 * NM tp a n + tp (a + n) - 48 else NM tp a n
theorem next_109 {F e : Nat} {tp : Nat → Int} {a : Nat} {s0 : St} (hM : MTP e tp s0) (ha : a < e) (h82 : s0 0 82 = a) {P : St → Prop} {k307 : St → Option St} (hk : ∀ t, frs KN s0 t → t 0 82 = a → t 0 81 = s0 0 81 → t 0 83 = (run isLt tp (e - a) a : Nat) → t 0 85 = wdc tp a (run isLt tp (e - a) a - a) → T (k307 t) P) (h83 : s0 0 83 = a) (h85 : s0 0 85 = 0) (hF : 310 ≤ F) : T (l_M_next_109 F k307 F s0) P := by
  have hr := run_spec isLt tp (e - a) a
  obtain ⟨r, hrd⟩ : ∃ r, r = run isLt tp (e - a) a := ⟨_, rfl⟩
  rw [← hrd] at hr hk
  have he := hM.1
  refine loopG (l := fun n (t : St) x => l_M_next_109 F k307 n t) (N := r) (I := fun x t => frs KN s0 t ∧ t 0 82 = a ∧ t 0 81 = s0 0 81 ∧ t 0 83 = (x : Nat) ∧ a ≤ x ∧ t 0 85 = wdc tp a (x - a)) (G := fun q => T q P) ?_ ?_ (r - a) a F s0 (by omega) (by omega) ⟨frs_refl _ _, h82, rfl, h83, Nat.le_refl a, by rw [h85, Nat.sub_self]; rfl⟩
  · intro n x t hx hI next
    obtain ⟨i1, i2, i3, i4, i5, i6⟩ := hI
    have hMt := MTP_fr hM i1
    have hl := hr.2.2.1 x i5 hx
    have hxe : x < e := by omega
    have rg := hM.2.2.2 x
    have zr := lk_rng rg.1 rg.2
    have hx1 : 97 ≤ tp x ∧ tp x ≤ 122 := by
      unfold isLt at hl
      simpa using hl
    have el : lk (tp x) = tp x := zr.2.2.2.1 (by omega)
    show T (b_M_next_109 F (l_M_next_109 F k307 n) k307 t) P
    unfold b_M_next_109
    rw [i4]
    refine T_bind (T_eq (look_eq hMt (k := x) (by omega)) ?_)
    rw [if_pos hxe, el]
    refine T_bind (T_eq (isLetter_eq (s := t) (x := tp x) (by omega)) (T_no (fun q => b01_0.mp q hl) ?_))
    show T (if w32 12 ≤ w32 (t 0 83 - t 0 82) then b_M_next_166 F (l_M_next_109 F k307 n) k307 t (-1) else (f_M_look t (t 0 83)).bind fun q5 => b_M_next_166 F (l_M_next_109 F k307 n) k307 q5.2 (((t 0 85 * 32) + (w32 q5.1)) - 96)) P
    rw [i4, i2, show w32 12 = 12 by decide, wid (a := (x : Int) - a) (by omega) (by omega)]
    have fin : ∀ v : Int, v = wdc tp a (x + 1 - a) → T (b_M_next_166 F (l_M_next_109 F k307 n) k307 t v) P := by
      intro v hv
      unfold b_M_next_166
      refine next (put (put t 0 85 v) 0 83 ((put t 0 85 v) 0 83 + 1)) ⟨frs_put (frs_put i1 rfl) rfl, ?_, ?_, ?_, by omega, ?_⟩
      · show t 0 82 = a; exact i2
      · show t 0 81 = _; exact i3
      · rw [put_eq]; show t 0 83 + 1 = _; rw [i4]; omega
      · show v = _; exact hv
    have es : x + 1 - a = (x - a) + 1 := by omega
    refine T_if (fun c => fin _ ?_) (fun c => ?_)
    · rw [es]
      show -1 = if 12 ≤ x - a then -1 else _
      rw [if_pos (by omega)]
    · refine T_bind (T_eq (look_eq hMt (k := x) (by omega)) (fin _ ?_))
      rw [if_pos hxe, el, es]
      show t 0 85 * 32 + w32 (tp x) - 96 = if 12 ≤ x - a then -1 else wdc tp a (x - a) * 32 + tp (a + (x - a)) - 96
      rw [if_neg (by omega), i6, wid (a := tp x) (by omega) (by omega), show a + (x - a) = x by omega]
  · intro n t hI
    obtain ⟨i1, i2, i3, i4, i5, i6⟩ := hI
    have hMt := MTP_fr hM i1
    show T (b_M_next_109 F (l_M_next_109 F k307 n) k307 t) P
    unfold b_M_next_109
    rw [i4]
    refine T_bind (T_eq (look_eq hMt (k := r) (by omega)) ?_)
    have rg := hM.2.2.2 r
    have zr := lk_rng rg.1 rg.2
    by_cases c : r < e
    · have hn := hr.2.2.2 (by omega)
      rw [if_pos c]
      refine T_bind (T_eq (isLetter_eq (s := t) (x := lk (tp r)) (by omega)) (T_yes (b01_0.mpr (by rw [lk_lt rg.1 rg.2, hn]; exact Bool.false_ne_true)) (hk t i1 i2 i3 i4 i6)))
    · rw [if_neg c]
      refine T_bind (T_eq (isLetter_eq (s := t) (x := 0) (by omega)) (T_yes (b01_0.mpr (show ¬ isLt 0 = true by decide)) (hk t i1 i2 i3 i4 i6)))
theorem next_194 {F e : Nat} {tp : Nat → Int} {a : Nat} {s0 : St} (hM : MTP e tp s0) (ha : a < e) (h82 : s0 0 82 = a) {P : St → Prop} {k257 : St → Option St} (hk : ∀ t, frs KN s0 t → t 0 82 = a → t 0 83 = (run isDg tp (e - a) a : Nat) → t 0 84 = NM tp a (run isDg tp (e - a) a - a) → T (k257 t) P) (h83 : s0 0 83 = a) (h84 : s0 0 84 = 0) (hF : 310 ≤ F) : T (l_M_next_194 F k257 F s0) P := by
  have hr := run_spec isDg tp (e - a) a
  obtain ⟨r, hrd⟩ : ∃ r, r = run isDg tp (e - a) a := ⟨_, rfl⟩
  rw [← hrd] at hr hk
  have he := hM.1
  refine loopG (l := fun n (t : St) x => l_M_next_194 F k257 n t) (N := r) (I := fun x t => frs KN s0 t ∧ t 0 82 = a ∧ t 0 83 = (x : Nat) ∧ a ≤ x ∧ t 0 84 = NM tp a (x - a)) (G := fun q => T q P) ?_ ?_ (r - a) a F s0 (by omega) (by omega) ⟨frs_refl _ _, h82, h83, Nat.le_refl a, by rw [h84, Nat.sub_self]; rfl⟩
  · intro n x t hx hI next
    obtain ⟨i1, i2, i4, i5, i6⟩ := hI
    have hMt := MTP_fr hM i1
    have hl := hr.2.2.1 x i5 hx
    have hxe : x < e := by omega
    have rg := hM.2.2.2 x
    have zr := lk_rng rg.1 rg.2
    have hx1 : 48 ≤ tp x ∧ tp x ≤ 57 := by
      unfold isDg at hl
      simpa using hl
    have el : lk (tp x) = tp x := zr.2.2.2.1 (by omega)
    show T (b_M_next_194 F (l_M_next_194 F k257 n) k257 t) P
    unfold b_M_next_194
    rw [i4]
    refine T_bind (T_eq (look_eq hMt (k := x) (by omega)) ?_)
    rw [if_pos hxe, el]
    refine T_bind (T_eq (isDigit_eq (s := t) (x := tp x) (by omega)) (T_no (fun q => b01_0.mp q hl) ?_))
    show T (if w32 3 ≤ w32 (t 0 83 - t 0 82) then b_M_next_244 F (l_M_next_194 F k257 n) k257 t else (f_M_look t (t 0 83)).bind fun q5 => let s6 := put q5.2 0 84 (((10 * t 0 84) + q5.1) - 48); b_M_next_244 F (l_M_next_194 F k257 n) k257 s6) P
    rw [i4, i2, show w32 3 = 3 by decide, wid (a := (x : Int) - a) (by omega) (by omega)]
    have es : x + 1 - a = (x - a) + 1 := by omega
    have fin : ∀ t2 : St, frs KN s0 t2 → t2 0 82 = a → t2 0 83 = (x : Nat) → t2 0 84 = NM tp a (x + 1 - a) → T (b_M_next_244 F (l_M_next_194 F k257 n) k257 t2) P := by
      intro t2 a1 a2 a3 a4
      unfold b_M_next_244
      refine next (put t2 0 83 (t2 0 83 + 1)) ⟨frs_put a1 rfl, ?_, ?_, by omega, ?_⟩
      · show t2 0 82 = a; exact a2
      · rw [put_eq, a3]; omega
      · show t2 0 84 = _; exact a4
    refine T_if (fun c => fin t i1 i2 i4 ?_) (fun c => ?_)
    · rw [es]
      show t 0 84 = if x - a < 3 then _ else NM tp a (x - a)
      rw [if_neg (by omega)]; exact i6
    · refine T_bind (T_eq (look_eq hMt (k := x) (by omega)) (fin _ (frs_put i1 rfl) i2 i4 ?_))
      rw [if_pos hxe, el, es]
      show 10 * t 0 84 + tp x - 48 = if x - a < 3 then 10 * NM tp a (x - a) + tp (a + (x - a)) - 48 else _
      rw [if_pos (by omega), i6, show a + (x - a) = x by omega]
  · intro n t hI
    obtain ⟨i1, i2, i4, i5, i6⟩ := hI
    have hMt := MTP_fr hM i1
    show T (b_M_next_194 F (l_M_next_194 F k257 n) k257 t) P
    unfold b_M_next_194
    rw [i4]
    refine T_bind (T_eq (look_eq hMt (k := r) (by omega)) ?_)
    have rg := hM.2.2.2 r
    have zr := lk_rng rg.1 rg.2
    by_cases c : r < e
    · have hn := hr.2.2.2 (by omega)
      rw [if_pos c]
      refine T_bind (T_eq (isDigit_eq (s := t) (x := lk (tp r)) (by omega)) (T_yes (b01_0.mpr (by rw [lk_dg rg.1 rg.2, hn]; exact Bool.false_ne_true)) (hk t i1 i2 i4 i6)))
    · rw [if_neg c]
      refine T_bind (T_eq (isDigit_eq (s := t) (x := 0) (by omega)) (T_yes (b01_0.mpr (show ¬ isDg 0 = true by decide)) (hk t i1 i2 i4 i6)))
/-- the token that comes at p: where it begins -/
def tka (e : Nat) (tp : Nat → Int) (p : Nat) : Nat := run isSp tp (e - p) p
/-- what the reference holds in hand: the token that came at p -/
def TKM (e : Nat) (tp : Nat → Int) (p : Nat) (t : St) : Prop := t 0 82 = (tka e tp p : Nat) ∧ ((tka e tp p = e ∧ t 0 81 = 0 ∧ t 0 83 = (e : Nat)) ∨ (tka e tp p < e ∧ isLt (tp (tka e tp p)) = true ∧ t 0 81 = 1 ∧ t 0 83 = (run isLt tp (e - tka e tp p) (tka e tp p) : Nat) ∧ t 0 85 = wdc tp (tka e tp p) (run isLt tp (e - tka e tp p) (tka e tp p) - tka e tp p)) ∨ (tka e tp p < e ∧ isLt (tp (tka e tp p)) = false ∧ isDg (tp (tka e tp p)) = true ∧ t 0 81 = (if run isDg tp (e - tka e tp p) (tka e tp p) - tka e tp p ≤ 3 then 2 else 4) ∧ t 0 83 = (run isDg tp (e - tka e tp p) (tka e tp p) : Nat) ∧ t 0 84 = NM tp (tka e tp p) (run isDg tp (e - tka e tp p) (tka e tp p) - tka e tp p)) ∨ (tka e tp p < e ∧ isLt (tp (tka e tp p)) = false ∧ isDg (tp (tka e tp p)) = false ∧ t 0 81 = (if tp (tka e tp p) = 59 then 3 else 4) ∧ t 0 83 = ((tka e tp p + 1 : Nat) : Int)))
theorem next_eq {F e : Nat} {tp : Nat → Int} {p : Nat} {s0 : St} (hM : MTP e tp s0) (hp : p ≤ e) (h83 : s0 0 83 = p) (hF : 310 ≤ F) : T (f_M_next F s0) (fun t => frs KN s0 t ∧ TKM e tp p t) := by
  have he := hM.1
  have hr := run_spec isSp tp (e - p) p
  unfold f_M_next
  obtain ⟨a, had⟩ : ∃ a, a = run isSp tp (e - p) p := ⟨_, rfl⟩
  have hta : tka e tp p = a := had.symm
  unfold TKM
  rw [hta]
  rw [← had] at hr
  refine loopG (l := fun n (t : St) x => l_M_next_8 F (fun s2 => b_M_next_58 F s2) n t) (N := a) (I := fun x t => frs KN s0 t ∧ t 0 82 = (x : Nat) ∧ p ≤ x) (G := fun q => T q _) ?_ ?_ (a - p) p F (put s0 0 82 (s0 0 83)) (by omega) (by omega) ⟨frs_put (frs_refl _ _) rfl, by rw [put_eq]; exact h83, Nat.le_refl p⟩
  · intro n x t hx hI next
    obtain ⟨i1, i2, i3⟩ := hI
    have hMt := MTP_fr hM i1
    have hl := hr.2.2.1 x i3 hx
    have hxe : x < e := by omega
    have rg := hM.2.2.2 x
    have zr := lk_rng rg.1 rg.2
    show T (b_M_next_8 F (l_M_next_8 F (fun s2 => b_M_next_58 F s2) n) (fun s2 => b_M_next_58 F s2) t) _
    unfold b_M_next_8
    rw [hMt.2.1, i2]
    refine T_no (by rw [wnat (by omega), wnat (by omega)]; omega) (T_bind (T_eq (look_eq hMt (k := x) (by omega)) ?_))
    rw [if_pos hxe]
    have hx1 : tp x = 10 ∨ tp x = 32 := by
      unfold isSp at hl
      simpa using hl
    have el : lk (tp x) = tp x := zr.2.2.2.1 (by omega)
    have fin : T (b_M_next_45 F (l_M_next_8 F (fun s2 => b_M_next_58 F s2) n) (fun s2 => b_M_next_58 F s2) t) (fun t => frs KN s0 t ∧ t 0 82 = (a : Nat) ∧ ((a = e ∧ t 0 81 = 0 ∧ t 0 83 = (e : Nat)) ∨ (a < e ∧ isLt (tp a) = true ∧ t 0 81 = 1 ∧ t 0 83 = (run isLt tp (e - a) a : Nat) ∧ t 0 85 = wdc tp a (run isLt tp (e - a) a - a)) ∨ (a < e ∧ isLt (tp a) = false ∧ isDg (tp a) = true ∧ t 0 81 = (if run isDg tp (e - a) a - a ≤ 3 then 2 else 4) ∧ t 0 83 = (run isDg tp (e - a) a : Nat) ∧ t 0 84 = NM tp a (run isDg tp (e - a) a - a)) ∨ (a < e ∧ isLt (tp a) = false ∧ isDg (tp a) = false ∧ t 0 81 = (if tp a = 59 then 3 else 4) ∧ t 0 83 = ((a + 1 : Nat) : Int)))) := by
      unfold b_M_next_45
      refine next (put t 0 82 (t 0 82 + 1)) ⟨frs_put i1 rfl, ?_, by omega⟩
      rw [put_eq, i2]; omega
    show T (if w32 (lk (tp x)) = w32 10 then b_M_next_45 F (l_M_next_8 F (fun s2 => b_M_next_58 F s2) n) (fun s2 => b_M_next_58 F s2) t else (f_M_look t (t 0 82)).bind fun q4 => if w32 q4.1 = w32 32 then b_M_next_45 F (l_M_next_8 F (fun s2 => b_M_next_58 F s2) n) (fun s2 => b_M_next_58 F s2) q4.2 else b_M_next_58 F q4.2) _
    rw [i2, el]
    refine T_if (fun _ => fin) (fun c => T_bind (T_eq (look_eq hMt (k := x) (by omega)) ?_))
    rw [if_pos hxe, el]
    refine T_yes ?_ fin
    rcases hx1 with q | q
    · exact absurd (by rw [q]) c
    · rw [q]
  · intro n t hI
    obtain ⟨i1, i2, i3⟩ := hI
    have hMt := MTP_fr hM i1
    have rg := hM.2.2.2 a
    have zr := lk_rng rg.1 rg.2
    show T (b_M_next_8 F (l_M_next_8 F (fun s2 => b_M_next_58 F s2) n) (fun s2 => b_M_next_58 F s2) t) _
    unfold b_M_next_8
    -- what stands behind the white space
    have main : T (b_M_next_58 F t) (fun t => frs KN s0 t ∧ t 0 82 = (a : Nat) ∧ ((a = e ∧ t 0 81 = 0 ∧ t 0 83 = (e : Nat)) ∨ (a < e ∧ isLt (tp a) = true ∧ t 0 81 = 1 ∧ t 0 83 = (run isLt tp (e - a) a : Nat) ∧ t 0 85 = wdc tp a (run isLt tp (e - a) a - a)) ∨ (a < e ∧ isLt (tp a) = false ∧ isDg (tp a) = true ∧ t 0 81 = (if run isDg tp (e - a) a - a ≤ 3 then 2 else 4) ∧ t 0 83 = (run isDg tp (e - a) a : Nat) ∧ t 0 84 = NM tp a (run isDg tp (e - a) a - a)) ∨ (a < e ∧ isLt (tp a) = false ∧ isDg (tp a) = false ∧ t 0 81 = (if tp a = 59 then 3 else 4) ∧ t 0 83 = ((a + 1 : Nat) : Int)))) := by
      unfold b_M_next_58
      show T (if w32 (t 0 82) < w32 (t 0 46) then (f_M_look (put t 0 83 (t 0 82)) (t 0 82)).bind fun q4 => (f_M_isLetter q4.2 q4.1).bind fun q5 => if w32 q5.1 = 0 then (f_M_isDigit q5.2 q4.1).bind fun q10 => if w32 q10.1 = 0 then let s17 := put q10.2 0 83 ((q10.2 0 82) + 1); if w32 q4.1 = w32 59 then let s19 := put s17 0 81 3; some s19 else let s20 := put s17 0 81 4; some s20 else let s12 := put q10.2 0 84 0; l_M_next_194 F (fun s13 => if w32 ((s13 0 83) - (s13 0 82)) ≤ w32 3 then let s16 := put s13 0 81 2; some s16 else let s15 := put s13 0 81 4; some s15) F s12 else let s7 := put q5.2 0 81 1; let s8 := put s7 0 85 0; l_M_next_109 F (fun s9 => some s9) F s8 else let s3 := put (put t 0 83 (t 0 82)) 0 81 0; some s3) _
      rw [hMt.2.1, i2]
      by_cases c : a < e
      · refine T_yes (by rw [wnat (by omega), wnat (by omega)]; omega) ?_
        have f1 : frs KN s0 (put t 0 83 (a : Nat)) := frs_put i1 rfl
        have hM1 := MTP_fr hM f1
        refine T_bind (T_eq (look_eq hM1 (k := a) (by omega)) ?_)
        rw [if_pos c]
        refine T_bind (T_eq (isLetter_eq (s := put t 0 83 (a : Nat)) (x := lk (tp a)) (by omega)) ?_)
        refine T_if (fun c1 => ?_) (fun c1 => ?_)
        · have nl : isLt (tp a) = false := by
            have := b01_0.mp c1
            rw [lk_lt rg.1 rg.2] at this
            simpa using this
          refine T_bind (T_eq (isDigit_eq (s := put t 0 83 (a : Nat)) (x := lk (tp a)) (by omega)) ?_)
          refine T_if (fun c2 => ?_) (fun c2 => ?_)
          · have nd : isDg (tp a) = false := by
              have := b01_0.mp c2
              rw [lk_dg rg.1 rg.2] at this
              simpa using this
            have e83 : (put t 0 83 (a : Nat)) 0 82 + 1 = ((a + 1 : Nat) : Int) := by show t 0 82 + 1 = _; rw [i2]; omega
            show T (if w32 (lk (tp a)) = w32 59 then some (put (put (put t 0 83 (a : Nat)) 0 83 ((put t 0 83 (a : Nat)) 0 82 + 1)) 0 81 3) else some (put (put (put t 0 83 (a : Nat)) 0 83 ((put t 0 83 (a : Nat)) 0 82 + 1)) 0 81 4)) _
            rw [e83, wid (a := lk (tp a)) (by omega) (by omega), show w32 59 = 59 by decide]
            refine T_if (fun c3 => T_some ⟨frs_put (frs_put f1 rfl) rfl, i2, .inr (.inr (.inr ⟨c, nl, nd, ?_, rfl⟩))⟩) (fun c3 => T_some ⟨frs_put (frs_put f1 rfl) rfl, i2, .inr (.inr (.inr ⟨c, nl, nd, ?_, rfl⟩))⟩)
            · show (3 : Int) = _
              rw [if_pos (by have := zr.2.2.1 (by omega); omega)]
            · show (4 : Int) = _
              rw [if_neg (fun q => c3 (by rw [zr.2.2.2.1 (by omega)]; exact q))]
          · have dg : isDg (tp a) = true := by
              have := Decidable.not_not.mp (fun q => c2 (b01_0.mpr q))
              rw [lk_dg rg.1 rg.2] at this
              exact this
            have f2 : frs KN s0 (put (put t 0 83 (a : Nat)) 0 84 0) := frs_put f1 rfl
            have hrun := run_spec isDg tp (e - a) a
            refine next_194 (MTP_fr hM f2) c (show t 0 82 = _ from i2) (fun u g1 g2 g3 g4 => ?_) rfl rfl hF
            rw [g3, g2, show w32 3 = 3 by decide, wid (a := ((run isDg tp (e - a) a : Nat) : Int) - (a : Nat)) (by omega) (by omega)]
            refine T_if (fun c3 => T_some ⟨frs_put (frs_trans f2 g1) rfl, g2, .inr (.inr (.inl ⟨c, nl, dg, ?_, g3, g4⟩))⟩) (fun c3 => T_some ⟨frs_put (frs_trans f2 g1) rfl, g2, .inr (.inr (.inl ⟨c, nl, dg, ?_, g3, g4⟩))⟩)
            · show (2 : Int) = _
              rw [if_pos (by omega)]
            · show (4 : Int) = _
              rw [if_neg (by omega)]
        · have lt : isLt (tp a) = true := by
            have := Decidable.not_not.mp (fun q => c1 (b01_0.mpr q))
            rw [lk_lt rg.1 rg.2] at this
            exact this
          have f2 : frs KN s0 (put (put (put t 0 83 (a : Nat)) 0 81 1) 0 85 0) := frs_put (frs_put f1 rfl) rfl
          refine next_109 (MTP_fr hM f2) c (show t 0 82 = _ from i2) (fun u g1 g2 g3 g4 g5 => T_some ⟨frs_trans f2 g1, g2, .inr (.inl ⟨c, lt, g3, g4, g5⟩)⟩) rfl rfl hF
      · refine T_no (by rw [wnat (by omega), wnat (by omega)]; omega) (T_some ⟨frs_put (frs_put i1 rfl) rfl, i2, .inl ⟨by omega, rfl, ?_⟩⟩)
        show ((a : Nat) : Int) = _
        omega
    rw [hMt.2.1, i2]
    by_cases c : a < e
    · have hn := hr.2.2.2 (by omega)
      have hx1 : ¬ tp a = 10 ∧ ¬ tp a = 32 := by
        unfold isSp at hn
        simpa using hn
      refine T_no (by rw [wnat (by omega), wnat (by omega)]; omega) (T_bind (T_eq (look_eq hMt (k := a) (by omega)) ?_))
      rw [if_pos c]
      show T (if w32 (lk (tp a)) = w32 10 then b_M_next_45 F (l_M_next_8 F (fun s2 => b_M_next_58 F s2) n) (fun s2 => b_M_next_58 F s2) t else (f_M_look t (t 0 82)).bind fun q4 => if w32 q4.1 = w32 32 then b_M_next_45 F (l_M_next_8 F (fun s2 => b_M_next_58 F s2) n) (fun s2 => b_M_next_58 F s2) q4.2 else b_M_next_58 F q4.2) _
      rw [i2, wid (a := lk (tp a)) (by omega) (by omega), show w32 10 = 10 by decide]
      refine T_no (fun q => hx1.1 (by have := zr.2.2.1 (by omega); omega)) (T_bind (T_eq (look_eq hMt (k := a) (by omega)) ?_))
      rw [if_pos c]
      show T (if w32 (lk (tp a)) = w32 32 then b_M_next_45 F (l_M_next_8 F (fun s2 => b_M_next_58 F s2) n) (fun s2 => b_M_next_58 F s2) t else b_M_next_58 F t) _
      rw [wid (a := lk (tp a)) (by omega) (by omega), show w32 32 = 32 by decide]
      exact T_no (fun q => hx1.2 (by have := zr.2.2.1 (by omega); omega)) main
    · exact T_yes (by rw [wnat (by omega), wnat (by omega)]; omega) main
