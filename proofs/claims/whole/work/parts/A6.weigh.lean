/-! the class's weigh -/
def KW (c j : Nat) : Bool := c == 29 || c == 30 || c == 31 || c == 32 || (decide (34 ≤ c) && decide (c ≤ 39))
def KR (c j : Nat) : Bool := decide (34 ≤ c) && decide (c ≤ 38)
def KGa (c j : Nat) : Bool := c == 29 || c == 32
def K39 (c j : Nat) : Bool := c == 39
def CLS (hs : Nat → Nat → Bool) (pt : Nat → Nat → Int) (s : St) : Prop := HX hs s ∧ ∀ b j, hs b j = true → s 27 (24 * j + b) = pt b j
theorem CLS_cong {hs : Nat → Nat → Bool} {pt : Nat → Nat → Int} {s t : St} (h : CLS hs pt s) (f : ∀ j, t 27 j = s 27 j) : CLS hs pt t := by
  obtain ⟨⟨h1, h2⟩, h3⟩ := h
  refine ⟨⟨h1, fun b j hb hj => ?_⟩, fun b j e => ?_⟩
  · rw [f]; exact h2 b j hb hj
  · rw [f]; exact h3 b j e
theorem KR_KW {s t : St} (h : frs KR s t) : frs KW s t := frs_sub h (fun c j e => by
  unfold KR at e; unfold KW
  simp only [Bool.or_eq_true, Bool.and_eq_true, decide_eq_true_eq] at e ⊢
  exact .inr ⟨e.1, by omega⟩)
theorem KG_KW {s t : St} (h : frs KGa s t) : frs KW s t := frs_sub h (fun c j e => by
  unfold KGa at e; unfold KW
  simp only [Bool.or_eq_true] at e ⊢
  rcases e with e | e
  · exact .inl (.inl (.inl (.inl e)))
  · exact .inl (.inr e))
theorem K39_KW {s t : St} (h : frs K39 s t) : frs KW s t := frs_sub h (fun c j e => by
  unfold K39 at e; unfold KW
  simp only [Bool.or_eq_true, Bool.and_eq_true, decide_eq_true_eq, beq_iff_eq] at e ⊢
  exact .inr ⟨by omega, by omega⟩)
section WG
variable {F nb nj n : Nat} {hs : Nat → Nat → Bool} {pt : Nat → Nat → Int} {P : Nat → Bool}
theorem gather_eq (hB : BOX nb nj n hs pt P) {s0 : St} {h : Int} (hP : ∀ j, j < 12 → (w32 (s0 26 j) = w32 h ↔ P j = true)) (hF : 20 ≤ F) : T (f_Scale_gather F s0 h) (fun s => frs KGa s0 s ∧ s 29 2 = n ∧ ∀ i, i < n → s 32 i = ((nthq P 12 i : Nat) : Int)) := by
  obtain ⟨h1, h2, h3, h4, h5, h6, h7, h8, h9, h10⟩ := hB
  unfold f_Scale_gather
  refine loopG (l := fun m (s : St) x => l_Scale_gather_7 F (fun s2 => some s2) m s h (x : Nat)) (N := 12) (I := fun j s => frs KGa s0 s ∧ s 29 2 = ((fb_ct P j : Nat) : Int) ∧ ∀ k, k < j → P k = true → s 32 (fb_ct P k) = (k : Int)) (G := fun r => T r _) ?_ ?_ 12 0 F (put s0 29 2 0) (by omega) (by omega) ⟨frs_put (frs_refl _ _) rfl, put_eq _ _ _ _, fun k hk => absurd hk (Nat.not_lt_zero k)⟩
  · intro m j s hj hI next
    obtain ⟨f, i1, i2⟩ := hI
    show T (b_Scale_gather_7 F (l_Scale_gather_7 F _ m) _ s h j) _
    unfold b_Scale_gather_7
    refine T_no (by rw [show w32 12 = 12 by decide, wnat (by omega)]; omega) (T_gd (inbN hj (by decide)) ?_)
    rw [ix_nat (by omega), f 26 j rfl]
    by_cases c : P j = true
    · have lt : fb_ct P (j + 1) ≤ fb_ct P 12 := fb_ct_mono P (by omega)
      rw [fb_ct_succ, if_pos c] at lt
      refine T_yes ((hP j hj).mpr c) ?_
      rw [i1]
      refine T_no (by rw [show w32 5 = 5 by decide, wnat (by omega)]; omega) (T_gd (inbN (by omega) (by decide)) ?_)
      rw [ix_nat (by omega)]
      refine next _ ⟨frs_put (frs_put f rfl) rfl, ?_, fun k hk hPk => ?_⟩
      · rw [put_eq, fb_ct_succ, if_pos c, put_c (by decide), i1]; omega
      · rw [put_c (by decide), put_at]
        by_cases e : k = j
        · rw [e, if_pos rfl]
        · rw [if_neg (fun q => e (fb_ct_kth_one hPk c q))]
          exact i2 k (by omega) hPk
    · refine T_no (fun q => c ((hP j hj).mp q)) (next s ⟨f, ?_, fun k hk hPk => ?_⟩)
      · rw [i1, fb_ct_succ, if_neg c, Nat.add_zero]
      · exact i2 k (by have : k ≠ j := fun e => c (by rw [← e]; exact hPk); omega) hPk
  · intro m s hI
    obtain ⟨f, i1, i2⟩ := hI
    show T (b_Scale_gather_7 F (l_Scale_gather_7 F _ m) _ s h ((12 : Nat) : Int)) _
    unfold b_Scale_gather_7
    refine T_yes (by decide) (T_some ⟨f, by rw [i1, h7], fun i hi => ?_⟩)
    have z := nthq_spec (P := P) (N := 12) (i := i) (by omega)
    have y := i2 _ z.1 z.2.1
    rw [z.2.2] at y
    exact y
theorem KR_row {x : Nat} (hx : x < 5) (k : Nat) : KR (34 + x) k = true := by unfold KR; simp; omega
theorem set_12 {s0 : St} {x : Nat} (hx : x < 5) {k32 : St → Int → Option St} {Q : St → Prop} (hk : ∀ s, frs KR s0 s → (∀ c, c ≠ 34 + x → ∀ k, s c k = s0 c k) → (∀ k, k ≤ 5 → s (34 + x) k = 0) → T (k32 s x) Q) (hF : 20 ≤ F) : T (l_Scale_setRows_12 F k32 F s0 x 0) Q := by
  refine loopG (l := fun m (s : St) y => l_Scale_setRows_12 F k32 m s x (y : Nat)) (N := 6) (I := fun y s => frs KR s0 s ∧ (∀ c, c ≠ 34 + x → ∀ k, s c k = s0 c k) ∧ ∀ k, k < y → s (34 + x) k = 0) (G := fun r => T r Q) ?_ ?_ 6 0 F s0 (by omega) (by omega) ⟨frs_refl _ _, fun _ _ _ => rfl, fun k hk => absurd hk (Nat.not_lt_zero k)⟩
  · intro m y s hy hI next
    show T (b_Scale_setRows_12 F (l_Scale_setRows_12 F k32 m) k32 s x y) Q
    unfold b_Scale_setRows_12
    refine T_no (by rw [show w32 5 = 5 by decide, wnat (by omega)]; omega) (T_gd (inbN hx (by decide)) (T_gd (inbN hy (by decide)) ?_))
    rw [ix_nat (by omega), ix_nat (by omega)]
    refine next _ ⟨frs_put hI.1 (KR_row hx _), fun c hc k => ?_, fun k hk => ?_⟩
    · rw [put_c hc]; exact hI.2.1 c hc k
    · rw [put_at]
      by_cases e : k = y
      · rw [if_pos e]
      · rw [if_neg e]; exact hI.2.2 k (by omega)
  · intro m s hI
    show T (b_Scale_setRows_12 F (l_Scale_setRows_12 F k32 m) k32 s x ((6 : Nat) : Int)) Q
    unfold b_Scale_setRows_12
    exact T_yes (by decide) (hk s hI.1 hI.2.1 (fun k hk => hI.2.2 k (by omega)))
theorem set_2 (hn : n ≤ 5) {s0 : St} (h29 : s0 29 2 = n) {k38 : St → Option St} {Q : St → Prop} (hk : ∀ s, frs KR s0 s → (∀ i, i < n → ∀ k, k ≤ 5 → s (34 + i) k = 0) → T (k38 s) Q) (hF : 20 ≤ F) : T (l_Scale_setRows_2 F k38 F s0 0) Q := by
  refine loopG (l := fun m (s : St) x => l_Scale_setRows_2 F k38 m s (x : Nat)) (N := n) (I := fun x s => frs KR s0 s ∧ ∀ i, i < x → ∀ k, k ≤ 5 → s (34 + i) k = 0) (G := fun r => T r Q) ?_ ?_ n 0 F s0 (by omega) (by omega) ⟨frs_refl _ _, fun k hk => absurd hk (Nat.not_lt_zero k)⟩
  · intro m x s hx hI next
    show T (b_Scale_setRows_2 F (l_Scale_setRows_2 F k38 m) k38 s x) Q
    unfold b_Scale_setRows_2
    refine T_no (by rw [hI.1 29 2 rfl, h29, wnat (by omega), wnat (by omega)]; omega) (set_12 (by omega) (fun t ft t1 t2 => ?_) hF)
    refine next t ⟨frs_trans hI.1 ft, fun i hi k hk => ?_⟩
    by_cases e : i = x
    · rw [e]; exact t2 k hk
    · rw [t1 (34 + i) (by omega)]; exact hI.2 i (by omega) k hk
  · intro m s hI
    show T (b_Scale_setRows_2 F (l_Scale_setRows_2 F k38 m) k38 s n) Q
    unfold b_Scale_setRows_2
    exact T_yes (by rw [hI.1 29 2 rfl, h29]; exact Int.le_refl _) (hk s hI.1 hI.2)
theorem cls_cell {s : St} (h : CLS hs pt s) {b j : Nat} (hb : b < 24) (hj : j < 12) : w32 (s 27 (24 * j + b)) = w32 (-1) ↔ hs b j = false := hx_cell h.1 (frs_refl _ _) hb hj
def MEM (n : Nat) (P : Nat → Bool) (s : St) : Prop := s 29 2 = n ∧ ∀ i, i < n → s 32 i = ((nthq P 12 i : Nat) : Int)
theorem MEM_cong {s t : St} (h : MEM n P s) (f : frs KR s t) : MEM n P t := ⟨by rw [f 29 2 rfl]; exact h.1, fun i hi => by rw [f 32 i rfl]; exact h.2 i hi⟩
theorem CLS_KR {s t : St} (h : CLS hs pt s) (f : frs KR s t) : CLS hs pt t := CLS_cong h (fun j => f 27 j rfl)
theorem add_8 (hB : BOX nb nj n hs pt P) {s : St} (hC : CLS hs pt s) (hM : MEM n P s) {b : Nat} (hb : b < 24) {k53 : St → Int → Int → Int → Option St} {Q : St → Prop} (hk : T (k53 s b ((fb_ct (fun i => hs b (nthq P 12 i)) n : Nat) : Int) (fb_si (fun i => if hs b (nthq P 12 i) = true then pt b (nthq P 12 i) else 0) n)) Q) (hF : 20 ≤ F) : T (l_Scale_addBoard_8 F k53 F s b 0 0 0) Q := by
  have hn := hB.2.2.2.2.2.2.2.2.1
  refine loopG (l := fun m (a : Int × Int) x => l_Scale_addBoard_8 F k53 m s b a.1 a.2 (x : Nat)) (N := n) (I := fun x a => a.1 = ((fb_ct (fun i => hs b (nthq P 12 i)) x : Nat) : Int) ∧ a.2 = fb_si (fun i => if hs b (nthq P 12 i) = true then pt b (nthq P 12 i) else 0) x) (G := fun r => T r Q) ?_ ?_ n 0 F ((0 : Int), (0 : Int)) (by omega) (by omega) ⟨rfl, rfl⟩
  · intro m x a hx hI next
    obtain ⟨a1, a2⟩ := a
    obtain ⟨i1, i2⟩ := hI
    simp only at i1 i2
    have mx := BX_mem hB hx
    show T (b_Scale_addBoard_8 F (l_Scale_addBoard_8 F k53 m) k53 s b a1 a2 x) Q
    unfold b_Scale_addBoard_8
    refine T_no (by rw [hM.1, wnat (by omega), wnat (by omega)]; omega) (T_gd (inbN (by omega) (by decide)) ?_)
    rw [ix_nat (by omega), hM.2 x hx]
    refine T_bind (T_eq (points_eq hb mx.2.1) ?_)
    have cl := cls_cell hC hb mx.2.1
    cases e : hs b (nthq P 12 x) with
    | false =>
      refine T_yes (cl.mpr e) (next (a1, a2) ⟨?_, ?_⟩)
      · show a1 = _
        rw [i1, fb_ct_succ, e]
        simp
      · show a2 = _
        rw [i2, fb_si_succ, e]
        simp
    | true =>
      refine T_no (fun q => by have := cl.mp q; rw [e] at this; cases this) (next (a1 + 1, a2 + s 27 (24 * nthq P 12 x + b)) ⟨?_, ?_⟩)
      · show a1 + 1 = _
        rw [i1, fb_ct_succ, e]
        simp
      · show a2 + s 27 (24 * nthq P 12 x + b) = _
        rw [i2, fb_si_succ, e, hC.2 b _ e]
        simp
  · intro m a hI
    obtain ⟨a1, a2⟩ := a
    obtain ⟨i1, i2⟩ := hI
    simp only at i1 i2
    show T (b_Scale_addBoard_8 F (l_Scale_addBoard_8 F k53 m) k53 s b a1 a2 n) Q
    unfold b_Scale_addBoard_8
    refine T_yes (by rw [hM.1]; exact Int.le_refl _) ?_
    rw [i1, i2]
    exact hk
theorem shares_eq (hB : BOX nb nj n hs pt P) {s0 : St} (hC : CLS hs pt s0) (hM : MEM n P s0) {b i : Nat} (hb : b < 24) (hi : i < n) {sh : Int} (h1 : 0 ≤ sh) (h2 : sh ≤ 60) (hF : 20 ≤ F) : T (f_Scale_takeShares F s0 b i sh) (fun s => frs KR s0 s ∧ (∀ c, c ≠ 34 + i → ∀ k, s c k = s0 c k) ∧ (∀ k, n ≤ k → s (34 + i) k = s0 (34 + i) k) ∧ ∀ q, q < n → s (34 + i) q = s0 (34 + i) q - (if hs b (nthq P 12 q) = true then sh else 0)) := by
  have hn := hB.2.2.2.2.2.2.2.2.1
  unfold f_Scale_takeShares
  refine loopG (l := fun m (s : St) x => l_Scale_takeShares_3 F (fun s1 => some s1) m s b i sh (x : Nat)) (N := n) (I := fun y s => frs KR s0 s ∧ (∀ c, c ≠ 34 + i → ∀ k, s c k = s0 c k) ∧ (∀ k, n ≤ k → s (34 + i) k = s0 (34 + i) k) ∧ ∀ q, q < n → s (34 + i) q = s0 (34 + i) q - (if q < y ∧ hs b (nthq P 12 q) = true then sh else 0)) (G := fun r => T r _) ?_ ?_ n 0 F s0 (by omega) (by omega) ⟨frs_refl _ _, fun _ _ _ => rfl, fun _ _ => rfl, fun q hq => by rw [if_neg (fun c => Nat.not_lt_zero q c.1)]; omega⟩
  · intro m y s hy hI next
    obtain ⟨f, i1, i2, i3⟩ := hI
    have my := BX_mem hB hy
    have hM2 := MEM_cong hM f
    have hC2 := CLS_KR hC f
    have cl := cls_cell hC2 hb my.2.1
    show T (b_Scale_takeShares_3 F (l_Scale_takeShares_3 F _ m) _ s b i sh y) _
    unfold b_Scale_takeShares_3
    refine T_no (by rw [hM2.1, wnat (by omega), wnat (by omega)]; omega) (T_gd (inbN (by omega) (by decide)) ?_)
    rw [ix_nat (show y < 2147483648 by omega), hM2.2 y hy]
    refine T_bind (T_eq (points_eq hb my.2.1) ?_)
    cases e : hs b (nthq P 12 y) with
    | false =>
      refine T_yes (cl.mpr e) (next s ⟨f, i1, i2, fun q hq => ?_⟩)
      rw [i3 q hq]
      by_cases c : q < y ∧ hs b (nthq P 12 q) = true
      · rw [if_pos c, if_pos ⟨by omega, c.2⟩]
      · rw [if_neg c, if_neg (fun z => c ⟨by
          have : q ≠ y := fun e2 => by rw [e2, e] at z; exact absurd z.2 (by decide)
          omega, z.2⟩)]
    | true =>
      refine T_no (fun q => by have := cl.mp q; rw [e] at this; cases this) (T_gd (inbN (by omega) (by decide)) (T_gd (inbN (by omega) (by decide)) (T_gd (inbN (by omega) (by decide)) ?_)))
      dsimp only
      rw [ix_nat (show i < 2147483648 by omega), wid (a := sh) (by omega) (by omega)]
      refine next _ ⟨frs_put f (KR_row (by omega) _), fun c hc k => ?_, fun k hk => ?_, fun q hq => ?_⟩
      · rw [put_c hc]; exact i1 c hc k
      · rw [put_j (by omega)]; exact i2 k hk
      · rw [put_at]
        by_cases e2 : q = y
        · rw [if_pos e2, i3 y hy, if_neg (fun c => by omega), e2, if_pos ⟨by omega, e⟩]; omega
        · rw [if_neg e2, i3 q hq]
          by_cases c : q < y ∧ hs b (nthq P 12 q) = true
          · rw [if_pos c, if_pos ⟨by omega, c.2⟩]
          · rw [if_neg c, if_neg (fun z => c ⟨by omega, z.2⟩)]
  · intro m s hI
    obtain ⟨f, i1, i2, i3⟩ := hI
    have hM2 := MEM_cong hM f
    show T (b_Scale_takeShares_3 F (l_Scale_takeShares_3 F _ m) _ s b i sh n) _
    unfold b_Scale_takeShares_3
    refine T_yes (by rw [hM2.1]; exact Int.le_refl _) (T_some ⟨f, i1, i2, fun q hq => ?_⟩)
    rw [i3 q hq]
    by_cases c : hs b (nthq P 12 q) = true
    · rw [if_pos c, if_pos ⟨hq, c⟩]
    · rw [if_neg c, if_neg (fun z => c z.2)]
theorem si_one {f : Nat → Int} {n i : Nat} (hi : i < n) (h : ∀ q, q < n → q ≠ i → f q = 0) : fb_si f n = f i := by
  have z := fb_si_upd (fun _ => 0) (f i) hi
  rw [dsi_zero] at z
  have e : fb_si f n = fb_si (fun k => if k = i then f i else 0) n := fb_si_cong (fun q hq => by
    by_cases c : q = i
    · rw [if_pos c, c]
    · rw [if_neg c]; exact h q hq c)
  rw [e, z]
  omega
/-- where at most one member has marked a board, nothing is added -/
theorem few (hB : BOX nb nj n hs pt P) {b : Nat} (hc : fb_ct (fun i => hs b (nthq P 12 i)) n ≤ 1) {i : Nat} (hi : i < n) : (∀ q, q < n → tA hs (nthq P 12) b i q = 0) ∧ tR hs pt (nthq P 12) b i = 0 := by
  by_cases c : hs b (nthq P 12 i) = true
  · have mi := BX_mem hB hi
    have mm := BX_many hB c mi.2.2.1
    have ss := BX_sh hB c mi.2.2.1
    have m1 : manyq hs b = 1 := by omega
    have ct := dct_cut (S := fun i => hs b (nthq P 12 i)) hi c
    have no : ∀ q, q < n → q ≠ i → hs b (nthq P 12 q) = false := by
      intro q hq hne
      have z := fb_ct_zero.mp (show fb_ct (cutS (fun i => hs b (nthq P 12 i)) i) n = 0 by omega) q hq
      unfold cutS at z
      simpa [hne] using z
    have s60 : shq hs b = 60 := by unfold shq; rw [m1]; decide
    refine ⟨fun q hq => ?_, ?_⟩
    · unfold tA
      rw [if_pos c]
      by_cases e : q = i
      · rw [if_pos e, e, if_pos c, s60]; rfl
      · rw [if_neg e, no q hq e, if_neg (by decide)]; rfl
    · unfold tR
      have t : totq hs pt b = pt b (nthq P 12 i) := by
        unfold totq
        rw [← BX_sum hB c mi.2.2.1 (pt b)]
        rw [si_one hi (fun q hq e => by rw [no q hq e]; rfl), if_pos c]
      rw [if_pos c, t, s60]
      omega
  · exact ⟨fun q hq => if_neg c, if_neg c⟩
def LXr (n : Nat) (s : St) (A : Nat → Nat → Int) (R : Nat → Int) : Prop := ∀ i, i < n → (∀ q, q < n → s (34 + i) q = A i q) ∧ s (34 + i) 5 = R i
theorem add_70 (hB : BOX nb nj n hs pt P) {s0 : St} (hC : CLS hs pt s0) (hM : MEM n P s0) {b : Nat} (hb : b < 24) (h2 : 2 ≤ manyq hs b) (h5 : manyq hs b ≤ 5) (hs1 : 0 < shq hs b ∧ shq hs b ≤ 60) {k160 : St → Option St} {Q : St → Prop} {A : Nat → Nat → Int} {R : Nat → Int} (hL : LXr n s0 A R) (hk : ∀ s, frs KR s0 s → LXr n s (fun i q => A i q + tA hs (nthq P 12) b i q) (fun i => R i + tR hs pt (nthq P 12) b i) → T (k160 s) Q) (hF : 20 ≤ F) : T (l_Scale_addBoard_70 F k160 F s0 b ((manyq hs b : Nat) : Int) (totq hs pt b) (shq hs b) 0) Q := by
  have hn := hB.2.2.2.2.2.2.2.2.1
  refine loopG (l := fun m (s : St) x => l_Scale_addBoard_70 F k160 m s b ((manyq hs b : Nat) : Int) (totq hs pt b) (shq hs b) (x : Nat)) (N := n) (I := fun x s => frs KR s0 s ∧ ∀ i, i < n → (∀ q, q < n → s (34 + i) q = A i q + (if i < x then tA hs (nthq P 12) b i q else 0)) ∧ s (34 + i) 5 = R i + (if i < x then tR hs pt (nthq P 12) b i else 0)) (G := fun r => T r Q) ?_ ?_ n 0 F s0 (by omega) (by omega) ⟨frs_refl _ _, fun i hi => ⟨fun q hq => by rw [(hL i hi).1 q hq, if_neg (Nat.not_lt_zero i)]; omega, by rw [(hL i hi).2, if_neg (Nat.not_lt_zero i)]; omega⟩⟩
  · intro m x s hx hI next
    obtain ⟨f, i1⟩ := hI
    have mx := BX_mem hB hx
    have hM2 := MEM_cong hM f
    have hC2 := CLS_KR hC f
    have cl := cls_cell hC2 hb mx.2.1
    show T (b_Scale_addBoard_70 F (l_Scale_addBoard_70 F k160 m) k160 s b ((manyq hs b : Nat) : Int) (totq hs pt b) (shq hs b) x) Q
    unfold b_Scale_addBoard_70
    refine T_no (by rw [hM2.1, wnat (by omega), wnat (by omega)]; omega) (T_no (by rw [show w32 1 = 1 by decide, wnat (by omega)]; omega) (T_gd (inbN (by omega) (by decide)) ?_))
    rw [ix_nat (show x < 2147483648 by omega), hM2.2 x hx]
    refine T_bind (T_eq (points_eq hb mx.2.1) ?_)
    cases e : hs b (nthq P 12 x) with
    | false =>
      refine T_yes (cl.mpr e) (next s ⟨f, fun i hi => ⟨fun q hq => ?_, ?_⟩⟩)
      · rw [(i1 i hi).1 q hq]
        by_cases c : i < x
        · rw [if_pos c, if_pos (by omega)]
        · rw [if_neg c]
          by_cases c2 : i < x + 1
          · rw [if_pos c2, show i = x by omega]
            unfold tA
            rw [if_neg (by rw [e]; decide)]
          · rw [if_neg c2]
      · rw [(i1 i hi).2]
        by_cases c : i < x
        · rw [if_pos c, if_pos (by omega)]
        · rw [if_neg c]
          by_cases c2 : i < x + 1
          · rw [if_pos c2, show i = x by omega]
            unfold tR
            rw [if_neg (by rw [e]; decide)]
          · rw [if_neg c2]
    | true =>
      have i5 : inb (x : Int) 5 := inbN (by omega) (by decide)
      have i6 : inb (x : Int) 6 := inbN (by omega) (by decide)
      have i56 : inb 5 6 := by decide
      have ix5 : ix 5 = 5 := by decide
      have tr := tR_bd hB (b := b) hx
      unfold tR at tr
      rw [if_pos e] at tr
      refine T_no (fun q => by have := cl.mp q; rw [e] at this; cases this) (T_gd i5 (T_gd i6 (T_gd i6 (T_gd i5 (T_gd i56 (T_gd i56 ?_))))))
      dsimp only
      rw [ix5, hC2.2 b _ e, wid (by omega) (by omega)]
      have f2 : frs KR s0 (put (put s (34 + x) x (s (34 + x) x + 60)) (34 + x) 5 (put s (34 + x) x (s (34 + x) x + 60) (34 + x) 5 + (60 * pt b (nthq P 12 x) - shq hs b * totq hs pt b))) := frs_put (frs_put f (KR_row (by omega) _)) (KR_row (by omega) _)
      refine T_bind (T_mono (shares_eq hB (CLS_KR hC f2) (MEM_cong hM f2) hb hx (by omega) hs1.2 hF) (fun t ht => ?_))
      obtain ⟨t1, t2, t3, t4⟩ := ht
      refine next t ⟨frs_trans f2 t1, fun i hi => ⟨fun q hq => ?_, ?_⟩⟩
      · by_cases c : i = x
        · rw [c, t4 q hq, put_j (by omega), put_at, if_pos (show x < x + 1 by omega)]
          unfold tA
          rw [if_pos e]
          by_cases c2 : q = x
          · rw [if_pos c2, if_pos c2, c2, (i1 x hx).1 x hx, if_neg (by omega)]
            omega
          · rw [if_neg c2, if_neg c2, (i1 x hx).1 q hq, if_neg (by omega)]
            omega
        · rw [t2 (34 + i) (by omega), put_c (by omega), put_c (by omega), (i1 i hi).1 q hq]
          by_cases c2 : i < x
          · rw [if_pos c2, if_pos (by omega)]
          · rw [if_neg c2, if_neg (by omega)]
      · by_cases c : i = x
        · rw [c, t3 5 hn, put_eq, put_j (by omega), (i1 x hx).2, if_neg (by omega), if_pos (by omega)]
          unfold tR
          rw [if_pos e]
          omega
        · rw [t2 (34 + i) (by omega), put_c (by omega), put_c (by omega), (i1 i hi).2]
          by_cases c2 : i < x
          · rw [if_pos c2, if_pos (by omega)]
          · rw [if_neg c2, if_neg (by omega)]
  · intro m s hI
    obtain ⟨f, i1⟩ := hI
    have hM2 := MEM_cong hM f
    show T (b_Scale_addBoard_70 F (l_Scale_addBoard_70 F k160 m) k160 s b ((manyq hs b : Nat) : Int) (totq hs pt b) (shq hs b) n) Q
    unfold b_Scale_addBoard_70
    refine T_yes (by rw [hM2.1]; exact Int.le_refl _) (hk s f (fun i hi => ⟨fun q hq => ?_, ?_⟩))
    · rw [(i1 i hi).1 q hq, if_pos hi]
    · rw [(i1 i hi).2, if_pos hi]
theorem addBoard_eq (hB : BOX nb nj n hs pt P) {s0 : St} (hC : CLS hs pt s0) (hM : MEM n P s0) {b : Nat} (hb : b < 24) {A : Nat → Nat → Int} {R : Nat → Int} (hL : LXr n s0 A R) (hF : 20 ≤ F) : T (f_Scale_addBoard F s0 b) (fun s => frs KR s0 s ∧ LXr n s (fun i q => A i q + tA hs (nthq P 12) b i q) (fun i => R i + tR hs pt (nthq P 12) b i)) := by
  have hn := hB.2.2.2.2.2.2.2.2.1
  have h1 := hB.2.2.2.2.2.2.2.1
  have cl := fb_ct_le (fun i => hs b (nthq P 12 i)) n
  unfold f_Scale_addBoard
  refine add_8 hB hC hM hb ?_ hF
  have none : ∀ (x4 x5 : Int) (c : Nat), c = fb_ct (fun i => hs b (nthq P 12 i)) n → c ≤ 1 → T (l_Scale_addBoard_70 F (fun s6 => some s6) F s0 b (c : Int) x4 x5 0) (fun s => frs KR s0 s ∧ LXr n s (fun i q => A i q + tA hs (nthq P 12) b i q) (fun i => R i + tR hs pt (nthq P 12) b i)) := by
    intro x4 x5 c hc c1
    obtain ⟨F2, rfl⟩ : ∃ F2, F = F2 + 1 := ⟨F - 1, by omega⟩
    show T (b_Scale_addBoard_70 (F2 + 1) (l_Scale_addBoard_70 (F2 + 1) _ F2) _ s0 b (c : Int) x4 x5 0) _
    unfold b_Scale_addBoard_70
    refine T_no (by rw [hM.1, wnat (by omega), show w32 0 = 0 by decide]; omega) (T_yes (by rw [show w32 1 = 1 by decide, wnat (by omega)]; omega) (T_some ⟨frs_refl _ _, fun i hi => ?_⟩))
    have z := few hB (b := b) (by omega) hi
    refine ⟨fun q hq => ?_, ?_⟩
    · dsimp only
      rw [(hL i hi).1 q hq, z.1 q hq, Int.add_zero]
    · dsimp only
      rw [(hL i hi).2, z.2, Int.add_zero]
  show T (if w32 ((fb_ct (fun i => hs b (nthq P 12 i)) n : Nat) : Int) = 0 then _ else _) _
  rw [wnat (by omega)]
  by_cases c : fb_ct (fun i => hs b (nthq P 12 i)) n = 0
  · exact T_yes (by omega) (none _ _ _ rfl (by omega))
  · refine T_no (by omega) (T_gd (by omega) ?_)
    by_cases c1 : fb_ct (fun i => hs b (nthq P 12 i)) n ≤ 1
    · exact none _ _ _ rfl c1
    · obtain ⟨i, hi, hsi⟩ := fb_ct_pos.mp (show 0 < fb_ct (fun i => hs b (nthq P 12 i)) n by omega)
      have mi := BX_mem hB hi
      have mm := BX_many hB hsi mi.2.2.1
      have ss := BX_sh hB hsi mi.2.2.1
      have tt : fb_si (fun i => if hs b (nthq P 12 i) = true then pt b (nthq P 12 i) else 0) n = totq hs pt b := BX_sum hB hsi mi.2.2.1 (pt b)
      rw [tt, mm.1, show (60 : Int) = ((60 : Nat) : Int) from rfl, divI_nat (by decide) (by omega) (by omega)]
      exact add_70 hB hC hM hb (by omega) mm.2.2 ⟨ss.1, ss.2.1⟩ hL (fun s f l => T_some ⟨f, l⟩) hF
theorem set_67 (h1 : 1 ≤ n) (hn : n ≤ 5) {s0 : St} {k100 : St → Option St} {Q : St → Prop} (hk : ∀ s, frs KR s0 s → (∀ c, c ≠ 34 + (n - 1) → ∀ k, s c k = s0 c k) → (∀ q, q < n → s (34 + (n - 1)) q = 1) → s (34 + (n - 1)) 5 = 0 → T (k100 s) Q) (hF : 20 ≤ F) : T (l_Scale_setRows_67 F k100 F s0 ((n : Int) - 1) 0) Q := by
  have en : (n : Int) - 1 = ((n - 1 : Nat) : Int) := by omega
  rw [en]
  refine loopG (l := fun m (s : St) y => l_Scale_setRows_67 F k100 m s ((n - 1 : Nat) : Int) (y : Nat)) (N := 6) (I := fun y s => frs KR s0 s ∧ (∀ c, c ≠ 34 + (n - 1) → ∀ k, s c k = s0 c k) ∧ ∀ k, k < y → s (34 + (n - 1)) k = if k = 5 then 0 else 1) (G := fun r => T r Q) ?_ ?_ 6 0 F s0 (by omega) (by omega) ⟨frs_refl _ _, fun _ _ _ => rfl, fun k hk => absurd hk (Nat.not_lt_zero k)⟩
  · intro m y s hy hI next
    show T (b_Scale_setRows_67 F (l_Scale_setRows_67 F k100 m) k100 s ((n - 1 : Nat) : Int) y) Q
    unfold b_Scale_setRows_67
    have i5 : inb ((n - 1 : Nat) : Int) 5 := inbN (by omega) (by decide)
    have i6 : inb (y : Int) 6 := inbN hy (by decide)
    rw [ix_nat (by omega), ix_nat (by omega)]
    have w5 : w32 5 = 5 := by decide
    have wy : w32 (y : Int) = y := wnat (by omega)
    have wn : w32 ((n - 1 : Nat) : Int) = ((n - 1 : Nat) : Int) := wnat (by omega)
    have go : ∀ v : Int, v = (if y = 5 then 0 else 1) → T (l_Scale_setRows_67 F k100 m (put s (34 + (n - 1)) y v) ((n - 1 : Nat) : Int) ((y : Int) + 1)) Q := by
      intro v hv
      refine next _ ⟨frs_put hI.1 (KR_row (by omega) _), fun c hc k => ?_, fun k hk => ?_⟩
      · rw [put_c hc]; exact hI.2.1 c hc k
      · rw [put_at]
        by_cases e : k = y
        · rw [if_pos e, hv, e]
        · rw [if_neg e]; exact hI.2.2 k (by omega)
    refine T_no (by rw [w5, wy]; omega) (T_no (by rw [wn]; omega) (T_gd i5 ?_))
    by_cases c : y = 5
    · exact T_yes (by rw [w5, wy]; omega) (T_gd i6 (go 0 (by rw [if_pos c])))
    · exact T_no (by rw [w5, wy]; omega) (T_gd i6 (go 1 (by rw [if_neg c])))
  · intro m s hI
    show T (b_Scale_setRows_67 F (l_Scale_setRows_67 F k100 m) k100 s ((n - 1 : Nat) : Int) ((6 : Nat) : Int)) Q
    unfold b_Scale_setRows_67
    refine T_yes (by decide) (hk s hI.1 hI.2.1 (fun q hq => ?_) ?_)
    · rw [hI.2.2 q (by omega), if_neg (by omega)]
    · rw [hI.2.2 5 (by omega), if_pos rfl]
theorem setRows_eq (hB : BOX nb nj n hs pt P) {s0 : St} (hC : CLS hs pt s0) (hM : MEM n P s0) (hF : 30 ≤ F) : T (f_Scale_setRows F s0) (fun s => frs KR s0 s ∧ LXr n s (fun i q => if i + 1 = n then 1 else AA hs (nthq P 12) i q) (fun i => if i + 1 = n then 0 else RR hs pt (nthq P 12) i)) := by
  have hn := hB.2.2.2.2.2.2.2.2.1
  have h1 := hB.2.2.2.2.2.2.2.1
  unfold f_Scale_setRows
  refine set_2 hn hM.1 (fun s1 f1 z1 => ?_) (by omega)
  refine loopG (l := fun m (s : St) x => l_Scale_setRows_40 F (fun s2 => l_Scale_setRows_67 F (fun s3 => some s3) F s2 ((s2 29 2) - 1) 0) m s (x : Nat)) (N := 24) (I := fun B s => frs KR s0 s ∧ LXr n s (fun i q => fb_si (fun b => tA hs (nthq P 12) b i q) B) (fun i => fb_si (fun b => tR hs pt (nthq P 12) b i) B)) (G := fun r => T r _) ?_ ?_ 24 0 F s1 (by omega) (by omega) ⟨f1, fun i hi => ⟨fun q hq => z1 i hi q (by omega), z1 i hi 5 (by omega)⟩⟩
  · intro m b s hb hI next
    obtain ⟨f, i1⟩ := hI
    show T (b_Scale_setRows_40 F (l_Scale_setRows_40 F _ m) _ s b) _
    unfold b_Scale_setRows_40
    refine T_no (by rw [show w32 24 = 24 by decide, wnat (by omega)]; omega) (T_bind (T_mono (addBoard_eq hB (CLS_KR hC f) (MEM_cong hM f) hb i1 (by omega)) (fun t ht => ?_)))
    exact next t ⟨frs_trans f ht.1, ht.2⟩
  · intro m s hI
    obtain ⟨f, i1⟩ := hI
    show T (b_Scale_setRows_40 F (l_Scale_setRows_40 F _ m) _ s ((24 : Nat) : Int)) _
    unfold b_Scale_setRows_40
    refine T_yes (by decide) ?_
    dsimp only
    rw [(MEM_cong hM f).1]
    refine set_67 h1 hn (fun t f2 t1 t2 t3 => T_some ⟨frs_trans f f2, fun i hi => ?_⟩) (by omega)
    by_cases c : i + 1 = n
    · have e : i = n - 1 := by omega
      refine ⟨fun q hq => ?_, ?_⟩
      · dsimp only
        rw [if_pos c, e]; exact t2 q hq
      · dsimp only
        rw [if_pos c, e]; exact t3
    · refine ⟨fun q hq => ?_, ?_⟩
      · dsimp only
        rw [if_neg c, t1 (34 + i) (by omega)]; exact (i1 i hi).1 q hq
      · dsimp only
        rw [if_neg c, t1 (34 + i) (by omega)]; exact (i1 i hi).2
/-! minors -/
def XE (s : St) (col : Int) (i q : Nat) : Int := if (q : Int) = col then s (34 + i) 5 else s (34 + i) q
theorem bt_nat {c : Nat} (hc : c < 4294967296) (q : Nat) : bt (c : Int) q = c.testBit q := by unfold bt; rw [nv_nat hc]
theorem fin_shr : ∀ c, c < 32 → ∀ q, q < 5 → fb_ct (bt (shrI (c : Nat) ((q : Nat) + 1))) 32 = fb_ct (fun p => c.testBit p && decide (q < p)) 5 := by decide +kernel
theorem fin_clr : ∀ c, c < 32 → ∀ q, q < 5 → c.testBit q = true → andI (c : Nat) (xorI (shlI 1 (q : Nat)) (-1)) = ((c - 2 ^ q : Nat) : Int) ∧ 2 ^ q ≤ c ∧ ∀ p, p < 5 → (c - 2 ^ q).testBit p = (c.testBit p && decide (p ≠ q)) := by decide +kernel
theorem fin_ct : ∀ c, c < 32 → fb_ct (bt (c : Nat)) 32 = fb_ct (fun p => c.testBit p) 5 := by decide +kernel
theorem bit_out {n c p : Nat} (hc : c < 2 ^ n) (hp : n ≤ p) : c.testBit p = false := Nat.testBit_lt_two_pow (Nat.lt_of_lt_of_le hc (Nat.pow_le_pow_right (by decide) hp))
theorem minor_eq (hn : n ≤ 5) {s : St} (h29 : s 29 2 = n) {col : Int} (hc : -1 ≤ col ∧ col < 5) {c : Nat} (h0 : 0 < c) (hcn : c < 2 ^ n) {E : Nat → Nat → Int} (hE : ∀ i q, i < n → q < n → XE s col i q = E i q) (hm : ∀ c2, c2 < c → s 39 c2 = DT E n (fb_ct (fun p => c2.testBit p) n) (fun p => c2.testBit p)) (hF : 20 ≤ F) : f_Scale_minor F s c col = some (DT E n (fb_ct (fun p => c.testBit p) n) (fun p => c.testBit p), s) := by
  have l32 : c < 32 := Nat.lt_of_lt_of_le hcn (full_lt hn)
  have ct5 : ∀ f : Nat → Bool, (∀ p, n ≤ p → f p = false) → fb_ct f 5 = fb_ct f n := fun f hf => ct_tail hn hf
  have e1 : fb_ct (bt (c : Nat)) 32 = fb_ct (fun p => c.testBit p) n := by
    rw [fin_ct c l32]
    exact ct5 _ (fun p hp => bit_out hcn hp)
  have pos : 0 < fb_ct (fun p => c.testBit p) n := by
    rcases Nat.eq_zero_or_pos (fb_ct (fun p => c.testBit p) n) with z | z
    · exfalso
      have : c = 0 := Nat.eq_of_testBit_eq (fun p => by
        rw [Nat.zero_testBit]
        by_cases hp : p < n
        · exact fb_ct_zero.mp z p hp
        · exact bit_out hcn (by omega))
      omega
    · exact z
  obtain ⟨k, hk⟩ : ∃ k, fb_ct (fun p => c.testBit p) n = k + 1 := ⟨fb_ct (fun p => c.testBit p) n - 1, by omega⟩
  have kn : k < n := by have := fb_ct_le (fun p => c.testBit p) n; omega
  unfold f_Scale_minor
  rw [bitCount_eq]
  show l_Scale_minor_13 F (fun s2 x4_3 => some (x4_3, s2)) F s c col (((fb_ct (bt (c : Nat)) 32 : Nat) : Int) - 1) 0 0 = _
  rw [e1, hk, DT_succ, show ((k + 1 : Nat) : Int) - 1 = (k : Int) by omega]
  refine loopG (l := fun m (v : Int) x => l_Scale_minor_13 F (fun s2 x4_3 => some (x4_3, s2)) m s c col k v (x : Nat)) (N := n) (I := fun x v => v = fb_si (fun q => if c.testBit q = true then sgq (abv (fun p => c.testBit p) n q) * E k q * DT E n k (cutS (fun p => c.testBit p) q) else 0) x) (G := fun r => r = some (fb_si (fun q => if c.testBit q = true then sgq (abv (fun p => c.testBit p) n q) * E k q * DT E n k (cutS (fun p => c.testBit p) q) else 0) n, s)) ?_ ?_ n 0 F 0 (by omega) (by omega) rfl
  · intro m x v hx hI next
    show b_Scale_minor_13 F (l_Scale_minor_13 F _ m) _ s c col k v x = _
    unfold b_Scale_minor_13
    rw [if_neg (by rw [h29, wnat (by omega), wnat (by omega)]; omega), bitat _ (show x < 32 by omega), bt_nat (by omega), w_b01]
    by_cases b : c.testBit x = true
    · obtain ⟨c1, c2, c3⟩ := fin_clr c l32 x (by omega) b
      have cut : ∀ p, p < n → (c - 2 ^ x).testBit p = cutS (fun p => c.testBit p) x p := fun p hp => c3 p (by omega)
      have p2 : 0 < 2 ^ x := Nat.pow_pos (by decide)
      have mn : s 39 (c - 2 ^ x) = DT E n k (cutS (fun p => c.testBit p) x) := by
        rw [hm (c - 2 ^ x) (by omega)]
        have cc : fb_ct (fun p => (c - 2 ^ x).testBit p) n = k := by
          rw [fb_ct_cong cut]
          have := dct_cut (S := fun p => c.testBit p) hx b
          omega
        rw [cc]
        exact DT_cong (fun _ _ _ _ => rfl) cut
      have sg : fb_ct (bt (shrI (c : Nat) ((x : Nat) + 1))) 32 = abv (fun p => c.testBit p) n x := by
        rw [fin_shr c l32 x (by omega)]
        exact ct5 _ (fun p hp => by rw [bit_out hcn hp]; rfl)
      rw [if_pos (by rw [show w32 1 = 1 by decide]; unfold b01; rw [if_pos b]), c1, ix_nat (show c - 2 ^ x < 2147483648 by omega), ix_nat (show k < 2147483648 by omega), ix_nat (show x < 2147483648 by omega), gd_yes (inbN (by omega) (by decide)), mn]
      have par : ∀ j : Nat, j < 2147483648 → (w32 (andI (j : Int) 1) = 0 ↔ j % 2 = 0) := by
        intro j hj
        rw [and1, b01_0, bt_nat (by omega), Nat.testBit_zero]
        simp
      have fin : ∀ (e : Int), e = E k x → (if w32 (andI ((abv (fun p => c.testBit p) n x : Nat) : Int) 1) = 0 then l_Scale_minor_13 F (fun s2 x4_3 => some (x4_3, s2)) m s c col k (v + e * DT E n k (cutS (fun p => c.testBit p) x)) ((x : Int) + 1) else l_Scale_minor_13 F (fun s2 x4_3 => some (x4_3, s2)) m s c col k (v + -(e * DT E n k (cutS (fun p => c.testBit p) x))) ((x : Int) + 1)) = some (fb_si (fun q => if c.testBit q = true then sgq (abv (fun p => c.testBit p) n q) * E k q * DT E n k (cutS (fun p => c.testBit p) q) else 0) n, s) := by
        intro e he
        have al : abv (fun p => c.testBit p) n x ≤ n := fb_ct_le _ n
        by_cases pq : abv (fun p => c.testBit p) n x % 2 = 0
        · rw [if_pos ((par _ (by omega)).mpr pq)]
          refine next _ ?_
          rw [hI, fb_si_succ, if_pos b, he]
          unfold sgq
          rw [if_pos pq, Int.one_mul]
        · rw [if_neg (fun z => pq ((par _ (by omega)).mp z))]
          refine next _ ?_
          rw [hI, fb_si_succ, if_pos b, he]
          unfold sgq
          rw [if_neg pq, Int.neg_mul, Int.one_mul, Int.neg_mul]
      have ez := hE k x kn hx
      unfold XE at ez
      have hwx : w32 (x : Int) = w32 col ↔ (x : Int) = col := by rw [wnat (by omega), wid (by omega) (by omega)]
      by_cases cx : (x : Int) = col
      · rw [if_pos cx] at ez
        rw [if_pos (hwx.mpr cx), gd_yes (by decide), gd_yes (inbN (by omega) (by decide)), bitCount_eq, sg]
        exact fin _ ez
      · rw [if_neg cx] at ez
        rw [if_neg (fun z => cx (hwx.mp z)), gd_yes (inbN (by omega) (by decide)), gd_yes (inbN (by omega) (by decide)), bitCount_eq, sg]
        exact fin _ ez
    · rw [if_neg (by rw [show w32 1 = 1 by decide]; unfold b01; rw [if_neg b]; decide)]
      refine next v ?_
      rw [hI, fb_si_succ, if_neg b, Int.add_zero]
  · intro m v hI
    show b_Scale_minor_13 F (l_Scale_minor_13 F _ m) _ s c col k v n = _
    unfold b_Scale_minor_13
    rw [if_pos (by rw [h29]; exact Int.le_refl _), hI]
theorem determinant_eq (h1 : 1 ≤ n) (hn : n ≤ 5) {s0 : St} (h29 : s0 29 2 = n) {col : Int} (hc : -1 ≤ col ∧ col < 5) {E : Nat → Nat → Int} (hE : ∀ i q, i < n → q < n → XE s0 col i q = E i q) (hF : 50 ≤ F) : T (f_Scale_determinant F s0 col) (fun q => q.1 = DT E n n (segq n) ∧ frs K39 s0 q.2) := by
  have l32 := full_lt hn
  have p1 : 1 ≤ 2 ^ n := Nat.pow_pos (by decide)
  unfold f_Scale_determinant
  refine T_gd (by decide) ?_
  rw [h29, full_eq hn]
  refine loopG (l := fun m (s : St) x => l_Scale_determinant_18 F (fun s3 x2_4 => gd (inb x2_4 32) (some (s3 39 (ix x2_4), s3))) m s col ((2 ^ n - 1 : Nat) : Int) (x : Nat)) (N := 2 ^ n) (I := fun c s => 1 ≤ c ∧ frs K39 s0 s ∧ ∀ c2, c2 < c → s 39 c2 = DT E n (fb_ct (fun p => c2.testBit p) n) (fun p => c2.testBit p)) (G := fun r => T r _) ?_ ?_ (2 ^ n - 1) 1 F (put s0 39 (ix 0) 1) (by omega) (by omega) ⟨Nat.le_refl 1, frs_put (frs_refl _ _) rfl, fun c2 h2 => ?_⟩
  · intro m c s hcc hI next
    obtain ⟨i0, f, i1⟩ := hI
    show T (b_Scale_determinant_18 F (l_Scale_determinant_18 F _ m) _ s col ((2 ^ n - 1 : Nat) : Int) c) _
    unfold b_Scale_determinant_18
    refine T_no (by rw [wnat (by omega), wnat (by omega)]; omega) (T_bind (T_eq (minor_eq hn (by rw [f 29 2 rfl]; exact h29) hc (by omega) hcc (E := E) (fun i q hi hq => ?_) i1 (by omega)) (T_gd (inbN (by omega) (by decide)) ?_)))
    · rw [← hE i q hi hq]
      unfold XE
      have e : ∀ k, s (34 + i) k = s0 (34 + i) k := fun k => f _ _ (by unfold K39; simp; omega)
      rw [e, e]
    · rw [ix_nat (by omega)]
      refine next _ ⟨by omega, frs_put f rfl, fun c2 h2 => ?_⟩
      show put s 39 c _ 39 c2 = _
      rw [put_at]
      by_cases e : c2 = c
      · rw [if_pos e, e]
      · rw [if_neg e]; exact i1 c2 (by omega)
  · intro m s hI
    obtain ⟨i0, f, i1⟩ := hI
    show T (b_Scale_determinant_18 F (l_Scale_determinant_18 F _ m) _ s col ((2 ^ n - 1 : Nat) : Int) ((2 ^ n : Nat) : Int)) _
    unfold b_Scale_determinant_18
    refine T_yes (by rw [wnat (by omega), wnat (by omega)]; omega) (T_gd (inbN (by omega) (by decide)) (T_some ⟨?_, f⟩))
    show s 39 (ix ((2 ^ n - 1 : Nat) : Int)) = _
    rw [ix_nat (by omega), i1 _ (by omega)]
    have e : ∀ q, q < n → (2 ^ n - 1).testBit q = segq n q := fun q hq => by rw [Nat.testBit_two_pow_sub_one]; rfl
    rw [fb_ct_cong e, ct_seg]
    exact DT_cong (fun _ _ _ _ => rfl) e
  · have e : c2 = 0 := by omega
    subst e
    show put s0 39 (ix 0) 1 39 0 = _
    rw [show ix 0 = 0 by decide, put_eq, fb_ct_zero.mpr (fun k _ => Nat.zero_testBit k)]
    rfl
theorem weigh_k (hB : BOX nb nj n hs pt P) {s0 : St} (hC : CLS hs pt s0) {h : Int} (hP : ∀ j, j < 12 → (w32 (s0 26 j) = w32 h ↔ P j = true)) (hF : 50 ≤ F) {Q : St → Prop} (hk : ∀ t, frs KW s0 t → (∀ i : Nat, i < n → t 30 (nthq P 12 i) = (if 0 ≤ DT (EE hs pt (nthq P 12) n (-1)) n n (segq n) then DT (EE hs pt (nthq P 12) n i) n n (segq n) else - DT (EE hs pt (nthq P 12) n i) n n (segq n)) ∧ t 31 (nthq P 12 i) = ((DT (EE hs pt (nthq P 12) n (-1)) n n (segq n)).natAbs : Int)) → (∀ j, P j = false → t 30 j = s0 30 j ∧ t 31 j = s0 31 j) → Q t) : T (f_Scale_weigh F s0 h) Q := by
  have hn := hB.2.2.2.2.2.2.2.2.1
  have h1 := hB.2.2.2.2.2.2.2.1
  unfold f_Scale_weigh
  refine T_bind (T_mono (gather_eq hB hP (by omega)) (fun s1 hs1 => ?_))
  obtain ⟨f1, g1, g2⟩ := hs1
  have hM1 : MEM n P s1 := ⟨g1, g2⟩
  have hC1 : CLS hs pt s1 := CLS_cong hC (fun j => f1 27 j rfl)
  refine T_bind (T_mono (setRows_eq hB hC1 hM1 (by omega)) (fun s2 hs2 => ?_))
  obtain ⟨f2, l2⟩ := hs2
  have hM2 := MEM_cong hM1 f2
  have xe : ∀ (t : St) (col : Int), (∀ i, i < 5 → ∀ k, t (34 + i) k = s2 (34 + i) k) → ∀ i q, i < n → q < n → XE t col i q = EE hs pt (nthq P 12) n col i q := by
    intro t col ht i q hi hq
    unfold XE EE
    rw [ht i (by omega), ht i (by omega), (l2 i hi).1 q hq, (l2 i hi).2]
  refine T_bind (T_mono (determinant_eq h1 hn hM2.1 (col := -1) ⟨by decide, by decide⟩ (xe s2 (-1) (fun _ _ _ => rfl)) hF) (fun q3 hq3 => ?_))
  obtain ⟨d3, f3⟩ := hq3
  have bd := EE_bd hB (col := -1) (c := 99) (fun q hq => ⟨fun e => by omega, fun e => by omega⟩)
  rw [if_neg (by omega)] at bd
  have rd : R63 (DT (EE hs pt (nthq P 12) n (-1)) n n (segq n)) := R63_abs.mpr (by omega)
  rw [d3]
  have f03 : frs KW s0 q3.2 := frs_trans (KG_KW f1) (frs_trans (KR_KW f2) (K39_KW f3))
  have k30 : ∀ j, q3.2 30 j = s0 30 j := fun j => by rw [f3 30 j rfl, f2 30 j rfl, f1 30 j rfl]
  have k31 : ∀ j, q3.2 31 j = s0 31 j := fun j => by rw [f3 31 j rfl, f2 31 j rfl, f1 31 j rfl]
  have r3 : ∀ i, i < 5 → ∀ k, q3.2 (34 + i) k = s2 (34 + i) k := fun i hi k => f3 _ _ (by unfold K39; simp; omega)
  have m3 : ∀ i, i < n → q3.2 32 i = ((nthq P 12 i : Nat) : Int) := fun i hi => by rw [f3 32 i rfl]; exact hM2.2 i hi
  have n3 : q3.2 29 2 = n := by rw [f3 29 2 rfl]; exact hM2.1
  generalize q3.2 = s3 at f03 k30 k31 r3 m3 n3 ⊢
  refine loopG (l := fun m (s : St) x => l_Scale_weigh_20 F (fun s4 => some s4) m s (DT (EE hs pt (nthq P 12) n (-1)) n n (segq n)) (x : Nat)) (N := n) (I := fun x s => frs KW s0 s ∧ (∀ i, i < 5 → ∀ k, s (34 + i) k = s2 (34 + i) k) ∧ (∀ i, i < n → s 32 i = ((nthq P 12 i : Nat) : Int)) ∧ s 29 2 = n ∧ (∀ i : Nat, i < x → s 30 (nthq P 12 i) = (if 0 ≤ DT (EE hs pt (nthq P 12) n (-1)) n n (segq n) then DT (EE hs pt (nthq P 12) n i) n n (segq n) else - DT (EE hs pt (nthq P 12) n i) n n (segq n)) ∧ s 31 (nthq P 12 i) = ((DT (EE hs pt (nthq P 12) n (-1)) n n (segq n)).natAbs : Int)) ∧ ∀ j, P j = false → s 30 j = s0 30 j ∧ s 31 j = s0 31 j) (G := fun r => T r Q) ?_ ?_ n 0 F s3 (by omega) (by omega) ⟨f03, r3, m3, n3, fun i hi => absurd hi (Nat.not_lt_zero i), fun j _ => ⟨k30 j, k31 j⟩⟩
  · intro m x s hx hI next
    obtain ⟨i1, i2, i3, i4, i5, i6⟩ := hI
    have mx := BX_mem hB hx
    show T (b_Scale_weigh_20 F (l_Scale_weigh_20 F _ m) _ s (DT (EE hs pt (nthq P 12) n (-1)) n n (segq n)) x) _
    unfold b_Scale_weigh_20
    refine T_no (by rw [i4, wnat (by omega), wnat (by omega)]; omega) (T_bind (T_mono (determinant_eq h1 hn i4 (col := x) ⟨by omega, by omega⟩ (xe s x i2) hF) (fun r hr => ?_)))
    obtain ⟨r1, r2⟩ := hr
    have ib : inb (x : Int) 5 := inbN (by omega) (by decide)
    have im : inb ((nthq P 12 x : Nat) : Int) 12 := inbN mx.2.1 (by decide)
    refine T_gd ib ?_
    rw [ix_nat (show x < 2147483648 by omega), r2 32 x rfl, i3 x hx, w64_R rd, w64_0, r1]
    have go : ∀ v : Int, v = (if 0 ≤ DT (EE hs pt (nthq P 12) n (-1)) n n (segq n) then DT (EE hs pt (nthq P 12) n x) n n (segq n) else - DT (EE hs pt (nthq P 12) n x) n n (segq n)) → T (b_Scale_weigh_62 F (l_Scale_weigh_20 F (fun s4 => some s4) m) (fun s4 => some s4) r.2 (DT (EE hs pt (nthq P 12) n (-1)) n n (segq n)) x v ((nthq P 12 x : Nat) : Int)) Q := by
      intro v hv
      unfold b_Scale_weigh_62
      refine T_gd im ?_
      rw [ix_nat (show nthq P 12 x < 2147483648 by omega)]
      refine T_gd ib (T_bind (T_eq (absX_eq rd) ?_))
      show T (gd (inb (put r.2 30 (nthq P 12 x) v 32 (ix (x : Int))) 12) (l_Scale_weigh_20 F (fun s4 => some s4) m (put (put r.2 30 (nthq P 12 x) v) 31 (ix (put r.2 30 (nthq P 12 x) v 32 (ix (x : Int)))) ((DT (EE hs pt (nthq P 12) n (-1)) n n (segq n)).natAbs : Int)) (DT (EE hs pt (nthq P 12) n (-1)) n n (segq n)) ((x : Int) + 1))) _
      rw [ix_nat (show x < 2147483648 by omega), put_c (show (32 : Nat) ≠ 30 by decide), r2 32 x rfl, i3 x hx, ix_nat (show nthq P 12 x < 2147483648 by omega)]
      refine T_gd im (next _ ⟨frs_put (frs_put (frs_trans i1 (K39_KW r2)) rfl) rfl, fun i hi k => ?_, fun i hi => ?_, ?_, fun i hi => ?_, fun j hj => ?_⟩)
      · rw [put_c (by omega), put_c (by omega), r2 _ _ (by unfold K39; simp; omega)]; exact i2 i hi k
      · rw [put_c (by decide), put_c (by decide), r2 32 i rfl]; exact i3 i hi
      · rw [put_c (by decide), put_c (by decide), r2 29 2 rfl]; exact i4
      · rw [put_c (show (30 : Nat) ≠ 31 by decide), put_at, put_at]
        by_cases e : i = x
        · have en : nthq P 12 i = nthq P 12 x := by rw [e]
          rw [if_pos en, if_pos en, e]; exact ⟨hv, rfl⟩
        · have ne : nthq P 12 i ≠ nthq P 12 x := fun q => e (by rw [← (BX_mem hB (show i < n by omega)).2.2.2, q, mx.2.2.2])
          rw [if_neg ne, if_neg ne, put_c (show (31 : Nat) ≠ 30 by decide), r2 30 _ rfl, r2 31 _ rfl]
          exact i5 i (by omega)
      · have ne : j ≠ nthq P 12 x := fun q => by rw [q, mx.2.2.1] at hj; cases hj
        rw [put_c (show (30 : Nat) ≠ 31 by decide), put_j ne, put_j ne, put_c (show (31 : Nat) ≠ 30 by decide), r2 30 _ rfl, r2 31 _ rfl]
        exact i6 j hj
    by_cases c : 0 ≤ DT (EE hs pt (nthq P 12) n (-1)) n n (segq n)
    · exact T_yes c (go _ (by rw [if_pos c]))
    · exact T_no c (go _ (by rw [if_neg c]))
  · intro m s hI
    obtain ⟨i1, i2, i3, i4, i5, i6⟩ := hI
    show T (b_Scale_weigh_20 F (l_Scale_weigh_20 F _ m) _ s (DT (EE hs pt (nthq P 12) n (-1)) n n (segq n)) n) _
    unfold b_Scale_weigh_20
    exact T_yes (by rw [i4]; exact Int.le_refl _) (T_some (hk s i1 i5 i6))
theorem weigh_eq (hB : BOX nb nj n hs pt P) {s0 : St} (hC : CLS hs pt s0) {h : Int} (hP : ∀ j, j < 12 → (w32 (s0 26 j) = w32 h ↔ P j = true)) (hF : 50 ≤ F) : T (f_Scale_weigh F s0 h) (fun t => frs KW s0 t ∧ (∀ i : Nat, i < n → t 30 (nthq P 12 i) = (if 0 ≤ DT (EE hs pt (nthq P 12) n (-1)) n n (segq n) then DT (EE hs pt (nthq P 12) n i) n n (segq n) else - DT (EE hs pt (nthq P 12) n i) n n (segq n)) ∧ t 31 (nthq P 12 i) = ((DT (EE hs pt (nthq P 12) n (-1)) n n (segq n)).natAbs : Int)) ∧ ∀ j, P j = false → t 30 j = s0 30 j ∧ t 31 j = s0 31 j) := weigh_k hB hC hP hF (fun t a b c => ⟨a, b, c⟩)
end WG
