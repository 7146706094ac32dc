/-! the reference's solve -/
def KS (c j : Nat) : Bool := c == 27 || c == 28 || c == 29 || c == 30 || c == 31 || (c == 0 && (j == 39 || j == 43))
def K29 (c j : Nat) : Bool := c == 29
def K30 (c j : Nat) : Bool := c == 29 || c == 30
def REF (nb nj : Nat) (hs : Nat → Nat → Bool) (pt : Nat → Nat → Int) (s : St) : Prop := HC hs nb nj s ∧ ∀ b j, hs b j = true → 0 ≤ s 25 (12 * b + j) ∧ s 25 (12 * b + j) < 200 ∧ s 22 (s 25 (12 * b + j)).toNat = pt b j
theorem REF_cong {nb nj : Nat} {hs : Nat → Nat → Bool} {pt : Nat → Nat → Int} {s t : St} (h : REF nb nj hs pt s) (f : frs KS s t) : REF nb nj hs pt t := by
  obtain ⟨⟨d1, d2, d3, d4, d5, d6⟩, h2⟩ := h
  refine ⟨⟨d1, d2, by rw [f 0 4 rfl]; exact d3, by rw [f 0 5 rfl]; exact d4, d5, fun b j hb hj => ?_⟩, fun b j hb => ?_⟩
  · rw [f 25 _ rfl]; exact d6 b j hb hj
  · rw [f 25 _ rfl, f 22 _ rfl]; exact h2 b j hb
theorem frs_K29 {s t : St} (h : frs K29 s t) : frs K30 s t := frs_sub h (fun c j e => by unfold K29 at e; unfold K30; rw [e]; rfl)
theorem frs_K30 {s t : St} (h : frs K30 s t) : frs KS s t := frs_sub h (fun c j e => by
  unfold K30 at e; unfold KS
  simp only [Bool.or_eq_true] at e ⊢
  rcases e with e | e
  · exact .inl (.inl (.inl (.inr e)))
  · exact .inl (.inl (.inr e)))
theorem frs_K28 {s t : St} (h : frs K28 s t) : frs KS s t := frs_sub h (fun c j e => by
  unfold K28 at e; unfold KS
  rw [e]
  simp)
theorem cell_ref {nb nj : Nat} {hs : Nat → Nat → Bool} {pt : Nat → Nat → Int} {s : St} (h : REF nb nj hs pt s) {b j : Nat} (hb : b < nb) (hj : j < nj) : (hs b j = true → 0 ≤ w32 (s 25 (12 * b + j)) ∧ inb (s 25 (12 * b + j)) 200 ∧ s 22 (ix (s 25 (12 * b + j))) = pt b j) ∧ (hs b j = false → w32 (s 25 (12 * b + j)) < 0) := by
  obtain ⟨⟨d1, d2, d3, d4, d5, d6⟩, h2⟩ := h
  have z := d6 b j hb hj
  refine ⟨fun e => ?_, fun e => ?_⟩
  · have y := h2 b j e
    rw [wid (by omega) (by omega), ix_id y.1 (by omega)]
    exact ⟨y.1, inb_id y.1 (by omega) (by decide), y.2.2⟩
  · rw [wid z.1.1 (by have := z.2.mpr e; omega)]
    exact z.2.mpr e
section SV
variable {F nb nj n : Nat} {hs : Nat → Nat → Bool} {pt : Nat → Nat → Int} {P : Nat → Bool}
theorem sol_7 (hB : BOX nb nj n hs pt P) {s0 : St} (hR : REF nb nj hs pt s0) {h : Int} (hP : ∀ j, j < nj → (w32 (s0 26 j) = w32 h ↔ P j = true)) (h39 : s0 0 39 = 0) {k54 : St → Option St} {Q : St → Prop} (hk : ∀ s, frs KS s0 s → s 0 39 = n → (∀ i, i < n → s 27 i = ((nthq P 12 i : Nat) : Int)) → T (k54 s) Q) (hF : 20 ≤ F) : T (l_M_solve_7 F k54 F s0 h 0) Q := by
  obtain ⟨h1, h2, h3, h4, h5, h6, h7, h8, h9, h10⟩ := hB
  have r5 : s0 0 5 = nj := hR.1.2.2.2.1
  refine loopG (l := fun m (s : St) x => l_M_solve_7 F k54 m s h (x : Nat)) (N := nj) (I := fun j s => frs KS s0 s ∧ s 0 39 = ((fb_ct P j : Nat) : Int) ∧ ∀ k, k < j → P k = true → s 27 (fb_ct P k) = (k : Int)) (G := fun r => T r Q) ?_ ?_ nj 0 F s0 (by omega) (by omega) ⟨frs_refl _ _, h39, fun k hk => absurd hk (Nat.not_lt_zero k)⟩
  · intro m j s hj hI next
    obtain ⟨f, i1, i2⟩ := hI
    show T (b_M_solve_7 F (l_M_solve_7 F k54 m) k54 s h j) Q
    unfold b_M_solve_7
    refine T_no (by rw [f 0 5 rfl, r5, wnat (by omega), wnat (by omega)]; omega) (T_gd (inbN (by omega) (by decide)) ?_)
    rw [ix_nat (by omega), f 26 j rfl]
    by_cases c : P j = true
    · have lt : fb_ct P (j + 1) ≤ fb_ct P 12 := fb_ct_mono P (by omega)
      rw [fb_ct_succ, if_pos c] at lt
      refine T_yes ((hP j hj).mpr c) ?_
      rw [i1]
      refine T_gd (inbN (by omega) (by decide)) ?_
      rw [ix_nat (by omega)]
      refine next _ ⟨frs_put (frs_put f rfl) rfl, ?_, fun k hk hPk => ?_⟩
      · rw [put_eq, fb_ct_succ, if_pos c, put_c (by decide), i1]; omega
      · rw [put_c (by decide), put_at]
        by_cases e : k = j
        · rw [e, if_pos rfl]
        · rw [if_neg (fun q => e (fb_ct_kth_one hPk c q))]
          exact i2 k (by omega) hPk
    · refine T_no (fun q => c ((hP j hj).mp q)) (next s ⟨f, ?_, fun k hk hPk => ?_⟩)
      · rw [i1, fb_ct_succ, if_neg c, Nat.add_zero]
      · exact i2 k (by have : k ≠ j := fun e => c (by rw [← e]; exact hPk); omega) hPk
  · intro m s hI
    obtain ⟨f, i1, i2⟩ := hI
    show T (b_M_solve_7 F (l_M_solve_7 F k54 m) k54 s h nj) Q
    unfold b_M_solve_7
    have e : fb_ct P 12 = fb_ct P nj := ct_tail h2 (fun k hk => by
      cases c : P k with
      | false => rfl
      | true => have := h5 k c; omega)
    refine T_yes (by rw [f 0 5 rfl, r5]; exact Int.le_refl _) (hk s f (by rw [i1]; omega) (fun i hi => ?_))
    have z := nthq_spec (P := P) (N := 12) (i := i) (by omega)
    have y := i2 _ (h5 _ z.2.1) z.2.1
    rw [z.2.2] at y
    exact y
theorem sol_61 {s0 : St} {x2 : Int} {k80 : St → Int → Option St} {Q : St → Prop} (hk : ∀ s, frs K29 s0 s → (∀ k, k < 25 → s 29 k = 0) → T (k80 s x2) Q) (hF : 30 ≤ F) : T (l_M_solve_61 F k80 F s0 x2 0) Q := by
  refine loopG (l := fun m (s : St) x => l_M_solve_61 F k80 m s x2 (x : Nat)) (N := 25) (I := fun x s => frs K29 s0 s ∧ ∀ k, k < x → s 29 k = 0) (G := fun r => T r Q) ?_ ?_ 25 0 F s0 (by omega) (by omega) ⟨frs_refl _ _, fun k hk => absurd hk (Nat.not_lt_zero k)⟩
  · intro m x s hx hI next
    show T (b_M_solve_61 F (l_M_solve_61 F k80 m) k80 s x2 x) Q
    unfold b_M_solve_61
    refine T_no (by rw [show w32 25 = 25 by decide, wnat (by omega)]; omega) (T_gd (inbN hx (by decide)) ?_)
    rw [ix_nat (by omega)]
    refine next _ ⟨frs_put hI.1 rfl, fun k hk => ?_⟩
    rw [put_at]
    by_cases e : k = x
    · rw [if_pos e]
    · rw [if_neg e]; exact hI.2 k (by omega)
  · intro m s hI
    show T (b_M_solve_61 F (l_M_solve_61 F k80 m) k80 s x2 ((25 : Nat) : Int)) Q
    unfold b_M_solve_61
    exact T_yes (by decide) (hk s hI.1 hI.2)
theorem sol_82 (hn : n ≤ 5) {s0 : St} {k100 : St → Int → Option St} {Q : St → Prop} (hk : ∀ s, frs K30 s0 s → (∀ k, s 29 k = s0 29 k) → (∀ k, k < n → s 30 k = 0) → T (k100 s n) Q) (hF : 30 ≤ F) : T (l_M_solve_82 F k100 F s0 n 0) Q := by
  refine loopG (l := fun m (s : St) x => l_M_solve_82 F k100 m s n (x : Nat)) (N := n) (I := fun x s => frs K30 s0 s ∧ (∀ k, s 29 k = s0 29 k) ∧ ∀ k, k < x → s 30 k = 0) (G := fun r => T r Q) ?_ ?_ n 0 F s0 (by omega) (by omega) ⟨frs_refl _ _, fun _ => rfl, fun k hk => absurd hk (Nat.not_lt_zero k)⟩
  · intro m x s hx hI next
    show T (b_M_solve_82 F (l_M_solve_82 F k100 m) k100 s n x) Q
    unfold b_M_solve_82
    refine T_no (by rw [wnat (by omega), wnat (by omega)]; omega) (T_gd (inbN (by omega) (by decide)) ?_)
    rw [ix_nat (by omega)]
    refine next _ ⟨frs_put hI.1 rfl, fun k => ?_, fun k hk => ?_⟩
    · rw [put_c (by decide)]; exact hI.2.1 k
    · rw [put_at]
      by_cases e : k = x
      · rw [if_pos e]
      · rw [if_neg e]; exact hI.2.2 k (by omega)
  · intro m s hI
    show T (b_M_solve_82 F (l_M_solve_82 F k100 m) k100 s n n) Q
    unfold b_M_solve_82
    exact T_yes (Int.le_refl _) (hk s hI.1 hI.2.1 hI.2.2)
theorem sol_131 (hB : BOX nb nj n hs pt P) {s : St} (hR : REF nb nj hs pt s) {b : Nat} (hb : b < nb) {x2 x4 : Int} {k186 : St → Int → Int → Int → Int → Option St} {Q : St → Prop} (hk : T (k186 s x2 b x4 (totq hs pt b)) Q) (hF : 20 ≤ F) : T (l_M_solve_131 F k186 F s x2 b x4 0 0) Q := by
  obtain ⟨h1, h2, h3, h4, h5, h6, h7, h8, h9, h10⟩ := hB
  have r5 : s 0 5 = nj := hR.1.2.2.2.1
  refine loopG (l := fun m (v : Int) x => l_M_solve_131 F k186 m s x2 b x4 v (x : Nat)) (N := nj) (I := fun j v => v = fb_si (fun j => if hs b j = true then pt b j else 0) j) (G := fun r => T r Q) ?_ ?_ nj 0 F 0 (by omega) (by omega) rfl
  · intro m j v hj hI next
    show T (b_M_solve_131 F (l_M_solve_131 F k186 m) k186 s x2 b x4 v j) Q
    unfold b_M_solve_131
    have cl := cell_ref hR hb hj
    refine T_no (by rw [r5, wnat (by omega), wnat (by omega)]; omega) (T_bind (T_eq at_eq (T_gd (inbN (by omega) (by decide)) ?_)))
    show T (if w32 (s 25 (ix ((12 * b + j : Nat) : Int))) < 0 then _ else _) Q
    rw [ix_nat (by omega)]
    cases e : hs b j with
    | false =>
      refine T_yes (cl.2 e) (next _ ?_)
      rw [fb_si_succ, e, hI]
      simp
    | true =>
      have y := cl.1 e
      have p := h4 b j e
      refine T_no (by omega) (T_bind (T_eq at_eq (T_gd (inbN (by omega) (by decide)) ?_)))
      show T (gd (inb (s 25 (ix ((12 * b + j : Nat) : Int))) 200) (l_M_solve_131 F k186 m s x2 b x4 (v + w32 (s 22 (ix (s 25 (ix ((12 * b + j : Nat) : Int)))))) ((j : Int) + 1))) Q
      rw [ix_nat (by omega)]
      refine T_gd y.2.1 (next _ ?_)
      rw [fb_si_succ, e, hI, y.2.2, wid (by omega) (by omega)]
      simp
  · intro m v hI
    show T (b_M_solve_131 F (l_M_solve_131 F k186 m) k186 s x2 b x4 v nj) Q
    unfold b_M_solve_131
    refine T_yes (by rw [r5]; exact Int.le_refl _) ?_
    have e : v = totq hs pt b := by
      rw [hI]
      unfold totq
      obtain ⟨d, hd⟩ : ∃ d, 12 = nj + d := ⟨12 - nj, by omega⟩
      rw [hd, fb_si_split]
      rw [show fb_si (fun k => if hs b (nj + k) = true then pt b (nj + k) else 0) d = 0 from (fb_si_cong (fun k hk => if_neg (fun c => by have := (h3 b _ c).2; omega))).trans (dsi_zero d), Int.add_zero]
    rw [e]
    exact hk
theorem sh_div (hs : Nat → Nat → Bool) {b : Nat} (h1 : 1 ≤ manyq hs b) (h2 : manyq hs b ≤ 12) : divL 60 (w32 ((manyq hs b : Nat) : Int)) = shq hs b ∧ ¬ w64 (w32 ((manyq hs b : Nat) : Int)) = 0 := by
  rw [wnat (by omega)]
  refine ⟨?_, ?_⟩
  · rw [divL_id ⟨by decide, by decide⟩ (RNt (by omega))]
    rfl
  · rw [w64_R (RNt (by omega))]; omega
theorem sol_275 (hB : BOX nb nj n hs pt P) {s0 : St} (hR : REF nb nj hs pt s0) (hm : ∀ i, i < n → s0 27 i = ((nthq P 12 i : Nat) : Int)) {b i : Nat} (hb : b < nb) (hi : i < n) (m1 : 1 ≤ manyq hs b) (m2 : manyq hs b ≤ 12) {x5 : Int} {k332 : St → Int → Int → Int → Int → Int → Option St} {Q : St → Prop} (hk : ∀ s, frs K29 s0 s → (∀ k, k < 5 * i ∨ 5 * i + n ≤ k → s 29 k = s0 29 k) → (∀ q, q < n → s 29 (5 * i + q) = s0 29 (5 * i + q) - (if hs b (nthq P 12 q) = true then shq hs b else 0)) → T (k332 s n b ((manyq hs b : Nat) : Int) x5 i) Q) (hF : 20 ≤ F) : T (l_M_solve_275 F k332 F s0 n b ((manyq hs b : Nat) : Int) x5 i 0) Q := by
  have h9 := hB.2.2.2.2.2.2.2.2.1
  have hnb := hB.1
  have hnj := hB.2.1
  have sd := sh_div hs m1 m2
  refine loopG (l := fun m (s : St) x => l_M_solve_275 F k332 m s n b ((manyq hs b : Nat) : Int) x5 i (x : Nat)) (N := n) (I := fun y s => frs K29 s0 s ∧ (∀ k, k < 5 * i ∨ 5 * i + n ≤ k → s 29 k = s0 29 k) ∧ ∀ q, q < n → s 29 (5 * i + q) = s0 29 (5 * i + q) - (if q < y ∧ hs b (nthq P 12 q) = true then shq hs b else 0)) (G := fun r => T r Q) ?_ ?_ n 0 F s0 (by omega) (by omega) ⟨frs_refl _ _, fun _ _ => rfl, fun q hq => by rw [if_neg (fun c => Nat.not_lt_zero q c.1)]; omega⟩
  · intro m y s hy hI next
    obtain ⟨f, i1, i2⟩ := hI
    have hR2 := REF_cong hR (frs_K30 (frs_K29 f))
    have mq := BX_mem hB hy
    have cl := cell_ref hR2 hb mq.1
    show T (b_M_solve_275 F (l_M_solve_275 F k332 m) k332 s n b ((manyq hs b : Nat) : Int) x5 i y) Q
    unfold b_M_solve_275 b_M_solve_324
    have e5 : 5 * (i : Int) + (y : Int) = ((5 * i + y : Nat) : Int) := by omega
    have i25 : inb ((5 * i + y : Nat) : Int) 25 := inbN (by omega) (by decide)
    refine T_no (by rw [wnat (by omega), wnat (by omega)]; omega) ?_
    rw [e5, ix_nat (by omega), ix_nat (by omega), f 27 y rfl, hm y hy]
    refine T_gd i25 (T_gd (inbN (by omega) (by decide)) (T_bind (T_eq at_eq (T_gd (inbN (by omega) (by decide)) ?_))))
    have go : ∀ v : Int, v = (if hs b (nthq P 12 y) = true then shq hs b else 0) → T (l_M_solve_275 F k332 m (put s 29 (5 * i + y) (s 29 (5 * i + y) - v)) n b ((manyq hs b : Nat) : Int) x5 i ((y : Int) + 1)) Q := by
      intro v hv
      refine next _ ⟨frs_put f rfl, fun k hk => ?_, fun q hq => ?_⟩
      · rw [put_j (by omega)]; exact i1 k hk
      · rw [put_at]
        by_cases e : q = y
        · rw [if_pos (by omega), i2 y hy, if_neg (fun c => by omega), hv, e]
          by_cases c : hs b (nthq P 12 y) = true
          · rw [if_pos c, if_pos ⟨by omega, c⟩]; omega
          · rw [if_neg c, if_neg (fun z => c z.2)]; omega
        · rw [if_neg (by omega), i2 q hq]
          by_cases c : q < y ∧ hs b (nthq P 12 q) = true
          · rw [if_pos c, if_pos ⟨by omega, c.2⟩]
          · rw [if_neg c, if_neg (fun z => c ⟨by omega, z.2⟩)]
    show T (if w32 (s 25 (ix ((12 * b + nthq P 12 y : Nat) : Int))) < 0 then gd (inb ((5 * i + y : Nat) : Int) 25) (l_M_solve_275 F k332 m (put s 29 (5 * i + y) (s 29 (5 * i + y) - 0)) n b ((manyq hs b : Nat) : Int) x5 i ((y : Int) + 1)) else gd (¬ w64 (w32 ((manyq hs b : Nat) : Int)) = 0) (gd (inb ((5 * i + y : Nat) : Int) 25) (l_M_solve_275 F k332 m (put s 29 (5 * i + y) (s 29 (5 * i + y) - divL 60 (w32 ((manyq hs b : Nat) : Int)))) n b ((manyq hs b : Nat) : Int) x5 i ((y : Int) + 1)))) Q
    rw [ix_nat (by omega), sd.1]
    cases e : hs b (nthq P 12 y) with
    | false => exact T_yes (cl.2 e) (T_gd i25 (go 0 (by rw [e]; rfl)))
    | true => exact T_no (by have := (cl.1 e).1; omega) (T_gd sd.2 (T_gd i25 (go (shq hs b) (by rw [e]; rfl))))
  · intro m s hI
    obtain ⟨f, i1, i2⟩ := hI
    show T (b_M_solve_275 F (l_M_solve_275 F k332 m) k332 s n b ((manyq hs b : Nat) : Int) x5 i n) Q
    unfold b_M_solve_275
    refine T_yes (Int.le_refl _) (hk s f i1 (fun q hq => ?_))
    rw [i2 q hq]
    by_cases c : hs b (nthq P 12 q) = true
    · rw [if_pos c, if_pos ⟨hq, c⟩]
    · rw [if_neg c, if_neg (fun z => c z.2)]
theorem sol_189 (hB : BOX nb nj n hs pt P) {s0 : St} (hR : REF nb nj hs pt s0) (hm : ∀ i, i < n → s0 27 i = ((nthq P 12 i : Nat) : Int)) {b : Nat} (hb : b < nb) (m1 : 1 ≤ manyq hs b) (m2 : manyq hs b ≤ 12) {k338 : St → Int → Int → Option St} {Q : St → Prop} (hk : ∀ s, frs K30 s0 s → (∀ i, i < n → (∀ q, q < n → s 29 (5 * i + q) = s0 29 (5 * i + q) + tA hs (nthq P 12) b i q) ∧ s 30 i = s0 30 i + tR hs pt (nthq P 12) b i) → T (k338 s n b) Q) (hF : 20 ≤ F) : T (l_M_solve_189 F k338 F s0 n b ((manyq hs b : Nat) : Int) (totq hs pt b) 0) Q := by
  have h9 := hB.2.2.2.2.2.2.2.2.1
  have h4 := hB.2.2.2.1
  have hnb := hB.1
  have hnj := hB.2.1
  have sd := sh_div hs m1 m2
  refine loopG (l := fun m (s : St) x => l_M_solve_189 F k338 m s n b ((manyq hs b : Nat) : Int) (totq hs pt b) (x : Nat)) (N := n) (I := fun x s => frs K30 s0 s ∧ ∀ i, i < n → (∀ q, q < n → s 29 (5 * i + q) = s0 29 (5 * i + q) + (if i < x then tA hs (nthq P 12) b i q else 0)) ∧ s 30 i = s0 30 i + (if i < x then tR hs pt (nthq P 12) b i else 0)) (G := fun r => T r Q) ?_ ?_ n 0 F s0 (by omega) (by omega) ⟨frs_refl _ _, fun i hi => ⟨fun q hq => by rw [if_neg (Nat.not_lt_zero i)]; omega, by rw [if_neg (Nat.not_lt_zero i)]; omega⟩⟩
  · intro m x s hx hI next
    obtain ⟨f, i1⟩ := hI
    have hR2 := REF_cong hR (frs_K30 f)
    have mx := BX_mem hB hx
    have cl := cell_ref hR2 hb mx.1
    show T (b_M_solve_189 F (l_M_solve_189 F k338 m) k338 s n b ((manyq hs b : Nat) : Int) (totq hs pt b) x) Q
    unfold b_M_solve_189
    have e5 : 5 * (x : Int) + (x : Int) = ((5 * x + x : Nat) : Int) := by omega
    have i25 : inb ((5 * x + x : Nat) : Int) 25 := inbN (by omega) (by decide)
    have i5 : inb (x : Int) 5 := inbN (by omega) (by decide)
    refine T_no (by rw [wnat (by omega), wnat (by omega)]; omega) (T_gd i5 ?_)
    rw [ix_nat (show x < 2147483648 by omega), f 27 x rfl, hm x hx, e5]
    refine T_bind (T_eq at_eq (T_gd (inbN (by omega) (by decide)) ?_))
    show T (if 0 ≤ w32 (s 25 (ix ((12 * b + nthq P 12 x : Nat) : Int))) then gd (inb ((5 * x + x : Nat) : Int) 25) (gd (inb ((5 * x + x : Nat) : Int) 25) (gd (inb (x : Int) 5) (gd (inb (s 25 (ix ((12 * b + nthq P 12 x : Nat) : Int))) 200) (gd (¬ w64 (w32 ((manyq hs b : Nat) : Int)) = 0) (gd (inb (x : Int) 5) (l_M_solve_275 F (fun s14 x2_15 x3_16 x4_17 x5_18 x7_19 => l_M_solve_189 F k338 m s14 x2_15 x3_16 x4_17 x5_18 (x7_19 + 1)) F (put (put s 29 (ix ((5 * x + x : Nat) : Int)) (s 29 (ix ((5 * x + x : Nat) : Int)) + 60)) 30 x ((put s 29 (ix ((5 * x + x : Nat) : Int)) (s 29 (ix ((5 * x + x : Nat) : Int)) + 60)) 30 x + (60 * w32 ((put s 29 (ix ((5 * x + x : Nat) : Int)) (s 29 (ix ((5 * x + x : Nat) : Int)) + 60)) 22 (ix (s 25 (ix ((12 * b + nthq P 12 x : Nat) : Int))))) - divL 60 (w32 ((manyq hs b : Nat) : Int)) * totq hs pt b))) n b ((manyq hs b : Nat) : Int) (totq hs pt b) x 0)))))) else l_M_solve_189 F k338 m s n b ((manyq hs b : Nat) : Int) (totq hs pt b) ((x : Int) + 1)) Q
    rw [ix_nat (show 5 * x + x < 2147483648 by omega), ix_nat (show 12 * b + nthq P 12 x < 2147483648 by omega), sd.1]
    cases e : hs b (nthq P 12 x) with
    | false =>
      refine T_no (by have := cl.2 e; omega) (next s ⟨f, fun i hi => ⟨fun q hq => ?_, ?_⟩⟩)
      · rw [(i1 i hi).1 q hq]
        by_cases c : i < x
        · rw [if_pos c, if_pos (by omega)]
        · rw [if_neg c]
          by_cases c2 : i < x + 1
          · rw [if_pos c2, show i = x by omega]
            unfold tA
            rw [if_neg (by rw [e]; decide)]
          · rw [if_neg c2]
      · rw [(i1 i hi).2]
        by_cases c : i < x
        · rw [if_pos c, if_pos (by omega)]
        · rw [if_neg c]
          by_cases c2 : i < x + 1
          · rw [if_pos c2, show i = x by omega]
            unfold tR
            rw [if_neg (by rw [e]; decide)]
          · rw [if_neg c2]
    | true =>
      have y := cl.1 e
      have pp := h4 b _ e
      refine T_yes y.1 (T_gd i25 (T_gd i25 (T_gd i5 (T_gd y.2.1 (T_gd sd.2 (T_gd i5 ?_))))))
      rw [put_c (show (22 : Nat) ≠ 29 by decide), y.2.2, put_c (show (30 : Nat) ≠ 29 by decide), wid (by omega) (by omega)]
      have f2 : frs K30 s0 (put (put s 29 (5 * x + x) (s 29 (5 * x + x) + 60)) 30 x (s 30 x + (60 * pt b (nthq P 12 x) - shq hs b * totq hs pt b))) := frs_put (frs_put f rfl) rfl
      refine sol_275 hB (REF_cong hR (frs_K30 f2)) (fun i hi => by rw [f2 27 i rfl]; exact hm i hi) hb hx m1 m2 (fun t ft t1 t2 => ?_) hF
      refine next t ⟨frs_trans f2 (frs_K29 ft), fun i hi => ⟨fun q hq => ?_, ?_⟩⟩
      · by_cases c : i = x
        · rw [c, t2 q hq, put_c (by decide), put_at, if_pos (show x < x + 1 by omega)]
          unfold tA
          rw [if_pos e]
          by_cases c2 : q = x
          · rw [if_pos (by omega), if_pos c2, c2, (i1 x hx).1 x hx, if_neg (by omega)]
            omega
          · rw [if_neg (by omega), if_neg c2, (i1 x hx).1 q hq, if_neg (by omega)]
            omega
        · rw [t1 (5 * i + q) (by omega), put_c (by decide), put_j (by omega), (i1 i hi).1 q hq]
          by_cases c2 : i < x
          · rw [if_pos c2, if_pos (by omega)]
          · rw [if_neg c2, if_neg (by omega)]
      · rw [ft 30 i rfl, put_at]
        by_cases c : i = x
        · rw [if_pos c, c, (i1 x hx).2, if_neg (by omega), if_pos (by omega)]
          unfold tR
          rw [if_pos e]
          omega
        · rw [if_neg c, put_c (by decide), (i1 i hi).2]
          by_cases c2 : i < x
          · rw [if_pos c2, if_pos (by omega)]
          · rw [if_neg c2, if_neg (by omega)]
  · intro m s hI
    obtain ⟨f, i1⟩ := hI
    show T (b_M_solve_189 F (l_M_solve_189 F k338 m) k338 s n b ((manyq hs b : Nat) : Int) (totq hs pt b) n) Q
    unfold b_M_solve_189
    refine T_yes (Int.le_refl _) (hk s f (fun i hi => ⟨fun q hq => ?_, ?_⟩))
    · rw [(i1 i hi).1 q hq, if_pos hi]
    · rw [(i1 i hi).2, if_pos hi]
theorem many_ct (hB : BOX nb nj n hs pt P) (b : Nat) : fb_ct (hs b) nj = manyq hs b := (ct_tail hB.2.1 (fun k hk => by
  cases c : hs b k with
  | false => rfl
  | true => have := (hB.2.2.1 b k c).2; omega)).symm
theorem sol_102 (hB : BOX nb nj n hs pt P) {s0 : St} (hR : REF nb nj hs pt s0) (hm : ∀ i, i < n → s0 27 i = ((nthq P 12 i : Nat) : Int)) (hz : ∀ i, i < n → (∀ q, q < n → s0 29 (5 * i + q) = 0) ∧ s0 30 i = 0) {k344 : St → Int → Option St} {Q : St → Prop} (hk : ∀ s, frs K30 s0 s → (∀ i, i < n → (∀ q, q < n → s 29 (5 * i + q) = AA hs (nthq P 12) i q) ∧ s 30 i = RR hs pt (nthq P 12) i) → T (k344 s n) Q) (hF : 30 ≤ F) : T (l_M_solve_102 F k344 F s0 n 0) Q := by
  have hnb := hB.1
  have hnj := hB.2.1
  have h3 := hB.2.2.1
  have r4 : s0 0 4 = nb := hR.1.2.2.1
  refine loopG (l := fun m (s : St) x => l_M_solve_102 F k344 m s n (x : Nat)) (N := nb) (I := fun B s => frs K30 s0 s ∧ ∀ i, i < n → (∀ q, q < n → s 29 (5 * i + q) = fb_si (fun b => tA hs (nthq P 12) b i q) B) ∧ s 30 i = fb_si (fun b => tR hs pt (nthq P 12) b i) B) (G := fun r => T r Q) ?_ ?_ nb 0 F s0 (by omega) (by omega) ⟨frs_refl _ _, hz⟩
  · intro m b s hb hI next
    obtain ⟨f, i1⟩ := hI
    have hR2 := REF_cong hR (frs_K30 f)
    show T (b_M_solve_102 F (l_M_solve_102 F k344 m) k344 s n b) Q
    unfold b_M_solve_102
    refine T_no (by rw [f 0 4 rfl, r4, wnat (by omega), wnat (by omega)]; omega) (T_bind (T_eq (countOf_eq hR2.1 hb (by omega)) ?_))
    rw [many_ct hB b]
    have ml : manyq hs b ≤ 12 := fb_ct_le _ 12
    show T (if w32 ((manyq hs b : Nat) : Int) = 0 then l_M_solve_102 F k344 m s n ((b : Int) + 1) else _) Q
    rw [wnat (by omega)]
    by_cases c : manyq hs b = 0
    · have no : ∀ j, ¬ hs b j = true := fun j hj => by
        have : hs b j = false := fb_ct_zero.mp c j (by have := (h3 b j hj).2; omega)
        rw [this] at hj; cases hj
      refine T_yes (by omega) (next s ⟨f, fun i hi => ⟨fun q hq => ?_, ?_⟩⟩)
      · rw [(i1 i hi).1 q hq, fb_si_succ]
        rw [show tA hs (nthq P 12) b i q = 0 from if_neg (no _), Int.add_zero]
      · rw [(i1 i hi).2, fb_si_succ]
        rw [show tR hs pt (nthq P 12) b i = 0 from if_neg (no _), Int.add_zero]
    · refine T_no (by omega) (sol_131 hB hR2 hb ?_ (by omega))
      refine sol_189 hB hR2 (fun i hi => by rw [f 27 i rfl]; exact hm i hi) hb (by omega) ml (fun t ft t1 => ?_) (by omega)
      refine next t ⟨frs_trans f ft, fun i hi => ⟨fun q hq => ?_, ?_⟩⟩
      · rw [(t1 i hi).1 q hq, (i1 i hi).1 q hq, fb_si_succ]
      · rw [(t1 i hi).2, (i1 i hi).2, fb_si_succ]
  · intro m s hI
    obtain ⟨f, i1⟩ := hI
    show T (b_M_solve_102 F (l_M_solve_102 F k344 m) k344 s n nb) Q
    unfold b_M_solve_102
    obtain ⟨d, hd⟩ : ∃ d, 24 = nb + d := ⟨24 - nb, by omega⟩
    refine T_yes (by rw [f 0 4 rfl, r4]; exact Int.le_refl _) (hk s f (fun i hi => ⟨fun q hq => ?_, ?_⟩))
    · rw [(i1 i hi).1 q hq]
      unfold AA
      rw [hd, fb_si_split, show fb_si (fun k => tA hs (nthq P 12) (nb + k) i q) d = 0 from (fb_si_cong (fun k hk => if_neg (fun c => by have := (h3 _ _ c).1; omega))).trans (dsi_zero d), Int.add_zero]
    · rw [(i1 i hi).2]
      unfold RR
      rw [hd, fb_si_split, show fb_si (fun k => tR hs pt (nthq P 12) (nb + k) i) d = 0 from (fb_si_cong (fun k hk => if_neg (fun c => by have := (h3 _ _ c).1; omega))).trans (dsi_zero d), Int.add_zero]
theorem sol_346 (h1 : 1 ≤ n) (hn : n ≤ 5) {s0 : St} {k370 : St → Int → Option St} {Q : St → Prop} (hk : ∀ s, frs K29 s0 s → (∀ k, k < 5 * (n - 1) → s 29 k = s0 29 k) → (∀ q, q < n → s 29 (5 * (n - 1) + q) = 1) → T (k370 s n) Q) (hF : 20 ≤ F) : T (l_M_solve_346 F k370 F s0 n 0) Q := by
  refine loopG (l := fun m (s : St) x => l_M_solve_346 F k370 m s n (x : Nat)) (N := n) (I := fun x s => frs K29 s0 s ∧ (∀ k, k < 5 * (n - 1) → s 29 k = s0 29 k) ∧ ∀ q, q < x → s 29 (5 * (n - 1) + q) = 1) (G := fun r => T r Q) ?_ ?_ n 0 F s0 (by omega) (by omega) ⟨frs_refl _ _, fun _ _ => rfl, fun k hk => absurd hk (Nat.not_lt_zero k)⟩
  · intro m x s hx hI next
    show T (b_M_solve_346 F (l_M_solve_346 F k370 m) k370 s n x) Q
    unfold b_M_solve_346
    have e : 5 * ((n : Int) - 1) + (x : Int) = ((5 * (n - 1) + x : Nat) : Int) := by omega
    rw [e, ix_nat (by omega)]
    refine T_no (by rw [wnat (by omega), wnat (by omega)]; omega) (T_gd (inbN (by omega) (by decide)) ?_)
    refine next _ ⟨frs_put hI.1 rfl, fun k hk => ?_, fun q hq => ?_⟩
    · rw [put_j (by omega)]; exact hI.2.1 k hk
    · rw [put_at]
      by_cases c : q = x
      · rw [if_pos (by omega)]
      · rw [if_neg (by omega)]; exact hI.2.2 q (by omega)
  · intro m s hI
    show T (b_M_solve_346 F (l_M_solve_346 F k370 m) k370 s n n) Q
    unfold b_M_solve_346
    exact T_yes (Int.le_refl _) (hk s hI.1 hI.2.1 hI.2.2)
def K831 (c j : Nat) : Bool := c == 28 || c == 31
theorem solve_eq (hB : BOX nb nj n hs pt P) {s0 : St} (hR : REF nb nj hs pt s0) {h : Int} (hP : ∀ j, j < nj → (w32 (s0 26 j) = w32 h ↔ P j = true)) (hF : 4000 ≤ F) : T (f_M_solve F s0 h) (fun t => frs KS s0 t ∧ t 0 39 = n ∧ (∀ i, i < n → t 27 i = ((nthq P 12 i : Nat) : Int)) ∧ t 0 43 = DT (EE hs pt (nthq P 12) n (-1)) n n (segq n) ∧ ∀ q : Nat, q < n → t 31 q = DT (EE hs pt (nthq P 12) n q) n n (segq n)) := by
  have hn := hB.2.2.2.2.2.2.2.2.1
  have h1 := hB.2.2.2.2.2.2.2.1
  have f0 : frs KS s0 (put s0 0 39 0) := frs_put (frs_refl _ _) rfl
  unfold f_M_solve
  refine sol_7 hB (REF_cong hR f0) (fun j hj => by rw [f0 26 j rfl]; exact hP j hj) (put_eq _ _ _ _) (fun s1 f1 n1 m1 => ?_) (by omega)
  rw [n1]
  refine sol_61 (fun s2 f2 z2 => ?_) (by omega)
  refine sol_82 hn (fun s3 f3 z3 y3 => ?_) (by omega)
  have g3 : frs KS s0 s3 := frs_trans f0 (frs_trans f1 (frs_trans (frs_K30 (frs_K29 f2)) (frs_K30 f3)))
  have mm3 : ∀ i, i < n → s3 27 i = ((nthq P 12 i : Nat) : Int) := fun i hi => by rw [f3 27 i rfl, f2 27 i rfl]; exact m1 i hi
  refine sol_102 hB (REF_cong hR g3) mm3 (fun i hi => ⟨fun q hq => by rw [z3, z2 _ (by omega)], y3 i hi⟩) (fun s4 f4 z4 => ?_) (by omega)
  refine sol_346 h1 hn (fun s5 f5 z5 y5 => ?_) (by omega)
  have en : (n : Int) - 1 = ((n - 1 : Nat) : Int) := by omega
  show T (gd (inb ((n : Int) - 1) 5) ((f_M_square F (put s5 30 (ix ((n : Int) - 1)) 0) (-1)).bind fun q13 => l_M_solve_390 F (fun s15 => some s15) F (put q13.2 0 43 q13.1) n 0)) _
  rw [en, ix_nat (by omega)]
  refine T_gd (inbN (by omega) (by decide)) ?_
  have g6 : frs KS s0 (put s5 30 (n - 1) 0) := frs_put (frs_trans g3 (frs_trans (frs_K30 f4) (frs_K30 (frs_K29 f5)))) rfl
  have a6 : ∀ i, i < n → (∀ q, q < n → (put s5 30 (n - 1) 0) 29 (5 * i + q) = if i + 1 = n then 1 else AA hs (nthq P 12) i q) ∧ (put s5 30 (n - 1) 0) 30 i = if i + 1 = n then 0 else RR hs pt (nthq P 12) i := by
    intro i hi
    refine ⟨fun q hq => ?_, ?_⟩
    · rw [put_c (by decide)]
      by_cases c : i + 1 = n
      · rw [if_pos c, show i = n - 1 by omega]; exact y5 q hq
      · rw [if_neg c, z5 _ (by omega)]; exact (z4 i hi).1 q hq
    · rw [put_at]
      by_cases c : i + 1 = n
      · rw [if_pos c, if_pos (by omega)]
      · rw [if_neg c, if_neg (by omega), f5 30 i rfl]; exact (z4 i hi).2
  have det : ∀ (t : St) (col : Int), (∀ k, t 29 k = (put s5 30 (n - 1) 0) 29 k) → (∀ k, t 30 k = (put s5 30 (n - 1) 0) 30 k) → DT (EM t col) n n (segq n) = DT (EE hs pt (nthq P 12) n col) n n (segq n) := by
    intro t col t1 t2
    refine DT_cong (fun i q hi hq => ?_) (fun _ _ => rfl)
    unfold EM EE
    rw [t1, t2, (a6 i hi).1 q hq, (a6 i hi).2]
  have m6 : (put s5 30 (n - 1) 0) 0 39 = n := by
    rw [put_c (by decide), f5 0 39 rfl, f4 0 39 rfl, f3 0 39 rfl, f2 0 39 rfl]; exact n1
  have mm6 : ∀ i, i < n → (put s5 30 (n - 1) 0) 27 i = ((nthq P 12 i : Nat) : Int) := fun i hi => by
    rw [put_c (by decide), f5 27 i rfl, f4 27 i rfl]; exact mm3 i hi
  generalize put s5 30 (n - 1) 0 = s6 at g6 a6 det m6 mm6 ⊢
  refine T_bind (T_mono (square_eq (by omega) hn m6 ⟨by decide, by decide⟩ hF) (fun q13 hq13 => ?_))
  obtain ⟨q1, q2⟩ := hq13
  have g7 : frs KS s0 (put q13.2 0 43 q13.1) := frs_put (frs_trans g6 (frs_K28 q2)) rfl
  have l43 : (put q13.2 0 43 q13.1) 0 43 = DT (EE hs pt (nthq P 12) n (-1)) n n (segq n) := by
    rw [put_eq, q1]
    exact det s6 (-1) (fun _ => rfl) (fun _ => rfl)
  have l39 : (put q13.2 0 43 q13.1) 0 39 = n := by rw [put_j (by decide), q2 0 39 rfl]; exact m6
  have l27 : ∀ i, i < n → (put q13.2 0 43 q13.1) 27 i = ((nthq P 12 i : Nat) : Int) := fun i hi => by rw [put_c (by decide), q2 27 i rfl]; exact mm6 i hi
  have l29 : ∀ k, (put q13.2 0 43 q13.1) 29 k = s6 29 k := fun k => by rw [put_c (by decide), q2 29 k rfl]
  have l30 : ∀ k, (put q13.2 0 43 q13.1) 30 k = s6 30 k := fun k => by rw [put_c (by decide), q2 30 k rfl]
  generalize put q13.2 0 43 q13.1 = s7 at g7 l43 l39 l27 l29 l30 ⊢
  refine loopG (l := fun m (s : St) x => l_M_solve_390 F (fun s15 => some s15) m s n (x : Nat)) (N := n) (I := fun x s => frs K831 s7 s ∧ ∀ q : Nat, q < x → s 31 q = DT (EE hs pt (nthq P 12) n q) n n (segq n)) (G := fun r => T r _) ?_ ?_ n 0 F s7 (by omega) (by omega) ⟨frs_refl _ _, fun q hq => absurd hq (Nat.not_lt_zero q)⟩
  · intro m x s hx hI next
    obtain ⟨f, i1⟩ := hI
    show T (b_M_solve_390 F (l_M_solve_390 F _ m) _ s n x) _
    unfold b_M_solve_390
    refine T_no (by rw [wnat (by omega), wnat (by omega)]; omega) (T_bind (T_mono (square_eq (n := n) (by omega) hn (by rw [f 0 39 rfl]; exact l39) ⟨by omega, by omega⟩ hF) (fun r hr => ?_)))
    refine T_gd (inbN (by omega) (by decide)) ?_
    rw [ix_nat (by omega)]
    have f2 : frs K831 s7 r.2 := frs_trans f (frs_sub hr.2 (fun c j e => by unfold K28 at e; unfold K831; rw [e]; rfl))
    refine next _ ⟨frs_put f2 rfl, fun q hq => ?_⟩
    rw [put_at]
    by_cases c : q = x
    · rw [if_pos c, hr.1, c]
      exact det s x (fun k => by rw [f 29 k rfl]; exact l29 k) (fun k => by rw [f 30 k rfl]; exact l30 k)
    · rw [if_neg c, hr.2 31 q rfl]; exact i1 q (by omega)
  · intro m s hI
    obtain ⟨f, i1⟩ := hI
    show T (b_M_solve_390 F (l_M_solve_390 F _ m) _ s n n) _
    unfold b_M_solve_390
    refine T_yes (Int.le_refl _) (T_some ⟨?_, ?_, ?_, ?_, i1⟩)
    · refine frs_trans g7 (frs_sub f (fun c j e => ?_))
      unfold K831 at e; unfold KS
      simp only [Bool.or_eq_true] at e ⊢
      rcases e with e | e
      · exact .inl (.inl (.inl (.inl (.inr e))))
      · exact .inl (.inr e)
    · rw [f 0 39 rfl]; exact l39
    · intro i hi; rw [f 27 i rfl]; exact l27 i hi
    · rw [f 0 43 rfl]; exact l43
end SV
