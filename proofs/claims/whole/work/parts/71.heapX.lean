def K78 (c j : Nat) : Bool := c == 27 || c == 28
def XD (nm : Nat) (sx m : St) : Prop := sx 19 0 = nm ∧ ∀ k, k < nm → sx 20 k = m 20 k ∧ sx 21 k = m 21 k ∧ sx 22 k = m 22 k ∧ sx 23 k = m 23 k ∧ sx 24 k = m 24 k
def PX (m : St) (c : Nat → Int) (s : St) : Prop := ∀ b j, b < 24 → j < 12 → (c (12 * b + j) < 0 → s 27 (24 * j + b) = -1) ∧ (0 ≤ c (12 * b + j) → s 27 (24 * j + b) = m 22 (c (12 * b + j)).toNat ∧ s 28 (24 * j + b) = m 23 (c (12 * b + j)).toNat)
theorem take_2 {F : Nat} {x0 : St} {day : Int} {k22 : St → Int → Option St} {P : St → Prop} (hk : ∀ s, frs K78 x0 s → (∀ i, i < 288 → s 27 i = -1) → T (k22 s day) P) (hF : 289 ≤ F) : T (l_Known_takeLatest_2 F k22 F x0 day 0) P := by
  refine loopG (l := fun n (s : St) x => l_Known_takeLatest_2 F k22 n s day (x : Nat)) (N := 288) (I := fun k s => frs K78 x0 s ∧ ∀ i, i < k → s 27 i = -1) (G := fun r => T r P) ?_ ?_ 288 0 F x0 (by omega) (by omega) ⟨frs_refl _ _, fun i hi => absurd hi (Nat.not_lt_zero i)⟩
  · intro n k s hk2 hI next
    show T (b_Known_takeLatest_2 F (l_Known_takeLatest_2 F k22 n) k22 s day k) P
    unfold b_Known_takeLatest_2
    refine T_no (by rw [show w32 288 = 288 by decide, wnat (by omega)]; omega) (T_gd (inbN hk2 (by decide)) ?_)
    show T (l_Known_takeLatest_2 F k22 n (put s 27 (ix k) (-1)) day ((k : Int) + 1)) P
    rw [ix_nat (by omega)]
    refine next _ ⟨frs_put hI.1 rfl, fun i hi => ?_⟩
    rw [put_at]
    by_cases e : i = k
    · rw [if_pos e]
    · rw [if_neg e]; exact hI.2 i (by omega)
  · intro n s hI
    show T (b_Known_takeLatest_2 F (l_Known_takeLatest_2 F k22 n) k22 s day ((288 : Nat) : Int)) P
    unfold b_Known_takeLatest_2
    exact T_yes (by decide) (hk s hI.1 hI.2)
theorem stands_eq {s : St} {k : Nat} {day : Int} (hk : k < 200) (hday : 0 ≤ day ∧ day ≤ 999) (h23 : 0 ≤ s 23 k ∧ s 23 k ≤ 999) (h24 : -1 ≤ s 24 k ∧ s 24 k ≤ 999) : f_Marks_standsOn s k day = some (b01 (s 23 k ≤ day ∧ (s 24 k < 0 ∨ day < s 24 k)), s) := by
  unfold f_Marks_standsOn
  have ik : inb (k : Int) 200 := inbN hk (by decide)
  rw [gd_yes ik, gd_yes ik, gd_yes ik, ix_nat (by omega), wid (a := day) (by omega) (by omega), wid (a := s 23 k) (by omega) (by omega), wid (a := s 24 k) (by omega) (by omega), show w32 (-1) = -1 by decide]
  by_cases c1 : day < s 23 k
  · rw [if_pos c1, b01_not (by omega)]
  · rw [if_neg c1]
    by_cases c2 : s 24 k = -1
    · rw [if_pos c2, b01_of (by omega)]
    · rw [if_neg c2]
      by_cases c3 : s 24 k ≤ day
      · rw [if_pos c3, b01_not (by omega)]
      · rw [if_neg c3, b01_of (by omega)]
theorem take_24 {F nb nj nm : Nat} {m0 x0 : St} (hD : MD nb nj nm m0) (hX : XD nm x0 m0) {day : Int} (hday : 0 ≤ day ∧ day ≤ 999) {k130 : St → Option St} {P : St → Prop} (hk : ∀ s, frs K78 x0 s → PX m0 (cS m0 day nm) s → T (k130 s) P) {s : St} (hf : frs K78 x0 s) (h1 : ∀ i, i < 288 → s 27 i = -1) (hF : 201 ≤ F) : T (l_Known_takeLatest_24 F k130 F s day 0) P := by
  obtain ⟨d1, d2, d3, d4, d5, d6, d7⟩ := hD
  refine loopG (l := fun n (s : St) x => l_Known_takeLatest_24 F k130 n s day (x : Nat)) (N := nm) (I := fun k s => frs K78 x0 s ∧ PX m0 (cS m0 day k) s) (G := fun r => T r P) ?_ ?_ nm 0 F s (by omega) (by omega) ⟨hf, fun b j hb hj => ⟨fun _ => h1 _ (by omega), fun q => absurd q (by show ¬ (0 : Int) ≤ -1; decide)⟩⟩
  · intro n k s hk2 hI next
    obtain ⟨f, hI⟩ := hI
    have z := d7 k hk2
    have zx := hX.2 k hk2
    have r20 : s 20 k = m0 20 k := (f 20 k rfl).trans zx.1
    have r21 : s 21 k = m0 21 k := (f 21 k rfl).trans zx.2.1
    have r22 : s 22 k = m0 22 k := (f 22 k rfl).trans zx.2.2.1
    have r23 : s 23 k = m0 23 k := (f 23 k rfl).trans zx.2.2.2.1
    have r24 : s 24 k = m0 24 k := (f 24 k rfl).trans zx.2.2.2.2
    obtain ⟨b, hb⟩ : ∃ b : Nat, m0 21 k = b := ⟨(m0 21 k).toNat, by omega⟩
    obtain ⟨j, hj⟩ : ∃ j : Nat, m0 20 k = j := ⟨(m0 20 k).toNat, by omega⟩
    have hi : 24 * j + b < 288 := by omega
    have ei : (j : Int) * 24 + b = ((24 * j + b : Nat) : Int) := by omega
    have ik : inb (k : Int) 200 := inbN (by omega) (by decide)
    have ii : inb ((24 * j + b : Nat) : Int) 288 := inbN hi (by decide)
    have ixk : ix (k : Int) = k := ix_nat (by omega)
    have ixi : ix ((24 * j + b : Nat) : Int) = 24 * j + b := ix_nat (by omega)
    have rr := cS_rng m0 day k (12 * b + j)
    have p0 := hI b j (by omega) (by omega)
    have skip : (¬ (m0 23 k ≤ day ∧ (m0 24 k < 0 ∨ day < m0 24 k) ∧ (cS m0 day k (12 * b + j) < 0 ∨ m0 23 (cS m0 day k (12 * b + j)).toNat ≤ m0 23 k))) → T (l_Known_takeLatest_24 F k130 n s day ((k : Int) + 1)) P := by
      intro hn
      refine next s ⟨f, fun b2 j2 hb2 hj2 => ?_⟩
      rw [cS_succ, if_neg ?_]
      · exact hI b2 j2 hb2 hj2
      · intro q
        have e : 12 * b2 + j2 = 12 * b + j := by omega
        rw [e] at q
        exact hn ⟨q.1, q.2.1, q.2.2.2⟩
    have b82 : (cS m0 day k (12 * b + j) < 0 ∨ m0 23 (cS m0 day k (12 * b + j)).toNat ≤ m0 23 k) → T (b_Known_takeLatest_82 F (l_Known_takeLatest_24 F k130 n) k130 s day k ((24 * j + b : Nat) : Int) 1) P := by
      intro hl
      unfold b_Known_takeLatest_82
      refine T_no (by decide) (T_bind (T_eq (stands_eq (by omega) hday (by omega) (by omega)) ?_))
      refine T_if (fun c => ?_) (fun c => ?_)
      · have c := b01_0.mp c
        exact skip (fun q => c (by rw [r23, r24]; exact ⟨q.1, q.2.1⟩))
      · have c := Decidable.not_not.mp (fun q => c (b01_0.mpr q))
        rw [r23, r24] at c
        refine T_gd ik (T_gd ii (T_gd ik (T_gd ii ?_)))
        show T (l_Known_takeLatest_24 F k130 n (put (put s 27 (ix ((24 * j + b : Nat) : Int)) (s 22 (ix k))) 28 (ix ((24 * j + b : Nat) : Int)) (s 23 (ix k))) day ((k : Int) + 1)) P
        rw [ixi, ixk, r22, r23]
        refine next _ ⟨frs_put (frs_put f rfl) rfl, fun b2 j2 hb2 hj2 => ?_⟩
        show (_ → (put s 27 (24 * j + b) (m0 22 k)) 27 (24 * j2 + b2) = -1) ∧ (_ → (put s 27 (24 * j + b) (m0 22 k)) 27 (24 * j2 + b2) = _ ∧ (put (put s 27 (24 * j + b) (m0 22 k)) 28 (24 * j + b) (m0 23 k)) 28 (24 * j2 + b2) = _)
        rw [put_at, put_at, cS_succ]
        by_cases e : b2 = b ∧ j2 = j
        · obtain ⟨e1, e2⟩ := e
          rw [e1, e2, if_pos rfl, if_pos rfl, if_pos ⟨c.1, c.2, by omega, hl⟩, Int.toNat_natCast]
          exact ⟨fun q => by omega, fun _ => ⟨rfl, rfl⟩⟩
        · rw [if_neg (fun q => e (by omega)), if_neg (fun q => e (by omega)), if_neg (fun q => e (by omega))]
          exact hI b2 j2 hb2 hj2
    show T (b_Known_takeLatest_24 F (l_Known_takeLatest_24 F k130 n) k130 s day k) P
    unfold b_Known_takeLatest_24
    refine T_no (by rw [(f 19 0 rfl).trans hX.1, wnat (by omega), wnat (by omega)]; omega) (T_gd ik (T_gd ik ?_))
    rw [ixk, r20, r21, hb, hj, ei]
    refine T_gd ii ?_
    rw [ixi]
    by_cases c : cS m0 day k (12 * b + j) < 0
    · rw [p0.1 c]
      exact T_yes rfl (b82 (.inl c))
    · obtain ⟨p1, p2⟩ := p0.2 (by omega)
      have z2 := d7 (cS m0 day k (12 * b + j)).toNat (by omega)
      rw [p1, p2, r23]
      refine T_no (by rw [show w32 (-1) = -1 by decide, wid (by omega) (by omega)]; omega) (T_gd ii (T_gd ik ?_))
      rw [wid (a := m0 23 k) (by omega) (by omega), wid (a := m0 23 (cS m0 day k (12 * b + j)).toNat) (by omega) (by omega)]
      refine T_if (fun c2 => ?_) (fun c2 => b82 (.inr (by omega)))
      unfold b_Known_takeLatest_82
      exact T_yes (by decide) (skip (fun q => by omega))
  · intro n s hI
    obtain ⟨f, hI⟩ := hI
    show T (b_Known_takeLatest_24 F (l_Known_takeLatest_24 F k130 n) k130 s day nm) P
    unfold b_Known_takeLatest_24
    exact T_yes (by rw [(f 19 0 rfl).trans hX.1, wnat (by omega)]; omega) (hk s f hI)
/-! the heaps of the class -/
def HX (hs : Nat → Nat → Bool) (s : St) : Prop := (∀ b j, hs b j = true → b < 24 ∧ j < 12) ∧ ∀ b j, b < 24 → j < 12 → (-1 ≤ s 27 (24 * j + b) ∧ s 27 (24 * j + b) ≤ 100) ∧ (s 27 (24 * j + b) = -1 ↔ hs b j = false)
theorem points_eq {s : St} {b j : Nat} (hb : b < 24) (hj : j < 12) : f_Known_pointsOf s j b = some (s 27 (24 * j + b), s) := by
  unfold f_Known_pointsOf
  rw [show (j : Int) * 24 + b = ((24 * j + b : Nat) : Int) by omega, gd_yes (inbN (by omega) (by decide)), ix_nat (by omega)]
theorem hx_cell {hs : Nat → Nat → Bool} {s0 s : St} (hC : HX hs s0) (f : frs K26 s0 s) {b j : Nat} (hb : b < 24) (hj : j < 12) : w32 (s 27 (24 * j + b)) = w32 (-1) ↔ hs b j = false := by
  have z := hC.2 b j hb hj
  rw [f 27 _ rfl, wid (a := s0 27 (24 * j + b)) (by omega) (by omega), show w32 (-1) = -1 by decide]
  exact z.2
def ren (l g x : Int) : Int := if x = g then l else x
theorem join_eq {F : Nat} {s : St} {a b : Int} (ha : 0 ≤ a ∧ a < 12) (hb : 0 ≤ b ∧ b < 12) (hs : ∀ j, j < 12 → -1 ≤ s 26 j ∧ s 26 j < 12) (hF : 20 ≤ F) : ∃ s2, f_Known_joinHeaps F s a b = some s2 ∧ frs K26 s s2 ∧ ∀ j, j < 12 → s2 26 j = ren (if b < a then b else a) (if a < b then b else a) (s 26 j) := by
  have wa : w32 a = a := wid (by omega) (by omega)
  have wb : w32 b = b := wid (by omega) (by omega)
  obtain ⟨l, hl⟩ : ∃ l, l = if b < a then b else a := ⟨_, rfl⟩
  obtain ⟨g, hg⟩ : ∃ g, g = if a < b then b else a := ⟨_, rfl⟩
  have e : f_Known_joinHeaps F s a b = l_Known_joinHeaps_16 F (fun s3 => some s3) F s l g 0 := by
    unfold f_Known_joinHeaps f_XJ_min f_XJ_max
    rw [wa, wb, hl, hg]
    by_cases c1 : b < a
    · simp only [Option.bind_some, if_pos c1, if_neg (show ¬ a < b by omega)]
    · by_cases c2 : a < b
      · simp only [Option.bind_some, if_neg c1, if_pos c2]
      · simp only [Option.bind_some, if_neg c1, if_neg c2]
  rw [e, ← hl, ← hg]
  have lr : 0 ≤ l ∧ l < 12 ∧ l ≤ g ∧ g < 12 := by rw [hl, hg]; split <;> split <;> omega
  clear hl hg e
  have wl : w32 l = l := wid (by omega) (by omega)
  have wg : w32 g = g := wid (by omega) (by omega)
  by_cases c : l < g
  · refine loopG (l := fun n (t : St) x => l_Known_joinHeaps_16 F (fun s3 => some s3) n t l g (x : Nat)) (N := 12) (I := fun k t => frs K26 s t ∧ (∀ j, j < k → t 26 j = ren l g (s 26 j)) ∧ ∀ j, k ≤ j → t 26 j = s 26 j) (G := fun r => ∃ s2, r = some s2 ∧ frs K26 s s2 ∧ ∀ j, j < 12 → s2 26 j = ren l g (s 26 j)) ?_ ?_ 12 0 F s (by omega) (by omega) ⟨frs_refl _ _, fun j hj => absurd hj (Nat.not_lt_zero j), fun _ _ => rfl⟩
    · intro n k t hk hI next
      obtain ⟨i1, i2, i3⟩ := hI
      have ik : inb (k : Int) 12 := inbN hk (by decide)
      have zk := hs k hk
      have w26 : w32 (s 26 k) = s 26 k := wid (by omega) (by omega)
      show ∃ s2, b_Known_joinHeaps_16 F (l_Known_joinHeaps_16 F (fun s3 => some s3) n) (fun s3 => some s3) t l g k = some s2 ∧ _
      unfold b_Known_joinHeaps_16
      rw [if_neg (show ¬ w32 12 ≤ w32 (k : Int) by rw [show w32 12 = 12 by decide, wnat (by omega)]; omega), wl, wg, if_neg (by omega), gd_yes ik, ix_nat (by omega), i3 k (Nat.le_refl k), w26, gd_yes ik]
      by_cases c2 : s 26 k = g
      · rw [if_pos c2]
        refine next _ ⟨frs_put i1 rfl, fun j hj => ?_, fun j hj => ?_⟩
        · rw [put_at]
          by_cases e : j = k
          · rw [if_pos e, e]
            unfold ren
            rw [if_pos c2]
          · rw [if_neg e]; exact i2 j (by omega)
        · rw [put_at, if_neg (by omega)]
          exact i3 j (by omega)
      · rw [if_neg c2]
        refine next _ ⟨i1, fun j hj => ?_, fun j hj => i3 j (by omega)⟩
        by_cases e : j = k
        · rw [e, i3 k (Nat.le_refl k)]
          unfold ren
          rw [if_neg c2]
        · exact i2 j (by omega)
    · intro n t hI
      obtain ⟨i1, i2, i3⟩ := hI
      refine ⟨t, ?_, i1, i2⟩
      show b_Known_joinHeaps_16 F _ _ t l g ((12 : Nat) : Int) = _
      unfold b_Known_joinHeaps_16
      rw [if_pos (by decide)]
  · refine ⟨s, ?_, frs_refl _ _, fun j hj => ?_⟩
    · obtain ⟨f, rfl⟩ : ∃ f, F = f + 1 := ⟨F - 1, by omega⟩
      show b_Known_joinHeaps_16 (f + 1) _ _ s l g 0 = _
      unfold b_Known_joinHeaps_16
      rw [if_neg (by decide), wl, wg, if_pos (by omega)]
    · unfold ren
      split
      · omega
      · rfl
def LB (hs : Nat → Nat → Bool) (s : St) : Prop := ∀ j, j < 12 → s 26 j = -1 ∨ (0 ≤ s 26 j ∧ s 26 j ≤ j ∧ mkd hs (s 26 j).toNat ∧ mkd hs j ∧ ∀ f, CMP hs f → f (s 26 j).toNat = f j)
def BD (hs : Nat → Nat → Bool) (B : Nat) (s : St) : Prop := ∀ b, b < B → ∀ j j2, hs b j = true → hs b j2 = true → 0 ≤ s 26 j ∧ s 26 j = s 26 j2
theorem LB_rng {hs : Nat → Nat → Bool} {s : St} (h : LB hs s) : ∀ j, j < 12 → -1 ≤ s 26 j ∧ s 26 j < 12 := fun j hj => by
  rcases h j hj with q | q <;> omega
theorem form_33 {F : Nat} {hs : Nat → Nat → Bool} {x1 s0 : St} (hC : HX hs x1) (f : frs K26 x1 s0) {B : Nat} (hB : B < 24) (hL : LB hs s0) (hBD : BD hs B s0) {k99 : St → Int → Option St} {P : St → Prop} (hk : ∀ t, frs K26 x1 t → LB hs t → BD hs (B + 1) t → T (k99 t B) P) (hF : 30 ≤ F) : T (l_Known_formHeaps_33 F k99 F s0 B (-1) 0) P := by
  refine loopG (l := fun n (a : St × Int) x => l_Known_formHeaps_33 F k99 n a.1 B a.2 (x : Nat)) (N := 12) (I := fun j a => frs K26 x1 a.1 ∧ LB hs a.1 ∧ BD hs B a.1 ∧ ((a.2 = -1 ∧ ∀ j2, j2 < j → hs B j2 = false) ∨ ∃ i : Nat, a.2 = i ∧ i < j ∧ hs B i = true ∧ ∀ j2, j2 < j → hs B j2 = true → 0 ≤ a.1 26 j2 ∧ a.1 26 j2 = a.1 26 i)) (G := fun r => T r P) ?_ ?_ 12 0 F (s0, -1) (by omega) (by omega) ⟨f, hL, hBD, .inl ⟨rfl, fun j2 h => absurd h (Nat.not_lt_zero j2)⟩⟩
  · intro n j a hj hI next
    obtain ⟨s, fi⟩ := a
    obtain ⟨i1, i2, i3, i4⟩ := hI
    have i1 : frs K26 x1 s := i1
    have i2 : LB hs s := i2
    have i3 : BD hs B s := i3
    have ij : inb (j : Int) 12 := inbN hj (by decide)
    have ixj : ix (j : Int) = j := ix_nat (by omega)
    show T (b_Known_formHeaps_33 F (l_Known_formHeaps_33 F k99 n) k99 s B fi j) P
    unfold b_Known_formHeaps_33
    refine T_no (show ¬ w32 12 ≤ w32 (j : Int) by rw [show w32 12 = 12 by decide, wnat (by omega)]; omega) (T_bind (T_eq (points_eq hB hj) ?_))
    refine T_if (fun c => ?_) (fun c => T_gd ij ?_)
    · have c := (hx_cell hC i1 hB hj).mp c
      refine next (s, fi) ⟨i1, i2, i3, ?_⟩
      rcases i4 with ⟨q1, q2⟩ | ⟨i, q1, q2, q3, q4⟩
      · refine .inl ⟨q1, fun j2 h => ?_⟩
        by_cases e : j2 = j
        · rw [e]; exact c
        · exact q2 j2 (by omega)
      · refine .inr ⟨i, q1, by omega, q3, fun j2 h1 h2 => ?_⟩
        by_cases e : j2 = j
        · rw [e, c] at h2; cases h2
        · exact q4 j2 (by omega) h2
    · have c : ¬ hs B j = false := fun q => c ((hx_cell hC i1 hB hj).mpr q)
      have ct : hs B j = true := by simpa using c
      -- the judge has a label now
      have lab : ∀ s7 : St, frs K26 x1 s7 → LB hs s7 → BD hs B s7 → 0 ≤ s7 26 j → ((fi = -1 ∧ ∀ j2, j2 < j → hs B j2 = false) ∨ ∃ i : Nat, fi = i ∧ i < j ∧ hs B i = true ∧ ∀ j2, j2 < j → hs B j2 = true → 0 ≤ s7 26 j2 ∧ s7 26 j2 = s7 26 i) → T (b_Known_formHeaps_66 F (l_Known_formHeaps_33 F k99 n) k99 s7 B fi j) P := by
        intro s7 g1 g2 g3 g4 g5
        have body : ∀ i : Nat, i ≤ j → hs B i = true → 0 ≤ s7 26 i → (∀ j2, j2 < j → hs B j2 = true → 0 ≤ s7 26 j2 ∧ s7 26 j2 = s7 26 i) → T (b_Known_formHeaps_76 F (l_Known_formHeaps_33 F k99 n) k99 s7 B j i) P := by
          intro i hij hi hi0 hall
          unfold b_Known_formHeaps_76
          refine T_gd (inbN (show i < 12 by omega) (by decide)) (T_gd ij ?_)
          rw [ixj, ix_nat (show i < 2147483648 by omega)]
          have ri := LB_rng g2 i (by omega)
          have rj := LB_rng g2 j hj
          obtain ⟨s8, e8, f8, h8⟩ := join_eq (F := F) (s := s7) (a := s7 26 i) (b := s7 26 j) ⟨hi0, ri.2⟩ ⟨g4, rj.2⟩ (LB_rng g2) (by omega)
          refine T_bind (T_eq e8 ?_)
          obtain ⟨l, hl⟩ : ∃ l, l = if s7 26 j < s7 26 i then s7 26 j else s7 26 i := ⟨_, rfl⟩
          obtain ⟨g, hg⟩ : ∃ g, g = if s7 26 i < s7 26 j then s7 26 j else s7 26 i := ⟨_, rfl⟩
          rw [← hl, ← hg] at h8
          have hlg : l ≤ g ∧ 0 ≤ l := by rw [hl, hg]; split <;> split <;> omega
          have li := g2 i (by omega)
          have lj := g2 j hj
          have hlab : ∀ x, (x = s7 26 i ∨ x = s7 26 j) → mkd hs x.toNat ∧ ∀ ff, CMP hs ff → ff x.toNat = ff j := by
            intro x hx
            rcases hx with rfl | rfl
            · rcases li with q | ⟨-, -, q3, -, q5⟩
              · omega
              · exact ⟨q3, fun ff hff => (q5 ff hff).trans (hff B i j hi ct)⟩
            · rcases lj with q | ⟨-, -, q3, -, q5⟩
              · omega
              · exact ⟨q3, fun ff hff => q5 ff hff⟩
          have hll := hlab l (by rw [hl]; split <;> simp)
          have hgg := hlab g (by rw [hg]; split <;> simp)
          have ceq : ren l g (s7 26 i) = l ∧ ren l g (s7 26 j) = l := by
            unfold ren
            rw [hl, hg]
            constructor <;> (split <;> split <;> split <;> omega)
          have b8 : BD hs B s8 := by
            intro b hb j1 j2 q1 q2
            have z := g3 b hb j1 j2 q1 q2
            rw [h8 j1 (hC.1 b j1 q1).2, h8 j2 (hC.1 b j2 q2).2, ← z.2]
            refine ⟨?_, rfl⟩
            unfold ren
            split
            · exact hlg.2
            · exact z.1
          refine next (s8, (i : Int)) ⟨frs_trans g1 f8, ?_, b8, .inr ⟨i, rfl, by omega, hi, fun j2 h1 h2 => ?_⟩⟩
          · intro j2 hj2
            show s8 26 j2 = -1 ∨ (0 ≤ s8 26 j2 ∧ s8 26 j2 ≤ j2 ∧ mkd hs (s8 26 j2).toNat ∧ mkd hs j2 ∧ ∀ f, CMP hs f → f (s8 26 j2).toNat = f j2)
            rw [h8 j2 hj2]
            rcases g2 j2 hj2 with q | ⟨q1, q2, q3, q4, q5⟩
            · left
              unfold ren
              rw [if_neg (by omega)]
              exact q
            · right
              unfold ren
              by_cases e : s7 26 j2 = g
              · rw [if_pos e]
                rw [e] at q5
                refine ⟨hlg.2, by omega, hll.1, q4, fun ff hff => ?_⟩
                rw [hll.2 ff hff, ← hgg.2 ff hff, q5 ff hff]
              · rw [if_neg e]
                exact ⟨q1, q2, q3, q4, q5⟩
          · show 0 ≤ s8 26 j2 ∧ s8 26 j2 = s8 26 i
            rw [h8 j2 (by omega), h8 i (by omega), ceq.1]
            by_cases e : j2 = j
            · rw [e, ceq.2]; exact ⟨hlg.2, rfl⟩
            · rw [(hall j2 (by omega) h2).2, ceq.1]; exact ⟨hlg.2, rfl⟩
        unfold b_Known_formHeaps_66
        rcases g5 with ⟨q1, q2⟩ | ⟨i, q1, q2, q3, q4⟩
        · refine T_yes (by rw [q1]) (body j (Nat.le_refl j) ct g4 (fun j2 h1 h2 => ?_))
          rw [q2 j2 h1] at h2
          cases h2
        · rw [q1]
          refine T_no (by rw [wnat (by omega), show w32 (-1) = -1 by decide]; omega) (body i (by omega) q3 (q4 i q2 q3).1 q4)
      have rj := LB_rng i2 j hj
      have w26 : w32 (s 26 j) = s 26 j := wid (by omega) (by omega)
      refine T_if (fun c2 => T_gd ij ?_) (fun c2 => ?_)
      · have c2 : w32 (s 26 (ix (j : Int))) = w32 (-1) := c2
        rw [ixj, w26, show w32 (-1) = -1 by decide] at c2
        show T (b_Known_formHeaps_66 F (l_Known_formHeaps_33 F k99 n) k99 (put s 26 (ix j) j) B fi j) P
        rw [ixj]
        refine lab _ (frs_put i1 rfl) ?_ ?_ ?_ ?_
        · intro j2 hj2
          rw [put_at]
          by_cases e : j2 = j
          · rw [if_pos e, e]
            exact .inr ⟨by omega, Int.le_refl _, ⟨B, by rw [Int.toNat_natCast]; exact ct⟩, ⟨B, ct⟩, fun ff _ => by rw [Int.toNat_natCast]⟩
          · rw [if_neg e]
            exact i2 j2 hj2
        · intro b hb j1 j2 q1 q2
          have z := i3 b hb j1 j2 q1 q2
          rw [put_at, put_at, if_neg (fun e => by rw [e] at z; omega), if_neg (fun e => by rw [e] at z; omega)]
          exact z
        · rw [put_eq]; omega
        · rcases i4 with q | ⟨i, q1, q2, q3, q4⟩
          · exact .inl q
          · refine .inr ⟨i, q1, q2, q3, fun j2 h1 h2 => ?_⟩
            rw [put_at, put_at, if_neg (by omega), if_neg (by omega)]
            exact q4 j2 h1 h2
      · have c2 : ¬ w32 (s 26 (ix (j : Int))) = w32 (-1) := c2
        rw [ixj, w26, show w32 (-1) = -1 by decide] at c2
        exact lab s i1 i2 i3 (by omega) i4
  · intro n a hI
    obtain ⟨s, fi⟩ := a
    obtain ⟨i1, i2, i3, i4⟩ := hI
    have i1 : frs K26 x1 s := i1
    show T (b_Known_formHeaps_33 F (l_Known_formHeaps_33 F k99 n) k99 s B fi ((12 : Nat) : Int)) P
    unfold b_Known_formHeaps_33
    refine T_yes (by decide) (hk s i1 i2 ?_)
    intro b hb j1 j2 q1 q2
    by_cases e : b = B
    · rw [e] at q1 q2
      have l1 := (hC.1 B j1 q1).2
      have l2 := (hC.1 B j2 q2).2
      rcases i4 with ⟨r1, r2⟩ | ⟨i, r1, r2, r3, r4⟩
      · rw [r2 j1 l1] at q1; cases q1
      · have a1 : 0 ≤ s 26 j1 ∧ s 26 j1 = s 26 i := r4 j1 l1 q1
        have a2 : 0 ≤ s 26 j2 ∧ s 26 j2 = s 26 i := r4 j2 l2 q2
        omega
    · exact i3 b (by omega) j1 j2 q1 q2
theorem form_eq {F : Nat} {hs : Nat → Nat → Bool} {x1 : St} (hC : HX hs x1) (hF : 30 ≤ F) : T (f_Known_formHeaps F x1) (fun t => frs K26 x1 t ∧ KD hs 12 (fun j => t 26 j) ∧ EQB hs (fun j => t 26 j)) := by
  unfold f_Known_formHeaps
  refine loopG (l := fun n (s : St) x => l_Known_formHeaps_2 F _ n s (x : Nat)) (N := 12) (I := fun k s => frs K26 x1 s ∧ ∀ j, j < k → s 26 j = -1) (G := fun r => T r _) ?_ ?_ 12 0 F x1 (by omega) (by omega) ⟨frs_refl _ _, fun j h => absurd h (Nat.not_lt_zero j)⟩
  · intro n k s hk2 hI next
    show T (b_Known_formHeaps_2 F (l_Known_formHeaps_2 F _ n) _ s k) _
    unfold b_Known_formHeaps_2
    refine T_no (by rw [show w32 12 = 12 by decide, wnat (by omega)]; omega) (T_gd (inbN hk2 (by decide)) ?_)
    show T (l_Known_formHeaps_2 F _ n (put s 26 (ix k) (-1)) ((k : Int) + 1)) _
    rw [ix_nat (by omega)]
    refine next _ ⟨frs_put hI.1 rfl, fun i hi => ?_⟩
    rw [put_at]
    by_cases e : i = k
    · rw [if_pos e]
    · rw [if_neg e]; exact hI.2 i (by omega)
  · intro n s hI
    show T (b_Known_formHeaps_2 F (l_Known_formHeaps_2 F _ n) _ s ((12 : Nat) : Int)) _
    unfold b_Known_formHeaps_2
    refine T_yes (by decide) ?_
    refine loopG (l := fun n (s : St) x => l_Known_formHeaps_23 F _ n s (x : Nat)) (N := 24) (I := fun B s => frs K26 x1 s ∧ LB hs s ∧ BD hs B s) (G := fun r => T r _) ?_ ?_ 24 0 F s (by omega) (by omega) ⟨hI.1, fun j hj => .inl (hI.2 j hj), fun b hb => absurd hb (Nat.not_lt_zero b)⟩
    · intro n B s hB hI next
      obtain ⟨i1, i2, i3⟩ := hI
      show T (b_Known_formHeaps_23 F (l_Known_formHeaps_23 F _ n) _ s B) _
      unfold b_Known_formHeaps_23
      refine T_no (by rw [show w32 24 = 24 by decide, wnat (by omega)]; omega) ?_
      exact form_33 hC i1 hB i2 i3 (fun t g1 g2 g3 => next t ⟨g1, g2, g3⟩) hF
    · intro n s hI
      obtain ⟨i1, i2, i3⟩ := hI
      show T (b_Known_formHeaps_23 F (l_Known_formHeaps_23 F _ n) _ s ((24 : Nat) : Int)) _
      unfold b_Known_formHeaps_23
      refine T_yes (by decide) (T_some ⟨i1, fun j hj => ⟨fun hm => ?_, fun hm => ?_⟩, fun b j j2 q1 q2 => (i3 b (hC.1 b j q1).1 j j2 q1 q2).2⟩)
      · obtain ⟨b, hb⟩ := hm
        have z := i3 b (hC.1 b j hb).1 j j hb hb
        rcases i2 j hj with q | ⟨q1, q2, q3, q4, q5⟩
        · omega
        · exact ⟨q1, q2, q3, q5⟩
      · rcases i2 j hj with q | ⟨q1, q2, q3, q4, q5⟩
        · exact q
        · exact absurd q4 hm
