def chf (cs : Nat) : Nat → Int := fun i => schr cs (i : Int)
def lnf (cs : Nat) : Nat := lenK.getD (cs - 1000) 0
theorem ks_7 {cs : Nat} (h : 1000 ≤ cs ∧ cs < 1007) : cs = 1000 ∨ cs = 1001 ∨ cs = 1002 ∨ cs = 1003 ∨ cs = 1004 ∨ cs = 1005 ∨ cs = 1006 := by omega
theorem ch_lt {cs : Nat} (h : 1000 ≤ cs ∧ cs < 1007) : ∀ i, i < lnf cs → isLt (chf cs i) = true := by
  rcases ks_7 h with e | e | e | e | e | e | e <;> rw [e] <;> decide +kernel
theorem ln_le {cs : Nat} (h : 1000 ≤ cs ∧ cs < 1007) : 3 ≤ lnf cs ∧ lnf cs ≤ 6 := by
  rcases ks_7 h with e | e | e | e | e | e | e <;> rw [e] <;> decide +kernel
theorem sp_prize (sg : St) : f_M_spelled sg 112 114 105 122 101 0 = some (wdc (chf 1000) 0 5, sg) := rfl
theorem sp_field (sg : St) : f_M_spelled sg 102 105 101 108 100 0 = some (wdc (chf 1001) 0 5, sg) := rfl
theorem sp_age (sg : St) : f_M_spelled sg 97 103 101 0 0 0 = some (wdc (chf 1002) 0 3, sg) := rfl
theorem sp_school (sg : St) : f_M_spelled sg 115 99 104 111 111 108 = some (wdc (chf 1003) 0 6, sg) := rfl
theorem sp_seen (sg : St) : f_M_spelled sg 115 101 101 110 0 0 = some (wdc (chf 1004) 0 4, sg) := rfl
theorem sp_best (sg : St) : f_M_spelled sg 98 101 115 116 0 0 = some (wdc (chf 1005) 0 4, sg) := rfl
theorem sp_alone (sg : St) : f_M_spelled sg 97 108 111 110 101 0 = some (wdc (chf 1006) 0 5, sg) := rfl
def bnd : Nat → Int
  | 0 => 1
  | n + 1 => 32 * bnd n
theorem bnd_le : ∀ n, n < 13 → bnd n ≤ 1152921504606846976 := by decide
theorem isLt_rng {x : Int} (h : isLt x = true) : 97 ≤ x ∧ x ≤ 122 := by
  unfold isLt at h
  simpa using h
theorem wdc_succ (tp : Nat → Int) (a n : Nat) : wdc tp a (n + 1) = if 12 ≤ n then -1 else wdc tp a n * 32 + tp (a + n) - 96 := rfl
theorem wdc_b {tp : Nat → Int} {a : Nat} : ∀ n, n ≤ 12 → (∀ i, i < n → isLt (tp (a + i)) = true) → 0 ≤ wdc tp a n ∧ wdc tp a n < bnd n ∧ (0 < n → 0 < wdc tp a n)
  | 0, _, _ => ⟨Int.le_refl 0, show (0 : Int) < 1 by decide, fun h => absurd h (Nat.lt_irrefl 0)⟩
  | n + 1, h, hl => by
    have ih := wdc_b (tp := tp) (a := a) n (by omega) (fun i hi => hl i (by omega))
    have z := isLt_rng (hl n (by omega))
    rw [wdc_succ, if_neg (by omega)]
    have e : bnd (n + 1) = 32 * bnd n := rfl
    rw [e]
    refine ⟨by omega, by omega, fun _ => by omega⟩
theorem wdc_big (tp : Nat → Int) (a : Nat) {n : Nat} (h : 13 ≤ n) : wdc tp a n = -1 := by
  obtain ⟨k, rfl⟩ : ∃ k, n = k + 1 := ⟨n - 1, by omega⟩
  rw [wdc_succ, if_pos (by omega)]
theorem wdc_inj {tp ch : Nat → Int} {a : Nat} : ∀ (n m : Nat), n ≤ 12 → m ≤ 12 → (∀ i, i < m → isLt (tp (a + i)) = true) → (∀ i, i < n → isLt (ch (0 + i)) = true) → (wdc tp a m = wdc ch 0 n ↔ m = n ∧ ∀ i, i < n → tp (a + i) = ch i)
  | 0, 0, _, _, _, _ => ⟨fun _ => ⟨rfl, fun i h => absurd h (Nat.not_lt_zero i)⟩, fun _ => rfl⟩
  | 0, m + 1, _, hm, h1, _ => by
    have b := (wdc_b (m + 1) hm h1).2.2 (by omega)
    have e : wdc ch 0 0 = 0 := rfl
    rw [e]
    exact ⟨fun h => by omega, fun h => by omega⟩
  | n + 1, 0, hn, _, _, h2 => by
    have b := (wdc_b (tp := ch) (a := 0) (n + 1) hn h2).2.2 (by omega)
    have e : wdc tp a 0 = 0 := rfl
    rw [e]
    exact ⟨fun h => by omega, fun h => by omega⟩
  | n + 1, m + 1, hn, hm, h1, h2 => by
    have ih := wdc_inj (tp := tp) (ch := ch) (a := a) n m (by omega) (by omega) (fun i hi => h1 i (by omega)) (fun i hi => h2 i (by omega))
    have z1 := isLt_rng (h1 m (by omega))
    have z2 := isLt_rng (h2 n (by omega))
    rw [wdc_succ, wdc_succ, if_neg (by omega), if_neg (by omega)]
    rw [Nat.zero_add] at *
    constructor
    · intro h
      have e1 : wdc tp a m = wdc ch 0 n := by omega
      have e2 : tp (a + m) = ch n := by omega
      obtain ⟨r1, r2⟩ := ih.mp e1
      refine ⟨by omega, fun i hi => ?_⟩
      by_cases e : i = n
      · rw [e, ← r1]; rw [r1] at e2; rw [r1]; exact e2
      · exact r2 i (by omega)
    · intro ⟨h3, h4⟩
      have e3 : m = n := by omega
      have e1 := ih.mpr ⟨e3, fun i hi => h4 i (by omega)⟩
      have e2 := h4 n (by omega)
      rw [e1, e3, e2]
/-- the word in hand is the cs-th -/
def KWD (tp : Nat → Int) (a r cs : Nat) : Prop := r - a = lnf cs ∧ ∀ i, i < lnf cs → tp (a + i) = chf cs i
def kwB (tp : Nat → Int) (a r cs : Nat) : Bool := decide (r - a = lnf cs) && (List.range (lnf cs)).all (fun i => decide (tp (a + i) = chf cs i))
theorem kwB_iff {tp : Nat → Int} {a r cs : Nat} : kwB tp a r cs = true ↔ KWD tp a r cs := by
  unfold kwB KWD
  simp [List.all_eq_true]
theorem wordM_eq {tp : Nat → Int} {a r cs n : Nat} {s : St} (hcs : 1000 ≤ cs ∧ cs < 1007) (hn : n = lnf cs) (har : a ≤ r) (hr : r ≤ 300) (hl : ∀ k, a ≤ k → k < r → isLt (tp k) = true) (h81 : s 0 81 = 1) (h85 : s 0 85 = wdc tp a (r - a)) : f_M_isWord s (wdc (chf cs) 0 n) = some (b01 (kwB tp a r cs = true), s) := by
  rw [hn]
  unfold f_M_isWord
  have hlen := ln_le hcs
  have hch := ch_lt hcs
  have bK := wdc_b (tp := chf cs) (a := 0) (lnf cs) (by omega) (fun i hi => by rw [Nat.zero_add]; exact hch i hi)
  have bl := bnd_le (lnf cs) (by omega)
  rw [h81, if_pos rfl, h85, w64_id (a := wdc (chf cs) 0 (lnf cs)) (by omega) (by omega)]
  by_cases hb : r - a ≤ 12
  · have bW := wdc_b (tp := tp) (a := a) (r - a) hb (fun i hi => hl (a + i) (by omega) (by omega))
    have bl2 := bnd_le (r - a) (by omega)
    rw [w64_id (a := wdc tp a (r - a)) (by omega) (by omega)]
    have inj := wdc_inj (tp := tp) (ch := chf cs) (a := a) (lnf cs) (r - a) (by omega) hb (fun i hi => hl (a + i) (by omega) (by omega)) (fun i hi => by rw [Nat.zero_add]; exact hch i hi)
    by_cases c : wdc tp a (r - a) = wdc (chf cs) 0 (lnf cs)
    · rw [if_pos c, b01_of (kwB_iff.mpr (inj.mp c))]
    · rw [if_neg c, b01_not (fun q => c (inj.mpr (kwB_iff.mp q)))]
  · rw [wdc_big tp a (by omega), show w64 (-1) = -1 by decide, if_neg (by omega), b01_not (fun q => by have := (kwB_iff.mp q).1; omega)]
theorem wordM_no {s : St} {K : Int} (h81 : ¬ s 0 81 = 1) (hr : 0 ≤ s 0 81 ∧ s 0 81 ≤ 4) : f_M_isWord s K = some (0, s) := by
  unfold f_M_isWord
  rw [if_neg (by rw [wid (a := s 0 81) (by omega) (by omega), show w32 1 = 1 by decide]; exact h81)]
theorem len_eq (cs : Nat) (s : St) : f_S_length cs s = some (((lnf cs : Nat) : Int), s) := rfl
theorem chr_eq {cs i : Nat} {s : St} (hcs : 1000 ≤ cs ∧ cs < 1007) (hi : i < lnf cs) : f_S_charAt cs s (i : Int) = some (chf cs i, s) := by
  have hlen := ln_le hcs
  unfold f_S_charAt
  exact gd_yes (inbN (n := lnf cs) hi (by omega))
theorem wordX_eq {F : Nat} {tp : Nat → Int} {a r cs : Nat} {s : St} (hcs : 1000 ≤ cs ∧ cs < 1007) (har : a ≤ r) (hr : r ≤ 300) (h42 : ∀ k, s 42 k = tp k) (hrg : ∀ k, -128 ≤ tp k ∧ tp k ≤ 127) (h5 : s 41 5 = 1) (h6 : s 41 6 = a) (h7 : s 41 7 = r) (hF : 20 ≤ F) : f_Read_isWord F cs s = some (b01 (kwB tp a r cs = true), s) := by
  have hlen := ln_le hcs
  have hch := ch_lt hcs
  unfold f_Read_isWord
  rw [h5, if_pos rfl, len_eq]
  simp only [Option.bind_some]
  rw [h6, h7, wid (a := (r : Int) - a) (by omega) (by omega), wnat (by omega)]
  by_cases c : r - a = lnf cs
  · rw [if_pos (by omega)]
    refine loopG (l := fun n (_ : Unit) x => l_Read_isWord_28 cs F (fun s4 => some (1, s4)) n s (x : Nat)) (N := lnf cs) (I := fun x _ => ∀ i, i < x → tp (a + i) = chf cs i) (G := fun q => q = some (b01 (kwB tp a r cs = true), s)) ?_ ?_ (lnf cs) 0 F () (by omega) (by omega) (fun i h => absurd h (Nat.not_lt_zero i))
    · intro n x _ hx hI next
      show b_Read_isWord_28 cs F (l_Read_isWord_28 cs F _ n) _ s x = _
      unfold b_Read_isWord_28
      rw [len_eq]
      simp only [Option.bind_some]
      have hsum : s 41 6 + (x : Int) = ((a + x : Nat) : Int) := by rw [h6]; omega
      rw [if_neg (by rw [wnat (by omega), wnat (by omega)]; omega), gd_yes (show inb (s 41 6 + (x : Int)) 300 by rw [hsum]; exact inbN (show a + x < 300 by omega) (by decide)), hsum, ix_nat (by omega), chr_eq hcs hx]
      simp only [Option.bind_some]
      rw [h42]
      have z := hrg (a + x)
      have z2 := isLt_rng (hch x hx)
      rw [wid (a := tp (a + x)) (by omega) (by omega), wid (a := chf cs x) (by omega) (by omega)]
      by_cases c2 : tp (a + x) = chf cs x
      · rw [if_pos c2, show (x : Int) + 1 = ((x + 1 : Nat) : Int) by omega]
        refine next () (fun i hi => ?_)
        by_cases e : i = x
        · rw [e]; exact c2
        · exact hI i (by omega)
      · rw [if_neg c2, b01_not (fun q => c2 ((kwB_iff.mp q).2 x hx))]
    · intro n _ hI
      show b_Read_isWord_28 cs F (l_Read_isWord_28 cs F _ n) _ s ((lnf cs : Nat) : Int) = _
      unfold b_Read_isWord_28
      rw [len_eq]
      simp only [Option.bind_some]
      rw [if_pos (Int.le_refl _), b01_of (kwB_iff.mpr ⟨c, hI⟩)]
  · rw [if_neg (by omega), b01_not (fun q => c (kwB_iff.mp q).1)]
theorem wordX_no {F cs : Nat} {s : St} (h5 : ¬ s 41 5 = 1) (hr : 0 ≤ s 41 5 ∧ s 41 5 ≤ 3) : f_Read_isWord F cs s = some (0, s) := by
  unfold f_Read_isWord
  rw [if_neg (by rw [wid (a := s 41 5) (by omega) (by omega), show w32 1 = 1 by decide]; exact h5)]
