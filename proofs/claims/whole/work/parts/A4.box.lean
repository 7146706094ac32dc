/-! a heap's equations, in the abstract -/
def nthq (P : Nat → Bool) : Nat → Nat → Nat
  | 0, _ => 0
  | N + 1, i => if P N = true ∧ fb_ct P N = i then N else nthq P N i
theorem nthq_spec {P : Nat → Bool} : ∀ {N i : Nat}, i < fb_ct P N → nthq P N i < N ∧ P (nthq P N i) = true ∧ fb_ct P (nthq P N i) = i
  | 0, i, h => absurd h (Nat.not_lt_zero i)
  | N + 1, i, h => by
    show (if P N = true ∧ fb_ct P N = i then N else nthq P N i) < N + 1 ∧ P (if P N = true ∧ fb_ct P N = i then N else nthq P N i) = true ∧ fb_ct P (if P N = true ∧ fb_ct P N = i then N else nthq P N i) = i
    by_cases c : P N = true ∧ fb_ct P N = i
    · rw [if_pos c]; exact ⟨by omega, c.1, c.2⟩
    · rw [if_neg c]
      rw [fb_ct_succ] at h
      have h2 : i < fb_ct P N := by
        by_cases e : P N = true
        · rw [if_pos e] at h
          have : fb_ct P N ≠ i := fun q => c ⟨e, q⟩
          omega
        · rw [if_neg e] at h; omega
      have ih := nthq_spec h2
      exact ⟨by omega, ih.2⟩
theorem nthq_of {P : Nat → Bool} {N k : Nat} (hk : k < N) (hP : P k = true) : fb_ct P k < fb_ct P N ∧ nthq P N (fb_ct P k) = k := by
  have a : fb_ct P (k + 1) ≤ fb_ct P N := fb_ct_mono P hk
  rw [fb_ct_succ, if_pos hP] at a
  have z := nthq_spec (P := P) (N := N) (i := fb_ct P k) (by omega)
  exact ⟨by omega, fb_ct_kth_one z.2.1 hP z.2.2⟩
theorem nthq_sum (P : Nat → Bool) (g : Nat → Int) : ∀ N, fb_si (fun q => g (nthq P N q)) (fb_ct P N) = fb_si (fun j => if P j = true then g j else 0) N
  | 0 => rfl
  | N + 1 => by
    rw [fb_si_succ, ← nthq_sum P g N, fb_ct_succ]
    have low : ∀ q, q < fb_ct P N → nthq P (N + 1) q = nthq P N q := fun q hq => if_neg (fun c => by omega)
    by_cases e : P N = true
    · rw [if_pos e, if_pos e, fb_si_succ]
      have t : nthq P (N + 1) (fb_ct P N) = N := if_pos ⟨e, rfl⟩
      rw [t]
      congr 1
      exact fb_si_cong (fun q hq => by rw [low q hq])
    · rw [if_neg e, if_neg e, Nat.add_zero, Int.add_zero]
      exact fb_si_cong (fun q hq => by rw [low q hq])
theorem ctq_si (p : Nat → Bool) : ∀ n, ((fb_ct p n : Nat) : Int) = fb_si (fun k => if p k = true then 1 else 0) n
  | 0 => rfl
  | n + 1 => by
    rw [fb_ct_succ, fb_si_succ, ← ctq_si p n]
    by_cases e : p n = true
    · rw [if_pos e, if_pos e]; omega
    · rw [if_neg e, if_neg e]; omega
theorem ct_seg {n : Nat} : fb_ct (segq n) n = n := fb_ct_all.mpr (fun k hk => by unfold segq; simp [hk])
def manyq (hs : Nat → Nat → Bool) (b : Nat) : Nat := fb_ct (hs b) 12
def totq (hs : Nat → Nat → Bool) (pt : Nat → Nat → Int) (b : Nat) : Int := fb_si (fun j => if hs b j = true then pt b j else 0) 12
def shq (hs : Nat → Nat → Bool) (b : Nat) : Int := ((60 / manyq hs b : Nat) : Int)
def tA (hs : Nat → Nat → Bool) (mem : Nat → Nat) (b i q : Nat) : Int := if hs b (mem i) = true then (if q = i then 60 else 0) - (if hs b (mem q) = true then shq hs b else 0) else 0
def tR (hs : Nat → Nat → Bool) (pt : Nat → Nat → Int) (mem : Nat → Nat) (b i : Nat) : Int := if hs b (mem i) = true then 60 * pt b (mem i) - shq hs b * totq hs pt b else 0
def AA (hs : Nat → Nat → Bool) (mem : Nat → Nat) (i q : Nat) : Int := fb_si (fun b => tA hs mem b i q) 24
def RR (hs : Nat → Nat → Bool) (pt : Nat → Nat → Int) (mem : Nat → Nat) (i : Nat) : Int := fb_si (fun b => tR hs pt mem b i) 24
def EE (hs : Nat → Nat → Bool) (pt : Nat → Nat → Int) (mem : Nat → Nat) (n : Nat) (col : Int) (i q : Nat) : Int := if (q : Int) = col then (if i + 1 = n then 0 else RR hs pt mem i) else (if i + 1 = n then 1 else AA hs mem i q)
def BOX (nb nj n : Nat) (hs : Nat → Nat → Bool) (pt : Nat → Nat → Int) (P : Nat → Bool) : Prop := nb ≤ 24 ∧ nj ≤ 12 ∧ (∀ b j, hs b j = true → b < nb ∧ j < nj) ∧ (∀ b j, hs b j = true → 0 ≤ pt b j ∧ pt b j ≤ 100) ∧ (∀ j, P j = true → j < nj) ∧ (∀ b j j2, hs b j = true → hs b j2 = true → P j = P j2) ∧ fb_ct P 12 = n ∧ 1 ≤ n ∧ n ≤ 5 ∧ ∀ f : Nat → Nat, CMP hs f → ∀ j j2, P j = true → P j2 = true → f j = f j2
section BX
variable {nb nj n : Nat} {hs : Nat → Nat → Bool} {pt : Nat → Nat → Int} {P : Nat → Bool}
theorem BX_mem (h : BOX nb nj n hs pt P) {i : Nat} (hi : i < n) : nthq P 12 i < nj ∧ nthq P 12 i < 12 ∧ P (nthq P 12 i) = true ∧ fb_ct P (nthq P 12 i) = i := by
  obtain ⟨h1, h2, h3, h4, h5, h6, h7, h8, h9, h10⟩ := h
  have z := nthq_spec (P := P) (N := 12) (i := i) (by omega)
  exact ⟨h5 _ z.2.1, z.1, z.2.1, z.2.2⟩
theorem BX_of (h : BOX nb nj n hs pt P) {j : Nat} (hj : P j = true) : fb_ct P j < n ∧ nthq P 12 (fb_ct P j) = j := by
  obtain ⟨h1, h2, h3, h4, h5, h6, h7, h8, h9, h10⟩ := h
  have z := nthq_of (N := 12) (by have := h5 j hj; omega) hj
  rw [h7] at z
  exact z
/-- what a board's members add up to, where a member has marked it -/
theorem BX_sum (h : BOX nb nj n hs pt P) {b j : Nat} (hb : hs b j = true) (hj : P j = true) (g : Nat → Int) : fb_si (fun q => if hs b (nthq P 12 q) = true then g (nthq P 12 q) else 0) n = fb_si (fun j => if hs b j = true then g j else 0) 12 := by
  obtain ⟨h1, h2, h3, h4, h5, h6, h7, h8, h9, h10⟩ := h
  have z := nthq_sum P (fun k => if hs b k = true then g k else 0) 12
  rw [h7] at z
  rw [z]
  refine fb_si_cong (fun k hk => ?_)
  by_cases c : hs b k = true
  · rw [if_pos c, if_pos (by rw [h6 b k j c hb]; exact hj)]
  · rw [if_neg c]; split <;> rfl
theorem BX_many (h : BOX nb nj n hs pt P) {b j : Nat} (hb : hs b j = true) (hj : P j = true) : fb_ct (fun q => hs b (nthq P 12 q)) n = manyq hs b ∧ 1 ≤ manyq hs b ∧ manyq hs b ≤ 5 := by
  have z := BX_sum h hb hj (fun _ => 1)
  rw [← ctq_si (hs b) 12, ← ctq_si (fun q => hs b (nthq P 12 q)) n] at z
  have e : fb_ct (fun q => hs b (nthq P 12 q)) n = manyq hs b := by unfold manyq; omega
  have l := fb_ct_le (fun q => hs b (nthq P 12 q)) n
  obtain ⟨h1, h2, h3, h4, h5, h6, h7, h8, h9, h10⟩ := h
  have p : 0 < fb_ct (hs b) 12 := fb_ct_pos.mpr ⟨j, by have := h5 j hj; omega, hb⟩
  unfold manyq at *
  exact ⟨e, by omega, by omega⟩
theorem BX_sh (h : BOX nb nj n hs pt P) {b j : Nat} (hb : hs b j = true) (hj : P j = true) : 0 < shq hs b ∧ shq hs b ≤ 60 ∧ shq hs b * (manyq hs b : Nat) = 60 := by
  have m := (BX_many h hb hj).2
  unfold shq
  generalize manyq hs b = k at *
  have : k = 1 ∨ k = 2 ∨ k = 3 ∨ k = 4 ∨ k = 5 := by omega
  rcases this with h | h | h | h | h <;> subst h <;> decide
theorem BX_tot (h : BOX nb nj n hs pt P) (b : Nat) : 0 ≤ totq hs pt b ∧ totq hs pt b ≤ 100 * (manyq hs b : Nat) := by
  obtain ⟨h1, h2, h3, h4, h5, h6, h7, h8, h9, h10⟩ := h
  have key : ∀ n, 0 ≤ fb_si (fun j => if hs b j = true then pt b j else 0) n ∧ fb_si (fun j => if hs b j = true then pt b j else 0) n ≤ 100 * ((fb_ct (hs b) n : Nat) : Int) := by
    intro n
    induction n with
    | zero => exact ⟨Int.le_refl 0, Int.le_refl 0⟩
    | succ n ih =>
      rw [fb_si_succ, fb_ct_succ]
      by_cases c : hs b n = true
      · have := h4 b n c
        rw [if_pos c, if_pos c]
        omega
      · rw [if_neg c, if_neg c]
        omega
  exact key 12
theorem tA_bd (h : BOX nb nj n hs pt P) {b i q : Nat} (hi : i < n) : (tA hs (nthq P 12) b i q).natAbs ≤ 60 := by
  unfold tA
  by_cases c : hs b (nthq P 12 i) = true
  · have s := BX_sh h c (BX_mem h hi).2.2.1
    rw [if_pos c]
    by_cases e : q = i
    · rw [if_pos e, e, if_pos c]; omega
    · rw [if_neg e]; split <;> omega
  · rw [if_neg c]; decide
theorem tR_bd (h : BOX nb nj n hs pt P) {b i : Nat} (hi : i < n) : (tR hs pt (nthq P 12) b i).natAbs ≤ 6000 := by
  unfold tR
  by_cases c : hs b (nthq P 12 i) = true
  · have s := BX_sh h c (BX_mem h hi).2.2.1
    have t := BX_tot h b
    have p := h.2.2.2.1 _ _ c
    rw [if_pos c]
    have l1 : 0 ≤ shq hs b * totq hs pt b := Int.mul_nonneg (by omega) t.1
    have l2 : shq hs b * totq hs pt b ≤ shq hs b * (100 * (manyq hs b : Nat)) := Int.mul_le_mul_of_nonneg_left t.2 (by omega)
    have l3 : shq hs b * (100 * (manyq hs b : Nat)) = 100 * (shq hs b * (manyq hs b : Nat)) := Int.mul_left_comm _ _ _
    rw [l3, s.2.2] at l2
    omega
  · rw [if_neg c]; decide
theorem si_abs24 {f : Nat → Int} {c : Nat} (h : ∀ b, (f b).natAbs ≤ c) : (fb_si f 24).natAbs ≤ 24 * c := by
  have z := si_absS (f := f) (S := fun _ => true) (c := c) (n := 24) (fun k _ => by rw [if_pos rfl]; exact h k)
  rw [fb_ct_all.mpr (fun _ _ => rfl)] at z
  exact z
theorem AA_bd (h : BOX nb nj n hs pt P) {i q : Nat} (hi : i < n) : (AA hs (nthq P 12) i q).natAbs ≤ 1440 := si_abs24 (fun _ => tA_bd h hi)
theorem RR_bd (h : BOX nb nj n hs pt P) {i : Nat} (hi : i < n) : (RR hs pt (nthq P 12) i).natAbs ≤ 144000 := si_abs24 (fun _ => tR_bd h hi)
theorem fc_bd {m : Nat} (hm : m ≤ 4) : (m + 1) * (fcq m * 1440 ^ m) ≤ 515978035200000 := by
  have : m = 0 ∨ m = 1 ∨ m = 2 ∨ m = 3 ∨ m = 4 := by omega
  rcases this with h | h | h | h | h <;> subst h <;> decide
theorem EE_bd (h : BOX nb nj n hs pt P) {col : Int} {c : Nat} (hc : ∀ q : Nat, q < n → ((q : Int) = col ↔ q = c)) : (DT (EE hs pt (nthq P 12) n col) n n (segq n)).natAbs ≤ 515978035200000 * (if c < n then 100 else 1) := by
  obtain ⟨m, hm⟩ : ∃ m, n = m + 1 := ⟨n - 1, by have := h.2.2.2.2.2.2.2.1; omega⟩
  have h9 := h.2.2.2.2.2.2.2.2.1
  have w1 : 1 ≤ (if c < n then 100 else 1) := by split <;> omega
  have low : ∀ q, q < n → (DT (EE hs pt (nthq P 12) n col) n m (cutS (segq n) q)).natAbs ≤ fcq m * 1440 ^ m * (if c < n then 100 else 1) := by
    intro q hq
    have ct : fb_ct (cutS (segq n) q) n = m := by
      have a := dct_cut (S := segq n) hq (by unfold segq; simp [hq])
      rw [ct_seg] at a
      omega
    have z := DT_bd (a := EE hs pt (nthq P 12) n col) (n := n) (col := c) (B := 1440) (k := m) (S := cutS (segq n) q) ct (fun i p hi hp hne => by
      unfold EE
      rw [if_neg (fun e => hne ((hc p hp).mp e)), if_neg (by omega)]
      exact AA_bd h (by omega)) (fun i hi hcn => by
      unfold EE
      rw [if_pos ((hc c hcn).mpr rfl), if_neg (by omega)]
      exact RR_bd h (by omega))
    refine Nat.le_trans z (Nat.mul_le_mul_left _ ?_)
    by_cases e : cutS (segq n) q c = true
    · rw [if_pos e, if_pos (by unfold cutS segq at e; simp at e; exact e.1)]; exact Nat.le_refl _
    · rw [if_neg e]; exact w1
  have each : ∀ q, q < n → (if segq n q = true then sgq (abv (segq n) n q) * EE hs pt (nthq P 12) n col m q * DT (EE hs pt (nthq P 12) n col) n m (cutS (segq n) q) else 0).natAbs ≤ if segq n q = true then fcq m * 1440 ^ m * (if c < n then 100 else 1) else 0 := by
    intro q hq
    have e : segq n q = true := by unfold segq; simp [hq]
    rw [if_pos e, if_pos e, Int.natAbs_mul, Int.natAbs_mul, sgn_abs, Nat.one_mul]
    have e1 : (EE hs pt (nthq P 12) n col m q).natAbs ≤ 1 := by
      unfold EE
      rw [if_pos hm.symm, if_pos hm.symm]
      split <;> decide
    have z := Nat.mul_le_mul e1 (low q hq)
    rw [Nat.one_mul] at z
    exact z
  have z : (DT (EE hs pt (nthq P 12) n col) n (m + 1) (segq n)).natAbs ≤ fb_ct (segq n) n * (fcq m * 1440 ^ m * (if c < n then 100 else 1)) := by
    rw [DT_succ]
    exact si_absS each
  rw [ct_seg] at z
  have e : DT (EE hs pt (nthq P 12) n col) n n (segq n) = DT (EE hs pt (nthq P 12) n col) n (m + 1) (segq n) := by rw [← hm]
  rw [e]
  refine Nat.le_trans z ?_
  rw [← Nat.mul_assoc]
  refine Nat.mul_le_mul_right _ ?_
  have f := fc_bd (m := m) (by omega)
  rw [hm]
  exact f
theorem EE_ne (h : BOX nb nj n hs pt P) : DT (EE hs pt (nthq P 12) n (-1)) n n (segq n) ≠ 0 := by
  obtain ⟨m, hm⟩ : ∃ m, n = m + 1 := ⟨n - 1, by have := h.2.2.2.2.2.2.2.1; omega⟩
  subst hm
  have h0 := h
  obtain ⟨h1, h2, h3, h4, h5, h6, h7, h8, h9, h10⟩ := h
  have off : ∀ b i q, i < m + 1 → i ≠ q → tA hs (nthq P 12) b i q ≤ 0 := by
    intro b i q hi hne
    unfold tA
    by_cases c : hs b (nthq P 12 i) = true
    · have s := BX_sh h0 c (BX_mem h0 hi).2.2.1
      rw [if_pos c, if_neg (fun e => hne e.symm)]
      split <;> omega
    · rw [if_neg c]; exact Int.le_refl 0
  have neg : ∀ b i q, i < m + 1 → q < m + 1 → i ≠ q → hs b (nthq P 12 i) = true → hs b (nthq P 12 q) = true → AA hs (nthq P 12) i q < 0 := by
    intro b i q hi hq hne c1 c2
    have hb : b < 24 := by have := (h3 b _ c1).1; omega
    have s := BX_sh h0 c1 (BX_mem h0 hi).2.2.1
    have le : fb_si (fun b => (-1) * tA hs (nthq P 12) b i q) 24 = (-1) * AA hs (nthq P 12) i q := fb_si_mul (-1) _ 24
    have nn : ∀ b, b < 24 → 0 ≤ (-1) * tA hs (nthq P 12) b i q := fun b _ => by have := off b i q hi hne; omega
    have p := si_nn nn
    rcases Int.lt_or_eq_of_le p with q1 | q1
    · omega
    · exfalso
      have z := si_nn0 nn q1.symm b hb
      have e : tA hs (nthq P 12) b i q = - shq hs b := by
        unfold tA
        rw [if_pos c1, if_neg (fun e => hne e.symm), if_pos c2]
        omega
      rw [e] at z
      omega
  refine DT_ne (a := AA hs (nthq P 12)) ?_ ?_ ?_ ?_ ?_ ?_
  · intro i hi
    have e : fb_si (fun q => AA hs (nthq P 12) i q) (m + 1) = fb_si (fun b => fb_si (fun q => tA hs (nthq P 12) b i q) (m + 1)) 24 := dsi_swap (fun q b => tA hs (nthq P 12) b i q) 24 (m + 1)
    rw [e]
    refine (fb_si_cong (fun b hb => ?_)).trans (dsi_zero 24)
    by_cases c : hs b (nthq P 12 i) = true
    · have s := BX_sh h0 c (BX_mem h0 hi).2.2.1
      have mm := BX_many h0 c (BX_mem h0 hi).2.2.1
      have e2 : fb_si (fun q => tA hs (nthq P 12) b i q) (m + 1) = fb_si (fun q => if q = i then 60 else 0) (m + 1) - fb_si (fun q => shq hs b * (if hs b (nthq P 12 q) = true then 1 else 0)) (m + 1) := by
        rw [← fb_si_sub]
        refine fb_si_cong (fun q hq => ?_)
        unfold tA
        rw [if_pos c]
        congr 1
        split
        · rw [Int.mul_one]
        · rw [Int.mul_zero]
      have e3 : fb_si (fun q => if q = i then (60 : Int) else 0) (m + 1) = 60 := by
        have z := fb_si_upd (fun _ => 0) 60 hi
        rw [dsi_zero] at z
        exact z
      rw [e2, e3, fb_si_mul, ← ctq_si (fun q => hs b (nthq P 12 q)) (m + 1), mm.1, s.2.2]
      rfl
    · refine (fb_si_cong (fun q hq => ?_)).trans (dsi_zero (m + 1))
      unfold tA
      rw [if_neg c]
  · intro i q hi hq hne
    have le : fb_si (fun b => (-1) * tA hs (nthq P 12) b i q) 24 = (-1) * AA hs (nthq P 12) i q := fb_si_mul (-1) _ 24
    have p := si_nn (f := fun b => (-1) * tA hs (nthq P 12) b i q) (n := 24) (fun b _ => by have := off b i q hi hne; omega)
    omega
  · intro i q hi hq
    refine fb_si_cong (fun b hb => ?_)
    unfold tA
    by_cases e : i = q
    · rw [e]
    · rw [if_neg e, if_neg (show ¬ q = i from fun z => e z.symm)]
      by_cases c1 : hs b (nthq P 12 i) = true
      · by_cases c2 : hs b (nthq P 12 q) = true
        · rw [if_pos c1, if_pos c2, if_pos c1, if_pos c2]
        · rw [if_pos c1, if_neg c2, if_neg c2]; rfl
      · by_cases c2 : hs b (nthq P 12 q) = true
        · rw [if_neg c1, if_pos c2, if_neg c1]; rfl
        · rw [if_neg c1, if_neg c2]
  · intro x hx i q hi hq
    have z := h10 (fun j => if P j = true then (if x (fb_ct P j) = x i then 1 else 0) else 2) (fun b j j2 c1 c2 => by
      show (if P j = true then (if x (fb_ct P j) = x i then 1 else 0) else 2) = (if P j2 = true then (if x (fb_ct P j2) = x i then 1 else 0) else 2)
      rw [h6 b j j2 c1 c2]
      by_cases c : P j2 = true
      · rw [if_pos c, if_pos c]
        have c3 : P j = true := by rw [h6 b j j2 c1 c2]; exact c
        have u := BX_of h0 c3
        have v := BX_of h0 c
        have e : x (fb_ct P j) = x (fb_ct P j2) := by
          by_cases d : fb_ct P j = fb_ct P j2
          · rw [d]
          · exact hx _ _ u.1 v.1 d (neg b _ _ u.1 v.1 d (by rw [u.2]; exact c1) (by rw [v.2]; exact c2))
        rw [e]
      · rw [if_neg c, if_neg c]) (nthq P 12 i) (nthq P 12 q) (BX_mem h0 hi).2.2.1 (BX_mem h0 hq).2.2.1
    rw [if_pos (BX_mem h0 hi).2.2.1, if_pos (BX_mem h0 hq).2.2.1, (BX_mem h0 hi).2.2.2, (BX_mem h0 hq).2.2.2, if_pos rfl] at z
    by_cases c : x q = x i
    · exact c.symm
    · rw [if_neg c] at z; omega
  · intro i hi q hq
    unfold EE
    rw [if_neg (by omega), if_neg (by omega)]
  · intro q hq
    unfold EE
    rw [if_neg (by omega), if_pos rfl]
end BX
