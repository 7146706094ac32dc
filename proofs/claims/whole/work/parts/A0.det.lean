/-! determinants by the last row, in the abstract -/
theorem dsi_zero : ∀ n, fb_si (fun _ => 0) n = 0
  | 0 => rfl
  | n + 1 => by rw [fb_si_succ, dsi_zero n]; rfl
theorem dsi_swap (f : Nat → Nat → Int) (m : Nat) : ∀ n, fb_si (fun q => fb_si (fun p => f q p) m) n = fb_si (fun p => fb_si (fun q => f q p) n) m
  | 0 => (dsi_zero m).symm
  | n + 1 => by
    rw [fb_si_succ, dsi_swap f m n, ← fb_si_add]
    rfl
theorem si_anti2 {n : Nat} {f g : Nat → Nat → Int} (h : ∀ q p, q < n → p < n → f q p = - g p q) : fb_si (fun q => fb_si (fun p => f q p) n) n = - fb_si (fun q => fb_si (fun p => g q p) n) n := by
  have e1 := dsi_swap f n n
  have e2 : fb_si (fun p => fb_si (fun q => f q p) n) n = fb_si (fun p => (-1) * fb_si (fun q => g p q) n) n := fb_si_cong (fun p hp => by
    rw [← fb_si_mul]
    exact fb_si_cong (fun q hq => by rw [h q p hq hp]; omega))
  rw [fb_si_mul] at e2
  omega
theorem si_anti {n : Nat} {f : Nat → Nat → Int} (h : ∀ q p, q < n → p < n → f q p = - f p q) : fb_si (fun q => fb_si (fun p => f q p) n) n = 0 := by
  have := si_anti2 h
  omega
theorem si_nn {f : Nat → Int} : ∀ {n : Nat}, (∀ k, k < n → 0 ≤ f k) → 0 ≤ fb_si f n
  | 0, _ => Int.le_refl 0
  | n + 1, h => by
    rw [fb_si_succ]
    have a := si_nn (f := f) (n := n) (fun k hk => h k (by omega))
    have b := h n (by omega)
    omega
theorem si_nn0 {f : Nat → Int} : ∀ {n : Nat}, (∀ k, k < n → 0 ≤ f k) → fb_si f n = 0 → ∀ k, k < n → f k = 0
  | 0, _, _, k, hk => absurd hk (Nat.not_lt_zero k)
  | n + 1, h, h0, k, hk => by
    rw [fb_si_succ] at h0
    have a := si_nn (f := f) (n := n) (fun k hk => h k (by omega))
    have b := h n (by omega)
    by_cases e : k = n
    · rw [e]; omega
    · exact si_nn0 (n := n) (fun k hk => h k (by omega)) (by omega) k (by omega)
def cutS (S : Nat → Bool) (q : Nat) : Nat → Bool := fun p => S p && decide (p ≠ q)
def abv (S : Nat → Bool) (n q : Nat) : Nat := fb_ct (fun p => S p && decide (q < p)) n
def sgq (k : Nat) : Int := if k % 2 = 0 then 1 else -1
def segq (m : Nat) : Nat → Bool := fun q => decide (q < m)
theorem sgn_succ (k : Nat) : sgq (k + 1) = - sgq k := by
  unfold sgq
  by_cases h : k % 2 = 0
  · rw [if_pos h, if_neg (by omega)]
  · rw [if_neg h, if_pos (by omega)]; rfl
theorem sgn_add (j k : Nat) : sgq (j + k) = sgq j * sgq k := by
  unfold sgq
  by_cases h : k % 2 = 0 <;> by_cases h2 : j % 2 = 0
  · rw [if_pos h, if_pos h2, if_pos (by omega)]; rfl
  · rw [if_pos h, if_neg h2, if_neg (by omega)]; rfl
  · rw [if_neg h, if_pos h2, if_neg (by omega)]; rfl
  · rw [if_neg h, if_neg h2, if_pos (by omega)]; rfl
theorem sgn_abs (k : Nat) : (sgq k).natAbs = 1 := by
  unfold sgq
  by_cases h : k % 2 = 0
  · rw [if_pos h]; rfl
  · rw [if_neg h]; rfl
def DT (a : Nat → Nat → Int) (n : Nat) : Nat → (Nat → Bool) → Int
  | 0, _ => 1
  | k + 1, S => fb_si (fun q => if S q = true then sgq (abv S n q) * a k q * DT a n k (cutS S q) else 0) n
theorem DT_succ (a : Nat → Nat → Int) (n k : Nat) (S : Nat → Bool) : DT a n (k + 1) S = fb_si (fun q => if S q = true then sgq (abv S n q) * a k q * DT a n k (cutS S q) else 0) n := rfl
theorem DT_cong {a b : Nat → Nat → Int} {n : Nat} : ∀ {k : Nat} {S S' : Nat → Bool}, (∀ i q, i < k → q < n → a i q = b i q) → (∀ q, q < n → S q = S' q) → DT a n k S = DT b n k S'
  | 0, _, _, _, _ => rfl
  | k + 1, S, S', h, hS => fb_si_cong (fun q hq => by
      have e1 : abv S n q = abv S' n q := fb_ct_cong (fun p hp => by rw [hS p hp])
      have e2 : DT a n k (cutS S q) = DT b n k (cutS S' q) := DT_cong (fun i q hi hq => h i q (by omega) hq) (fun p hp => by unfold cutS; rw [hS p hp])
      rw [hS q hq, e1, e2, h k q (by omega) hq])
theorem cut_cut (S : Nat → Bool) (p q : Nat) : cutS (cutS S q) p = cutS (cutS S p) q := funext fun _ => Bool.and_right_comm _ _ _
theorem abv_lt {S : Nat → Bool} {n p q : Nat} (hpq : p < q) (hq : q < n) (hS : S q = true) : abv S n p = abv (cutS S q) n p + 1 := by
  have z := fb_ct_upd (fun k => S k && decide (p < k)) false hq
  have e : fb_ct (fun k => if k = q then false else (S k && decide (p < k))) n = abv (cutS S q) n p := fb_ct_cong (fun k hk => by
    unfold cutS
    by_cases c : k = q
    · rw [if_pos c]; simp [c]
    · rw [if_neg c]; simp [c])
  rw [e] at z
  simp only [hS, hpq, decide_true, Bool.and_self, if_true, Bool.false_eq_true, if_false] at z
  unfold abv at z ⊢
  omega
theorem abv_le {S : Nat → Bool} {n p q : Nat} (hpq : p ≤ q) : abv (cutS S p) n q = abv S n q := fb_ct_cong (fun k hk => by
  unfold cutS
  by_cases c : q < k
  · have : k ≠ p := by omega
    simp [c, this]
  · simp [c])
theorem sgn_two {S : Nat → Bool} {n p q : Nat} (hp : p < n) (hq : q < n) (h1 : S p = true) (h2 : S q = true) (hne : p ≠ q) : sgq (abv S n q) * sgq (abv (cutS S q) n p) = - (sgq (abv S n p) * sgq (abv (cutS S p) n q)) := by
  by_cases c : p < q
  · rw [abv_lt c hq h2, abv_le (S := S) (n := n) (Nat.le_of_lt c), sgn_succ, Int.neg_mul, Int.neg_neg, Int.mul_comm]
  · have c : q < p := by omega
    rw [abv_lt c hp h1, abv_le (S := S) (n := n) (Nat.le_of_lt c), sgn_succ, Int.neg_mul, Int.mul_comm]
def tmq (r s : Nat → Int) (D : (Nat → Bool) → Int) (n : Nat) (S : Nat → Bool) (q p : Nat) : Int := if S q = true ∧ S p = true ∧ p ≠ q then sgq (abv S n q) * sgq (abv (cutS S q) n p) * (r q * s p * D (cutS (cutS S q) p)) else 0
theorem tm_anti {r s : Nat → Int} {D : (Nat → Bool) → Int} {n : Nat} {S : Nat → Bool} {q p : Nat} (hq : q < n) (hp : p < n) : tmq r s D n S q p = - tmq s r D n S p q := by
  unfold tmq
  by_cases c : S q = true ∧ S p = true ∧ p ≠ q
  · rw [if_pos c, if_pos ⟨c.2.1, c.1, fun h => c.2.2 h.symm⟩, cut_cut S p q, sgn_two hp hq c.2.1 c.1 c.2.2, Int.neg_mul, Int.mul_comm (r q) (s p)]
  · rw [if_neg c, if_neg (fun h => c ⟨h.2.1, h.1, fun e => h.2.2 e.symm⟩)]; rfl
theorem DT_two (a : Nat → Nat → Int) (n k : Nat) (S : Nat → Bool) : DT a n (k + 2) S = fb_si (fun q => fb_si (fun p => tmq (a (k + 1)) (a k) (DT a n k) n S q p) n) n := by
  rw [DT_succ]
  refine fb_si_cong (fun q hq => ?_)
  by_cases c : S q = true
  · rw [if_pos c, DT_succ, ← fb_si_mul]
    refine fb_si_cong (fun p hp => ?_)
    unfold tmq
    by_cases c2 : S p = true ∧ p ≠ q
    · have e : cutS S q p = true := by unfold cutS; simp [c2.1, c2.2]
      rw [if_pos e, if_pos ⟨c, c2⟩]
      simp only [Int.mul_assoc, Int.mul_left_comm, Int.mul_comm]
    · have e : ¬ cutS S q p = true := by
        unfold cutS
        intro h
        simp only [Bool.and_eq_true, decide_eq_true_eq] at h
        exact c2 h
      rw [if_neg e, if_neg (fun h => c2 h.2), Int.mul_zero]
  · rw [if_neg c]
    refine ((fb_si_cong (fun p hp => ?_)).trans (dsi_zero n)).symm
    unfold tmq
    rw [if_neg (fun h => c h.1)]
theorem DT_swp {a b : Nat → Nat → Int} {n k : Nat} {S : Nat → Bool} (h1 : a (k + 1) = b k) (h2 : a k = b (k + 1)) (h3 : ∀ i, i < k → a i = b i) : DT a n (k + 2) S = - DT b n (k + 2) S := by
  have e : DT a n k = DT b n k := funext fun S => DT_cong (fun i q hi _ => by rw [h3 i hi]) (fun _ _ => rfl)
  rw [DT_two, DT_two, h1, h2, e]
  exact si_anti2 (fun q p hq hp => tm_anti hq hp)
theorem DT_rep (n : Nat) : ∀ (k : Nat) (a : Nat → Nat → Int) (i : Nat) (S : Nat → Bool), i < k → a k = a i → DT a n (k + 1) S = 0
  | 0, _, i, _, h, _ => absurd h (Nat.not_lt_zero i)
  | k + 1, a, i, S, h, e => by
    by_cases c : i = k
    · rw [DT_two, e, c]
      exact si_anti (fun q p hq hp => tm_anti hq hp)
    · have hb : DT a n (k + 2) S = - DT (fun j => if j = k + 1 then a k else if j = k then a (k + 1) else a j) n (k + 2) S := DT_swp (by rw [if_neg (by omega), if_pos rfl]) (by rw [if_pos rfl]) (fun j hj => by rw [if_neg (by omega), if_neg (by omega)])
      rw [hb, DT_succ]
      have z : fb_si (fun q => if S q = true then sgq (abv S n q) * (fun j => if j = k + 1 then a k else if j = k then a (k + 1) else a j) (k + 1) q * DT (fun j => if j = k + 1 then a k else if j = k then a (k + 1) else a j) n (k + 1) (cutS S q) else 0) n = 0 := by
        refine (fb_si_cong (fun q hq => ?_)).trans (dsi_zero n)
        rw [DT_rep n k (fun j => if j = k + 1 then a k else if j = k then a (k + 1) else a j) i (cutS S q) (by omega) (by
          show (if k = k + 1 then a k else if k = k then a (k + 1) else a k) = (if i = k + 1 then a k else if i = k then a (k + 1) else a i)
          rw [if_neg (by omega), if_pos rfl, if_neg (by omega), if_neg c, e]), Int.mul_zero]
        split <;> rfl
      rw [z]; rfl
def kv (a : Nat → Nat → Int) (n k : Nat) (S : Nat → Bool) (q : Nat) : Int := if S q = true then sgq (abv S n q) * DT a n k (cutS S q) else 0
theorem kv_gen (a : Nat → Nat → Int) (n k : Nat) (S : Nat → Bool) (r : Nat → Int) : fb_si (fun q => r q * kv a n k S q) n = DT (fun j => if j = k then r else a j) n (k + 1) S := by
  rw [DT_succ]
  refine fb_si_cong (fun q hq => ?_)
  unfold kv
  have e : DT (fun j => if j = k then r else a j) n k (cutS S q) = DT a n k (cutS S q) := DT_cong (fun i p hi hp => by rw [if_neg (by omega)]) (fun _ _ => rfl)
  rw [e, if_pos rfl]
  by_cases c : S q = true
  · rw [if_pos c, if_pos c, Int.mul_comm (sgq _) (r q), Int.mul_assoc]
  · rw [if_neg c, if_neg c, Int.mul_zero]
theorem kv_row {a : Nat → Nat → Int} {n k : Nat} {S : Nat → Bool} {i : Nat} (hi : i < k) : fb_si (fun q => a i q * kv a n k S q) n = 0 := by
  rw [kv_gen a n k S (a i)]
  exact DT_rep n k _ i S hi (by rw [if_pos rfl, if_neg (by omega)])
theorem kv_top {a : Nat → Nat → Int} {n k : Nat} {S : Nat → Bool} : fb_si (fun q => a k q * kv a n k S q) n = DT a n (k + 1) S := by
  rw [kv_gen a n k S (a k)]
  refine DT_cong (fun i q hi hq => ?_) (fun _ _ => rfl)
  by_cases c : i = k
  · rw [if_pos c, c]
  · rw [if_neg c]
theorem kv_last {a : Nat → Nat → Int} {n k : Nat} : kv a n k (segq (k + 1)) k = DT a n k (segq k) := by
  unfold kv
  have e1 : abv (segq (k + 1)) n k = 0 := fb_ct_zero.mpr (fun p hp => by
    unfold segq
    by_cases c : k < p
    · have : ¬ p < k + 1 := by omega
      simp [this]
    · simp [c])
  have e2 : cutS (segq (k + 1)) k = segq k := funext fun p => by
    unfold cutS segq
    by_cases c : p < k
    · have h1 : p < k + 1 := by omega
      have h2 : p ≠ k := by omega
      simp [c, h1, h2]
    · by_cases c2 : p = k
      · simp [c2]
      · have h1 : ¬ p < k + 1 := by omega
        simp [c, h1]
  rw [if_pos (by unfold segq; simp), e1, e2, show sgq 0 = 1 from rfl, Int.one_mul]
theorem kv_out {a : Nat → Nat → Int} {n k q : Nat} (h : k < q) : kv a n k (segq (k + 1)) q = 0 := if_neg (by unfold segq; simp; omega)
theorem sq_id (A u v : Int) : u * (A * (v - u)) + v * (A * (u - v)) = (-A) * ((u - v) * (u - v)) := by grind
/-- the form of squares: what has x L x = 0 is the same all over -/
theorem quadq {a : Nat → Nat → Int} {n : Nat} (H1 : ∀ i, i < n → fb_si (fun q => a i q) n = 0) (H2 : ∀ i q, i < n → q < n → i ≠ q → a i q ≤ 0) (H3 : ∀ i q, i < n → q < n → a i q = a q i) (H4 : ∀ x : Nat → Int, (∀ i q, i < n → q < n → i ≠ q → a i q < 0 → x i = x q) → ∀ i q, i < n → q < n → x i = x q) {x : Nat → Int} (hx : ∀ i, i < n → x i = 0 ∨ fb_si (fun q => a i q * x q) n = 0) : ∀ i q, i < n → q < n → x i = x q := by
  have g : ∀ i, i < n → fb_si (fun q => x i * (a i q * (x q - x i))) n = 0 := by
    intro i hi
    rw [fb_si_mul]
    rcases hx i hi with h | h
    · rw [h, Int.zero_mul]
    · have e : fb_si (fun q => a i q * (x q - x i)) n = fb_si (fun q => a i q * x q) n - fb_si (fun q => x i * a i q) n := by
        rw [← fb_si_sub]
        exact fb_si_cong (fun q hq => by rw [Int.mul_sub, Int.mul_comm (x i)])
      rw [e, h, fb_si_mul, H1 i hi]
      simp
  have s1 : fb_si (fun i => fb_si (fun q => x i * (a i q * (x q - x i))) n) n = 0 := (fb_si_cong (fun i hi => g i hi)).trans (dsi_zero n)
  have s2 : fb_si (fun i => fb_si (fun q => x q * (a q i * (x i - x q))) n) n = 0 := (dsi_swap (fun i q => x q * (a q i * (x i - x q))) n n).trans s1
  have nn : ∀ i q, i < n → q < n → 0 ≤ x i * (a i q * (x q - x i)) + x q * (a q i * (x i - x q)) ∧ (x i * (a i q * (x q - x i)) + x q * (a q i * (x i - x q)) = 0 → i ≠ q → a i q < 0 → x i = x q) := by
    intro i q hi hq
    have e : x i * (a i q * (x q - x i)) + x q * (a q i * (x i - x q)) = (- a i q) * ((x i - x q) * (x i - x q)) := by
      rw [← H3 i q hi hq]
      exact sq_id (a i q) (x i) (x q)
    have sq : 0 ≤ (x i - x q) * (x i - x q) := by
      rcases Int.le_total 0 (x i - x q) with c | c
      · exact Int.mul_nonneg c c
      · exact Int.mul_nonneg_of_nonpos_of_nonpos c c
    rw [e]
    by_cases c : i = q
    · subst c
      rw [Int.sub_self, Int.zero_mul, Int.mul_zero]
      exact ⟨Int.le_refl 0, fun _ h _ => absurd rfl h⟩
    · have := H2 i q hi hq c
      refine ⟨Int.mul_nonneg (by omega) sq, fun h _ h2 => ?_⟩
      rcases Int.mul_eq_zero.mp h with h | h
      · omega
      · rcases Int.mul_eq_zero.mp h with h | h <;> omega
  have s3 : fb_si (fun i => fb_si (fun q => x i * (a i q * (x q - x i)) + x q * (a q i * (x i - x q))) n) n = 0 := by
    have e : fb_si (fun i => fb_si (fun q => x i * (a i q * (x q - x i)) + x q * (a q i * (x i - x q))) n) n = fb_si (fun i => fb_si (fun q => x i * (a i q * (x q - x i))) n + fb_si (fun q => x q * (a q i * (x i - x q))) n) n := fb_si_cong (fun i hi => fb_si_add _ _ n)
    rw [e, fb_si_add, s1, s2]; rfl
  refine H4 x (fun i q hi hq hne ha => ?_)
  have z1 := si_nn0 (fun i hi => si_nn (fun q hq => (nn i q hi hq).1)) s3 i hi
  have z2 := si_nn0 (fun q hq => (nn i q hi hq).1) z1 q hq
  exact (nn i q hi hq).2 z2 hne ha
theorem DT_ne {a : Nat → Nat → Int} {m : Nat} (H1 : ∀ i, i < m + 1 → fb_si (fun q => a i q) (m + 1) = 0) (H2 : ∀ i q, i < m + 1 → q < m + 1 → i ≠ q → a i q ≤ 0) (H3 : ∀ i q, i < m + 1 → q < m + 1 → a i q = a q i) (H4 : ∀ x : Nat → Int, (∀ i q, i < m + 1 → q < m + 1 → i ≠ q → a i q < 0 → x i = x q) → ∀ i q, i < m + 1 → q < m + 1 → x i = x q) {M : Nat → Nat → Int} (hM1 : ∀ i, i < m → ∀ q, q < m + 1 → M i q = a i q) (hM2 : ∀ q, q < m + 1 → M m q = 1) : DT M (m + 1) (m + 1) (segq (m + 1)) ≠ 0 := by
  intro h0
  have row : ∀ (x : Nat → Int) i, i < m → fb_si (fun q => M i q * x q) (m + 1) = 0 → fb_si (fun q => a i q * x q) (m + 1) = 0 := fun x i hi h => by
    rw [← h]
    exact fb_si_cong (fun q hq => by rw [hM1 i hi q hq])
  have top : DT M (m + 1) m (segq m) = 0 := by
    have r : ∀ i, i < m → fb_si (fun q => a i q * kv M (m + 1) m (segq (m + 1)) q) (m + 1) = 0 := fun i hi => row _ i hi (kv_row hi)
    have t : fb_si (fun q => kv M (m + 1) m (segq (m + 1)) q) (m + 1) = 0 := by
      rw [← h0, ← kv_top]
      exact fb_si_cong (fun q hq => by rw [hM2 q hq, Int.one_mul])
    have al : ∀ q, q < m + 1 → kv M (m + 1) m (segq (m + 1)) q = kv M (m + 1) m (segq (m + 1)) m := by
      intro q hq
      have z := quadq H1 H2 H3 H4 (x := fun q => kv M (m + 1) m (segq (m + 1)) q - kv M (m + 1) m (segq (m + 1)) m) (fun i hi => by
        by_cases c : i = m
        · left; rw [c]; exact Int.sub_self _
        · right
          have e : fb_si (fun q => a i q * (kv M (m + 1) m (segq (m + 1)) q - kv M (m + 1) m (segq (m + 1)) m)) (m + 1) = fb_si (fun q => a i q * kv M (m + 1) m (segq (m + 1)) q) (m + 1) - fb_si (fun q => kv M (m + 1) m (segq (m + 1)) m * a i q) (m + 1) := by
            rw [← fb_si_sub]
            exact fb_si_cong (fun q hq => by rw [Int.mul_sub, Int.mul_comm (kv M (m + 1) m (segq (m + 1)) m)])
          rw [e, r i (by omega), fb_si_mul, H1 i hi]
          simp) q m hq (by omega)
      omega
    have e : fb_si (fun q => kv M (m + 1) m (segq (m + 1)) q) (m + 1) = fb_si (fun q => kv M (m + 1) m (segq (m + 1)) m * 1) (m + 1) := fb_si_cong (fun q hq => by rw [al q hq, Int.mul_one])
    rw [t, fb_si_mul, kv_last] at e
    have one : ∀ n : Nat, fb_si (fun _ => 1) n = n := fun n => by
      induction n with
      | zero => rfl
      | succ n ih => rw [fb_si_succ, ih]; omega
    rw [one] at e
    rcases Int.mul_eq_zero.mp e.symm with h | h
    · exact h
    · omega
  have dn : ∀ j, j ≤ m → DT M (m + 1) j (segq j) = 0 → DT M (m + 1) 0 (segq 0) = 0 := by
    intro j
    induction j with
    | zero => exact fun _ h => h
    | succ i ih =>
      intro hj h
      refine ih (by omega) ?_
      have z := quadq H1 H2 H3 H4 (x := kv M (m + 1) i (segq (i + 1))) (fun r hr => by
        by_cases c : i < r
        · exact .inl (kv_out c)
        · right
          refine row _ r (by omega) ?_
          by_cases c2 : r = i
          · rw [c2, kv_top]; exact h
          · exact kv_row (by omega)) i m (by omega) (by omega)
      rw [kv_last, kv_out (by omega)] at z
      exact z
  exact absurd (dn m (Nat.le_refl m) top) (by show ¬ (1 : Int) = 0; decide)
def fcq : Nat → Nat
  | 0 => 1
  | k + 1 => (k + 1) * fcq k
theorem si_absS {f : Nat → Int} {S : Nat → Bool} {c : Nat} : ∀ {n : Nat}, (∀ k, k < n → (f k).natAbs ≤ if S k = true then c else 0) → (fb_si f n).natAbs ≤ fb_ct S n * c
  | 0, _ => Nat.zero_le _
  | n + 1, h => by
    rw [fb_si_succ, fb_ct_succ, Nat.add_mul]
    have a := si_absS (f := f) (S := S) (c := c) (n := n) (fun k hk => h k (by omega))
    have b := h n (by omega)
    have d := Int.natAbs_add_le (fb_si f n) (f n)
    by_cases e : S n = true
    · rw [if_pos e] at b ⊢
      omega
    · rw [if_neg e] at b ⊢
      omega
theorem dct_cut {S : Nat → Bool} {n c : Nat} (hc : c < n) (h : S c = true) : fb_ct (cutS S c) n + 1 = fb_ct S n := by
  have z := fb_ct_upd S false hc
  have e : fb_ct (fun k => if k = c then false else S k) n = fb_ct (cutS S c) n := fb_ct_cong (fun k hk => by
    unfold cutS
    by_cases e : k = c
    · rw [if_pos e]; simp [e]
    · rw [if_neg e]; simp [e])
  rw [e] at z
  simp only [h, if_true, Bool.false_eq_true, if_false] at z
  omega
theorem DT_bd {a : Nat → Nat → Int} {n col B : Nat} : ∀ {k : Nat} {S : Nat → Bool}, fb_ct S n = k → (∀ i q, i < k → q < n → q ≠ col → (a i q).natAbs ≤ B) → (∀ i, i < k → col < n → (a i col).natAbs ≤ 100 * B) → (DT a n k S).natAbs ≤ fcq k * B ^ k * (if S col = true then 100 else 1)
  | 0, S, _, _, _ => by
    show (1 : Int).natAbs ≤ 1 * 1 * _
    split <;> decide
  | k + 1, S, hS, h1, h2 => by
    have ih : ∀ q, q < n → S q = true → (DT a n k (cutS S q)).natAbs ≤ fcq k * B ^ k * (if cutS S q col = true then 100 else 1) := fun q hq hs => DT_bd (by have := dct_cut hq hs; omega) (fun i q hi => h1 i q (by omega)) (fun i hi => h2 i (by omega))
    have each : ∀ q, q < n → (if S q = true then sgq (abv S n q) * a k q * DT a n k (cutS S q) else 0).natAbs ≤ if S q = true then B * (fcq k * B ^ k * (if S col = true then 100 else 1)) else 0 := by
      intro q hq
      by_cases c : S q = true
      · rw [if_pos c, if_pos c, Int.natAbs_mul, Int.natAbs_mul, sgn_abs, Nat.one_mul]
        have z := ih q hq c
        by_cases e : q = col
        · rw [if_neg (by unfold cutS; rw [e]; simp), Nat.mul_one] at z
          have w := h2 k (by omega) (by omega)
          rw [← e] at w ⊢
          rw [if_pos c]
          refine Nat.le_trans (Nat.mul_le_mul w z) (Nat.le_of_eq ?_)
          ac_rfl
        · have e2 : cutS S q col = S col := by
            unfold cutS
            have : col ≠ q := fun h => e h.symm
            simp [this]
          rw [e2] at z
          exact Nat.mul_le_mul (h1 k q (by omega) hq e) z
      · rw [if_neg c, if_neg c]; exact Nat.le_refl _
    rw [DT_succ]
    refine Nat.le_trans (si_absS each) (Nat.le_of_eq ?_)
    rw [hS]
    show (k + 1) * (B * (fcq k * B ^ k * _)) = (k + 1) * fcq k * B ^ (k + 1) * _
    rw [Nat.pow_succ]
    ac_rfl
