/-! the sum over all ways v < n ^ n, by digits, is the determinant -/
def dg (n v i : Nat) : Nat := v / n ^ i % n
def USd (n v : Nat) : Nat → Nat → Bool
  | 0, _ => false
  | i + 1, q => USd n v i q || decide (q = dg n v i)
def ov (n v : Nat) : Nat → Nat
  | 0 => 0
  | i + 1 => ov n v i + abv (USd n v i) n (dg n v i)
def prq (E : Nat → Nat → Int) (n v : Nat) : Nat → Int
  | 0 => 1
  | i + 1 => prq E n v i * E i (dg n v i)
theorem dg_lt {n : Nat} (hn : 0 < n) (v i : Nat) : dg n v i < n := Nat.mod_lt _ hn
theorem dg_low {n : Nat} (hn : 0 < n) {c v k i : Nat} (hi : i < k) : dg n (c * n ^ k + v) i = dg n v i := by
  unfold dg
  obtain ⟨j, rfl⟩ : ∃ j, k = i + (j + 1) := ⟨k - i - 1, by omega⟩
  have e : c * n ^ (i + (j + 1)) + v = v + n ^ i * (c * n ^ j * n) := by
    rw [Nat.pow_add, Nat.pow_succ, Nat.add_comm]
    congr 1
    simp only [Nat.mul_assoc, Nat.mul_left_comm, Nat.mul_comm]
  rw [e, Nat.add_mul_div_left _ _ (Nat.pow_pos hn), Nat.add_mul_mod_self_right]
theorem dg_top {n c v k : Nat} (hc : c < n) (hv : v < n ^ k) : dg n (c * n ^ k + v) k = c := by
  unfold dg
  have h : 0 < n ^ k := by omega
  rw [Nat.add_comm, Nat.add_mul_div_right _ _ h, Nat.div_eq_of_lt hv, Nat.zero_add, Nat.mod_eq_of_lt hc]
theorem US_low {n : Nat} (hn : 0 < n) {c v k : Nat} : ∀ {i : Nat}, i ≤ k → USd n (c * n ^ k + v) i = USd n v i
  | 0, _ => rfl
  | i + 1, h => funext fun q => by
    show (USd n (c * n ^ k + v) i q || decide (q = dg n (c * n ^ k + v) i)) = (USd n v i q || decide (q = dg n v i))
    rw [US_low hn (by omega), dg_low hn (by omega)]
theorem ov_low {n : Nat} (hn : 0 < n) {c v k : Nat} : ∀ {i : Nat}, i ≤ k → ov n (c * n ^ k + v) i = ov n v i
  | 0, _ => rfl
  | i + 1, h => by
    show ov n (c * n ^ k + v) i + abv (USd n (c * n ^ k + v) i) n (dg n (c * n ^ k + v) i) = ov n v i + abv (USd n v i) n (dg n v i)
    rw [ov_low hn (by omega), US_low hn (by omega), dg_low hn (by omega)]
theorem pr_low {E : Nat → Nat → Int} {n : Nat} (hn : 0 < n) {c v k : Nat} : ∀ {i : Nat}, i ≤ k → prq E n (c * n ^ k + v) i = prq E n v i
  | 0, _ => rfl
  | i + 1, h => by
    show prq E n (c * n ^ k + v) i * E i (dg n (c * n ^ k + v) i) = prq E n v i * E i (dg n v i)
    rw [pr_low hn (by omega), dg_low hn (by omega)]
theorem ct_or1 (S : Nat → Bool) (c : Nat) : ∀ n, fb_ct (fun q => S q || decide (q = c)) n ≤ fb_ct S n + (if c < n then 1 else 0)
  | 0 => Nat.zero_le _
  | n + 1 => by
    rw [fb_ct_succ, fb_ct_succ]
    have ih := ct_or1 S c n
    by_cases e : n = c
    · rw [if_neg (by omega)] at ih
      rw [if_pos (show c < n + 1 by omega)]
      have : (if (S n || decide (n = c)) = true then 1 else 0) ≤ 1 := by split <;> omega
      omega
    · have e2 : (S n || decide (n = c)) = S n := by simp [e]
      rw [e2]
      by_cases h : c < n
      · rw [if_pos h] at ih
        rw [if_pos (show c < n + 1 by omega)]
        omega
      · rw [if_neg h] at ih
        omega
theorem US_ct (n v : Nat) : ∀ i, fb_ct (USd n v i) n ≤ i
  | 0 => Nat.le_of_eq (fb_ct_zero.mpr (fun _ _ => rfl))
  | i + 1 => by
    have a := ct_or1 (USd n v i) (dg n v i) n
    have b := US_ct n v i
    have c : (if dg n v i < n then 1 else 0) ≤ 1 := by split <;> omega
    have e : fb_ct (USd n v (i + 1)) n = fb_ct (fun q => USd n v i q || decide (q = dg n v i)) n := rfl
    omega
theorem si_prod (f : Nat → Int) (N : Nat) : ∀ m, fb_si f (m * N) = fb_si (fun c => fb_si (fun v => f (c * N + v)) N) m
  | 0 => by rw [Nat.zero_mul]; rfl
  | m + 1 => by rw [Nat.succ_mul, fb_si_split, fb_si_succ, si_prod f N m]
theorem US_iff {n k c v : Nat} {S : Nat → Bool} (hc : c < n) (hS : fb_ct S n = k + 1) : (∀ q, q < n → (USd n v k q || decide (q = c)) = S q) ↔ S c = true ∧ ∀ q, q < n → USd n v k q = cutS S c q := by
  have hk := US_ct n v k
  constructor
  · intro h
    have h1 : S c = true := by rw [← h c hc]; simp
    refine ⟨h1, fun q hq => ?_⟩
    unfold cutS
    by_cases e : q = c
    · cases e3 : USd n v k q with
      | false => simp [e]
      | true =>
        exfalso
        have e2 : fb_ct (USd n v k) n = fb_ct S n := fb_ct_cong (fun p hp => by
          rw [← h p hp]
          by_cases e4 : p = c
          · rw [e4, ← e, e3]; rfl
          · simp [e4])
        omega
    · rw [← h q hq]; simp [e]
  · rintro ⟨h1, h2⟩ q hq
    rw [h2 q hq]
    unfold cutS
    by_cases e : q = c
    · simp [e, h1]
    · simp [e]
def gt1 (E : Nat → Nat → Int) (n k : Nat) (S : Nat → Bool) (v : Nat) : Int := if (∀ q, q < n → USd n v k q = S q) then sgq (ov n v k) * prq E n v k else 0
theorem G_eq (E : Nat → Nat → Int) {n : Nat} (hn : 0 < n) : ∀ (k : Nat) (S : Nat → Bool), fb_ct S n = k → fb_si (gt1 E n k S) (n ^ k) = DT E n k S
  | 0, S, h => by
    show 0 + gt1 E n 0 S 0 = 1
    unfold gt1
    have c : ∀ q, q < n → USd n 0 0 q = S q := fun q hq => (fb_ct_zero.mp h q hq).symm
    rw [if_pos c]
    rfl
  | k + 1, S, h => by
    rw [Nat.pow_succ, Nat.mul_comm, si_prod, DT_succ]
    refine fb_si_cong (fun c hc => ?_)
    by_cases e : S c = true
    · rw [if_pos e]
      have hc2 : fb_ct (cutS S c) n = k := by have := dct_cut hc e; omega
      rw [← G_eq E hn k (cutS S c) hc2, ← fb_si_mul]
      refine fb_si_cong (fun v hv => ?_)
      unfold gt1
      have u : USd n (c * n ^ k + v) (k + 1) = fun q => USd n v k q || decide (q = c) := funext fun q => by
        show (USd n (c * n ^ k + v) k q || decide (q = dg n (c * n ^ k + v) k)) = _
        rw [US_low hn (Nat.le_refl k), dg_top hc hv]
      by_cases d : ∀ q, q < n → USd n v k q = cutS S c q
      · rw [if_pos d, if_pos (by rw [u]; exact (US_iff hc h).mpr ⟨e, d⟩)]
        have o : ov n (c * n ^ k + v) (k + 1) = ov n v k + abv S n c := by
          show ov n (c * n ^ k + v) k + abv (USd n (c * n ^ k + v) k) n (dg n (c * n ^ k + v) k) = _
          rw [ov_low hn (Nat.le_refl k), US_low hn (Nat.le_refl k), dg_top hc hv]
          congr 1
          rw [← abv_le (S := S) (n := n) (Nat.le_refl c)]
          exact fb_ct_cong (fun p hp => by rw [d p hp])
        have p : prq E n (c * n ^ k + v) (k + 1) = prq E n v k * E k c := by
          show prq E n (c * n ^ k + v) k * E k (dg n (c * n ^ k + v) k) = _
          rw [pr_low hn (Nat.le_refl k), dg_top hc hv]
        rw [o, p, sgn_add]
        simp only [Int.mul_assoc, Int.mul_left_comm, Int.mul_comm]
      · rw [if_neg d, if_neg (by rw [u]; exact fun q => d ((US_iff hc h).mp q).2), Int.mul_zero]
    · rw [if_neg e]
      refine (fb_si_cong (fun v hv => ?_)).trans (dsi_zero (n ^ k))
      unfold gt1
      have u : USd n (c * n ^ k + v) (k + 1) = fun q => USd n v k q || decide (q = c) := funext fun q => by
        show (USd n (c * n ^ k + v) k q || decide (q = dg n (c * n ^ k + v) k)) = _
        rw [US_low hn (Nat.le_refl k), dg_top hc hv]
      rw [if_neg (by rw [u]; exact fun q => e ((US_iff hc h).mp q).1)]
