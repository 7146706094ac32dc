/-! plans: which are best, and how one grows -/
abbrev Pl : Type := Nat → Nat → Bool
def b2i (x : Bool) : Int := if x then 1 else 0
theorem ct_si (p : Nat → Bool) : ∀ n, fb_si (fun j => b2i (p j)) n = ((fb_ct p n : Nat) : Int)
  | 0 => rfl
  | n + 1 => by
    have h := ct_si p n
    rw [fb_si_succ, fb_ct_succ, h]
    unfold b2i
    split <;> simp
theorem si_nonneg {f : Nat → Int} : ∀ {n : Nat}, (∀ k, k < n → 0 ≤ f k) → 0 ≤ fb_si f n
  | 0, _ => Int.le_refl 0
  | n + 1, h => by
    have h1 := si_nonneg (n := n) (fun k hk => h k (by omega))
    have h2 := h n (by omega)
    rw [fb_si_succ]
    omega
theorem si_zero : ∀ n, fb_si (fun _ => 0) n = 0
  | 0 => rfl
  | n + 1 => by rw [fb_si_succ, si_zero n]; rfl
theorem si_swap (f : Nat → Nat → Int) (m : Nat) : ∀ n, fb_si (fun b => fb_si (fun j => f b j) m) n = fb_si (fun j => fb_si (fun b => f b j) n) m
  | 0 => (si_zero m).symm
  | n + 1 => by
    rw [fb_si_succ, si_swap f m n, ← fb_si_add]
    exact fb_si_cong (fun k _ => by rw [fb_si_succ])
def rowc (nj : Nat) (p : Pl) (b : Nat) : Nat := fb_ct (p b) nj
def colc (nb : Nat) (p : Pl) (j : Nat) : Nat := fb_ct (fun b => p b j) nb
def tot (nb nj : Nat) (p : Pl) : Nat := fb_sm (rowc nj p) nb
theorem tot_si (nb nj : Nat) (p : Pl) : ((tot nb nj p : Nat) : Int) = fb_si (fun b => fb_si (fun j => b2i (p b j)) nj) nb := by
  unfold tot
  rw [← fb_si_nat]
  exact fb_si_cong (fun b _ => by rw [ct_si]; rfl)
def FE (nb nj : Nat) (fr base : Pl) (L : Nat) (mo : Nat → Nat) (p : Pl) : Prop := (∀ b j, b < nb → j < nj → fr b j = false → p b j = base b j) ∧ (∀ b, b < nb → rowc nj p b ≤ L) ∧ ∀ j, j < nj → colc nb p j ≤ mo j
def CL (nb nj : Nat) (fr : Pl) (mo : Nat → Nat) (p : Pl) (VB VJ : Nat → Bool) : Prop := (∀ b j, b < nb → j < nj → VB b = true → fr b j = true → p b j = false → VJ j = true) ∧ (∀ b j, b < nb → j < nj → VJ j = true → p b j = true → fr b j = true → VB b = true) ∧ ∀ j, j < nj → VJ j = true → colc nb p j = mo j
theorem CERT {nb nj L : Nat} {fr base : Pl} {mo : Nat → Nat} {p q : Pl} {VB VJ : Nat → Bool} (hp : FE nb nj fr base L mo p) (hq : FE nb nj fr base L mo q) (hc : CL nb nj fr mo p VB VJ) (hf : ∀ b, b < nb → VB b = false → rowc nj p b = L) : tot nb nj q ≤ tot nb nj p := by
  obtain ⟨p1, p2, p3⟩ := hp
  obtain ⟨q1, q2, q3⟩ := hq
  obtain ⟨c1, c2, c3⟩ := hc
  let x : Nat → Nat → Int := fun b j => b2i (p b j) - b2i (q b j)
  let u : Nat → Int := fun b => b2i (!VB b)
  let v : Nat → Int := fun j => b2i (VJ j)
  have row : ∀ b, b < nb → 0 ≤ u b * fb_si (fun j => x b j) nj := by
    intro b hb
    show 0 ≤ b2i (!VB b) * fb_si (fun j => b2i (p b j) - b2i (q b j)) nj
    rw [fb_si_sub, ct_si, ct_si]
    cases e : VB b with
    | true => rw [show b2i (!true) = 0 from rfl, Int.zero_mul]; exact Int.le_refl 0
    | false =>
      rw [show b2i (!false) = 1 from rfl, Int.one_mul]
      have h1 : fb_ct (p b) nj = L := hf b hb e
      have h2 : fb_ct (q b) nj ≤ L := q2 b hb
      omega
  have col : ∀ j, j < nj → 0 ≤ v j * fb_si (fun b => x b j) nb := by
    intro j hj
    show 0 ≤ b2i (VJ j) * fb_si (fun b => b2i (p b j) - b2i (q b j)) nb
    rw [fb_si_sub, ct_si (fun b => p b j), ct_si (fun b => q b j)]
    cases e : VJ j with
    | false => rw [show b2i false = 0 from rfl, Int.zero_mul]; exact Int.le_refl 0
    | true =>
      rw [show b2i true = 1 from rfl, Int.one_mul]
      have h1 : fb_ct (fun b => p b j) nb = mo j := c3 j hj e
      have h2 : fb_ct (fun b => q b j) nb ≤ mo j := q3 j hj
      omega
  have pt : ∀ b j, b < nb → j < nj → 0 ≤ x b j * (1 - u b - v j) := by
    intro b j hb hj
    show 0 ≤ (b2i (p b j) - b2i (q b j)) * (1 - b2i (!VB b) - b2i (VJ j))
    cases e : fr b j with
    | false =>
      rw [p1 b j hb hj e, q1 b j hb hj e, Int.sub_self, Int.zero_mul]
      exact Int.le_refl 0
    | true =>
      cases e1 : VB b with
      | true =>
        cases e2 : VJ j with
        | true => simp [b2i]
        | false =>
          have h : p b j = true := by
            cases ep : p b j with
            | true => rfl
            | false => have := c1 b j hb hj e1 e ep; rw [e2] at this; cases this
          rw [h]
          cases q b j <;> simp [b2i]
      | false =>
        cases e2 : VJ j with
        | false => simp [b2i]
        | true =>
          have h : p b j = false := by
            cases ep : p b j with
            | false => rfl
            | true => have := c2 b j hb hj e2 ep e; rw [e1] at this; cases this
          rw [h]
          cases q b j <;> simp [b2i]
  have split : fb_si (fun b => fb_si (fun j => x b j) nj) nb = fb_si (fun b => fb_si (fun j => x b j * (1 - u b - v j)) nj) nb + fb_si (fun b => u b * fb_si (fun j => x b j) nj) nb + fb_si (fun j => v j * fb_si (fun b => x b j) nb) nj := by
    have e3 : fb_si (fun j => v j * fb_si (fun b => x b j) nb) nj = fb_si (fun b => fb_si (fun j => v j * x b j) nj) nb := by
      rw [si_swap (fun b j => v j * x b j) nj nb]
      exact fb_si_cong (fun j _ => (fb_si_mul (v j) (fun b => x b j) nb).symm)
    rw [e3, ← fb_si_add, ← fb_si_add]
    refine fb_si_cong (fun b _ => ?_)
    rw [← fb_si_mul, ← fb_si_add, ← fb_si_add]
    refine fb_si_cong (fun j _ => ?_)
    have : x b j * (1 - u b - v j) = x b j - u b * x b j - v j * x b j := by
      rw [Int.mul_sub, Int.mul_sub, Int.mul_one, Int.mul_comm (x b j) (u b), Int.mul_comm (x b j) (v j)]
    rw [this]
    omega
  have h1 := si_nonneg (n := nb) (f := fun b => fb_si (fun j => x b j * (1 - u b - v j)) nj) (fun b hb => si_nonneg (fun j hj => pt b j hb hj))
  have h2 := si_nonneg (n := nb) row
  have h3 := si_nonneg (n := nj) col
  have h4 : fb_si (fun b => fb_si (fun j => x b j) nj) nb = ((tot nb nj p : Nat) : Int) - ((tot nb nj q : Nat) : Int) := by
    rw [tot_si, tot_si, ← fb_si_sub]
    exact fb_si_cong (fun b _ => fb_si_sub _ _ nj)
  omega
/-! one pair changed -/
def upl (p : Pl) (b j : Nat) (v : Bool) : Pl := fun b2 j2 => if b2 = b ∧ j2 = j then v else p b2 j2
theorem upl_at (p : Pl) (b j : Nat) (v : Bool) : upl p b j v b j = v := if_pos ⟨rfl, rfl⟩
theorem upl_b {p : Pl} {b j : Nat} {v : Bool} {b2 j2 : Nat} (h : b2 ≠ b) : upl p b j v b2 j2 = p b2 j2 := if_neg (fun q => h q.1)
theorem upl_j {p : Pl} {b j : Nat} {v : Bool} {b2 j2 : Nat} (h : j2 ≠ j) : upl p b j v b2 j2 = p b2 j2 := if_neg (fun q => h q.2)
theorem rowc_upl {nj : Nat} (p : Pl) {b j : Nat} (v : Bool) (hj : j < nj) (b2 : Nat) : rowc nj (upl p b j v) b2 + (if b2 = b then (if p b j then 1 else 0) else 0) = rowc nj p b2 + (if b2 = b then (if v then 1 else 0) else 0) := by
  unfold rowc
  by_cases e : b2 = b
  · rw [if_pos e, if_pos e, e]
    have h := fb_ct_upd (p b) v hj
    have h2 : fb_ct (upl p b j v b) nj = fb_ct (fun k => if k = j then v else p b k) nj := fb_ct_cong (fun k _ => by
      unfold upl
      by_cases q : k = j
      · rw [if_pos ⟨rfl, q⟩, if_pos q]
      · rw [if_neg (fun z => q z.2), if_neg q])
    rw [h2]
    exact h
  · rw [if_neg e, if_neg e, fb_ct_cong (fun k _ => upl_b e)]
theorem colc_upl {nb : Nat} (p : Pl) {b j : Nat} (v : Bool) (hb : b < nb) (j2 : Nat) : colc nb (upl p b j v) j2 + (if j2 = j then (if p b j then 1 else 0) else 0) = colc nb p j2 + (if j2 = j then (if v then 1 else 0) else 0) := by
  unfold colc
  by_cases e : j2 = j
  · rw [if_pos e, if_pos e, e]
    have h := fb_ct_upd (fun b => p b j) v hb
    have h2 : fb_ct (fun b2 => upl p b j v b2 j) nb = fb_ct (fun k => if k = b then v else p k j) nb := fb_ct_cong (fun k _ => by
      unfold upl
      by_cases q : k = b
      · rw [if_pos ⟨q, rfl⟩, if_pos q]
      · rw [if_neg (fun z => q z.1), if_neg q])
    rw [h2]
    exact h
  · rw [if_neg e, if_neg e, fb_ct_cong (fun k _ => upl_j e)]
/-! what a search has led to: q the boards in the order they came, sz how many; a judge's board (by), a board's judge (came) -/
def BF (nb nj : Nat) (fr p : Pl) (rt : Nat → Prop) (LB LJ : Nat → Bool) (by1 came : Nat → Int) (q : Nat → Nat) (sz : Nat) : Prop := (∀ i, i < sz → q i < nb ∧ LB (q i) = true) ∧ (∀ b, LB b = true → ∃ i, i < sz ∧ q i = b) ∧ (∀ i i2, i < sz → i2 < sz → q i = q i2 → i = i2) ∧ (∀ j, LJ j = true → j < nj ∧ ∃ i, i < sz ∧ by1 j = q i ∧ fr (q i) j = true ∧ p (q i) j = false) ∧ (∀ i, i < sz → (came (q i) = -1 ∧ rt (q i)) ∨ ∃ j : Nat, came (q i) = j ∧ LJ j = true ∧ p (q i) j = true ∧ fr (q i) j = true ∧ ∃ i2, i2 < i ∧ by1 j = q i2)
/-- on the way back: the plan as it is now (c), the judge that still wants the board it was led from -/
def WK (nb nj : Nat) (fr p c : Pl) (q : Nat → Nat) (last j i : Nat) : Prop := (∀ i2, i2 ≤ i → ∀ k, c (q i2) k = p (q i2) k) ∧ (∀ b, rowc nj c b = rowc nj p b) ∧ (∀ k, colc nb c k + (if k = j then 1 else 0) = colc nb p k + (if k = last then 1 else 0)) ∧ ∀ b k, fr b k = false → c b k = p b k
/-- arrived -/
def AR (nb nj : Nat) (fr p c : Pl) (last root : Nat) : Prop := (∀ b, rowc nj c b = rowc nj p b + (if b = root then 1 else 0)) ∧ (∀ k, colc nb c k = colc nb p k + (if k = last then 1 else 0)) ∧ ∀ b k, fr b k = false → c b k = p b k
theorem WK_0 {nb nj : Nat} {fr p : Pl} {q : Nat → Nat} {last i : Nat} : WK nb nj fr p p q last last i := ⟨fun _ _ _ => rfl, fun _ => rfl, fun _ => rfl, fun _ _ _ => rfl⟩
theorem WK_end {nb nj : Nat} {fr p c : Pl} {q : Nat → Nat} {last j i : Nat} (h : WK nb nj fr p c q last j i) (hb : q i < nb) (hj : j < nj) (hf : fr (q i) j = true) (hp : p (q i) j = false) : AR nb nj fr p (upl c (q i) j true) last (q i) := by
  obtain ⟨h1, h2, h3, h4⟩ := h
  have e : c (q i) j = false := by rw [h1 i (Nat.le_refl i)]; exact hp
  refine ⟨fun b => ?_, fun k => ?_, fun b k hk => ?_⟩
  · have r := rowc_upl c (b := q i) true hj b
    rw [e, h2 b] at r
    simpa using r
  · have r := colc_upl c (b := q i) (j := j) true hb k
    have z := h3 k
    rw [e] at r
    by_cases ek : k = j
    · simp only [ek, if_true] at r z ⊢
      simp at r
      omega
    · simp only [ek, if_false] at r z ⊢
      omega
  · rw [← h4 b k hk]
    refine if_neg (fun z => ?_)
    rw [z.1, z.2, hf] at hk
    cases hk
theorem WK_step {nb nj : Nat} {fr p c : Pl} {q : Nat → Nat} {last j i j2 i2 : Nat} (h : WK nb nj fr p c q last j i) (hb : q i < nb) (hj : j < nj) (hf : fr (q i) j = true) (hp : p (q i) j = false) (hj2 : j2 < nj) (hp2 : p (q i) j2 = true) (hf2 : fr (q i) j2 = true) (hi : i2 < i) (inj : ∀ k, k ≤ i2 → q k ≠ q i) : WK nb nj fr p (upl (upl c (q i) j true) (q i) j2 false) q last j2 i2 := by
  obtain ⟨h1, h2, h3, h4⟩ := h
  have e : c (q i) j = false := by rw [h1 i (Nat.le_refl i)]; exact hp
  have e2 : c (q i) j2 = true := by rw [h1 i (Nat.le_refl i)]; exact hp2
  have ne : j2 ≠ j := fun z => by rw [z, e] at e2; cases e2
  have e3 : upl c (q i) j true (q i) j2 = true := by rw [upl_j ne]; exact e2
  refine ⟨fun k hk t => ?_, fun b => ?_, fun k => ?_, fun b k hk => ?_⟩
  · rw [upl_b (inj k hk), upl_b (inj k hk)]
    exact h1 k (by omega) t
  · have r := rowc_upl c (b := q i) true hj b
    have r2 := rowc_upl (upl c (q i) j true) (b := q i) false hj2 b
    rw [e, h2 b] at r
    rw [e3] at r2
    by_cases eb : b = q i
    · simp only [eb, if_true] at r r2 ⊢
      simp at r r2
      omega
    · simp only [eb, if_false] at r r2 ⊢
      omega
  · have r := colc_upl c (b := q i) (j := j) true hb k
    have r2 := colc_upl (upl c (q i) j true) (b := q i) (j := j2) false hb k
    have z := h3 k
    rw [e] at r
    rw [e3] at r2
    by_cases ek : k = j
    · have ek2 : ¬ k = j2 := fun z => ne (by omega)
      simp only [ek, if_true] at r z
      simp only [ek2, if_false] at r2 ⊢
      rw [ek] at r2 ⊢
      simp at r
      omega
    · by_cases ek2 : k = j2
      · simp only [ek, if_false] at r z
        simp only [ek2, if_true] at r2 ⊢
        rw [ek2] at r z
        simp at r2
        omega
      · simp only [ek, if_false] at r z
        simp only [ek2, if_false] at r2 ⊢
        omega
  · rw [← h4 b k hk]
    have n1 : ¬ (b = q i ∧ k = j) := fun z => by rw [z.1, z.2, hf] at hk; cases hk
    have n2 : ¬ (b = q i ∧ k = j2) := fun z => by rw [z.1, z.2, hf2] at hk; cases hk
    unfold upl
    rw [if_neg n2, if_neg n1]
theorem AR_tot {nb nj : Nat} {fr p c : Pl} {last root : Nat} (h : AR nb nj fr p c last root) (hr : root < nb) : tot nb nj c = tot nb nj p + 1 := by
  unfold tot
  have e : fb_sm (rowc nj c) nb = fb_sm (fun k => if k = root then rowc nj p root + 1 else rowc nj p k) nb := fb_sm_cong (fun k _ => by
    rw [h.1 k]
    by_cases q : k = root
    · rw [if_pos q, if_pos q, q]
    · rw [if_neg q, if_neg q, Nat.add_zero])
  rw [e]
  have := fb_sm_upd (rowc nj p) (rowc nj p root + 1) hr
  omega
theorem AR_FE {nb nj L : Nat} {fr base p c : Pl} {mo : Nat → Nat} {last root : Nat} (h : AR nb nj fr p c last root) (hp : FE nb nj fr base L mo p) (hr : rowc nj p root < L) (hl : colc nb p last < mo last) : FE nb nj fr base L mo c := by
  refine ⟨fun b j hb hj hf => ?_, fun b hb => ?_, fun j hj => ?_⟩
  · rw [h.2.2 b j hf]; exact hp.1 b j hb hj hf
  · rw [h.1 b]
    have := hp.2.1 b hb
    by_cases q : b = root
    · rw [if_pos q, q]; omega
    · rw [if_neg q]; omega
  · rw [h.2.1 j]
    have := hp.2.2 j hj
    by_cases q : j = last
    · rw [if_pos q, q]; omega
    · rw [if_neg q]; omega
