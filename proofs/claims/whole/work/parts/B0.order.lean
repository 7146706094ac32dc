/-! the order of boards by fair, sorting by insertion and by choosing, in the abstract -/
def abq (fa fb : Nat → Int) (b c : Nat) : Prop := fa c * fb b < fa b * fb c
def befq (fa fb : Nat → Int) (c d : Nat) : Prop := ¬ abq fa fb d c ∧ (abq fa fb c d ∨ c < d)
section OQ
variable {fa fb : Nat → Int}
theorem ab_trans {x y z : Nat} (hx : 0 < fb x) (hy : 0 < fb y) (hz : 0 < fb z) (h1 : ¬ abq fa fb x y) (h2 : ¬ abq fa fb y z) : ¬ abq fa fb x z := by
  unfold abq at *
  have a : fa x * fb y ≤ fa y * fb x := by omega
  have b : fa y * fb z ≤ fa z * fb y := by omega
  intro c
  have a2 : fa x * fb y * fb z ≤ fa y * fb x * fb z := Int.mul_le_mul_of_nonneg_right a (by omega)
  have b2 : fa y * fb z * fb x ≤ fa z * fb y * fb x := Int.mul_le_mul_of_nonneg_right b (by omega)
  have c2 : fa z * fb x * fb y < fa x * fb z * fb y := Int.mul_lt_mul_of_pos_right c hy
  have e1 : fa x * fb y * fb z = fa x * fb z * fb y := Int.mul_right_comm _ _ _
  have e2 : fa y * fb x * fb z = fa y * fb z * fb x := Int.mul_right_comm _ _ _
  have e3 : fa z * fb y * fb x = fa z * fb x * fb y := Int.mul_right_comm _ _ _
  omega
theorem ab_asym {x y : Nat} (h : abq fa fb x y) : ¬ abq fa fb y x := by
  unfold abq at *
  omega
theorem bef_asym {c d : Nat} (h1 : befq fa fb c d) (h2 : befq fa fb d c) : False := by
  obtain ⟨a1, a2⟩ := h1
  obtain ⟨b1, b2⟩ := h2
  rcases a2 with a2 | a2
  · exact b1 a2
  · rcases b2 with b2 | b2
    · exact a1 b2
    · omega
theorem bef_trans {c d e : Nat} (hc : 0 < fb c) (hd : 0 < fb d) (he : 0 < fb e) (h1 : befq fa fb c d) (h2 : befq fa fb d e) : befq fa fb c e := by
  obtain ⟨a1, a2⟩ := h1
  obtain ⟨b1, b2⟩ := h2
  refine ⟨ab_trans he hd hc b1 a1, ?_⟩
  by_cases q : abq fa fb c e
  · exact .inl q
  · right
    rcases a2 with a2 | a2
    · exact absurd a2 (ab_trans hc he hd q b1)
    · rcases b2 with b2 | b2
      · exact absurd b2 (ab_trans hd hc he a1 q)
      · omega
end OQ
def SRT (fa fb : Nat → Int) (mk : Nat → Prop) (B R : Nat) (l : Nat → Nat) : Prop := (∀ i, i < R → mk (l i) ∧ l i < B) ∧ (∀ b, b < B → mk b → ∃ i, i < R ∧ l i = b) ∧ ∀ i j, i < j → j < R → befq fa fb (l i) (l j)
section ST
variable {fa fb : Nat → Int} {mk : Nat → Prop} {B R : Nat} {l : Nat → Nat}
theorem SRT_inj (h : SRT fa fb mk B R l) {i j : Nat} (hi : i < R) (hj : j < R) (e : l i = l j) : i = j := by
  obtain ⟨h1, h2, h3⟩ := h
  rcases Nat.lt_trichotomy i j with c | c | c
  · have z := h3 i j c hj
    rw [e] at z
    exact (bef_asym z z).elim
  · exact c
  · have z := h3 j i c hi
    rw [e] at z
    exact (bef_asym z z).elim
theorem SRT_len (h : SRT fa fb mk B R l) : R ≤ B := fb_holes B R l (fun i hi => (h.1 i hi).2) (fun i j hij hj e => by
  have := SRT_inj h (by omega) hj e
  omega)
theorem SRT_skip (h : SRT fa fb mk B R l) (hB : ¬ mk B) : SRT fa fb mk (B + 1) R l := by
  obtain ⟨h1, h2, h3⟩ := h
  refine ⟨fun i hi => ⟨(h1 i hi).1, by have := (h1 i hi).2; omega⟩, fun b hb hm => ?_, h3⟩
  by_cases e : b = B
  · exact absurd (by rw [← e]; exact hm) hB
  · exact h2 b (by omega) hm
def insq (l : Nat → Nat) (x B i : Nat) : Nat := if i < x then l i else if i = x then B else l (i - 1)
theorem SRT_ins (hp : ∀ b, mk b → 0 < fb b) (h : SRT fa fb mk B R l) (hB : mk B) {x : Nat} (hx : x ≤ R) (h1 : ∀ i, x ≤ i → i < R → abq fa fb B (l i)) (h2 : 0 < x → ¬ abq fa fb B (l (x - 1))) : SRT fa fb mk (B + 1) (R + 1) (insq l x B) := by
  obtain ⟨g1, g2, g3⟩ := h
  have low : ∀ i, i < x → ¬ abq fa fb B (l i) := by
    intro i hi
    by_cases e : i = x - 1
    · rw [e]; exact h2 (by omega)
    · exact ab_trans (hp _ hB) (hp _ (g1 (x - 1) (by omega)).1) (hp _ (g1 i (by omega)).1) (h2 (by omega)) (g3 i (x - 1) (by omega) (by omega)).1
  refine ⟨fun i hi => ?_, fun b hb hm => ?_, fun i j hij hj => ?_⟩
  · unfold insq
    by_cases c : i < x
    · rw [if_pos c]; have := g1 i (by omega); exact ⟨this.1, by omega⟩
    · rw [if_neg c]
      by_cases c2 : i = x
      · rw [if_pos c2]; exact ⟨hB, by omega⟩
      · rw [if_neg c2]; have := g1 (i - 1) (by omega); exact ⟨this.1, by omega⟩
  · by_cases e : b = B
    · refine ⟨x, by omega, ?_⟩
      unfold insq
      rw [if_neg (by omega), if_pos rfl, e]
    · obtain ⟨i, hi, he⟩ := g2 b (by omega) hm
      by_cases c : i < x
      · refine ⟨i, by omega, ?_⟩
        unfold insq
        rw [if_pos c]; exact he
      · refine ⟨i + 1, by omega, ?_⟩
        unfold insq
        rw [if_neg (by omega), if_neg (by omega), Nat.add_sub_cancel]; exact he
  · unfold insq
    by_cases c1 : j < x
    · rw [if_pos c1, if_pos (by omega)]; exact g3 i j hij (by omega)
    · rw [if_neg c1]
      by_cases c2 : j = x
      · rw [if_pos c2, if_pos (by omega)]
        exact ⟨low i (by omega), .inr (g1 i (by omega)).2⟩
      · rw [if_neg c2]
        by_cases c3 : i < x
        · rw [if_pos c3]; exact g3 i (j - 1) (by omega) (by omega)
        · rw [if_neg c3]
          by_cases c4 : i = x
          · rw [if_pos c4]
            have z := h1 (j - 1) (by omega) (by omega)
            exact ⟨ab_asym z, .inl z⟩
          · rw [if_neg c4]; exact g3 (i - 1) (j - 1) (by omega) (by omega)
/-- given so far: those that are wished for, the first q of them -/
def givq (okl : Nat → Bool) (l : Nat → Nat) (R q b : Nat) : Bool := decide (0 < fb_ct (fun i => okl i && (decide (fb_ct okl i < q) && decide (l i = b))) R)
theorem givq_iff {okl : Nat → Bool} {l : Nat → Nat} {R q b : Nat} : givq okl l R q b = true ↔ ∃ i, i < R ∧ okl i = true ∧ fb_ct okl i < q ∧ l i = b := by
  unfold givq
  rw [decide_eq_true_eq, fb_ct_pos]
  constructor
  · rintro ⟨i, hi, h⟩
    simp only [Bool.and_eq_true, decide_eq_true_eq] at h
    exact ⟨i, hi, h⟩
  · rintro ⟨i, hi, h⟩
    refine ⟨i, hi, ?_⟩
    simp only [Bool.and_eq_true, decide_eq_true_eq]
    exact h
theorem givq_0 {okl : Nat → Bool} {l : Nat → Nat} {R b : Nat} : givq okl l R 0 b = false := by
  cases e : givq okl l R 0 b with
  | false => rfl
  | true =>
    obtain ⟨i, _, _, h, _⟩ := givq_iff.mp e
    omega
theorem givq_big {okl : Nat → Bool} {l : Nat → Nat} {R q q2 b : Nat} (h : fb_ct okl R ≤ q) (h2 : fb_ct okl R ≤ q2) : givq okl l R q b = givq okl l R q2 b := by
  have lt : ∀ i, i < R → okl i = true → fb_ct okl i < fb_ct okl R := fun i hi ho => (nthq_of hi ho).1
  rw [Bool.eq_iff_iff, givq_iff, givq_iff]
  constructor
  · rintro ⟨i, a, b, c, d⟩
    exact ⟨i, a, b, by have := lt i a b; omega, d⟩
  · rintro ⟨i, a, b, c, d⟩
    exact ⟨i, a, b, by have := lt i a b; omega, d⟩
theorem givq_succ {okl : Nat → Bool} {l : Nat → Nat} {R q b : Nat} (hq : q < fb_ct okl R) : givq okl l R (q + 1) b = (givq okl l R q b || decide (b = l (nthq okl R q))) := by
  have z := nthq_spec hq
  rw [Bool.eq_iff_iff, Bool.or_eq_true, givq_iff, givq_iff, decide_eq_true_eq]
  constructor
  · rintro ⟨i, a, b, c, d⟩
    by_cases e : fb_ct okl i = q
    · right
      have : i = nthq okl R q := fb_ct_kth_one b z.2.1 (by rw [e, z.2.2])
      rw [← this]; exact d.symm
    · exact .inl ⟨i, a, b, by omega, d⟩
  · rintro (⟨i, a, b, c, d⟩ | e)
    · exact ⟨i, a, b, by omega, d⟩
    · exact ⟨_, z.1, z.2.1, by rw [z.2.2]; omega, e.symm⟩
/-- what choosing finds among those not taken -/
theorem pick_eq (h : SRT fa fb mk B R l) {okb : Nat → Bool} {q : Nat} {f : Int} (hf : (f = -1 ∧ ∀ b, b < B → ¬ (mk b ∧ okb b = true ∧ givq (fun i => okb (l i)) l R q b = false)) ∨ ∃ k : Nat, f = k ∧ k < B ∧ (mk k ∧ okb k = true ∧ givq (fun i => okb (l i)) l R q k = false) ∧ ∀ b, b < B → (mk b ∧ okb b = true ∧ givq (fun i => okb (l i)) l R q b = false) → b = k ∨ befq fa fb k b) : f = if q < fb_ct (fun i => okb (l i)) R then ((l (nthq (fun i => okb (l i)) R q) : Nat) : Int) else -1 := by
  have h0 := h
  obtain ⟨h1, h2, h3⟩ := h
  by_cases c : q < fb_ct (fun i => okb (l i)) R
  · rw [if_pos c]
    have z := nthq_spec c
    have inU : mk (l (nthq (fun i => okb (l i)) R q)) ∧ okb (l (nthq (fun i => okb (l i)) R q)) = true ∧ givq (fun i => okb (l i)) l R q (l (nthq (fun i => okb (l i)) R q)) = false := by
      refine ⟨(h1 _ z.1).1, z.2.1, ?_⟩
      cases e : givq (fun i => okb (l i)) l R q (l (nthq (fun i => okb (l i)) R q)) with
      | false => rfl
      | true =>
        obtain ⟨i, a, b, c2, d⟩ := givq_iff.mp e
        have := SRT_inj h0 a z.1 d
        rw [this, z.2.2] at c2
        omega
    rcases hf with ⟨_, hn⟩ | ⟨k, e, kB, kU, km⟩
    · exact absurd inU (hn _ (h1 _ z.1).2)
    · rw [e]
      congr 1
      rcases km _ (h1 _ z.1).2 inU with e2 | e2
      · exact e2.symm
      · obtain ⟨i, iR, ie⟩ := h2 k kB kU.1
        have ni : ¬ fb_ct (fun i => okb (l i)) i < q := fun lt => by
          have := givq_iff.mpr ⟨i, iR, (by rw [ie]; exact kU.2.1), lt, ie⟩
          rw [kU.2.2] at this; cases this
        have oi : okb (l i) = true := by rw [ie]; exact kU.2.1
        rcases Nat.lt_trichotomy i (nthq (fun i => okb (l i)) R q) with c3 | c3 | c3
        · have := (nthq_of (P := fun i => okb (l i)) c3 oi).1
          rw [z.2.2] at this
          omega
        · rw [← ie, c3]
        · have := h3 _ _ c3 iR
          rw [ie] at this
          exact (bef_asym this e2).elim
  · rw [if_neg c]
    rcases hf with ⟨e, _⟩ | ⟨k, e, kB, kU, km⟩
    · exact e
    · exfalso
      obtain ⟨i, iR, ie⟩ := h2 k kB kU.1
      have oi : okb (l i) = true := by rw [ie]; exact kU.2.1
      have lt := (nthq_of (P := fun i => okb (l i)) iR oi).1
      have := givq_iff.mpr ⟨i, iR, oi, (by omega : fb_ct (fun i => okb (l i)) i < q), ie⟩
      rw [kU.2.2] at this; cases this
end ST
