theorem BF_judge {nb nj : Nat} {fr p : Pl} {rt : Nat → Prop} {LB LJ LJ2 : Nat → Bool} {by1 by2 came : Nat → Int} {q : Nat → Nat} {sz k j : Nat} (h : BF nb nj fr p rt LB LJ by1 came q sz) (hk : k < sz) (hj : j < nj) (nl : LJ j = false) (hf : fr (q k) j = true) (hp : p (q k) j = false) (hL : ∀ x, LJ2 x = (decide (x = j) || LJ x)) (hby : ∀ x, by2 x = if x = j then (q k : Int) else by1 x) : BF nb nj fr p rt LB LJ2 by2 came q sz := by
  obtain ⟨h1, h2, h3, h4, h5⟩ := h
  refine ⟨h1, h2, h3, fun x hx => ?_, fun i hi => ?_⟩
  · rw [hL] at hx
    by_cases e : x = j
    · rw [e]
      exact ⟨hj, k, hk, by rw [hby, if_pos rfl], hf, hp⟩
    · simp only [e, decide_false, Bool.false_or] at hx
      rw [hby, if_neg e]
      exact h4 x hx
  · rcases h5 i hi with q1 | ⟨j2, a1, a2, a3, a4, i2, a5, a6⟩
    · exact .inl q1
    · have e : j2 ≠ j := fun e => by rw [e, nl] at a2; cases a2
      exact .inr ⟨j2, a1, by rw [hL, a2]; simp, a3, a4, i2, a5, by rw [hby, if_neg e]; exact a6⟩
theorem BF_board {nb nj : Nat} {fr p : Pl} {rt : Nat → Prop} {LB LB2 LJ : Nat → Bool} {by1 came came2 : Nat → Int} {q q2 : Nat → Nat} {sz j c : Nat} (h : BF nb nj fr p rt LB LJ by1 came q sz) (hc : c < nb) (nl : LB c = false) (hw : (LJ j = true ∧ p c j = true ∧ fr c j = true ∧ ∀ x, came2 x = if x = c then (j : Int) else came x) ∨ (rt c ∧ ∀ x, came2 x = if x = c then -1 else came x)) (hL : ∀ x, LB2 x = (decide (x = c) || LB x)) (hq : ∀ x, q2 x = if x = sz then c else q x) : BF nb nj fr p rt LB2 LJ by1 came2 q2 (sz + 1) := by
  obtain ⟨h1, h2, h3, h4, h5⟩ := h
  have qo : ∀ i, i < sz → q2 i = q i := fun i hi => by rw [hq, if_neg (by omega)]
  have qn : q2 sz = c := by rw [hq, if_pos rfl]
  have nc : ∀ i, i < sz → q i ≠ c := fun i hi e => by have := (h1 i hi).2; rw [e, nl] at this; cases this
  refine ⟨fun i hi => ?_, fun b hb => ?_, fun i i2 hi hi2 e => ?_, fun x hx => ?_, fun i hi => ?_⟩
  · by_cases e : i = sz
    · rw [e, qn, hL]; exact ⟨hc, by simp⟩
    · rw [qo i (by omega), hL, (h1 i (by omega)).2]; exact ⟨(h1 i (by omega)).1, by simp⟩
  · rw [hL] at hb
    by_cases e : b = c
    · exact ⟨sz, by omega, by rw [qn, e]⟩
    · simp only [e, decide_false, Bool.false_or] at hb
      obtain ⟨i, a1, a2⟩ := h2 b hb
      exact ⟨i, by omega, by rw [qo i a1]; exact a2⟩
  · by_cases e1 : i = sz
    · by_cases e2 : i2 = sz
      · omega
      · rw [e1, qn, qo i2 (by omega)] at e
        exact absurd e.symm (nc i2 (by omega))
    · by_cases e2 : i2 = sz
      · rw [e2, qn, qo i (by omega)] at e
        exact absurd e (nc i (by omega))
      · rw [qo i (by omega), qo i2 (by omega)] at e
        exact h3 i i2 (by omega) (by omega) e
  · obtain ⟨a0, i, a1, a2, a3, a4⟩ := h4 x hx
    exact ⟨a0, i, by omega, by rw [qo i a1]; exact a2, by rw [qo i a1]; exact a3, by rw [qo i a1]; exact a4⟩
  · by_cases e : i = sz
    · rw [e, qn]
      rcases hw with ⟨w1, w2, w3, w4⟩ | ⟨w1, w2⟩
      · obtain ⟨a0, i2, a1, a2, a3, a4⟩ := h4 j w1
        exact .inr ⟨j, by rw [w4, if_pos rfl], w1, w2, w3, i2, a1, by rw [qo i2 a1]; exact a2⟩
      · exact .inl ⟨by rw [w2, if_pos rfl], w1⟩
    · have hi2 : i < sz := by omega
      have ec : came2 (q i) = came (q i) := by
        rcases hw with ⟨w1, w2, w3, w4⟩ | ⟨w1, w2⟩
        · rw [w4, if_neg (nc i hi2)]
        · rw [w2, if_neg (nc i hi2)]
      rw [qo i hi2, ec]
      rcases h5 i hi2 with q1 | ⟨j2, a1, a2, a3, a4, i2, a5, a6⟩
      · exact .inl q1
      · exact .inr ⟨j2, a1, a2, a3, a4, i2, a5, by rw [qo i2 (by omega)]; exact a6⟩
theorem BF_le {nb nj : Nat} {fr p : Pl} {rt : Nat → Prop} {LB LJ : Nat → Bool} {by1 came : Nat → Int} {q : Nat → Nat} {sz : Nat} (h : BF nb nj fr p rt LB LJ by1 came q sz) : sz ≤ nb := fb_holes nb sz q (fun i hi => (h.1 i hi).1) (fun i j hij hj e => by have := h.2.2.1 i j (by omega) hj e; omega)
theorem BF_lt {nb nj : Nat} {fr p : Pl} {rt : Nat → Prop} {LB LJ : Nat → Bool} {by1 came : Nat → Int} {q : Nat → Nat} {sz c : Nat} (h : BF nb nj fr p rt LB LJ by1 came q sz) (hc : c < nb) (nl : LB c = false) : sz < nb := by
  refine fb_holes nb (sz + 1) (fun i => if i = sz then c else q i) (fun i hi => ?_) (fun i j hij hj => ?_)
  · show (if i = sz then c else q i) < nb
    by_cases e : i = sz
    · rw [if_pos e]; exact hc
    · rw [if_neg e]; exact (h.1 i (by omega)).1
  · show (if i = sz then c else q i) ≠ (if j = sz then c else q j)
    rw [if_neg (show ¬ i = sz by omega)]
    by_cases e : j = sz
    · rw [if_pos e]
      intro z
      have := (h.1 i (by omega)).2
      rw [z, nl] at this
      cases this
    · rw [if_neg e]
      intro z
      have := h.2.2.1 i j (by omega) (by omega) z
      omega
theorem BF_cong {nb nj : Nat} {fr p : Pl} {rt : Nat → Prop} {LB LB2 LJ LJ2 : Nat → Bool} {by1 by2 came came2 : Nat → Int} {q q2 : Nat → Nat} {sz : Nat} (h : BF nb nj fr p rt LB LJ by1 came q sz) (e1 : ∀ x, LB2 x = LB x) (e2 : ∀ x, LJ2 x = LJ x) (e3 : ∀ x, by2 x = by1 x) (e4 : ∀ x, came2 x = came x) (e5 : ∀ x, q2 x = q x) : BF nb nj fr p rt LB2 LJ2 by2 came2 q2 sz := by
  have a1 : LB2 = LB := funext e1
  have a2 : LJ2 = LJ := funext e2
  have a3 : by2 = by1 := funext e3
  have a4 : came2 = came := funext e4
  have a5 : q2 = q := funext e5
  rw [a1, a2, a3, a4, a5]
  exact h
/-! the closed sets stay closed -/
def WD (p c : Pl) (VB VJ : Nat → Bool) (j : Nat) : Prop := VJ j = false ∧ (∀ b k, VB b = true → c b k = p b k) ∧ ∀ b k, VJ k = true → c b k = p b k
def AD (p c : Pl) (VB VJ : Nat → Bool) : Prop := (∀ b k, VB b = true → c b k = p b k) ∧ ∀ b k, VJ k = true → c b k = p b k
theorem WD_end {nb nj : Nat} {fr p c : Pl} {mo : Nat → Nat} {VB VJ : Nat → Bool} {j b : Nat} (hc : CL nb nj fr mo p VB VJ) (h : WD p c VB VJ j) (hb : b < nb) (hj : j < nj) (hf : fr b j = true) (hp : p b j = false) : AD p (upl c b j true) VB VJ := by
  have nb1 : VB b = false := by
    cases e : VB b with
    | false => rfl
    | true => have := hc.1 b j hb hj e hf hp; rw [h.1] at this; cases this
  refine ⟨fun b2 k hv => ?_, fun b2 k hv => ?_⟩
  · rw [upl_b (fun e => by rw [e, nb1] at hv; cases hv)]
    exact h.2.1 b2 k hv
  · rw [upl_j (fun e => by rw [e, h.1] at hv; cases hv)]
    exact h.2.2 b2 k hv
theorem WD_step {nb nj : Nat} {fr p c : Pl} {mo : Nat → Nat} {VB VJ : Nat → Bool} {j b j2 : Nat} (hc : CL nb nj fr mo p VB VJ) (h : WD p c VB VJ j) (hb : b < nb) (hj : j < nj) (hf : fr b j = true) (hp : p b j = false) (hj2 : j2 < nj) (hp2 : p b j2 = true) (hf2 : fr b j2 = true) : WD p (upl (upl c b j true) b j2 false) VB VJ j2 := by
  have nb1 : VB b = false := by
    cases e : VB b with
    | false => rfl
    | true => have := hc.1 b j hb hj e hf hp; rw [h.1] at this; cases this
  have nj1 : VJ j2 = false := by
    cases e : VJ j2 with
    | false => rfl
    | true => have := hc.2.1 b j2 hb hj2 e hp2 hf2; rw [nb1] at this; cases this
  refine ⟨nj1, fun b2 k hv => ?_, fun b2 k hv => ?_⟩
  · have n : b2 ≠ b := fun e => by rw [e, nb1] at hv; cases hv
    rw [upl_b n, upl_b n]
    exact h.2.1 b2 k hv
  · rw [upl_j (fun e => by rw [e, nj1] at hv; cases hv), upl_j (fun e => by rw [e, h.1] at hv; cases hv)]
    exact h.2.2 b2 k hv
theorem CL_keep {nb nj : Nat} {fr p c : Pl} {mo : Nat → Nat} {VB VJ : Nat → Bool} (hc : CL nb nj fr mo p VB VJ) (h : AD p c VB VJ) : CL nb nj fr mo c VB VJ := by
  refine ⟨fun b j hb hj h1 h2 h3 => ?_, fun b j hb hj h1 h2 h3 => ?_, fun j hj h1 => ?_⟩
  · rw [h.1 b j h1] at h3; exact hc.1 b j hb hj h1 h2 h3
  · rw [h.2 b j h1] at h2; exact hc.2.1 b j hb hj h1 h2 h3
  · rw [← hc.2.2 j hj h1]
    exact fb_ct_cong (fun b _ => h.2 b j h1)
theorem CL_union {nb nj : Nat} {fr p : Pl} {mo : Nat → Nat} {VB VJ WB WJ : Nat → Bool} (h1 : CL nb nj fr mo p VB VJ) (h2 : CL nb nj fr mo p WB WJ) : CL nb nj fr mo p (fun b => VB b || WB b) (fun j => VJ j || WJ j) := by
  refine ⟨fun b j hb hj a1 a2 a3 => ?_, fun b j hb hj a1 a2 a3 => ?_, fun j hj a1 => ?_⟩
  · have a1 : (VB b || WB b) = true := a1
    show (VJ j || WJ j) = true
    rcases (Bool.or_eq_true _ _).mp a1 with e | e
    · rw [h1.1 b j hb hj e a2 a3]; rfl
    · rw [h2.1 b j hb hj e a2 a3]; simp
  · have a1 : (VJ j || WJ j) = true := a1
    show (VB b || WB b) = true
    rcases (Bool.or_eq_true _ _).mp a1 with e | e
    · rw [h1.2.1 b j hb hj e a2 a3]; rfl
    · rw [h2.2.1 b j hb hj e a2 a3]; simp
  · have a1 : (VJ j || WJ j) = true := a1
    rcases (Bool.or_eq_true _ _).mp a1 with e | e
    · exact h1.2.2 j hj e
    · exact h2.2.2 j hj e
/-! the first plan -/
def BEF (b2 j2 b j : Nat) : Prop := b2 < b ∨ (b2 = b ∧ j2 < j)
def NOB : Pl := fun _ _ => false
def MAXP (nb nj : Nat) (may : Pl) (L : Nat) (mo : Nat → Nat) (A : Nat) : Prop := (∃ q, FE nb nj may NOB L mo q ∧ tot nb nj q = A) ∧ ∀ q, FE nb nj may NOB L mo q → tot nb nj q ≤ A
def EXT (nb nj : Nat) (may : Pl) (L : Nat) (mo : Nat → Nat) (A : Nat) (R : Pl) (b j : Nat) : Prop := ∃ q, FE nb nj may NOB L mo q ∧ tot nb nj q = A ∧ q b j = true ∧ ∀ b2 j2, b2 < nb → j2 < nj → BEF b2 j2 b j → q b2 j2 = R b2 j2
def LEX (nb nj : Nat) (may : Pl) (L : Nat) (mo : Nat → Nat) (A : Nat) (R : Pl) : Prop := ∀ b j, b < nb → j < nj → (R b j = true ↔ may b j = true ∧ EXT nb nj may L mo A R b j)
theorem MAXP_uniq {nb nj L A A2 : Nat} {may : Pl} {mo : Nat → Nat} (h1 : MAXP nb nj may L mo A) (h2 : MAXP nb nj may L mo A2) : A = A2 := by
  obtain ⟨⟨q1, a1, a2⟩, a3⟩ := h1
  obtain ⟨⟨q2, b1, b2⟩, b3⟩ := h2
  have := a3 q2 b1
  have := b3 q1 a1
  omega
theorem EXT_cong {nb nj L A : Nat} {may R R2 : Pl} {mo : Nat → Nat} {b j : Nat} (h : ∀ b2 j2, b2 < nb → j2 < nj → BEF b2 j2 b j → R b2 j2 = R2 b2 j2) (e : EXT nb nj may L mo A R b j) : EXT nb nj may L mo A R2 b j := by
  obtain ⟨q, e1, e2, e3, e4⟩ := e
  exact ⟨q, e1, e2, e3, fun b2 j2 hb hj hB => (e4 b2 j2 hb hj hB).trans (h b2 j2 hb hj hB)⟩
theorem LEX_uniq {nb nj L A : Nat} {may R R2 : Pl} {mo : Nat → Nat} (h1 : LEX nb nj may L mo A R) (h2 : LEX nb nj may L mo A R2) : ∀ (n b j : Nat), nj * b + j < n → b < nb → j < nj → R b j = R2 b j := by
  intro n
  induction n with
  | zero => intro b j h; omega
  | succ n ih =>
    intro b j hn hb hj
    have key : ∀ b2 j2, b2 < nb → j2 < nj → BEF b2 j2 b j → R b2 j2 = R2 b2 j2 := by
      intro b2 j2 hb2 hj2 hB
      refine ih b2 j2 ?_ hb2 hj2
      rcases hB with hB | ⟨e, hB⟩
      · have h3 : nj * b2 + nj ≤ nj * b := by
          have := Nat.mul_le_mul_left nj (show b2 + 1 ≤ b by omega)
          rw [Nat.mul_succ] at this
          exact this
        omega
      · rw [e]; omega
    have a := h1 b j hb hj
    have c := h2 b j hb hj
    cases e1 : R b j with
    | true =>
      have z := a.mp e1
      exact (c.mpr ⟨z.1, EXT_cong key z.2⟩).symm
    | false =>
      cases e2 : R2 b j with
      | false => rfl
      | true =>
        have z := c.mp e2
        have := a.mpr ⟨z.1, EXT_cong (fun b2 j2 p1 p2 p3 => (key b2 j2 p1 p2 p3).symm) z.2⟩
        rw [e1] at this
        cases this
