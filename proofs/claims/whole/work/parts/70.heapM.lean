theorem loopW {A α : Type} {l : Nat → A → Option α} {I : A → Prop} {mu : A → Nat} {G : Option α → Prop} (hs : ∀ n a, I a → (∀ a2, I a2 → mu a2 < mu a → G (l n a2)) → G (l (n + 1) a)) : ∀ (d n : Nat) (a : A), mu a ≤ d → d < n → I a → G (l n a) := by
  intro d
  induction d with
  | zero =>
    intro n a hd hn hI
    obtain ⟨m, rfl⟩ : ∃ m, n = m + 1 := ⟨n - 1, by omega⟩
    exact hs m a hI (fun a2 _ h2 => by omega)
  | succ d ih =>
    intro n a hd hn hI
    obtain ⟨m, rfl⟩ : ∃ m, n = m + 1 := ⟨n - 1, by omega⟩
    exact hs m a hI (fun a2 h1 h2 => ih m a2 (by omega) (by omega) h1)
def K26 (c j : Nat) : Bool := c == 26
def mkd (hs : Nat → Nat → Bool) (j : Nat) : Prop := ∃ b, hs b j = true
def CMP (hs : Nat → Nat → Bool) (f : Nat → Nat) : Prop := ∀ b j j2, hs b j = true → hs b j2 = true → f j = f j2
def KD (hs : Nat → Nat → Bool) (nj : Nat) (H : Nat → Int) : Prop := ∀ j, j < nj → (mkd hs j → 0 ≤ H j ∧ H j ≤ j ∧ mkd hs (H j).toNat ∧ ∀ f, CMP hs f → f (H j).toNat = f j) ∧ (¬ mkd hs j → H j = -1)
def EQB (hs : Nat → Nat → Bool) (H : Nat → Int) : Prop := ∀ b j j2, hs b j = true → hs b j2 = true → H j = H j2
theorem KD_le {hs : Nat → Nat → Bool} {nj : Nat} {H H2 : Nat → Int} (h1 : KD hs nj H) (h2 : KD hs nj H2) (e2 : EQB hs H2) {j : Nat} (hj : j < nj) (hm : mkd hs j) : H2 j ≤ H j := by
  obtain ⟨a1, a2, a3, a4⟩ := (h1 j hj).1 hm
  have c := a4 (fun k => (H2 k).toNat) (fun b j j2 q1 q2 => congrArg Int.toNat (e2 b j j2 q1 q2))
  obtain ⟨b1, b2, b3, b4⟩ := (h2 (H j).toNat (by omega)).1 a3
  obtain ⟨c1, c2, c3, c4⟩ := (h2 j hj).1 hm
  have c : (H2 (H j).toNat).toNat = (H2 j).toNat := c
  omega
theorem KD_uniq {hs : Nat → Nat → Bool} {nj : Nat} {H H2 : Nat → Int} (h1 : KD hs nj H) (e1 : EQB hs H) (h2 : KD hs nj H2) (e2 : EQB hs H2) {j : Nat} (hj : j < nj) : H j = H2 j := by
  by_cases hm : mkd hs j
  · have := KD_le h1 h2 e2 hj hm
    have := KD_le h2 h1 e1 hj hm
    omega
  · rw [(h1 j hj).2 hm, (h2 j hj).2 hm]
def HC (hs : Nat → Nat → Bool) (nb nj : Nat) (s : St) : Prop := nb ≤ 24 ∧ nj ≤ 12 ∧ s 0 4 = nb ∧ s 0 5 = nj ∧ (∀ b j, hs b j = true → b < nb ∧ j < nj) ∧ ∀ b j, b < nb → j < nj → i32 (s 25 (12 * b + j)) ∧ (s 25 (12 * b + j) < 0 ↔ hs b j = false)
theorem hs_cell {hs : Nat → Nat → Bool} {nb nj : Nat} {s0 s : St} (hC : HC hs nb nj s0) (f : frs K26 s0 s) {b j : Nat} (hb : b < nb) (hj : j < nj) : w32 (s 25 (ix ((12 * b + j : Nat) : Int))) < 0 ↔ hs b j = false := by
  obtain ⟨d1, d2, d3, d4, d5, d6⟩ := hC
  have z := d6 b j hb hj
  rw [ix_nat (by omega), f 25 _ rfl, wid z.1.1 z.1.2]
  exact z.2
theorem known_141 {F nb nj : Nat} {hs : Nat → Nat → Bool} {s1 : St} (hC : HC hs nb nj s1) {k175 : St → Int → Option St} {P : St → Prop} {j : Nat} (hj : j < nj) {s0 : St} (f0 : frs K26 s1 s0) (h0 : s0 26 j = -1) (hk : ∀ s, frs K26 s1 s → (∀ j2, j2 ≠ j → s 26 j2 = s0 26 j2) → ((mkd hs j ∧ s 26 j = j) ∨ (¬ mkd hs j ∧ s 26 j = -1)) → T (k175 s j) P) (hF : 30 ≤ F) : T (l_M_known_141 F k175 F s0 j 0) P := by
  have hC0 := hC
  obtain ⟨d1, d2, d3, d4, d5, d6⟩ := hC
  refine loopG (l := fun n (s : St) x => l_M_known_141 F k175 n s j (x : Nat)) (N := nb) (I := fun b s => frs K26 s1 s ∧ (∀ j2, j2 ≠ j → s 26 j2 = s0 26 j2) ∧ ((∃ b2, b2 < b ∧ hs b2 j = true) ∧ s 26 j = j ∨ (∀ b2, b2 < b → hs b2 j = false) ∧ s 26 j = -1)) (G := fun r => T r P) ?_ ?_ nb 0 F s0 (by omega) (by omega) ⟨f0, fun _ _ => rfl, .inr ⟨fun b2 h => absurd h (Nat.not_lt_zero b2), h0⟩⟩
  · intro n b s hb hI next
    obtain ⟨f, g, hI⟩ := hI
    show T (b_M_known_141 F (l_M_known_141 F k175 n) k175 s j b) P
    unfold b_M_known_141
    refine T_no (by rw [(f 0 4 rfl).trans d3, wnat (by omega), wnat (by omega)]; omega) (T_bind (T_eq at_eq (T_gd (inbN (show 12 * b + j < 288 by omega) (by decide)) ?_)))
    refine T_if (fun c => ?_) (fun c => T_gd (inbN (show j < 12 by omega) (by decide)) ?_)
    · have c := (hs_cell hC0 f hb hj).mp c
      refine next s ⟨f, g, ?_⟩
      rcases hI with ⟨⟨b2, h1, h2⟩, h3⟩ | ⟨h1, h2⟩
      · exact .inl ⟨⟨b2, by omega, h2⟩, h3⟩
      · refine .inr ⟨fun b2 hb2 => ?_, h2⟩
        by_cases e : b2 = b
        · rw [e]; exact c
        · exact h1 b2 (by omega)
    · have c : ¬ hs b j = false := fun q => c ((hs_cell hC0 f hb hj).mpr q)
      show T (l_M_known_141 F k175 n (put s 26 (ix j) j) j ((b : Int) + 1)) P
      rw [ix_nat (by omega)]
      refine next _ ⟨frs_put f rfl, fun j2 q => ?_, .inl ⟨⟨b, by omega, by simpa using c⟩, put_eq _ _ _ _⟩⟩
      rw [put_at, if_neg q]
      exact g j2 q
  · intro n s hI
    obtain ⟨f, g, hI⟩ := hI
    show T (b_M_known_141 F (l_M_known_141 F k175 n) k175 s j nb) P
    unfold b_M_known_141
    refine T_yes (by rw [(f 0 4 rfl).trans d3, wnat (by omega)]; omega) (hk s f g ?_)
    rcases hI with ⟨⟨b2, h1, h2⟩, h3⟩ | ⟨h1, h2⟩
    · exact .inl ⟨⟨b2, h2⟩, h3⟩
    · refine .inr ⟨fun ⟨b2, q⟩ => ?_, h2⟩
      have := h1 b2 (d5 b2 j q).1
      rw [this] at q
      cases q
theorem known_124 {F nb nj : Nat} {hs : Nat → Nat → Bool} {s1 : St} (hC : HC hs nb nj s1) {k181 : St → Option St} {P : St → Prop} (hk : ∀ s, frs K26 s1 s → (∀ j, j < nj → (mkd hs j ∧ s 26 j = j) ∨ (¬ mkd hs j ∧ s 26 j = -1)) → T (k181 s) P) (hF : 30 ≤ F) : T (l_M_known_124 F k181 F s1 0) P := by
  have hC0 := hC
  obtain ⟨d1, d2, d3, d4, d5, d6⟩ := hC
  refine loopG (l := fun n (s : St) x => l_M_known_124 F k181 n s (x : Nat)) (N := nj) (I := fun j s => frs K26 s1 s ∧ ∀ j2, j2 < j → (mkd hs j2 ∧ s 26 j2 = j2) ∨ (¬ mkd hs j2 ∧ s 26 j2 = -1)) (G := fun r => T r P) ?_ ?_ nj 0 F s1 (by omega) (by omega) ⟨frs_refl _ _, fun j2 h => absurd h (Nat.not_lt_zero j2)⟩
  · intro n j s hj hI next
    obtain ⟨f, hI⟩ := hI
    show T (b_M_known_124 F (l_M_known_124 F k181 n) k181 s j) P
    unfold b_M_known_124
    refine T_no (by rw [(f 0 5 rfl).trans d4, wnat (by omega), wnat (by omega)]; omega) (T_gd (inbN (show j < 12 by omega) (by decide)) ?_)
    show T (l_M_known_141 F (fun s4 x2_5 => l_M_known_124 F k181 n s4 (x2_5 + 1)) F (put s 26 (ix j) (-1)) j 0) P
    rw [ix_nat (by omega)]
    refine known_141 hC0 hj (frs_put f rfl) (put_eq _ _ _ _) (fun t ft gt ht => next t ⟨ft, fun j2 hj2 => ?_⟩) hF
    by_cases e : j2 = j
    · rw [e]; exact ht
    · rw [gt j2 e, put_at, if_neg e]
      exact hI j2 (by omega)
  · intro n s hI
    obtain ⟨f, hI⟩ := hI
    show T (b_M_known_124 F (l_M_known_124 F k181 n) k181 s nj) P
    unfold b_M_known_124
    exact T_yes (by rw [(f 0 5 rfl).trans d4, wnat (by omega)]; omega) (hk s f hI)
def hsum (nj : Nat) (s : St) : Nat := fb_sm (fun j => (s 26 j + 1).toNat) nj
theorem known_206 {F nb nj : Nat} {hs : Nat → Nat → Bool} {s1 s : St} (hC : HC hs nb nj s1) (f : frs K26 s1 s) (hK : KD hs nj (fun j => s 26 j)) {x2 : Int} {b : Nat} (hb : b < nb) {k249 : St → Int → Int → Int → Option St} {P : St → Prop} (hk : ∀ v : Int, 0 ≤ v → v ≤ 12 → (∀ j, hs b j = true → v ≤ s 26 j) → ((∀ j, hs b j = false) ∨ ∃ j, hs b j = true ∧ s 26 j = v) → T (k249 s x2 b v) P) (hF : 30 ≤ F) : T (l_M_known_206 F k249 F s x2 b 12 0) P := by
  have hC0 := hC
  obtain ⟨d1, d2, d3, d4, d5, d6⟩ := hC
  refine loopG (l := fun n (v : Int) x => l_M_known_206 F k249 n s x2 b v (x : Nat)) (N := nj) (I := fun j v => 0 ≤ v ∧ v ≤ 12 ∧ (∀ j2, j2 < j → hs b j2 = true → v ≤ s 26 j2) ∧ ((∀ j2, j2 < j → hs b j2 = false) ∧ v = 12 ∨ ∃ j2, j2 < j ∧ hs b j2 = true ∧ s 26 j2 = v)) (G := fun r => T r P) ?_ ?_ nj 0 F 12 (by omega) (by omega) ⟨by decide, by decide, fun j2 h => absurd h (Nat.not_lt_zero j2), .inl ⟨fun j2 h => absurd h (Nat.not_lt_zero j2), rfl⟩⟩
  · intro n j v hj hI next
    obtain ⟨i1, i2, i3, i4⟩ := hI
    show T (b_M_known_206 F (l_M_known_206 F k249 n) k249 s x2 b v j) P
    unfold b_M_known_206
    refine T_no (by rw [(f 0 5 rfl).trans d4, wnat (by omega), wnat (by omega)]; omega) (T_bind (T_eq at_eq (T_gd (inbN (show 12 * b + j < 288 by omega) (by decide)) ?_)))
    refine T_if (fun c => ?_) (fun c => T_gd (inbN (show j < 12 by omega) (by decide)) ?_)
    · have c := (hs_cell hC0 f hb hj).mp c
      refine next v ⟨i1, i2, fun j2 h1 h2 => ?_, ?_⟩
      · by_cases e : j2 = j
        · rw [e, c] at h2; cases h2
        · exact i3 j2 (by omega) h2
      · rcases i4 with ⟨h1, h2⟩ | ⟨j2, h1, h2, h3⟩
        · refine .inl ⟨fun j2 hj2 => ?_, h2⟩
          by_cases e : j2 = j
          · rw [e]; exact c
          · exact h1 j2 (by omega)
        · exact .inr ⟨j2, by omega, h2, h3⟩
    · have c : ¬ hs b j = false := fun q => c ((hs_cell hC0 f hb hj).mpr q)
      have ct : hs b j = true := by simpa using c
      obtain ⟨k1, k2, k3, k4⟩ := (hK j hj).1 ⟨b, ct⟩
      have k1 : 0 ≤ s 26 j := k1
      have k2 : s 26 j ≤ j := k2
      show T ((f_MJ_min s v (s 26 (ix j))).bind fun q6 => l_M_known_206 F k249 n q6.2 x2 b q6.1 ((j : Int) + 1)) P
      rw [ix_nat (by omega)]
      unfold f_MJ_min
      have w1 : w32 (s 26 j) = s 26 j := wid (by omega) (by omega)
      have w2 : w32 v = v := wid (by omega) (by omega)
      rw [w1, w2]
      by_cases q : s 26 j < v
      · rw [if_pos q]
        refine next (s 26 j) ⟨k1, by omega, fun j2 h1 h2 => ?_, .inr ⟨j, by omega, ct, rfl⟩⟩
        by_cases e : j2 = j
        · rw [e]; exact Int.le_refl _
        · have := i3 j2 (by omega) h2; omega
      · rw [if_neg q]
        refine next v ⟨i1, i2, fun j2 h1 h2 => ?_, ?_⟩
        · by_cases e : j2 = j
          · rw [e]; omega
          · exact i3 j2 (by omega) h2
        · rcases i4 with ⟨h1, h2⟩ | ⟨j2, h1, h2, h3⟩
          · omega
          · exact .inr ⟨j2, by omega, h2, h3⟩
  · intro n v hI
    obtain ⟨i1, i2, i3, i4⟩ := hI
    show T (b_M_known_206 F (l_M_known_206 F k249 n) k249 s x2 b v nj) P
    unfold b_M_known_206
    refine T_yes (by rw [(f 0 5 rfl).trans d4, wnat (by omega)]; omega) (hk v i1 i2 (fun j h => i3 j (d5 b j h).2 h) ?_)
    rcases i4 with ⟨h1, h2⟩ | ⟨j2, h1, h2, h3⟩
    · refine .inl (fun j => ?_)
      cases e : hs b j with
      | false => rfl
      | true => have := h1 j (d5 b j e).2; rw [this] at e; cases e
    · exact .inr ⟨j2, h2, h3⟩
theorem known_252 {F nb nj : Nat} {hs : Nat → Nat → Bool} {s1 s s0 : St} (hC : HC hs nb nj s1) (f : frs K26 s1 s) (hK : KD hs nj (fun j => s 26 j)) {x2 : Int} {b : Nat} (hb : b < nb) (hx : (x2 = 0 ∧ s = s0) ∨ (x2 = 1 ∧ hsum nj s < hsum nj s0)) {v : Int} (v1 : 0 ≤ v ∧ v ≤ 12) (v2 : ∀ j, hs b j = true → v ≤ s 26 j) (v3 : (∀ j, hs b j = false) ∨ ∃ j, hs b j = true ∧ s 26 j = v) {k307 : St → Int → Int → Option St} {P : St → Prop} (hk : ∀ (t : St) (y : Int), frs K26 s1 t → KD hs nj (fun j => t 26 j) → ((y = 0 ∧ t = s0 ∧ x2 = 0 ∧ ∀ j, hs b j = true → t 26 j = v) ∨ (y = 1 ∧ hsum nj t < hsum nj s0)) → T (k307 t y b) P) (hF : 30 ≤ F) : T (l_M_known_252 F k307 F s x2 b v 0) P := by
  have hC0 := hC
  obtain ⟨d1, d2, d3, d4, d5, d6⟩ := hC
  have v4 : ∀ j, hs b j = true → mkd hs v.toNat ∧ ∀ g, CMP hs g → g v.toNat = g j := by
    intro j hj
    rcases v3 with v3 | ⟨j0, q1, q2⟩
    · rw [v3 j] at hj; cases hj
    · obtain ⟨k1, k2, k3, k4⟩ := (hK j0 (d5 b j0 q1).2).1 ⟨b, q1⟩
      have k3 : mkd hs (s 26 j0).toNat := k3
      have k4 : ∀ g, CMP hs g → g (s 26 j0).toNat = g j0 := k4
      rw [q2] at k3 k4
      exact ⟨k3, fun g hg => (k4 g hg).trans (hg b j0 j q1 hj)⟩
  refine loopG (l := fun n (a : St × Int) x => l_M_known_252 F k307 n a.1 a.2 b v (x : Nat)) (N := nj) (I := fun j a => frs K26 s1 a.1 ∧ KD hs nj (fun j => a.1 26 j) ∧ (∀ j2, hs b j2 = true → v ≤ a.1 26 j2) ∧ ((a.2 = 0 ∧ a.1 = s0 ∧ x2 = 0 ∧ ∀ j2, j2 < j → hs b j2 = true → a.1 26 j2 = v) ∨ (a.2 = 1 ∧ hsum nj a.1 < hsum nj s0))) (G := fun r => T r P) ?_ ?_ nj 0 F (s, x2) (by omega) (by omega) ⟨f, hK, v2, ?_⟩
  · intro n j a hj hI next
    obtain ⟨t, y⟩ := a
    obtain ⟨i1, i2, i3, i4⟩ := hI
    show T (b_M_known_252 F (l_M_known_252 F k307 n) k307 t y b v j) P
    unfold b_M_known_252
    have i1 : frs K26 s1 t := i1
    have i2 : KD hs nj (fun j => t 26 j) := i2
    have i3 : ∀ j2, hs b j2 = true → v ≤ t 26 j2 := i3
    refine T_no (by rw [(i1 0 5 rfl).trans d4, wnat (by omega), wnat (by omega)]; omega) (T_bind (T_eq at_eq (T_gd (inbN (show 12 * b + j < 288 by omega) (by decide)) ?_)))
    refine T_if (fun c => ?_) (fun c => T_gd (inbN (show j < 12 by omega) (by decide)) ?_)
    · have c := (hs_cell hC0 i1 hb hj).mp c
      refine next (t, y) ⟨i1, i2, i3, ?_⟩
      rcases i4 with ⟨q1, q2, q3, q4⟩ | q
      · refine .inl ⟨q1, q2, q3, fun j2 h1 h2 => ?_⟩
        by_cases e : j2 = j
        · rw [e, c] at h2; cases h2
        · exact q4 j2 (by omega) h2
      · exact .inr q
    · have c : ¬ hs b j = false := fun q => c ((hs_cell hC0 i1 hb hj).mpr q)
      have ct : hs b j = true := by simpa using c
      obtain ⟨k1, k2, k3, k4⟩ := (i2 j hj).1 ⟨b, ct⟩
      have k1 : 0 ≤ t 26 j := k1
      have k2 : t 26 j ≤ j := k2
      have k5 := i3 j ct
      have w1 : w32 (t 26 j) = t 26 j := wid (by omega) (by omega)
      have w2 : w32 v = v := wid (by omega) (by omega)
      have ixj : ix (j : Int) = j := ix_nat (by omega)
      refine T_if (fun c2 => ?_) (fun c2 => T_gd (inbN (show j < 12 by omega) (by decide)) ?_)
      · have c2 : w32 (t 26 (ix (j : Int))) = w32 v := c2
        rw [ixj] at c2
        refine next (t, y) ⟨i1, i2, i3, ?_⟩
        rcases i4 with ⟨q1, q2, q3, q4⟩ | q
        · refine .inl ⟨q1, q2, q3, fun j2 h1 h2 => ?_⟩
          by_cases e : j2 = j
          · rw [e]; show t 26 j = v; omega
          · exact q4 j2 (by omega) h2
        · exact .inr q
      · have c2 : ¬ w32 (t 26 (ix (j : Int))) = w32 v := c2
        rw [ixj] at c2
        show T (l_M_known_252 F k307 n (put t 26 (ix j) v) 1 b v ((j : Int) + 1)) P
        rw [ixj]
        have hsm : hsum nj (put t 26 j v) < hsum nj t := by
          unfold hsum
          have e := fb_sm_upd (fun j => (t 26 j + 1).toNat) (v + 1).toNat hj
          have e2 : fb_sm (fun k => ((put t 26 j v) 26 k + 1).toNat) nj = fb_sm (fun k => if k = j then (v + 1).toNat else (t 26 k + 1).toNat) nj := fb_sm_cong (fun k _ => by
            rw [put_at]
            by_cases e : k = j
            · rw [if_pos e, if_pos e]
            · rw [if_neg e, if_neg e])
          rw [e2]
          have e : fb_sm (fun k => if k = j then (v + 1).toNat else (t 26 k + 1).toNat) nj + (t 26 j + 1).toNat = fb_sm (fun j => (t 26 j + 1).toNat) nj + (v + 1).toNat := e
          omega
        refine next (put t 26 j v, 1) ⟨frs_put i1 rfl, ?_, ?_, .inr ⟨rfl, ?_⟩⟩
        · intro j2 hj2
          show (mkd hs j2 → 0 ≤ (put t 26 j v) 26 j2 ∧ (put t 26 j v) 26 j2 ≤ j2 ∧ mkd hs ((put t 26 j v) 26 j2).toNat ∧ ∀ f, CMP hs f → f ((put t 26 j v) 26 j2).toNat = f j2) ∧ (¬ mkd hs j2 → (put t 26 j v) 26 j2 = -1)
          rw [put_at]
          by_cases e : j2 = j
          · rw [if_pos e, e]
            have z := v4 j ct
            exact ⟨fun _ => ⟨v1.1, by omega, z.1, z.2⟩, fun q => absurd ⟨b, ct⟩ q⟩
          · rw [if_neg e]
            exact i2 j2 hj2
        · intro j2 h2
          show v ≤ (put t 26 j v) 26 j2
          rw [put_at]
          by_cases e : j2 = j
          · rw [if_pos e]; exact Int.le_refl _
          · rw [if_neg e]; exact i3 j2 h2
        · show hsum nj (put t 26 j v) < hsum nj s0
          rcases i4 with ⟨q1, q2, q3, q4⟩ | ⟨q1, q2⟩
          · have q2 : t = s0 := q2
            rw [← q2]; exact hsm
          · have q2 : hsum nj t < hsum nj s0 := q2
            omega
  · intro n a hI
    obtain ⟨t, y⟩ := a
    obtain ⟨i1, i2, i3, i4⟩ := hI
    have i1 : frs K26 s1 t := i1
    show T (b_M_known_252 F (l_M_known_252 F k307 n) k307 t y b v nj) P
    unfold b_M_known_252
    refine T_yes (by rw [(i1 0 5 rfl).trans d4, wnat (by omega)]; omega) (hk t y i1 i2 ?_)
    rcases i4 with ⟨q1, q2, q3, q4⟩ | q
    · exact .inl ⟨q1, q2, q3, fun j h => q4 j (d5 b j h).2 h⟩
    · exact .inr q
  · rcases hx with ⟨q1, q2⟩ | q
    · exact .inl ⟨q1, q2, q1, fun j2 h => absurd h (Nat.not_lt_zero j2)⟩
    · exact .inr q
theorem known_191 {F nb nj : Nat} {hs : Nat → Nat → Bool} {s1 s0 : St} (hC : HC hs nb nj s1) (f : frs K26 s1 s0) (hK : KD hs nj (fun j => s0 26 j)) {k313 : St → Int → Option St} {P : St → Prop} (hk : ∀ (t : St) (y : Int), frs K26 s1 t → KD hs nj (fun j => t 26 j) → ((y = 0 ∧ t = s0 ∧ EQB hs (fun j => t 26 j)) ∨ (y = 1 ∧ hsum nj t < hsum nj s0)) → T (k313 t y) P) (hF : 30 ≤ F) : T (l_M_known_191 F k313 F s0 0 0) P := by
  have hC0 := hC
  obtain ⟨d1, d2, d3, d4, d5, d6⟩ := hC
  refine loopG (l := fun n (a : St × Int) x => l_M_known_191 F k313 n a.1 a.2 (x : Nat)) (N := nb) (I := fun b a => frs K26 s1 a.1 ∧ KD hs nj (fun j => a.1 26 j) ∧ ((a.2 = 0 ∧ a.1 = s0 ∧ ∀ b2, b2 < b → ∀ j j2, hs b2 j = true → hs b2 j2 = true → a.1 26 j = a.1 26 j2) ∨ (a.2 = 1 ∧ hsum nj a.1 < hsum nj s0))) (G := fun r => T r P) ?_ ?_ nb 0 F (s0, 0) (by omega) (by omega) ⟨f, hK, .inl ⟨rfl, rfl, fun b2 h => absurd h (Nat.not_lt_zero b2)⟩⟩
  · intro n b a hb hI next
    obtain ⟨t, y⟩ := a
    obtain ⟨i1, i2, i4⟩ := hI
    have i1 : frs K26 s1 t := i1
    have i2 : KD hs nj (fun j => t 26 j) := i2
    show T (b_M_known_191 F (l_M_known_191 F k313 n) k313 t y b) P
    unfold b_M_known_191
    refine T_no (by rw [(i1 0 4 rfl).trans d3, wnat (by omega), wnat (by omega)]; omega) ?_
    refine known_206 hC0 i1 i2 hb (fun v v1 v2 v3 v4 => ?_) hF
    refine known_252 hC0 i1 i2 hb (s0 := s0) ?_ ⟨v1, v2⟩ v3 v4 (fun t2 y2 g1 g2 g3 => ?_) hF
    · rcases i4 with ⟨q1, q2, q3⟩ | q
      · exact .inl ⟨q1, q2⟩
      · exact .inr q
    · refine next (t2, y2) ⟨g1, g2, ?_⟩
      rcases g3 with ⟨q1, q2, q3, q4⟩ | q
      · refine .inl ⟨q1, q2, fun b2 hb2 j j2 h1 h2 => ?_⟩
        by_cases e : b2 = b
        · rw [e] at h1 h2
          show t2 26 j = t2 26 j2
          rw [q4 j h1, q4 j2 h2]
        · rcases i4 with ⟨r1, r2, r3⟩ | ⟨r1, r2⟩
          · have := r3 b2 (by omega) j j2 h1 h2
            have r2 : t = s0 := r2
            show t2 26 j = t2 26 j2
            rw [q2, ← r2]
            exact this
          · have r1 : y = 1 := r1
            omega
      · exact .inr q
  · intro n a hI
    obtain ⟨t, y⟩ := a
    obtain ⟨i1, i2, i4⟩ := hI
    have i1 : frs K26 s1 t := i1
    show T (b_M_known_191 F (l_M_known_191 F k313 n) k313 t y nb) P
    unfold b_M_known_191
    refine T_yes (by rw [(i1 0 4 rfl).trans d3, wnat (by omega)]; omega) (hk t y i1 i2 ?_)
    rcases i4 with ⟨q1, q2, q3⟩ | q
    · exact .inl ⟨q1, q2, fun b j j2 h1 h2 => q3 b (d5 b j h1).1 j j2 h1 h2⟩
    · exact .inr q
theorem known_183 {F nb nj : Nat} {hs : Nat → Nat → Bool} {s1 s0 : St} (hC : HC hs nb nj s1) (f : frs K26 s1 s0) (hK : KD hs nj (fun j => s0 26 j)) {k316 : St → Option St} {P : St → Prop} (hk : ∀ t : St, frs K26 s1 t → KD hs nj (fun j => t 26 j) → EQB hs (fun j => t 26 j) → T (k316 t) P) (hF : 200 ≤ F) : T (l_M_known_183 F k316 F s0 1) P := by
  have hb0 : hsum nj s0 ≤ 156 := by
    unfold hsum
    refine Nat.le_trans (fb_sm_bound (c := 13) (fun j hj => ?_)) (by have := hC.2.1; omega)
    by_cases hm : mkd hs j
    · obtain ⟨k1, k2, -⟩ := (hK j hj).1 hm
      have k1 : 0 ≤ s0 26 j := k1
      have k2 : s0 26 j ≤ j := k2
      have := hC.2.1
      omega
    · have := (hK j hj).2 hm
      have : s0 26 j = -1 := this
      omega
  refine loopW (l := fun n (a : St × Int) => l_M_known_183 F k316 n a.1 a.2) (I := fun a => frs K26 s1 a.1 ∧ KD hs nj (fun j => a.1 26 j) ∧ ((a.2 = 0 ∧ EQB hs (fun j => a.1 26 j)) ∨ a.2 = 1)) (mu := fun a => hsum nj a.1 + a.2.toNat) (G := fun r => T r P) ?_ 157 F (s0, 1) (by show hsum nj s0 + 1 ≤ 157; omega) (by omega) ⟨f, hK, .inr rfl⟩
  intro n a hI next
  obtain ⟨t, y⟩ := a
  obtain ⟨i1, i2, i3⟩ := hI
  have i1 : frs K26 s1 t := i1
  have i2 : KD hs nj (fun j => t 26 j) := i2
  show T (b_M_known_183 F (l_M_known_183 F k316 n) k316 t y) P
  unfold b_M_known_183
  rcases i3 with ⟨q1, q2⟩ | q
  · have q1 : y = 0 := q1
    exact T_yes (by rw [q1]; decide) (hk t i1 i2 q2)
  · have q : y = 1 := q
    refine T_no (by rw [q]; decide) ?_
    refine known_191 hC i1 i2 (fun t2 y2 g1 g2 g3 => ?_) (by omega)
    rcases g3 with ⟨r1, r2, r3⟩ | ⟨r1, r2⟩
    · refine next (t2, y2) ⟨g1, g2, .inl ⟨r1, r3⟩⟩ ?_
      show hsum nj t2 + y2.toNat < hsum nj t + y.toNat
      rw [r2, r1, q]
      show hsum nj t + 0 < hsum nj t + 1
      omega
    · refine next (t2, y2) ⟨g1, g2, .inr r1⟩ ?_
      show hsum nj t2 + y2.toNat < hsum nj t + y.toNat
      rw [r1, q]
      omega
