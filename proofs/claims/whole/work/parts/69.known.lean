theorem loopG {A α : Type} {l : Nat → A → Nat → Option α} {N : Nat} {I : Nat → A → Prop} {G : Option α → Prop} (hs : ∀ n x a, x < N → I x a → (∀ a2, I (x + 1) a2 → G (l n a2 (x + 1))) → G (l (n + 1) a x)) (he : ∀ n a, I N a → G (l (n + 1) a N)) : ∀ (d x n : Nat) (a : A), x + d = N → d < n → I x a → G (l n a x) := by
  intro d
  induction d with
  | zero =>
    intro x n a hx hn hI
    obtain ⟨m, rfl⟩ : ∃ m, n = m + 1 := ⟨n - 1, by omega⟩
    have e : x = N := by omega
    subst e
    exact he m a hI
  | succ d ih =>
    intro x n a hx hn hI
    obtain ⟨m, rfl⟩ : ∃ m, n = m + 1 := ⟨n - 1, by omega⟩
    exact hs m x a (by omega) hI (fun a2 h2 => ih (x + 1) m a2 (by omega) (by omega) h2)
/-- the marks that count -/
def cS (m : St) (day : Int) : Nat → Nat → Int
  | 0, _ => -1
  | k + 1, i => if m 23 k ≤ day ∧ (m 24 k < 0 ∨ day < m 24 k) ∧ (i : Int) = 12 * m 21 k + m 20 k ∧ (cS m day k i < 0 ∨ m 23 (cS m day k i).toNat ≤ m 23 k) then k else cS m day k i
theorem cS_succ (m : St) (day : Int) (k i : Nat) : cS m day (k + 1) i = if m 23 k ≤ day ∧ (m 24 k < 0 ∨ day < m 24 k) ∧ (i : Int) = 12 * m 21 k + m 20 k ∧ (cS m day k i < 0 ∨ m 23 (cS m day k i).toNat ≤ m 23 k) then (k : Int) else cS m day k i := rfl
theorem cS_rng (m : St) (day : Int) : ∀ k i, -1 ≤ cS m day k i ∧ cS m day k i < k ∧ (0 ≤ cS m day k i → (i : Int) = 12 * m 21 (cS m day k i).toNat + m 20 (cS m day k i).toNat)
  | 0, i => by
    have e : cS m day 0 i = -1 := rfl
    rw [e]
    exact ⟨by omega, by omega, fun h => by omega⟩
  | k + 1, i => by
    have ih := cS_rng m day k i
    rw [cS_succ]
    split
    · rename_i h
      refine ⟨by omega, by omega, fun _ => ?_⟩
      rw [Int.toNat_natCast]
      exact h.2.2.1
    · exact ⟨ih.1, by omega, ih.2.2⟩
def MD (nb nj nm : Nat) (m : St) : Prop := nb ≤ 24 ∧ nj ≤ 12 ∧ nm ≤ 200 ∧ m 0 4 = nb ∧ m 0 5 = nj ∧ m 0 29 = nm ∧ ∀ k, k < nm → (0 ≤ m 20 k ∧ m 20 k < nj) ∧ (0 ≤ m 21 k ∧ m 21 k < nb) ∧ (0 ≤ m 22 k ∧ m 22 k ≤ 100) ∧ (0 ≤ m 23 k ∧ m 23 k ≤ 999) ∧ (-1 ≤ m 24 k ∧ m 24 k ≤ 999)
def K25 (c j : Nat) : Bool := c == 25
def K256 (c j : Nat) : Bool := c == 25 || c == 26
theorem cS_in {nb nj nm : Nat} {m : St} (hD : MD nb nj nm m) {day : Int} {b j : Nat} (hj : j < 12) (h : 0 ≤ cS m day nm (12 * b + j)) : b < nb ∧ j < nj ∧ m 21 (cS m day nm (12 * b + j)).toNat = b ∧ m 20 (cS m day nm (12 * b + j)).toNat = j := by
  have r := cS_rng m day nm (12 * b + j)
  obtain ⟨d1, d2, d3, d4, d5, d6, d7⟩ := hD
  have z := d7 (cS m day nm (12 * b + j)).toNat (by omega)
  have e := r.2.2 h
  omega
theorem known_24 {F nb nj nm : Nat} {m0 : St} (hD : MD nb nj nm m0) {day : Int} (hday : 0 ≤ day ∧ day ≤ 999) {k122 : St → Option St} {P : St → Prop} (hk : ∀ s, frs K25 m0 s → (∀ i, i < 288 → s 25 i = cS m0 day nm i) → T (k122 s) P) {s : St} (hf : frs K25 m0 s) (h1 : ∀ i, i < 288 → s 25 i = -1) (hF : 201 ≤ F) : T (l_M_known_24 F k122 F s day 0) P := by
  obtain ⟨d1, d2, d3, d4, d5, d6, d7⟩ := hD
  refine loopG (l := fun n (s : St) x => l_M_known_24 F k122 n s day (x : Nat)) (N := nm) (I := fun k s => frs K25 m0 s ∧ ∀ i, i < 288 → s 25 i = cS m0 day k i) (G := fun r => T r P) ?_ ?_ nm 0 F s (by omega) (by omega) ⟨hf, h1⟩
  · intro n k s hk2 hI next
    obtain ⟨f, hI⟩ := hI
    have z := d7 k hk2
    have r20 : s 20 k = m0 20 k := f 20 k rfl
    have r21 : s 21 k = m0 21 k := f 21 k rfl
    have r23 : ∀ j, s 23 j = m0 23 j := fun j => f 23 j rfl
    have r24 : s 24 k = m0 24 k := f 24 k rfl
    obtain ⟨b, hb⟩ : ∃ b : Nat, m0 21 k = b := ⟨(m0 21 k).toNat, by omega⟩
    obtain ⟨j, hj⟩ : ∃ j : Nat, m0 20 k = j := ⟨(m0 20 k).toNat, by omega⟩
    have hi : 12 * b + j < 288 := by omega
    have ik : inb (k : Int) 200 := inbN (by omega) (by decide)
    have ixk : ix (k : Int) = k := ix_nat (by omega)
    have ixi : ix ((12 * b + j : Nat) : Int) = 12 * b + j := ix_nat (by omega)
    have wday : w32 day = day := wid (by omega) (by omega)
    have w23 : w32 (m0 23 k) = m0 23 k := wid (by omega) (by omega)
    have w24 : w32 (m0 24 k) = m0 24 k := wid (by omega) (by omega)
    have rr := cS_rng m0 day k (12 * b + j)
    have wc : w32 (cS m0 day k (12 * b + j)) = cS m0 day k (12 * b + j) := wid (by omega) (by omega)
    have skip : (¬ (m0 23 k ≤ day ∧ (m0 24 k < 0 ∨ day < m0 24 k) ∧ (cS m0 day k (12 * b + j) < 0 ∨ m0 23 (cS m0 day k (12 * b + j)).toNat ≤ m0 23 k))) → T (l_M_known_24 F k122 n s day ((k : Int) + 1)) P := by
      intro hn
      refine next s ⟨f, fun i hi2 => ?_⟩
      rw [cS_succ, if_neg ?_]
      · exact hI i hi2
      · intro q
        have e : i = 12 * b + j := by omega
        rw [e] at q
        exact hn ⟨q.1, q.2.1, q.2.2.2⟩
    have take : (m0 23 k ≤ day ∧ (m0 24 k < 0 ∨ day < m0 24 k) ∧ (cS m0 day k (12 * b + j) < 0 ∨ m0 23 (cS m0 day k (12 * b + j)).toNat ≤ m0 23 k)) → T (b_M_known_109 F (l_M_known_24 F k122 n) k122 s day k ((12 * b + j : Nat) : Int)) P := by
      intro hn
      refine T_gd (inbN hi (by decide)) ?_
      show T (l_M_known_24 F k122 n (put s 25 (ix ((12 * b + j : Nat) : Int)) k) day ((k : Int) + 1)) P
      rw [ixi]
      refine next _ ⟨frs_put f rfl, fun i hi2 => ?_⟩
      rw [put_at, cS_succ]
      by_cases e : i = 12 * b + j
      · rw [if_pos e, if_pos (by rw [e]; exact ⟨hn.1, hn.2.1, by omega, hn.2.2⟩)]
      · rw [if_neg e, if_neg (fun q => e (by omega))]
        exact hI i hi2
    have b64 : m0 23 k ≤ day → (m0 24 k < 0 ∨ day < m0 24 k) → T (b_M_known_64 F (l_M_known_24 F k122 n) k122 s day k) P := by
      intro h3 h4
      unfold b_M_known_64
      refine T_gd ik (T_gd ik ?_)
      rw [ixk, r20, r21, hb, hj]
      refine T_bind (T_eq at_eq (T_gd (inbN hi (by decide)) ?_))
      show T (if w32 (s 25 (ix ((12 * b + j : Nat) : Int))) < 0 then b_M_known_109 F (l_M_known_24 F k122 n) k122 s day k ((12 * b + j : Nat) : Int) else gd (inb k 200) (gd (inb ((12 * b + j : Nat) : Int) 288) (gd (inb (s 25 (ix ((12 * b + j : Nat) : Int))) 200) (if w32 (s 23 k) < w32 (s 23 (ix (s 25 (ix ((12 * b + j : Nat) : Int))))) then l_M_known_24 F k122 n s day ((k : Int) + 1) else b_M_known_109 F (l_M_known_24 F k122 n) k122 s day k ((12 * b + j : Nat) : Int))))) P
      rw [ixi, hI _ hi]
      refine T_if (fun c => take ⟨h3, h4, .inl (by omega)⟩) (fun c => T_gd ik (T_gd (inbN hi (by decide)) (T_gd (inb_id (by omega) (by omega) (by decide)) ?_)))
      rw [ix_id (by omega) (by omega), r23, r23, w23]
      have z2 := d7 (cS m0 day k (12 * b + j)).toNat (by omega)
      rw [wid (a := m0 23 (cS m0 day k (12 * b + j)).toNat) (by omega) (by omega)]
      exact T_if (fun c2 => skip (fun q => by omega)) (fun c2 => take ⟨h3, h4, .inr (by omega)⟩)
    show T (b_M_known_24 F (l_M_known_24 F k122 n) k122 s day k) P
    unfold b_M_known_24
    refine T_no (by rw [(f 0 29 rfl).trans d6, wnat (by omega), wnat (by omega)]; omega) (T_gd ik ?_)
    rw [ixk, r23, r24, wday, w23, w24]
    refine T_if (fun c => skip (fun q => by omega)) (fun c => T_gd ik (T_if (fun c2 => b64 (by omega) (.inl c2)) (fun c2 => T_gd ik (T_if (fun c3 => b64 (by omega) (.inr c3)) (fun c3 => skip (fun q => by omega))))))
  · intro n s hI
    obtain ⟨f, hI⟩ := hI
    show T (b_M_known_24 F (l_M_known_24 F k122 n) k122 s day nm) P
    unfold b_M_known_24
    exact T_yes (by rw [(f 0 29 rfl).trans d6, wnat (by omega)]; omega) (hk s f hI)
theorem known_2 {F : Nat} {m0 : St} {day : Int} {k22 : St → Int → Option St} {P : St → Prop} (hk : ∀ s, frs K25 m0 s → (∀ i, i < 288 → s 25 i = -1) → T (k22 s day) P) (hF : 289 ≤ F) : T (l_M_known_2 F k22 F m0 day 0) P := by
  refine loopG (l := fun n (s : St) x => l_M_known_2 F k22 n s day (x : Nat)) (N := 288) (I := fun k s => frs K25 m0 s ∧ ∀ i, i < k → s 25 i = -1) (G := fun r => T r P) ?_ ?_ 288 0 F m0 (by omega) (by omega) ⟨frs_refl _ _, fun i hi => absurd hi (Nat.not_lt_zero i)⟩
  · intro n k s hk2 hI next
    show T (b_M_known_2 F (l_M_known_2 F k22 n) k22 s day k) P
    unfold b_M_known_2
    refine T_no (by rw [show w32 288 = 288 by decide, wnat (by omega)]; omega) (T_gd (inbN hk2 (by decide)) ?_)
    show T (l_M_known_2 F k22 n (put s 25 (ix k) (-1)) day ((k : Int) + 1)) P
    rw [ix_nat (by omega)]
    refine next _ ⟨frs_put hI.1 rfl, fun i hi => ?_⟩
    rw [put_at]
    by_cases e : i = k
    · rw [if_pos e]
    · rw [if_neg e]; exact hI.2 i (by omega)
  · intro n s hI
    show T (b_M_known_2 F (l_M_known_2 F k22 n) k22 s day ((288 : Nat) : Int)) P
    unfold b_M_known_2
    exact T_yes (by decide) (hk s hI.1 hI.2)
