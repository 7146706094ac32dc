/-! the reference: choosing -/
theorem b43_eq {F p b : Nat} {s m : St} (hp : p < 8) (hb : b < 24) (e33 : s 33 p = m 33 p ∧ -1 ≤ m 33 p ∧ m 33 p ≤ 7) (e34 : s 34 p = m 34 p ∧ -1 ≤ m 34 p ∧ m 34 p ≤ 3) (e35 : s 35 p = m 35 p ∧ -1 ≤ m 35 p ∧ m 35 p ≤ 15) (e1 : s 1 b = m 1 b ∧ 0 ≤ m 1 b ∧ m 1 b ≤ 7) (e2 : s 2 b = m 2 b ∧ 0 ≤ m 2 b ∧ m 2 b ≤ 3) (e3 : s 3 b = m 3 b ∧ 0 ≤ m 3 b ∧ m 3 b ≤ 15) : b_M_wants_43 F s p b = some (b01 ((m 33 p < 0 ∨ m 33 p = m 1 b) ∧ (m 34 p < 0 ∨ m 34 p = m 2 b) ∧ (m 35 p < 0 ∨ m 35 p = m 3 b)), s) := by
  have ip : inb (p : Int) 8 := inbN hp (by decide)
  have ib : inb (b : Int) 24 := inbN hb (by decide)
  have ixp : ix (p : Int) = p := ix_nat (by omega)
  have ixb : ix (b : Int) = b := ix_nat (by omega)
  have k91 : b_M_wants_91 F s p b = some (b01 (m 35 p < 0 ∨ m 35 p = m 3 b), s) := by
    unfold b_M_wants_91
    rw [gd_yes ip, ixp, ixb, e35.1, e3.1, wid (a := m 35 p) (by omega) (by omega), wid (a := m 3 b) (by omega) (by omega)]
    unfold b01
    by_cases c : m 35 p < 0
    · rw [if_pos c, if_pos (.inl c)]
    · rw [if_neg c, gd_yes ip, gd_yes ib]
      by_cases c2 : m 35 p = m 3 b
      · rw [if_pos c2, if_pos (.inr c2)]
      · rw [if_neg c2, if_neg (by omega)]
  have k67 : b_M_wants_67 F s p b = some (b01 ((m 34 p < 0 ∨ m 34 p = m 2 b) ∧ (m 35 p < 0 ∨ m 35 p = m 3 b)), s) := by
    unfold b_M_wants_67
    rw [gd_yes ip, ixp, ixb, e34.1, e2.1, wid (a := m 34 p) (by omega) (by omega), wid (a := m 2 b) (by omega) (by omega), k91]
    unfold b01
    by_cases c : m 34 p < 0
    · rw [if_pos c]
      by_cases c3 : m 35 p < 0 ∨ m 35 p = m 3 b
      · rw [if_pos c3, if_pos ⟨.inl c, c3⟩]
      · rw [if_neg c3, if_neg (fun z => c3 z.2)]
    · rw [if_neg c, gd_yes ip, gd_yes ib]
      by_cases c2 : m 34 p = m 2 b
      · rw [if_pos c2]
        by_cases c3 : m 35 p < 0 ∨ m 35 p = m 3 b
        · rw [if_pos c3, if_pos ⟨.inr c2, c3⟩]
        · rw [if_neg c3, if_neg (fun z => c3 z.2)]
      · rw [if_neg c2, if_neg (fun z => by have := z.1; omega)]
  unfold b_M_wants_43
  rw [gd_yes ip, ixp, ixb, e33.1, e1.1, wid (a := m 33 p) (by omega) (by omega), wid (a := m 1 b) (by omega) (by omega), k67]
  unfold b01
  by_cases c : m 33 p < 0
  · rw [if_pos c]
    by_cases c3 : (m 34 p < 0 ∨ m 34 p = m 2 b) ∧ (m 35 p < 0 ∨ m 35 p = m 3 b)
    · rw [if_pos c3, if_pos ⟨.inl c, c3⟩]
    · rw [if_neg c3, if_neg (fun z => c3 z.2)]
  · rw [if_neg c, gd_yes ip, gd_yes ib]
    by_cases c2 : m 33 p = m 1 b
    · rw [if_pos c2]
      by_cases c3 : (m 34 p < 0 ∨ m 34 p = m 2 b) ∧ (m 35 p < 0 ∨ m 35 p = m 3 b)
      · rw [if_pos c3, if_pos ⟨.inr c2, c3⟩]
      · rw [if_neg c3, if_neg (fun z => c3 z.2)]
    · rw [if_neg c2, if_neg (fun z => by have := z.1; omega)]
theorem wants_eq {F cp p b nb nj : Nat} {hs : Nat → Nat → Bool} {s sx m : St} {one : Nat → Bool} (hR : IRr cp sx m) (hB : IB sx m) (hp : (p : Int) < m 0 51) (hb : b < nb) (hC : HC hs nb nj s) (h4 : m 0 4 = nb) (hm : ∀ c j, gM c j ≠ 0 → gM c j ≠ 4 → s c j = m c j) (h47 : s 47 b = b01 (0 < manyq hs b)) (h48 : s 48 b = b01 (one b = true)) (hF : 20 ≤ F) : f_M_wants F s p b = some (b01 (0 < manyq hs b ∧ okq hs m one p b = true), s) := by
  have r0 := hR.1
  have r := hR.2 p hp
  have z := hB.2 b (by omega)
  have b24 := hC.1
  have p8 : p < 8 := by omega
  have ip : inb (p : Int) 8 := inbN p8 (by decide)
  have ib : inb (b : Int) 24 := inbN (by omega) (by decide)
  have ixp : ix (p : Int) = p := ix_nat (by omega)
  have ixb : ix (b : Int) = b := ix_nat (by omega)
  have k43 := b43_eq (F := F) (p := p) (b := b) (s := s) (m := m) p8 (by omega) ⟨hm 33 p (by show ¬ (8 : Nat) = 0; decide) (by show ¬ (8 : Nat) = 4; decide), r.1.2⟩ ⟨hm 34 p (by show ¬ (8 : Nat) = 0; decide) (by show ¬ (8 : Nat) = 4; decide), r.2.1.2⟩ ⟨hm 35 p (by show ¬ (8 : Nat) = 0; decide) (by show ¬ (8 : Nat) = 4; decide), r.2.2.1.2⟩ ⟨hm 1 b (by show ¬ (1 : Nat) = 0; decide) (by show ¬ (1 : Nat) = 4; decide), z.1.2⟩ ⟨hm 2 b (by show ¬ (1 : Nat) = 0; decide) (by show ¬ (1 : Nat) = 4; decide), z.2.1.2⟩ ⟨hm 3 b (by show ¬ (1 : Nat) = 0; decide) (by show ¬ (1 : Nat) = 4; decide), z.2.2.1.2⟩
  have mc : fb_ct (hs b) nj = manyq hs b := (ct_tail hC.2.1 (fun k hk => by
    cases c : hs b k with
    | false => rfl
    | true => have := (hC.2.2.2.2.1 b k c).2; omega)).symm
  have ml : manyq hs b ≤ 12 := fb_ct_le _ 12
  have e36 : s 36 p = m 36 p := hm 36 p (by show ¬ (8 : Nat) = 0; decide) (by show ¬ (8 : Nat) = 4; decide)
  have e38 : s 38 p = m 38 p := hm 38 p (by show ¬ (8 : Nat) = 0; decide) (by show ¬ (8 : Nat) = 4; decide)
  unfold f_M_wants
  rw [gd_yes ib, ixb, h47]
  by_cases c : 0 < manyq hs b
  · rw [if_neg (fun q => b01_0.mp q c), countOf_eq hC hb hF, mc]
    show gd (inb (p : Int) 8) (if w32 ((manyq hs b : Nat) : Int) < w32 (s 36 (ix (p : Int))) then some ((0 : Int), s) else gd (inb (p : Int) 8) (if w32 (s 38 (ix (p : Int))) = 0 then b_M_wants_43 F s p b else gd (inb (b : Int) 24) (if w32 (s 48 b) = 0 then b_M_wants_43 F s p b else some (0, s)))) = _
    rw [gd_yes ip, ixp, e36, e38, h48, k43, wnat (by omega), wid (a := m 36 p) (by omega) (by omega), wid (a := m 38 p) (by omega) (by omega)]
    by_cases c1 : m 36 p ≤ ((manyq hs b : Nat) : Int)
    · rw [if_neg (by omega), gd_yes ip]
      have fin : (m 38 p = 0 ∨ one b = false) → some (b01 ((m 33 p < 0 ∨ m 33 p = m 1 b) ∧ (m 34 p < 0 ∨ m 34 p = m 2 b) ∧ (m 35 p < 0 ∨ m 35 p = m 3 b)), s) = some (b01 (0 < manyq hs b ∧ okq hs m one p b = true), s) := by
        intro al
        unfold b01
        by_cases w : (m 33 p < 0 ∨ m 33 p = m 1 b) ∧ (m 34 p < 0 ∨ m 34 p = m 2 b) ∧ (m 35 p < 0 ∨ m 35 p = m 3 b)
        · rw [if_pos w, if_pos ⟨c, okq_iff.mpr ⟨⟨c1, al⟩, w⟩⟩]
        · rw [if_neg w, if_neg (fun q => w (okq_iff.mp q.2).2)]
      by_cases c2 : m 38 p = 0
      · rw [if_pos c2]; exact fin (.inl c2)
      · rw [if_neg c2, gd_yes ib]
        cases co : one b with
        | false => rw [if_pos (by decide)]; exact fin (.inr co)
        | true =>
          rw [if_neg (by decide)]
          unfold b01
          rw [if_neg (fun q => by
            have y := (okq_iff.mp q.2).1.2
            rw [co] at y
            rcases y with y | y
            · exact c2 y
            · cases y)]
    · rw [if_pos (by omega)]
      unfold b01
      rw [if_neg (fun q => c1 (okq_iff.mp q.2).1.1)]
  · rw [if_pos (b01_0.mpr c)]
    unfold b01
    rw [if_neg (fun q => c q.1)]
def K49 (c j : Nat) : Bool := c == 49
def K489 (c j : Nat) : Bool := c == 48 || c == 49
/-- what stays while prizes are given -/
def GS (nb nj : Nat) (hs : Nat → Nat → Bool) (fa fb : Nat → Int) (m s : St) : Prop := HC hs nb nj s ∧ (∀ c j, gM c j ≠ 0 → gM c j ≠ 4 → s c j = m c j) ∧ (∀ c, c < nb → s 47 c = b01 (0 < manyq hs c)) ∧ ∀ c, c < nb → 0 < manyq hs c → s 45 c = fa c ∧ s 46 c = fb c
theorem GS_cong {nb nj : Nat} {hs : Nat → Nat → Bool} {fa fb : Nat → Int} {m s t : St} (h : GS nb nj hs fa fb m s) (f : frs K489 s t) : GS nb nj hs fa fb m t := by
  obtain ⟨⟨d1, d2, d3, d4, d5, d6⟩, h2, h3, h4⟩ := h
  refine ⟨⟨d1, d2, by rw [f 0 4 rfl]; exact d3, by rw [f 0 5 rfl]; exact d4, d5, fun b j hb hj => by rw [f 25 _ rfl]; exact d6 b j hb hj⟩, fun c j a b => ?_, fun c hc => by rw [f 47 c rfl]; exact h3 c hc, fun c hc q => by rw [f 45 c rfl, f 46 c rfl]; exact h4 c hc q⟩
  rw [f c j ?_]
  · exact h2 c j a b
  · cases e : K489 c j with
    | false => rfl
    | true =>
      exfalso
      apply a
      unfold K489 at e
      simp only [Bool.or_eq_true, beq_iff_eq] at e
      rcases e with e | e <;> rw [e] <;> rfl
theorem K49_489 {s t : St} (h : frs K49 s t) : frs K489 s t := frs_sub h (fun c j e => by unfold K49 at e; unfold K489; rw [e]; simp)
section CH
variable {F nb nj cp : Nat} {hs : Nat → Nat → Bool} {fa fb : Nat → Int} {m sx : St}
theorem given_200 (hR : IRr cp sx m) (hB : IB sx m) (h4 : m 0 4 = nb) {p : Nat} (hp : (p : Int) < m 0 51) {one : Nat → Bool} {s0 : St} (hG : GS nb nj hs fa fb m s0) (h48 : ∀ b, b < nb → s0 48 b = b01 (one b = true)) {y1 y2 : Int} {k238 : St → Int → Int → Int → Option (Int × St)} {Q : Int × St → Prop} (hk : ∀ s, frs K49 s0 s → (∀ b, b < nb → s 49 b = b01 (¬ (0 < manyq hs b ∧ okq hs m one p b = true))) → T (k238 s y1 y2 p) Q) (hF : 30 ≤ F) : T (l_M_given_200 F k238 F s0 y1 y2 p 0) Q := by
  have b24 := hG.1.1
  have r4 : s0 0 4 = nb := hG.1.2.2.1
  refine loopG (l := fun n (s : St) x => l_M_given_200 F k238 n s y1 y2 p (x : Nat)) (N := nb) (I := fun B s => frs K49 s0 s ∧ ∀ b, b < B → s 49 b = b01 (¬ (0 < manyq hs b ∧ okq hs m one p b = true))) (G := fun r => T r Q) ?_ ?_ nb 0 F s0 (by omega) (by omega) ⟨frs_refl _ _, fun b hb => absurd hb (Nat.not_lt_zero b)⟩
  · intro n b s hb hI next
    obtain ⟨f, i1⟩ := hI
    have hGs := GS_cong hG (K49_489 f)
    have ib : inb (b : Int) 24 := inbN (by omega) (by decide)
    show T (b_M_given_200 F (l_M_given_200 F k238 n) k238 s y1 y2 p b) Q
    unfold b_M_given_200 b_M_given_231
    refine T_no (by rw [f 0 4 rfl, r4, wnat (by omega), wnat (by omega)]; omega) (T_bind (T_eq (wants_eq hR hB hp hb hGs.1 h4 hGs.2.1 (hGs.2.2.1 b hb) (by rw [f 48 b rfl]; exact h48 b hb) (by omega)) ?_))
    dsimp only
    rw [ix_nat (by omega), nz_0, nz_1]
    have go : ∀ v : Int, v = b01 (¬ (0 < manyq hs b ∧ okq hs m one p b = true)) → T (l_M_given_200 F k238 n (put s 49 b v) y1 y2 p ((b : Int) + 1)) Q := by
      intro v hv
      refine next _ ⟨frs_put f rfl, fun c hc => ?_⟩
      rw [put_at]
      by_cases e : c = b
      · rw [if_pos e, hv, e]
      · rw [if_neg e]; exact i1 c (by omega)
    by_cases w : 0 < manyq hs b ∧ okq hs m one p b = true
    · exact T_no (fun q => b01_0.mp q w) (T_gd ib (go 0 (by unfold b01; rw [if_neg (fun q => q w)])))
    · exact T_yes (b01_0.mpr w) (T_gd ib (go 1 (by unfold b01; rw [if_pos w])))
  · intro n s hI
    obtain ⟨f, i1⟩ := hI
    show T (b_M_given_200 F (l_M_given_200 F k238 n) k238 s y1 y2 p nb) Q
    unfold b_M_given_200
    exact T_yes (by rw [f 0 4 rfl, r4]; exact Int.le_refl _) (hk s f i1)
theorem given_259 (hp : ∀ b, 0 < manyq hs b → b < nb ∧ R63 (fa b) ∧ R63 (fb b) ∧ 0 < fb b) {s : St} (hG : GS nb nj hs fa fb m s) {U : Nat → Prop} (hU : ∀ b, U b → 0 < manyq hs b) (h49 : ∀ b, b < nb → (w32 (s 49 b) = 0 ↔ U b)) {y1 y2 p q : Int} {k327 : St → Int → Int → Int → Int → Int → Option (Int × St)} {Q : Int × St → Prop} (hk : ∀ f : Int, ((f = -1 ∧ ∀ b, b < 24 → ¬ U b) ∨ ∃ k : Nat, f = k ∧ k < 24 ∧ U k ∧ ∀ b, b < 24 → U b → b = k ∨ befq fa fb k b) → T (k327 s y1 y2 p q f) Q) (hF : 300 ≤ F) : T (l_M_given_259 F k327 F s y1 y2 p q (-1) 0) Q := by
  have b24 := hG.1.1
  have r4 : s 0 4 = nb := hG.1.2.2.1
  refine loopG (l := fun n (f : Int) x => l_M_given_259 F k327 n s y1 y2 p q f (x : Nat)) (N := nb) (I := fun x f => (f = -1 ∧ ∀ b, b < x → ¬ U b) ∨ ∃ k : Nat, f = k ∧ k < x ∧ U k ∧ ∀ b, b < x → U b → b = k ∨ befq fa fb k b) (G := fun r => T r Q) ?_ ?_ nb 0 F (-1) (by omega) (by omega) (.inl ⟨rfl, fun b hb => absurd hb (Nat.not_lt_zero b)⟩)
  · intro n x f hx hI next
    have ixx : ix (x : Int) = x := ix_nat (by omega)
    have ib : inb (x : Int) 24 := inbN (by omega) (by decide)
    show T (b_M_given_259 F (l_M_given_259 F k327 n) k327 s y1 y2 p q f x) Q
    unfold b_M_given_259
    refine T_no (by rw [r4, wnat (by omega), wnat (by omega)]; omega) (T_gd ib ?_)
    rw [ixx]
    by_cases ux : U x
    · refine T_yes ((h49 x hx).mpr ux) ?_
      rcases hI with ⟨e, hn⟩ | ⟨k, e, kx, ku, km⟩
      · refine T_yes (by rw [e]; decide) (next (x : Int) (.inr ⟨x, rfl, by omega, ux, fun b hb ub => ?_⟩))
        by_cases c : b = x
        · exact .inl c
        · exact absurd ub (hn b (by omega))
      · have ik : inb (k : Int) 24 := inbN (by omega) (by decide)
        have px := hp x (hU x ux)
        have pk := hp k (hU k ku)
        have gx := hG.2.2.2 x hx (hU x ux)
        have gk := hG.2.2.2 k (by omega) (hU k ku)
        rw [e, ix_nat (show k < 2147483648 by omega), gx.1, gx.2, gk.1, gk.2]
        refine T_no (by rw [wnat (by omega)]; omega) (T_gd ib (T_gd ib (T_gd ik (T_gd ik (T_bind (T_eq (aboveM_eq px.2.1 px.2.2.1 pk.2.1 pk.2.2.1 px.2.2.2 pk.2.2.2 (by omega)) ?_))))))
        dsimp only
        by_cases ab : abq fa fb x k
        · refine T_no (fun z => b01_0.mp z ab) (next (x : Int) (.inr ⟨x, rfl, by omega, ux, fun b hb ub => ?_⟩))
          by_cases c : b = x
          · exact .inl c
          · right
            have bk : befq fa fb x k := ⟨ab_asym ab, .inl ab⟩
            rcases km b (by omega) ub with c2 | c2
            · rw [c2]; exact bk
            · exact bef_trans px.2.2.2 pk.2.2.2 (hp b (hU b ub)).2.2.2 bk c2
        · refine T_yes (b01_0.mpr ab) (next (k : Int) (.inr ⟨k, rfl, by omega, ku, fun b hb ub => ?_⟩))
          by_cases c : b = x
          · right
            rw [c]
            exact ⟨ab, .inr kx⟩
          · exact km b (by omega) ub
    · refine T_no (fun z => ux ((h49 x hx).mp z)) (next f ?_)
      rcases hI with ⟨e, hn⟩ | ⟨k, e, kx, ku, km⟩
      · refine .inl ⟨e, fun b hb => ?_⟩
        by_cases c : b = x
        · rw [c]; exact ux
        · exact hn b (by omega)
      · refine .inr ⟨k, e, by omega, ku, fun b hb ub => ?_⟩
        by_cases c : b = x
        · rw [c] at ub; exact absurd ub ux
        · exact km b (by omega) ub
  · intro n f hI
    show T (b_M_given_259 F (l_M_given_259 F k327 n) k327 s y1 y2 p q f nb) Q
    unfold b_M_given_259
    refine T_yes (by rw [r4]; exact Int.le_refl _) (hk f ?_)
    rcases hI with ⟨e, hn⟩ | ⟨k, e, kx, ku, km⟩
    · exact .inl ⟨e, fun b hb ub => hn b (hp b (hU b ub)).1 ub⟩
    · exact .inr ⟨k, e, by omega, ku, fun b hb ub => km b (hp b (hU b ub)).1 ub⟩
end CH
