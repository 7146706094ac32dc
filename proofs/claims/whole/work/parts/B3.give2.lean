/-! prizes given: the class's loop over prizes; the reference's parts -/
theorem gives_eq {F cp prize R nbb : Nat} {hs : Nat → Nat → Bool} {m s0 : St} {fa fb : Nat → Int} {mk : Nat → Prop} {l : Nat → Nat} (hcp : cp = 80 ∨ cp = 88) (hR : IRr cp s0 m) (hB : IB s0 m) (hp : (prize : Int) < m 0 51) (hC : HX hs s0) (hnb : m 0 4 = nbb) (hmk : ∀ b, mk b → b < nbb) (hS : SRT fa fb mk 24 R l) (h43 : s0 43 3 = R) (h46 : ∀ i, i < R → s0 46 i = ((l i : Nat) : Int)) (hF : 50 ≤ F) : T (f_Giver_give F cp s0 prize) (fun t => frs KO s0 t ∧ t 43 0 = ((min (m 37 prize).toNat (fb_ct (fun i => okq hs m (oneq hs m l R prize) prize (l i)) R) : Nat) : Int) ∧ ∀ q, q < min (m 37 prize).toNat (fb_ct (fun i => okq hs m (oneq hs m l R prize) prize (l i)) R) → t 44 q = ((l (nthq (fun i => okq hs m (oneq hs m l R prize) prize (l i)) R q) : Nat) : Int)) := by
  have r0 := hR.1
  unfold f_Giver_give
  refine loopG (l := fun n (s : St) x => l_Giver_give_3 cp F (fun s1 x2_2 => l_Giver_give_27 cp F (fun s3 => some s3) F s1 x2_2 0) n s prize (x : Nat)) (N := 24) (I := fun x s => frs KO s0 s ∧ s 43 3 = R ∧ ∀ b, b < x → s 47 b = 0) (G := fun r => T r _) ?_ ?_ 24 0 F s0 (by omega) (by omega) ⟨frs_refl _ _, h43, fun b hb => absurd hb (Nat.not_lt_zero b)⟩
  · intro n x s hx hI next
    obtain ⟨f, i1, i2⟩ := hI
    show T (b_Giver_give_3 cp F (l_Giver_give_3 cp F _ n) _ s prize x) _
    unfold b_Giver_give_3
    refine T_no (by rw [show w32 24 = 24 by decide, wnat (by omega)]; omega) (T_gd (inbN hx (by decide)) ?_)
    rw [ix_nat (by omega), nz_0]
    refine next _ ⟨frs_put f rfl, i1, fun b hb => ?_⟩
    rw [put_at]
    by_cases e : b = x
    · rw [if_pos e]
    · rw [if_neg e]; exact i2 b (by omega)
  · intro n s hI
    obtain ⟨f, i1, i2⟩ := hI
    show T (b_Giver_give_3 cp F (l_Giver_give_3 cp F _ n) _ s prize ((24 : Nat) : Int)) _
    unfold b_Giver_give_3
    refine T_yes (by decide) ?_
    refine loopG (l := fun n (s : St) x => l_Giver_give_27 cp F (fun s3 => some s3) n s prize (x : Nat)) (N := prize + 1) (I := fun p s => frs KO s0 s ∧ s 43 3 = R ∧ (∀ b, b < 24 → s 47 b = b01 (oneq hs m l R p b = true)) ∧ (p = prize + 1 → s 43 0 = ((min (m 37 prize).toNat (fb_ct (fun i => okq hs m (oneq hs m l R prize) prize (l i)) R) : Nat) : Int) ∧ ∀ q, q < min (m 37 prize).toNat (fb_ct (fun i => okq hs m (oneq hs m l R prize) prize (l i)) R) → s 44 q = ((l (nthq (fun i => okq hs m (oneq hs m l R prize) prize (l i)) R q) : Nat) : Int))) (G := fun r => T r _) ?_ ?_ (prize + 1) 0 F s (by omega) (by omega) ⟨f, i1, fun b hb => by rw [i2 b hb]; rfl, fun e => by omega⟩
    · intro n p s hp2 hI next
      obtain ⟨f, i1, i2, i3⟩ := hI
      show T (b_Giver_give_27 cp F (l_Giver_give_27 cp F _ n) _ s prize p) _
      unfold b_Giver_give_27
      have hRs : IRr cp s m := IRr_cong hcp (fun c j e => f c j (by
        cases q : KO c j with
        | false => rfl
        | true =>
          exfalso
          unfold KO at q
          simp only [Bool.or_eq_true, beq_iff_eq] at q
          rcases q with (q | q) | q <;> rw [q] at e <;> exact absurd e (by show ¬ (0 : Nat) = 8; decide))) (fun _ _ _ => rfl) hR
      have hBs : IB s m := IB_cong (fun c j e => f c j (by
        cases q : KO c j with
        | false => rfl
        | true =>
          exfalso
          unfold KO at q
          simp only [Bool.or_eq_true, beq_iff_eq] at q
          rcases q with (q | q) | q <;> rw [q] at e <;> exact absurd e (by show ¬ (0 : Nat) = 1; decide))) (fun _ _ _ => rfl) hB
      have hCs : HX hs s := ⟨hC.1, fun b j hb hj => by rw [f 27 _ rfl]; exact hC.2 b j hb hj⟩
      refine T_no (by rw [wnat (by omega), wnat (by omega)]; omega) (T_no (by rw [show w32 8 = 8 by decide, wnat (by omega)]; omega) (T_bind (giveOne_k hcp hRs hBs (show (p : Int) < m 0 51 by omega) hCs hnb hmk hS i1 (fun i hi => by rw [f 46 i rfl]; exact h46 i hi) i2 (fun t best cnt e1 e2 t1 t2 t3 t4 t5 => ?_) hF)))
      refine next t ⟨frs_trans f t1, t2, fun b hb => ?_, fun e => ?_⟩
      · rw [t5 b hb, e1]; rfl
      · have e3 : p = prize := by omega
        subst e3
        rw [e1, e2] at t3 t4
        exact ⟨t3, t4⟩
    · intro n s hI
      obtain ⟨f, i1, i2, i3⟩ := hI
      show T (b_Giver_give_27 cp F (l_Giver_give_27 cp F _ n) _ s prize ((prize + 1 : Nat) : Int)) _
      unfold b_Giver_give_27
      have z := i3 rfl
      exact T_yes (by rw [wnat (by omega), wnat (by omega)]; omega) (T_some ⟨f, z.1, z.2⟩)
/-! the reference -/
theorem REF_c2 {nb nj : Nat} {hs : Nat → Nat → Bool} {pt : Nat → Nat → Int} {s t : St} (h : REF nb nj hs pt s) (h25 : ∀ j, t 25 j = s 25 j) (h22 : ∀ j, t 22 j = s 22 j) (h4 : t 0 4 = s 0 4) (h5 : t 0 5 = s 0 5) : REF nb nj hs pt t := by
  obtain ⟨⟨d1, d2, d3, d4, d5, d6⟩, h2⟩ := h
  refine ⟨⟨d1, d2, by rw [h4]; exact d3, by rw [h5]; exact d4, d5, fun b j hb hj => ?_⟩, fun b j hb => ?_⟩
  · rw [h25]; exact d6 b j hb hj
  · rw [h25, h22]; exact h2 b j hb
def KY (c j : Nat) : Bool := KFa c j || (decide (45 ≤ c) && decide (c ≤ 49))
theorem KFa_KY {s t : St} (h : frs KFa s t) : frs KY s t := frs_sub h (fun c j e => by unfold KY; rw [e]; rfl)
theorem KY_g {c j : Nat} (h : gM c j ≠ 0) : KY c j = false := by
  have z := KFa_g h
  unfold KY
  rw [z]
  cases e : (decide (45 ≤ c) && decide (c ≤ 49)) with
  | false => rfl
  | true =>
    exfalso
    apply h
    simp only [Bool.and_eq_true, decide_eq_true_eq] at e
    have : c = 45 ∨ c = 46 ∨ c = 47 ∨ c = 48 ∨ c = 49 := by omega
    rcases this with e | e | e | e | e <;> rw [e] <;> rfl
theorem REF_KY {nb nj : Nat} {hs : Nat → Nat → Bool} {pt : Nat → Nat → Int} {s t : St} (h : REF nb nj hs pt s) (f : frs KY s t) : REF nb nj hs pt t := REF_c2 h (fun j => f 25 j rfl) (fun j => f 22 j rfl) (f 0 4 rfl) (f 0 5 rfl)
section GV
variable {F nb nj nm : Nat} {day : Int} {x1 m1 x2 m2 : St}
theorem given_53 (hK : KNW nb nj nm day x1 m1 x2 m2) {y1 y2 : Int} {k100 : St → Int → Int → Option (Int × St)} {Q : Int × St → Prop} (hF : 30 ≤ F) : (¬ BIG nj m2 → T (k100 m2 y1 y2) Q → T (l_M_given_53 F k100 F m2 y1 y2 0) Q) ∧ (BIG nj m2 → Q (-1, put m2 0 0 9) → T (l_M_given_53 F k100 F m2 y1 y2 0) Q) := by
  have n12 := hK.1.2.1
  have r5 : m2 0 5 = nj := hK.2.2.2.2.2.1.2.2.2.1
  have w5 : w32 5 = 5 := by decide
  have body : ∀ (n x : Nat), x < nj → (m2 26 x < 0 → T (l_M_given_53 F k100 n m2 y1 y2 ((x : Int) + 1)) Q) → (0 ≤ m2 26 x → ¬ 5 < fb_ct (Pq nj m2 (m2 26 x)) 12 → T (l_M_given_53 F k100 n m2 y1 y2 ((x : Int) + 1)) Q) → (0 ≤ m2 26 x → 5 < fb_ct (Pq nj m2 (m2 26 x)) 12 → Q (-1, put m2 0 0 9)) → T (l_M_given_53 F k100 (n + 1) m2 y1 y2 (x : Int)) Q := by
    intro n x hx a b c
    have rr := KNW_rng hK hx
    show T (b_M_given_53 F (l_M_given_53 F k100 n) k100 m2 y1 y2 x) Q
    unfold b_M_given_53
    refine T_no (by rw [r5, wnat (by omega), wnat (by omega)]; omega) (T_gd (inbN (by omega) (by decide)) ?_)
    rw [ix_nat (by omega), wid (a := m2 26 x) (by omega) (by omega)]
    by_cases q : m2 26 x < 0
    · exact T_yes q (a q)
    · refine T_no q (T_gd (inbN (by omega) (by decide)) (T_bind (T_eq (size_eq n12 r5 (KNW_pm hK (h := m2 26 x) (by omega) (by omega)) (by omega)) ?_)))
      have ct := Pq_ct n12 m2 (m2 26 x)
      have cl := fb_ct_le (Pq nj m2 (m2 26 x)) nj
      dsimp only
      by_cases q2 : 5 < fb_ct (Pq nj m2 (m2 26 x)) 12
      · exact T_no (by rw [w5, wnat (by omega)]; omega) (T_bind (T_some (T_some (c (by omega) q2))))
      · exact T_yes (by rw [w5, wnat (by omega)]; omega) (b (by omega) q2)
  refine ⟨fun hN hk => ?_, fun hBg hq => ?_⟩
  · refine loopG (l := fun m (_ : Unit) x => l_M_given_53 F k100 m m2 y1 y2 (x : Nat)) (N := nj) (I := fun _ _ => True) (G := fun r => T r Q) ?_ ?_ nj 0 F () (by omega) (by omega) trivial
    · intro n x _ hx hI next
      exact body n x hx (fun _ => next () trivial) (fun _ _ => next () trivial) (fun a b => absurd ⟨x, hx, a, b⟩ hN)
    · intro n _ hI
      show T (b_M_given_53 F (l_M_given_53 F k100 n) k100 m2 y1 y2 nj) Q
      unfold b_M_given_53
      exact T_yes (by rw [r5]; exact Int.le_refl _) hk
  · refine loopG (l := fun m (_ : Unit) x => l_M_given_53 F k100 m m2 y1 y2 (x : Nat)) (N := nj) (I := fun x _ => ∀ j, j < x → 0 ≤ m2 26 j → ¬ 5 < fb_ct (Pq nj m2 (m2 26 j)) 12) (G := fun r => T r Q) ?_ ?_ nj 0 F () (by omega) (by omega) (fun j hj => absurd hj (Nat.not_lt_zero j))
    · intro n x _ hx hI next
      refine body n x hx (fun a => next () (fun j hj h0 => ?_)) (fun a b => next () (fun j hj h0 => ?_)) (fun _ _ => hq)
      · by_cases e : j = x
        · rw [e] at h0; omega
        · exact hI j (by omega) h0
      · by_cases e : j = x
        · rw [e]; exact b
        · exact hI j (by omega) h0
    · intro n _ hI
      obtain ⟨j, a, b, c⟩ := hBg
      exact absurd c (hI j a b)
theorem given_103 (hK : KNW nb nj nm day x1 m1 x2 m2) (hN : ¬ BIG nj m2) {y1 y2 : Int} {k188 : St → Int → Int → Option (Int × St)} {Q : Int × St → Prop} (hk : ∀ s, frs KY m2 s → (∀ c, c < nb → s 48 c = 0 ∧ s 47 c = b01 (0 < manyq (hsOf m1 day nm) c) ∧ (0 < manyq (hsOf m1 day nm) c → s 45 c = faq (hsOf m1 day nm) (ptq m1 day nm) nj m2 c ∧ s 46 c = fbq (hsOf m1 day nm) (ptq m1 day nm) nj m2 c)) → T (k188 s y1 y2) Q) (hF : 4000 ≤ F) : T (l_M_given_103 F k188 F m2 y1 y2 0) Q := by
  have b24 := hK.1.1
  have n12 := hK.1.2.1
  have hR := KNW_ref hK
  have r4 : m2 0 4 = nb := hR.1.2.2.1
  refine loopG (l := fun m (s : St) x => l_M_given_103 F k188 m s y1 y2 (x : Nat)) (N := nb) (I := fun B s => frs KY m2 s ∧ ∀ c, c < B → s 48 c = 0 ∧ s 47 c = b01 (0 < manyq (hsOf m1 day nm) c) ∧ (0 < manyq (hsOf m1 day nm) c → s 45 c = faq (hsOf m1 day nm) (ptq m1 day nm) nj m2 c ∧ s 46 c = fbq (hsOf m1 day nm) (ptq m1 day nm) nj m2 c)) (G := fun r => T r Q) ?_ ?_ nb 0 F m2 (by omega) (by omega) ⟨frs_refl _ _, fun c hc => absurd hc (Nat.not_lt_zero c)⟩
  · intro n b s hb hI next
    obtain ⟨f, i1⟩ := hI
    have ib : inb (b : Int) 24 := inbN (by omega) (by decide)
    have ixb : ix (b : Int) = b := ix_nat (by omega)
    have f1 : frs KY m2 (put s 48 b 0) := frs_put f rfl
    have mc : fb_ct (hsOf m1 day nm b) nj = manyq (hsOf m1 day nm) b := (ct_tail n12 (fun k hk => by
      cases c : hsOf m1 day nm b k with
      | false => rfl
      | true => have := (hsOf_in hK.1 c).2; omega)).symm
    have ml : manyq (hsOf m1 day nm) b ≤ 12 := fb_ct_le _ 12
    show T (b_M_given_103 F (l_M_given_103 F k188 n) k188 s y1 y2 b) Q
    unfold b_M_given_103
    refine T_no (by rw [f 0 4 rfl, r4, wnat (by omega), wnat (by omega)]; omega) (T_gd ib ?_)
    rw [ixb, nz_0]
    refine T_bind (T_eq (countOf_eq (REF_KY hR f1).1 hb (by omega)) ?_)
    dsimp only
    rw [mc, wnat (by omega)]
    unfold b_M_given_140
    by_cases c : 0 < manyq (hsOf m1 day nm) b
    · refine T_no (by omega) (T_gd ib ?_)
      rw [ixb, nz_1]
      refine T_gd ib (T_no (by rw [put_eq]; decide) ?_)
      have f2 : frs KY m2 (put (put s 48 b 0) 47 b 1) := frs_put f1 rfl
      have bx := KNW_bx hK hN c
      have jb := jbq_t c
      obtain ⟨z1, z2, z3, z4, z5, z6, z7⟩ := KNW_brd hK jb.1
      refine T_bind (T_mono (fairOf_eq bx.1 (REF_KY hR f2) (h := m2 26 (jbq (hsOf m1 day nm) b)) (fun j hj => by rw [f2 26 j rfl]; exact KNW_pm hK z3 z4 j hj) jb.1 bx.2 (fun j e => by rw [f2 26 j rfl]; exact z5 j e) hF) (fun u hu => ?_))
      obtain ⟨u1, u2, u3⟩ := hu
      refine T_gd ib (T_gd ib ?_)
      have f3 : frs KY m2 (put (put u 45 b (u 0 79)) 46 b (put u 45 b (u 0 79) 0 80)) := frs_put (frs_put (frs_trans f2 (KFa_KY u1)) rfl) rfl
      refine next _ ⟨f3, fun c2 hc2 => ?_⟩
      by_cases e : c2 = b
      · rw [e]
        refine ⟨?_, ?_, fun _ => ⟨?_, ?_⟩⟩
        · rw [put_c (by decide), put_c (by decide), u1 48 b rfl, put_c (by decide), put_eq]
        · rw [put_c (by decide), put_c (by decide), u1 47 b rfl, put_eq]
          unfold b01
          rw [if_pos c]
        · rw [put_c (by decide), put_eq, u2]; rfl
        · rw [put_eq, put_c (by decide), u3]; rfl
      · have y := i1 c2 (by omega)
        rw [put_c (show (48 : Nat) ≠ 46 by decide), put_c (show (48 : Nat) ≠ 45 by decide), u1 48 c2 rfl, put_c (show (48 : Nat) ≠ 47 by decide), put_j (show c2 ≠ b from e), put_c (show (47 : Nat) ≠ 46 by decide), put_c (show (47 : Nat) ≠ 45 by decide), u1 47 c2 rfl, put_j (show c2 ≠ b from e), put_c (show (47 : Nat) ≠ 48 by decide), put_c (show (45 : Nat) ≠ 46 by decide), put_j (show c2 ≠ b from e), u1 45 c2 rfl, put_c (show (45 : Nat) ≠ 47 by decide), put_c (show (45 : Nat) ≠ 48 by decide), put_j (show c2 ≠ b from e), put_c (show (46 : Nat) ≠ 45 by decide), u1 46 c2 rfl, put_c (show (46 : Nat) ≠ 47 by decide), put_c (show (46 : Nat) ≠ 48 by decide)]
        exact y
    · refine T_yes (by omega) (T_gd ib ?_)
      rw [ixb, nz_0]
      refine T_gd ib (T_yes (by rw [put_eq]; decide) ?_)
      refine next _ ⟨frs_put f1 rfl, fun c2 hc2 => ?_⟩
      by_cases e : c2 = b
      · rw [e]
        refine ⟨?_, ?_, fun q => absurd q c⟩
        · rw [put_c (by decide), put_eq]
        · rw [put_eq]
          unfold b01
          rw [if_neg c]
      · have y := i1 c2 (by omega)
        rw [put_c (show (48 : Nat) ≠ 47 by decide), put_j (show c2 ≠ b from e), put_j (show c2 ≠ b from e), put_c (show (47 : Nat) ≠ 48 by decide), put_c (show (45 : Nat) ≠ 47 by decide), put_c (show (45 : Nat) ≠ 48 by decide), put_c (show (46 : Nat) ≠ 47 by decide), put_c (show (46 : Nat) ≠ 48 by decide)]
        exact y
  · intro n s hI
    obtain ⟨f, i1⟩ := hI
    show T (b_M_given_103 F (l_M_given_103 F k188 n) k188 s y1 y2 nb) Q
    unfold b_M_given_103
    exact T_yes (by rw [f 0 4 rfl, r4]; exact Int.le_refl _) (hk s f i1)
end GV
