theorem tot_upl {nb nj : Nat} (p : Pl) {b j : Nat} (v : Bool) (hb : b < nb) (hj : j < nj) : tot nb nj (upl p b j v) + (if p b j then 1 else 0) = tot nb nj p + (if v then 1 else 0) := by
  unfold tot
  have r := rowc_upl p (b := b) v hj b
  rw [if_pos rfl, if_pos rfl] at r
  have e : fb_sm (rowc nj (upl p b j v)) nb = fb_sm (fun k => if k = b then rowc nj (upl p b j v) b else rowc nj p k) nb := fb_sm_cong (fun k _ => by
    by_cases q : k = b
    · rw [if_pos q, q]
    · rw [if_neg q]
      have r2 := rowc_upl p (b := b) v hj k
      rw [if_neg q, if_neg q] at r2
      omega)
  rw [e]
  have := fb_sm_upd (rowc nj p) (rowc nj (upl p b j v) b) hb
  omega
theorem frX_all (may : Pl) : frX may 0 0 = may := by
  funext b j
  unfold frX opn
  by_cases h : 0 < b
  · simp [h]
  · simp [show b = 0 by omega]
theorem XP_L {nb nj L : Nat} {mo : Nat → Nat} {may : Pl} {s t : St} (h : XP nb nj L mo may s) (f : frs XKL s t) : XP nb nj L mo may t := by
  obtain ⟨d1, d2, d3, d4, d5, d6, d7, d8, d9⟩ := h
  refine ⟨d1, d2, d3, d4, (f 11 1 rfl).trans d5, (f 11 2 rfl).trans d6, (f 11 3 rfl).trans d7, fun j hj => ?_, fun b hb => ?_⟩
  · rw [f 12 j rfl]; exact d8 j hj
  · rw [f 13 b rfl]; exact d9 b hb
theorem FE_may {nb nj L : Nat} {may : Pl} {mo : Nat → Nat} {p : Pl} (h : FE nb nj may NOB L mo p) {b j : Nat} (hb : b < nb) (hj : j < nj) (hp : p b j = true) : may b j = true := by
  cases e : may b j with
  | true => rfl
  | false => rw [h.1 b j hb hj e] at hp; cases hp
theorem tot_L {nb nj L : Nat} {may : Pl} {mo : Nat → Nat} {p : Pl} (h : FE nb nj may NOB L mo p) : tot nb nj p ≤ nb * L := fb_sm_bound (fun b hb => h.2.1 b hb)
theorem give_eq {F nb nj L : Nat} {mo : Nat → Nat} {may : Pl} {s0 : St} (hP : XP nb nj L mo may s0) (hX : XC nb nj s0) (h9 : s0 11 9 = 0) (h10 : s0 11 10 = 0) (h0 : ∀ b j, b < nb → j < nj → pX nb nj s0 b j = false) (hF : 300 ≤ F) : T (f_Plan_giveAllLooks F s0) (fun t => frs XKL s0 t ∧ XC nb nj t ∧ FE nb nj may NOB L mo (pX nb nj t) ∧ MAXP nb nj may L mo (tot nb nj (pX nb nj t))) := by
  obtain ⟨d1, d2, d3, d4, d5, d6, d7, d8, d9⟩ := id hP
  unfold f_Plan_giveAllLooks
  have hlim : nb * L ≤ 96 := by
    have h1 : nb * L ≤ nb * 4 := Nat.mul_le_mul_left nb d4
    omega
  have hfe0 : FE nb nj may NOB L mo (pX nb nj s0) := by
    refine ⟨fun b j hb hj _ => h0 b j hb hj, fun b hb => ?_, fun j hj => ?_⟩
    · rw [show rowc nj (pX nb nj s0) b = 0 from fb_ct_zero.mpr (fun j hj => h0 b j hb hj)]; omega
    · rw [show colc nb (pX nb nj s0) j = 0 from fb_ct_zero.mpr (fun b hb => h0 b j hb hj)]; omega
  have ht0 : tot nb nj (pX nb nj s0) = 0 := by
    have h1 : tot nb nj (pX nb nj s0) ≤ nb * 0 := fb_sm_bound (fun b hb => by rw [show rowc nj (pX nb nj s0) b = 0 from fb_ct_zero.mpr (fun j hj => h0 b j hb hj)]; omega)
    omega
  refine loopG (l := fun n (a : St × Int) x => l_Plan_giveAllLooks_4 F (fun s1 => some s1) n a.1 a.2 (x : Nat)) (N := 288) (I := fun i a => frs XKL s0 a.1 ∧ XC nb nj a.1 ∧ FE nb nj may NOB L mo (pX nb nj a.1) ∧ ((a.2 = 1 ∧ tot nb nj (pX nb nj a.1) = i) ∨ (a.2 = 0 ∧ MAXP nb nj may L mo (tot nb nj (pX nb nj a.1))))) (G := fun r => T r _) ?_ ?_ 288 0 F (s0, 1) (by omega) (by omega) ⟨frs_refl _ _, hX, hfe0, .inl ⟨rfl, ht0⟩⟩
  · intro n i a hi hI next
    obtain ⟨t, y⟩ := a
    obtain ⟨i1, i2, i3, i4⟩ := hI
    have i1 : frs XKL s0 t := i1
    have i2 : XC nb nj t := i2
    have i3 : FE nb nj may NOB L mo (pX nb nj t) := i3
    show T (b_Plan_giveAllLooks_4 F (l_Plan_giveAllLooks_4 F (fun s1 => some s1) n) (fun s1 => some s1) t y i) _
    unfold b_Plan_giveAllLooks_4
    refine T_no (by rw [show w32 288 = 288 by decide, wnat (by omega)]; omega) ?_
    rcases i4 with ⟨q1, q2⟩ | ⟨q1, q2⟩
    · have q1 : y = 1 := q1
      have q2 : tot nb nj (pX nb nj t) = i := q2
      refine T_no (by rw [q1]; decide) (T_bind (T_mono (addLook_eq (XP_L hP i1) i2 ((i1 11 9 rfl).trans h9) ((i1 11 10 rfl).trans h10) (OB := 0) (OJ := 0) (by omega) (by omega) (fun b j hb hj hp => FE_may i3 hb hj hp) i3.2.2 (by omega)) (fun r hr => ?_)))
      obtain ⟨v, t2⟩ := r
      obtain ⟨g1, g2, g3⟩ := hr
      rw [frX_all] at g3
      have g1 : frs XKL t t2 := g1
      rcases g3 with ⟨e1, e2, VB, VJ, e3, e4⟩ | ⟨e1, last, root, e2, e3, e4, e5⟩
      · have e2 : pX nb nj t2 = pX nb nj t := e2
        refine next (t2, v) ⟨frs_trans i1 g1, g2, by show FE nb nj may NOB L mo (pX nb nj t2); rw [e2]; exact i3, .inr ⟨e1, ?_⟩⟩
        show MAXP nb nj may L mo (tot nb nj (pX nb nj t2))
        rw [e2]
        refine ⟨⟨_, i3, rfl⟩, fun q hq => CERT i3 hq e3 (fun b hb hv => ?_)⟩
        have h1 := i3.2.1 b hb
        have h2 : ¬ rowc nj (pX nb nj t) b < L := fun h => by rw [e4 b hb h] at hv; cases hv
        omega
      · have e5 : AR nb nj may (pX nb nj t) (pX nb nj t2) last root := e5
        exact next (t2, v) ⟨frs_trans i1 g1, g2, AR_FE e5 i3 e3 e4, .inl ⟨e1, by show tot nb nj (pX nb nj t2) = i + 1; rw [AR_tot e5 e2, q2]⟩⟩
    · have q1 : y = 0 := q1
      exact T_yes (by rw [q1]; decide) (T_some ⟨i1, i2, i3, q2⟩)
  · intro n a hI
    obtain ⟨t, y⟩ := a
    obtain ⟨i1, i2, i3, i4⟩ := hI
    have i3 : FE nb nj may NOB L mo (pX nb nj t) := i3
    show T (b_Plan_giveAllLooks_4 F (l_Plan_giveAllLooks_4 F (fun s1 => some s1) n) (fun s1 => some s1) t y ((288 : Nat) : Int)) _
    unfold b_Plan_giveAllLooks_4
    refine T_yes (by decide) (T_some ⟨i1, i2, i3, ?_⟩)
    rcases i4 with ⟨q1, q2⟩ | ⟨q1, q2⟩
    · have q2 : tot nb nj (pX nb nj t) = 288 := q2
      have := tot_L i3
      omega
    · exact q2
theorem no_row {nb nj L A : Nat} {may : Pl} {mo : Nat → Nat} {P : Pl} {B J : Nat} (hB : B < nb) (hJ : J < nj) (hPJ : P B J = false) (hrow : rowc nj P B = L) (hno : ∀ k, k < nj → P B k = true → k < J) : ¬ EXT nb nj may L mo A P B J := by
  intro ⟨q, q1, q2, q3, q4⟩
  have r := rowc_upl P (b := B) true hJ B
  rw [if_pos rfl, if_pos rfl, hPJ] at r
  have h1 : rowc nj (upl P B J true) B ≤ rowc nj q B := fb_ct_sub (fun k hk e => by
    by_cases ek : k = J
    · rw [ek]; exact q3
    · rw [upl_j ek] at e
      rw [q4 B k hB hk (.inr ⟨rfl, hno k hk e⟩)]
      exact e)
  have h2 := q1.2.1 B hB
  simp at r
  omega
theorem no_col {nb nj L A : Nat} {may : Pl} {mo : Nat → Nat} {P : Pl} {B J : Nat} (hB : B < nb) (hJ : J < nj) (hPJ : P B J = false) (hcol : colc nb P J = mo J) (hno : ∀ k, k < nb → P k J = true → k < B) : ¬ EXT nb nj may L mo A P B J := by
  intro ⟨q, q1, q2, q3, q4⟩
  have r := colc_upl P (b := B) (j := J) true hB J
  rw [if_pos rfl, if_pos rfl, hPJ] at r
  have h1 : colc nb (upl P B J true) J ≤ colc nb q J := fb_ct_sub (fun k hk e => by
    by_cases ek : k = B
    · rw [ek]; exact q3
    · have e : upl P B J true k J = true := e
      rw [upl_b ek] at e
      show q k J = true
      rw [q4 k J hk hJ (.inl (hno k hk e))]
      exact e)
  have h2 := q1.2.2 J hJ
  simp at r
  omega
/-- what prefer leaves -/
def PRP (nb nj L : Nat) (mo : Nat → Nat) (may : Pl) (A B J : Nat) (s t : St) : Prop := frs XKL s t ∧ XC nb nj t ∧ FE nb nj may NOB L mo (pX nb nj t) ∧ tot nb nj (pX nb nj t) = A ∧ (∀ b j, b < nb → j < nj → BEF b j B J → pX nb nj t b j = pX nb nj s b j) ∧ (pX nb nj t B J = true ↔ EXT nb nj may L mo A (pX nb nj s) B J)
theorem prefer_eq {F nb nj L A : Nat} {mo : Nat → Nat} {may : Pl} {s : St} {B J : Nat} (hP : XP nb nj L mo may s) (hX : XC nb nj s) (h9 : s 11 9 = B) (h10 : s 11 10 = ((J + 1 : Nat) : Int)) (hB : B < nb) (hJ : J < nj) (hA : MAXP nb nj may L mo A) (hfe : FE nb nj may NOB L mo (pX nb nj s)) (ht : tot nb nj (pX nb nj s) = A) (hm : may B J = true) (hPJ : pX nb nj s B J = false) (hF : 300 ≤ F) : T (f_Plan_prefer F s B J) (PRP nb nj L mo may A B J s) := by
  obtain ⟨d1, d2, d3, d4, d5, d6, d7, d8, d9⟩ := id hP
  obtain ⟨P, hPd⟩ : ∃ P, P = pX nb nj s := ⟨_, rfl⟩
  rw [← hPd] at hfe ht hPJ
  have iB : inb (B : Int) 24 := inbN (show B < 24 by omega) (by decide)
  have iJ : inb (J : Int) 12 := inbN (show J < 12 by omega) (by decide)
  have ixB : ix (B : Int) = B := ix_nat (by omega)
  have ixJ : ix (J : Int) = J := ix_nat (by omega)
  have hrL := hfe.2.1 B hB
  have hcL := hfe.2.2 J hJ
  have opB : ∀ k, opn B (J + 1) B k = decide (J + 1 ≤ k) := fun k => by unfold opn; simp
  have opJ : ∀ k, opn B (J + 1) k J = decide (B < k) := fun k => by unfold opn; rw [decide_eq_false (show ¬ J + 1 ≤ J by omega)]; simp
  obtain ⟨v1, o1, o2⟩ := openJ_eq (s := s) (b := B) h9 h10 (by omega) (by omega) (by omega)
  obtain ⟨v2, p1, p2⟩ := openB_eq (s := s) (j := J) h9 h10 (by omega) (by omega) (by omega)
  -- nothing is done
  have stay : ¬ EXT nb nj may L mo A P B J → PRP nb nj L mo may A B J s s := by
    intro hn
    unfold PRP
    rw [← hPd]
    exact ⟨frs_refl _ _, hX, hfe, ht, fun _ _ _ _ _ => rfl, fun h => (by rw [hPJ] at h; cases h), fun h => absurd h hn⟩
  -- a plan as good, with the pair
  have good : ∀ t, frs XKL s t → XC nb nj t → FE nb nj may NOB L mo (pX nb nj t) → tot nb nj (pX nb nj t) = A → pX nb nj t B J = true → (∀ b j, b < nb → j < nj → BEF b j B J → pX nb nj t b j = P b j) → PRP nb nj L mo may A B J s t := by
    intro t a1 a2 a3 a4 a5 a6
    unfold PRP
    rw [← hPd]
    exact ⟨a1, a2, a3, a4, a6, fun _ => ⟨_, a3, a4, a5, a6⟩, fun _ => a5⟩
  have bJ : ∀ k, k < nj → bt (andI (s 14 B) v1) k = (P B k && decide (J + 1 ≤ k)) := by
    intro k hk
    rw [bt_and, o2 k (by omega), opB, hPd, pX_in hB hk]
  have bB : ∀ k, k < nb → bt (andI (s 15 J) v2) k = (P k J && decide (B < k)) := by
    intro k hk
    rw [bt_and, p2 k (by omega), opJ, hPd, pX_in hk hJ, hX.2.2 k J hk hJ]
  have main : ∀ jg bg : Bool, (jg = true ↔ rowc nj P B = L) → (bg = true ↔ colc nb P J = mo J) → T (b_Plan_prefer_27 F s B J (b2i jg) (b2i bg)) (PRP nb nj L mo may A B J s) := by
    intro jg bg hjg hbg
    unfold b_Plan_prefer_27
    refine T_gd iB (T_bind (T_eq o1 ?_))
    rw [ixB, ixJ]
    have low1 := lowest_eq s (andI (s 14 B) v1)
    have low2 := lowest_eq s (andI (s 15 J) v2)
    have step1 : ∃ oj : Int, f_H_lowestBit s (andI (s 14 B) v1) = some (oj, s) ∧ ((oj = -1 ∧ ∀ k, k < nj → P B k = true → k < J) ∨ ∃ k : Nat, oj = k ∧ k < nj ∧ J < k ∧ P B k = true) := by
      rcases low1 with ⟨l1, l2⟩ | ⟨k, l1, l2, l3⟩
      · refine ⟨-1, l1, .inl ⟨rfl, fun k hk hp => ?_⟩⟩
        have z := bJ k hk
        rw [l2 k (by omega), hp] at z
        have z2 : ¬ J + 1 ≤ k := by simpa using z
        have : k ≠ J := fun e => by rw [e, hPJ] at hp; cases hp
        omega
      · have hkn : k < nj := by
          rw [bt_and] at l3
          exact hX.1 B hB k l1 ((Bool.and_eq_true _ _).mp l3).1
        rw [bJ k hkn] at l3
        have z := (Bool.and_eq_true _ _).mp l3
        exact ⟨k, l2, .inr ⟨k, rfl, hkn, by have := of_decide_eq_true z.2; omega, z.1⟩⟩
    have step2 : ∃ ob : Int, f_H_lowestBit s (andI (s 15 J) v2) = some (ob, s) ∧ ((ob = -1 ∧ ∀ k, k < nb → P k J = true → k < B) ∨ ∃ k : Nat, ob = k ∧ k < nb ∧ B < k ∧ P k J = true) := by
      rcases low2 with ⟨l1, l2⟩ | ⟨k, l1, l2, l3⟩
      · refine ⟨-1, l1, .inl ⟨rfl, fun k hk hp => ?_⟩⟩
        have z := bB k hk
        rw [l2 k (by omega), hp] at z
        have z2 : ¬ B < k := by simpa using z
        have : k ≠ B := fun e => by rw [e, hPJ] at hp; cases hp
        omega
      · have hkn : k < nb := by
          rw [bt_and] at l3
          exact hX.2.1 J hJ k l1 ((Bool.and_eq_true _ _).mp l3).1
        rw [bB k hkn] at l3
        have z := (Bool.and_eq_true _ _).mp l3
        exact ⟨k, l2, .inr ⟨k, rfl, hkn, of_decide_eq_true z.2, z.1⟩⟩
    obtain ⟨oj, s1, s2⟩ := step1
    obtain ⟨ob, s3, s4⟩ := step2
    refine T_bind (T_eq s1 (T_gd iJ (T_bind (T_eq p1 (T_bind (T_eq s3 ?_))))))
    have w0 : w32 (b2i false) = 0 := by decide
    have w1 : ¬ w32 (b2i true) = 0 := by decide
    have kk : w32 (-1) = -1 := by decide
    cases jg with
    | false =>
      have hlack : rowc nj P B < L := by
        have : ¬ rowc nj P B = L := fun h => by have := hjg.mpr h; cases this
        omega
      refine T_yes w0 ?_
      unfold b_Plan_prefer_73
      cases bg with
      | false =>
        -- both have room: the plan would not have been a best one
        exfalso
        have hroom : colc nb P J < mo J := by
          have : ¬ colc nb P J = mo J := fun h => by have := hbg.mpr h; cases this
          omega
        have hf2 : FE nb nj may NOB L mo (upl P B J true) := by
          refine ⟨fun b j hb hj hn => ?_, fun b hb => ?_, fun j hj => ?_⟩
          · rw [show upl P B J true b j = P b j from if_neg (fun z => by rw [z.1, z.2, hm] at hn; cases hn)]
            exact hfe.1 b j hb hj hn
          · have r := rowc_upl P (b := B) true hJ b
            rw [hPJ] at r
            have := hfe.2.1 b hb
            by_cases e : b = B
            · simp only [e, if_true] at r ⊢; simp at r; omega
            · simp only [e, if_false] at r ⊢; omega
          · have r := colc_upl P (b := B) (j := J) true hB j
            rw [hPJ] at r
            have := hfe.2.2 j hj
            by_cases e : j = J
            · simp only [e, if_true] at r ⊢; simp at r; omega
            · simp only [e, if_false] at r ⊢; omega
        have t1 := tot_upl P (b := B) (j := J) true hB hJ
        rw [hPJ] at t1
        have := hA.2 _ hf2
        simp at t1
        omega
      | true =>
        have hfull := hbg.mp rfl
        refine T_no w1 ?_
        rcases s4 with ⟨e1, e2⟩ | ⟨ob, e1, e2, e3, e4⟩
        · refine T_yes (by rw [e1]) (T_some (stay (no_col hB hJ hPJ hfull e2)))
        · rw [e1]
          refine T_no (by rw [kk, wnat (by omega)]; omega) ?_
          unfold b_Plan_prefer_85
          refine T_yes w0 ?_
          unfold b_Plan_prefer_96
          obtain ⟨t1, a1, a2, a3, a4⟩ := part_pl hX d1 d2 e2 hJ
          refine T_no w1 (T_bind (T_eq a1 ?_))
          unfold b_Plan_prefer_108
          obtain ⟨t2, b1, b2, b3, b4⟩ := join_pl a3 d1 d2 hB hJ
          refine T_bind (T_eq b1 (T_yes w0 (T_some ?_)))
          rw [a4, ← hPd] at b4
          have q1 : upl P ob J false B J = false := by rw [upl_b (by omega)]; exact hPJ
          refine good t2 (frs_trans (XK45_L a2) (XK45_L b2)) b3 ?_ ?_ ?_ ?_
          · rw [b4]
            refine ⟨fun b j hb hj hn => ?_, fun b hb => ?_, fun j hj => ?_⟩
            · rw [show upl (upl P ob J false) B J true b j = upl P ob J false b j from if_neg (fun z => by rw [z.1, z.2, hm] at hn; cases hn)]
              by_cases e : b = ob ∧ j = J
              · rw [e.1, e.2, upl_at]; rfl
              · rw [show upl P ob J false b j = P b j from if_neg e]; exact hfe.1 b j hb hj hn
            · have r := rowc_upl P (b := ob) false hJ b
              have r2 := rowc_upl (upl P ob J false) (b := B) true hJ b
              rw [e4] at r
              rw [q1] at r2
              have := hfe.2.1 b hb
              by_cases x1 : b = B
              · have x2 : ¬ b = ob := by omega
                simp only [x2, if_false] at r
                simp only [x1, if_true] at r2 ⊢
                rw [x1] at r
                simp at r2
                omega
              · simp only [x1, if_false] at r2
                by_cases x2 : b = ob
                · simp only [x2, if_true] at r
                  rw [x2] at r2 this ⊢
                  simp at r
                  omega
                · simp only [x2, if_false] at r
                  omega
            · have r := colc_upl P (b := ob) (j := J) false e2 j
              have r2 := colc_upl (upl P ob J false) (b := B) (j := J) true hB j
              rw [e4] at r
              rw [q1] at r2
              have := hfe.2.2 j hj
              by_cases x1 : j = J
              · simp only [x1, if_true] at r r2 ⊢
                rw [x1] at this
                simp at r r2
                omega
              · simp only [x1, if_false] at r r2
                omega
          · rw [b4]
            have r := tot_upl P (b := ob) (j := J) false e2 hJ
            have r2 := tot_upl (upl P ob J false) (b := B) (j := J) true hB hJ
            rw [e4] at r
            rw [q1] at r2
            simp at r r2
            omega
          · rw [b4, upl_at]
          · intro b j hb hj hBf
            rw [b4]
            unfold BEF at hBf
            rw [show upl (upl P ob J false) B J true b j = upl P ob J false b j from if_neg (fun z => by omega), show upl P ob J false b j = P b j from if_neg (fun z => by omega)]
    | true =>
      have hrow := hjg.mp rfl
      refine T_no w1 ?_
      rcases s2 with ⟨e1, e2⟩ | ⟨oj, e1, e2, e3, e4⟩
      · exact T_yes (by rw [e1]) (T_some (stay (no_row hB hJ hPJ hrow e2)))
      · rw [e1]
        refine T_no (by rw [kk, wnat (by omega)]; omega) ?_
        unfold b_Plan_prefer_73
        obtain ⟨t1, a1, a2, a3, a4⟩ := part_pl hX d1 d2 hB e2
        rw [← hPd] at a4
        have q1 : upl P B oj false B J = false := by rw [upl_j (by omega)]; exact hPJ
        cases bg with
        | false =>
          have hroom : colc nb P J < mo J := by
            have : ¬ colc nb P J = mo J := fun h => by have := hbg.mpr h; cases this
            omega
          refine T_yes w0 ?_
          unfold b_Plan_prefer_85
          refine T_no w1 (T_bind (T_eq a1 ?_))
          unfold b_Plan_prefer_96
          refine T_yes w0 ?_
          unfold b_Plan_prefer_108
          obtain ⟨t2, b1, b2, b3, b4⟩ := join_pl a3 d1 d2 hB hJ
          refine T_bind (T_eq b1 (T_no w1 (T_yes w0 (T_some ?_))))
          rw [a4] at b4
          refine good t2 (frs_trans (XK45_L a2) (XK45_L b2)) b3 ?_ ?_ ?_ ?_
          · rw [b4]
            refine ⟨fun b j hb hj hn => ?_, fun b hb => ?_, fun j hj => ?_⟩
            · rw [show upl (upl P B oj false) B J true b j = upl P B oj false b j from if_neg (fun z => by rw [z.1, z.2, hm] at hn; cases hn)]
              by_cases e : b = B ∧ j = oj
              · rw [e.1, e.2, upl_at]; rfl
              · rw [show upl P B oj false b j = P b j from if_neg e]; exact hfe.1 b j hb hj hn
            · have r := rowc_upl P (b := B) false e2 b
              have r2 := rowc_upl (upl P B oj false) (b := B) true hJ b
              rw [e4] at r
              rw [q1] at r2
              have := hfe.2.1 b hb
              by_cases x1 : b = B
              · simp only [x1, if_true] at r r2 ⊢
                rw [x1] at this
                simp at r r2
                omega
              · simp only [x1, if_false] at r r2
                omega
            · have r := colc_upl P (b := B) (j := oj) false hB j
              have r2 := colc_upl (upl P B oj false) (b := B) (j := J) true hB j
              rw [e4] at r
              rw [q1] at r2
              have := hfe.2.2 j hj
              by_cases x1 : j = J
              · have x2 : ¬ j = oj := by omega
                simp only [x2, if_false] at r
                simp only [x1, if_true] at r2 ⊢
                rw [x1] at r
                simp at r2
                omega
              · simp only [x1, if_false] at r2
                by_cases x2 : j = oj
                · simp only [x2, if_true] at r
                  rw [x2] at r2 this ⊢
                  simp at r
                  omega
                · simp only [x2, if_false] at r
                  omega
          · rw [b4]
            have r := tot_upl P (b := B) (j := oj) false hB e2
            have r2 := tot_upl (upl P B oj false) (b := B) (j := J) true hB hJ
            rw [e4] at r
            rw [q1] at r2
            simp at r r2
            omega
          · rw [b4, upl_at]
          · intro b j hb hj hBf
            rw [b4]
            unfold BEF at hBf
            rw [show upl (upl P B oj false) B J true b j = upl P B oj false b j from if_neg (fun z => by omega), show upl P B oj false b j = P b j from if_neg (fun z => by omega)]
        | true =>
          have hfull := hbg.mp rfl
          refine T_no w1 ?_
          rcases s4 with ⟨c1, c2⟩ | ⟨ob, c1, c2, c3, c4⟩
          · exact T_yes (by rw [c1]) (T_some (stay (no_col hB hJ hPJ hfull c2)))
          · rw [c1]
            refine T_no (by rw [kk, wnat (by omega)]; omega) ?_
            unfold b_Plan_prefer_85
            refine T_no w1 (T_bind (T_eq a1 ?_))
            unfold b_Plan_prefer_96
            obtain ⟨t2, f1, f2, f3, f4⟩ := part_pl a3 d1 d2 c2 hJ
            rw [a4] at f4
            refine T_no w1 (T_bind (T_eq f1 ?_))
            unfold b_Plan_prefer_108
            obtain ⟨t3, g1, g2, g3, g4⟩ := join_pl f3 d1 d2 hB hJ
            rw [f4] at g4
            refine T_bind (T_eq g1 (T_no w1 (T_no w1 ?_)))
            obtain ⟨Q, hQ⟩ : ∃ Q, Q = upl (upl (upl P B oj false) ob J false) B J true := ⟨_, rfl⟩
            rw [← hQ] at g4
            have x0 : upl P B oj false ob J = true := by rw [upl_b (by omega)]; exact c4
            have y0 : upl (upl P B oj false) ob J false B J = false := by rw [upl_b (by omega)]; exact q1
            have Qrow : ∀ b, rowc nj Q b + (if b = ob then 1 else 0) = rowc nj P b := by
              intro b
              have r := rowc_upl P (b := B) false e2 b
              have r2 := rowc_upl (upl P B oj false) (b := ob) false hJ b
              have r3 := rowc_upl (upl (upl P B oj false) ob J false) (b := B) true hJ b
              rw [e4] at r
              rw [x0] at r2
              rw [y0, ← hQ] at r3
              by_cases x1 : b = B
              · have x2 : ¬ b = ob := by omega
                simp only [x2, if_false] at r2 ⊢
                simp only [x1, if_true] at r r3 ⊢
                rw [x1] at r2
                simp at r r3
                omega
              · simp only [x1, if_false] at r r3
                by_cases x2 : b = ob
                · simp only [x2, if_true] at r2 ⊢
                  rw [x2] at r r3
                  simp at r2
                  omega
                · simp only [x2, if_false] at r2 ⊢
                  omega
            have Qcol : ∀ k, colc nb Q k + (if k = oj then 1 else 0) = colc nb P k := by
              intro k
              have r := colc_upl P (b := B) (j := oj) false hB k
              have r2 := colc_upl (upl P B oj false) (b := ob) (j := J) false c2 k
              have r3 := colc_upl (upl (upl P B oj false) ob J false) (b := B) (j := J) true hB k
              rw [e4] at r
              rw [x0] at r2
              rw [y0, ← hQ] at r3
              by_cases x1 : k = J
              · have x2 : ¬ k = oj := by omega
                simp only [x2, if_false] at r ⊢
                simp only [x1, if_true] at r2 r3 ⊢
                rw [x1] at r
                simp at r2 r3
                omega
              · simp only [x1, if_false] at r2 r3
                by_cases x2 : k = oj
                · simp only [x2, if_true] at r ⊢
                  rw [x2] at r2 r3
                  simp at r
                  omega
                · simp only [x2, if_false] at r ⊢
                  omega
            have Qtot : tot nb nj Q + 1 = A := by
              have r := tot_upl P (b := B) (j := oj) false hB e2
              have r2 := tot_upl (upl P B oj false) (b := ob) (j := J) false c2 hJ
              have r3 := tot_upl (upl (upl P B oj false) ob J false) (b := B) (j := J) true hB hJ
              rw [e4] at r
              rw [x0] at r2
              rw [y0, ← hQ] at r3
              simp at r r2 r3
              omega
            have Qat : Q B J = true := by rw [hQ, upl_at]
            have Qbef : ∀ b j, BEF b j B J → Q b j = P b j := by
              intro b j hBf
              rw [hQ]
              unfold BEF at hBf
              rw [show upl (upl (upl P B oj false) ob J false) B J true b j = upl (upl P B oj false) ob J false b j from if_neg (fun z => by omega), show upl (upl P B oj false) ob J false b j = upl P B oj false b j from if_neg (fun z => by omega), show upl P B oj false b j = P b j from if_neg (fun z => by omega)]
            have Qmay : ∀ b j, b < nb → j < nj → may b j = false → Q b j = false := by
              intro b j hb hj hn
              rw [hQ, show upl (upl (upl P B oj false) ob J false) B J true b j = upl (upl P B oj false) ob J false b j from if_neg (fun z => by rw [z.1, z.2, hm] at hn; cases hn)]
              by_cases x1 : b = ob ∧ j = J
              · rw [x1.1, x1.2, upl_at]
              · rw [show upl (upl P B oj false) ob J false b j = upl P B oj false b j from if_neg x1]
                by_cases x2 : b = B ∧ j = oj
                · rw [x2.1, x2.2, upl_at]
                · rw [show upl P B oj false b j = P b j from if_neg x2]; exact hfe.1 b j hb hj hn
            have QFE : FE nb nj (frX may B (J + 1)) Q L mo Q := ⟨fun _ _ _ _ _ => rfl, fun b hb => by have := hfe.2.1 b hb; have := Qrow b; omega, fun j hj => by have := hfe.2.2 j hj; have := Qcol j; omega⟩
            have F3 : frs XKL s t3 := frs_trans (frs_trans (XK45_L a2) (XK45_L f2)) (XK45_L g2)
            have al := addLook_eq (F := F) (XP_L hP F3) g3 ((F3 11 9 rfl).trans h9) ((F3 11 10 rfl).trans h10) (by omega) (by omega) (fun b j hb hj hp => by
              rw [g4] at hp
              cases e : may b j with
              | true => rfl
              | false => rw [Qmay b j hb hj e] at hp; cases hp) (fun j hj => by rw [g4]; exact QFE.2.2 j hj) (by omega)
            refine T_bind (T_mono al (fun r hr => ?_))
            obtain ⟨v, t4⟩ := r
            obtain ⟨k1, k2, k3⟩ := hr
            rw [g4] at k3
            have k1 : frs XKL t3 t4 := k1
            rcases k3 with ⟨m1, m2, VB, VJ, m3, m4⟩ | ⟨m1, last, root, m2, m3, m4, m5⟩
            · have m1 : v = 0 := m1
              have m2 : pX nb nj t4 = Q := m2
              refine T_yes (by show w32 v = 0; rw [m1]; decide) ?_
              obtain ⟨t5, n1, n2, n3, n4⟩ := part_pl k2 d1 d2 hB hJ
              obtain ⟨t6, n5, n6, n7, n8⟩ := join_pl n3 d1 d2 hB e2
              obtain ⟨t7, n9, n10, n11, n12⟩ := join_pl n7 d1 d2 c2 hJ
              refine T_bind (T_eq n1 (T_bind (T_eq n5 (T_bind (T_eq n9 (T_some ?_))))))
              have back : pX nb nj t7 = P := by
                have m2 : pX nb nj (v, t4).2 = Q := m2
                rw [n12, n8, n4, m2, hQ]
                funext b j
                unfold upl
                by_cases x1 : b = ob ∧ j = J
                · rw [if_pos x1, x1.1, x1.2]; exact c4.symm
                · rw [if_neg x1]
                  by_cases x2 : b = B ∧ j = oj
                  · rw [if_pos x2, x2.1, x2.2]; exact e4.symm
                  · rw [if_neg x2]
                    by_cases x3 : b = B ∧ j = J
                    · rw [if_pos x3, x3.1, x3.2]; exact hPJ.symm
                    · rw [if_neg x3, if_neg x3, if_neg x1, if_neg x2]
              have hno : ¬ EXT nb nj may L mo A P B J := by
                intro ⟨q, z1, z2, z3, z4⟩
                have hqf : FE nb nj (frX may B (J + 1)) Q L mo q := by
                  refine ⟨fun b j hb hj hf => ?_, z1.2.1, z1.2.2⟩
                  unfold frX at hf
                  cases e : may b j with
                  | false => rw [z1.1 b j hb hj e, Qmay b j hb hj e]; rfl
                  | true =>
                    rw [e] at hf
                    have hbf := opn_f.mp (show opn B (J + 1) b j = false by simpa using hf)
                    by_cases x1 : b = B ∧ j = J
                    · rw [x1.1, x1.2, z3, Qat]
                    · have hbf2 : BEF b j B J := by unfold BEF at *; omega
                      rw [z4 b j hb hj hbf2, Qbef b j hbf2]
                have := CERT QFE hqf m3 (fun b hb hv => by
                  have h1 := QFE.2.1 b hb
                  have h2 : ¬ rowc nj Q b < L := fun h => by rw [m4 b hb h] at hv; cases hv
                  omega)
                omega
              have := stay hno
              unfold PRP at this ⊢
              rw [back]
              rw [← hPd] at this ⊢
              exact ⟨frs_trans (frs_trans (frs_trans (frs_trans F3 k1) (XK45_L n2)) (XK45_L n6)) (XK45_L n10), n11, this.2.2⟩
            · have m1 : v = 1 := m1
              have m5 : AR nb nj (frX may B (J + 1)) Q (pX nb nj t4) last root := m5
              refine T_no (by show ¬ w32 v = 0; rw [m1]; decide) (T_some ?_)
              have cfe := AR_FE m5 QFE m3 m4
              have nf : ∀ b j, BEF b j B (J + 1) → pX nb nj t4 b j = Q b j := fun b j h => m5.2.2 b j (by unfold frX; rw [opn_f.mpr h]; simp)
              refine good t4 (frs_trans F3 k1) k2 ⟨fun b j hb hj hn => ?_, cfe.2.1, cfe.2.2⟩ (by rw [AR_tot m5 m2]; omega) ?_ ?_
              · rw [m5.2.2 b j (by unfold frX; rw [hn]; rfl), Qmay b j hb hj hn]; rfl
              · rw [nf B J (by unfold BEF; omega)]; exact Qat
              · intro b j hb hj hBf
                rw [nf b j (by unfold BEF at *; omega)]
                exact Qbef b j hBf
  unfold f_Plan_prefer
  refine T_bind (T_eq (lacks_eq hP hX hB) ?_)
  rw [← hPd]
  have rest : ∀ jg : Bool, (jg = true ↔ rowc nj P B = L) → T (b_Plan_prefer_13 F s B J (b2i jg)) (PRP nb nj L mo may A B J s) := by
    intro jg hjg
    unfold b_Plan_prefer_13
    refine T_bind (T_eq (hasRoom_eq hP hX hJ) ?_)
    rw [← hPd]
    refine T_if (fun c => ?_) (fun c => ?_)
    · have c := b01_0.mp c
      exact main jg true hjg ⟨fun _ => by omega, fun _ => rfl⟩
    · have c : colc nb P J < mo J := Decidable.not_not.mp (fun q => c (b01_0.mpr q))
      exact main jg false hjg ⟨fun h => absurd h Bool.false_ne_true, fun h => by omega⟩
  refine T_if (fun c => ?_) (fun c => ?_)
  · have c := b01_0.mp c
    exact rest true ⟨fun _ => by omega, fun _ => rfl⟩
  · have c : rowc nj P B < L := Decidable.not_not.mp (fun q => c (b01_0.mpr q))
    exact rest false ⟨fun h => absurd h Bool.false_ne_true, fun h => by omega⟩
