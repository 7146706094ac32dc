def fxS (s : St) : Nat → Nat → Int := fun b j => s 14 (12 * b + j)
def KP (c j : Nat) : Bool := KF c j || c == 14
theorem KF_KP {s t : St} (h : frs KF s t) : frs KP s t := frs_sub h (fun c j e => by unfold KP; rw [e]; rfl)
theorem tot_le {nb nj : Nat} (hb : nb ≤ 24) (hj : nj ≤ 12) (p : Pl) : tot nb nj p ≤ 288 := by
  have h1 : tot nb nj p ≤ nb * 12 := fb_sm_bound (fun b _ => Nat.le_trans (fb_ct_le _ nj) hj)
  omega
/-- settled up to the pair (B, J) -/
def SETL (nb nj L : Nat) (mo : Nat → Nat) (may : Pl) (A : Nat) (m0 : St) (B J : Nat) (s : St) : Prop := frs KP m0 s ∧ PD nb nj L mo may (fxS s) s ∧ (∀ k, k < 288 → 0 ≤ s 14 k ∧ s 14 k ≤ 2) ∧ (∀ b j, b < nb → j < nj → ¬ BEF b j B J → fxS s b j = 0) ∧ ∀ b j, b < nb → j < nj → BEF b j B J → (may b j = true → fxS s b j ≠ 0) ∧ (fxS s b j = 1 ↔ may b j = true ∧ EXT nb nj may L mo A (baF (fxS s)) b j)
theorem PD_14 {nb nj L : Nat} {mo : Nat → Nat} {may : Pl} {fx : Nat → Nat → Int} {s t : St} (h : PD nb nj L mo may fx s) (f : frs KP s t) (h14 : ∀ b j, b < nb → j < nj → t 14 (12 * b + j) = 0 ∨ t 14 (12 * b + j) = 1 ∨ t 14 (12 * b + j) = 2) : PD nb nj L mo may (fxS t) t := by
  obtain ⟨d1, d2, d3, d4, d5, d6, d7, d8, d9, d10, d11⟩ := h
  refine ⟨d1, d2, d3, d4, (f 0 4 rfl).trans d5, (f 0 5 rfl).trans d6, (f 0 6 rfl).trans d7, fun j hj => ?_, fun b hb => ?_, fun b j hb hj => ?_, fun b j hb hj => ⟨rfl, h14 b j hb hj⟩⟩
  · rw [f 7 j rfl, f 6 j rfl]; exact d8 j hj
  · rw [f 3 b rfl]; exact d9 b hb
  · rw [← d10 b j hb hj]
    unfold mayB
    rw [f 5 j rfl, f 1 b rfl, f 6 j rfl, f 3 b rfl]
/-- with one more pair wanted, a best plan is there just if the pair may be had -/
theorem FE_of_EXT {nb nj L A : Nat} {mo : Nat → Nat} {may : Pl} {m0 s s6 : St} {B J : Nat} (hS : SETL nb nj L mo may A m0 B J s) (h6 : ∀ b j, b < nb → j < nj → fxS s6 b j = if b = B ∧ j = J then 1 else fxS s b j) {q : Pl} (q1 : FE nb nj may NOB L mo q) (q3 : q B J = true) (q4 : ∀ b2 j2, b2 < nb → j2 < nj → BEF b2 j2 B J → q b2 j2 = baF (fxS s) b2 j2) : FE nb nj (frP may (fxS s6)) (baF (fxS s6)) L mo q := by
  obtain ⟨s1, s2, s3, s4, s5⟩ := hS
  refine ⟨fun b j hb hj hf => ?_, q1.2.1, q1.2.2⟩
  unfold frP at hf
  unfold baF
  rw [h6 b j hb hj] at hf ⊢
  by_cases e : b = B ∧ j = J
  · rw [if_pos e, e.1, e.2, q3]; rfl
  · rw [if_neg e] at hf ⊢
    by_cases hB : BEF b j B J
    · rw [q4 b j hb hj hB]; rfl
    · rw [s4 b j hb hj hB] at hf ⊢
      rw [q1.1 b j hb hj (by simpa using hf)]
      rfl
theorem EXT_of_FE {nb nj L A : Nat} {mo : Nat → Nat} {may : Pl} {m0 s s6 : St} {B J : Nat} (hS : SETL nb nj L mo may A m0 B J s) (hB : B < nb) (hJ : J < nj) (hm : may B J = true) (h6 : ∀ b j, b < nb → j < nj → fxS s6 b j = if b = B ∧ j = J then 1 else fxS s b j) {p : Pl} (hp : FE nb nj (frP may (fxS s6)) (baF (fxS s6)) L mo p) : FE nb nj may NOB L mo p ∧ p B J = true ∧ ∀ b2 j2, b2 < nb → j2 < nj → BEF b2 j2 B J → p b2 j2 = baF (fxS s) b2 j2 := by
  obtain ⟨s1, s2, s3, s4, s5⟩ := hS
  refine ⟨⟨fun b j hb hj hf => ?_, hp.2.1, hp.2.2⟩, ?_, fun b j hb hj hBf => ?_⟩
  · rw [hp.1 b j hb hj (by unfold frP; rw [hf]; rfl)]
    unfold baF NOB
    rw [h6 b j hb hj]
    by_cases e : b = B ∧ j = J
    · rw [e.1, e.2, hm] at hf; cases hf
    · rw [if_neg e]
      by_cases hBf : BEF b j B J
      · have z := (s5 b j hb hj hBf).2
        apply decide_eq_false
        intro q
        have := (z.mp q).1
        rw [hf] at this
        cases this
      · rw [s4 b j hb hj hBf]; rfl
  · have e6 : fxS s6 B J = 1 := by rw [h6 B J hB hJ, if_pos ⟨rfl, rfl⟩]
    rw [hp.1 B J hB hJ (by unfold frP; rw [e6]; simp)]
    unfold baF
    rw [e6]
    rfl
  · have ne : ¬ (b = B ∧ j = J) := fun e => by
      rw [e.1, e.2] at hBf
      unfold BEF at hBf
      omega
    have e6 : fxS s6 b j = fxS s b j := by rw [h6 b j hb hj, if_neg ne]
    have z := s5 b j hb hj hBf
    rw [hp.1 b j hb hj ?_]
    · unfold baF
      rw [e6]
    · unfold frP
      rw [e6]
      cases em : may b j with
      | false => rfl
      | true => simp [z.1 em]
theorem SETL_next {nb nj L A : Nat} {mo : Nat → Nat} {may : Pl} {m0 s t : St} {B J : Nat} (hS : SETL nb nj L mo may A m0 B J s) (hB : B < nb) (hJ : J < nj) {v : Int} (hv : v = 0 ∨ v = 1 ∨ v = 2) (hf : frs KP m0 t) (h14 : ∀ k, t 14 k = if k = 12 * B + J then v else s 14 k) (h1 : may B J = true → v ≠ 0) (h2 : v = 1 ↔ may B J = true ∧ EXT nb nj may L mo A (baF (fxS s)) B J) : SETL nb nj L mo may A m0 B (J + 1) t := by
  obtain ⟨s1, s2, s3, s4, s5⟩ := hS
  have d1 := s2.1
  have d2 := s2.2.1
  have e6 : ∀ b j, b < nb → j < nj → fxS t b j = if b = B ∧ j = J then v else fxS s b j := by
    intro b j hb hj
    unfold fxS
    rw [h14]
    by_cases e : b = B ∧ j = J
    · rw [if_pos e, if_pos (by rw [e.1, e.2])]
    · rw [if_neg e, if_neg (by omega)]
  have agree : ∀ b j, b < nb → j < nj → BEF b j B J → baF (fxS t) b j = baF (fxS s) b j := by
    intro b j hb hj hBf
    unfold baF
    rw [e6 b j hb hj, if_neg (fun e => by rw [e.1, e.2] at hBf; unfold BEF at hBf; omega)]
  have bt : ∀ {b j b2 j2}, BEF b2 j2 b j → BEF b j B J → BEF b2 j2 B J := by
    intro b j b2 j2 x y
    unfold BEF at *
    omega
  refine ⟨hf, ?_, fun k hk => ?_, fun b j hb hj hn => ?_, fun b j hb hj hBf => ?_⟩
  · have fst : frs KP s t := fun c i hc => by rw [hf c i hc, s1 c i hc]
    refine PD_14 s2 fst (fun b j hb hj => ?_)
    rw [h14]
    split
    · exact hv
    · have := s3 (12 * b + j) (by omega); omega
  · rw [h14]
    split
    · omega
    · exact s3 k hk
  · rw [e6 b j hb hj, if_neg (fun e => hn (by unfold BEF; omega))]
    exact s4 b j hb hj (fun q => hn (by unfold BEF at *; omega))
  · by_cases e : b = B ∧ j = J
    · rw [e6 b j hb hj, if_pos e, e.1, e.2]
      refine ⟨h1, h2.trans ⟨fun x => ⟨x.1, EXT_cong (fun b2 j2 y1 y2 y3 => (agree b2 j2 y1 y2 y3).symm) x.2⟩, fun x => ⟨x.1, EXT_cong (fun b2 j2 y1 y2 y3 => agree b2 j2 y1 y2 y3) x.2⟩⟩⟩
    · have hBf2 : BEF b j B J := by unfold BEF at *; omega
      have z := s5 b j hb hj hBf2
      rw [e6 b j hb hj, if_neg e]
      exact ⟨z.1, z.2.trans ⟨fun x => ⟨x.1, EXT_cong (fun b2 j2 y1 y2 y3 => (agree b2 j2 y1 y2 (bt y3 hBf2)).symm) x.2⟩, fun x => ⟨x.1, EXT_cong (fun b2 j2 y1 y2 y3 => agree b2 j2 y1 y2 (bt y3 hBf2)) x.2⟩⟩⟩
theorem plan_49 {F nb nj L A : Nat} {mo : Nat → Nat} {may : Pl} {m0 : St} (hA : MAXP nb nj may L mo A) {B : Nat} (hB : B < nb) {k105 : St → Int → Int → Option (Int × St)} {P : Int × St → Prop} (hk : ∀ s, SETL nb nj L mo may A m0 (B + 1) 0 s → T (k105 s (A : Nat) B) P) {s : St} (hS : SETL nb nj L mo may A m0 B 0 s) (hF : 100 ≤ F) : T (l_M_plan_49 F k105 F s (A : Nat) B 0) P := by
  have d1 := hS.2.1.1
  have d2 := hS.2.1.2.1
  have d6 : m0 0 5 = nj := (hS.1 0 5 rfl).symm.trans hS.2.1.2.2.2.2.2.1
  have hA288 : A ≤ 288 := by
    obtain ⟨⟨q, a1, a2⟩, a3⟩ := hA
    have := tot_le d1 d2 q
    omega
  refine loopG (l := fun n (t : St) x => l_M_plan_49 F k105 n t (A : Nat) B (x : Nat)) (N := nj) (I := fun J t => SETL nb nj L mo may A m0 B J t) (G := fun r => T r P) ?_ ?_ nj 0 F s (by omega) (by omega) hS
  · intro n J t hJ hI next
    have hI0 := hI
    obtain ⟨s1, s2, s3, s4, s5⟩ := hI
    show T (b_M_plan_49 F (l_M_plan_49 F k105 n) k105 t (A : Nat) B J) P
    unfold b_M_plan_49
    have ii : inb ((12 * B + J : Nat) : Int) 288 := inbN (by omega) (by decide)
    have ixi : ix ((12 * B + J : Nat) : Int) = 12 * B + J := ix_nat (by omega)
    refine T_no (by rw [(s1 0 5 rfl).trans d6, wnat (by omega), wnat (by omega)]; omega) (T_bind (T_eq (mayP_eq s2 hB hJ) ?_))
    refine T_if (fun c => ?_) (fun c => ?_)
    · have c := b01_0.mp c
      refine next t (SETL_next hI0 hB hJ (v := 0) (.inl rfl) s1 (fun k => ?_) (fun h => absurd h c) ⟨fun h => absurd h (by decide), fun h => absurd h.1 c⟩)
      by_cases e : k = 12 * B + J
      · rw [if_pos e, e]
        exact s4 B J hB hJ (by unfold BEF; omega)
      · rw [if_neg e]
    · have hm : may B J = true := Decidable.not_not.mp (fun q => c (b01_0.mpr q))
      refine T_bind (T_eq at_eq (T_gd ii ?_))
      show T ((f_M_find F (put t 14 (ix ((12 * B + J : Nat) : Int)) 1)).bind fun q7 => if w32 q7.1 = w32 ((A : Nat) : Int) then l_M_plan_49 F k105 n q7.2 (A : Nat) B ((J : Int) + 1) else (f_M_at q7.2 B J).bind fun q9 => gd (inb q9.1 288) (let s11 := put q9.2 14 (ix q9.1) 2; l_M_plan_49 F k105 n s11 (A : Nat) B ((J : Int) + 1))) P
      rw [ixi]
      have h6 : ∀ b j, b < nb → j < nj → fxS (put t 14 (12 * B + J) 1) b j = if b = B ∧ j = J then 1 else fxS t b j := by
        intro b j hb hj
        unfold fxS
        rw [put_at]
        by_cases e : b = B ∧ j = J
        · rw [if_pos e, if_pos (by rw [e.1, e.2])]
        · rw [if_neg e, if_neg (by omega)]
      have hPD6 : PD nb nj L mo may (fxS (put t 14 (12 * B + J) 1)) (put t 14 (12 * B + J) 1) := by
        refine PD_14 s2 (frs_put (frs_refl _ _) rfl) (fun b j hb hj => ?_)
        rw [put_at]
        split
        · exact .inr (.inl rfl)
        · have := s3 (12 * b + j) (by omega); omega
      refine T_bind (T_mono (find_eq hPD6 hF) (fun q hq => ?_))
      obtain ⟨r, t2⟩ := q
      obtain ⟨g1, g2⟩ := hq
      have g1 : frs KF (put t 14 (12 * B + J) 1) t2 := g1
      have f2 : frs KP m0 t2 := frs_trans (frs_put s1 rfl) (KF_KP g1)
      have t14 : ∀ k, t2 14 k = if k = 12 * B + J then 1 else t 14 k := fun k => by rw [g1 14 k rfl, put_at]
      -- r is A just if the pair can be had
      have key : (r = A ↔ EXT nb nj may L mo A (baF (fxS t)) B J) ∧ -1 ≤ r ∧ r ≤ 288 := by
        rcases g2 with ⟨e1, e2⟩ | ⟨p, e1, e2, e3⟩
        · have e1 : r = -1 := e1
          refine ⟨⟨fun h => by omega, fun ⟨q, q1, q2, q3, q4⟩ => absurd (FE_of_EXT hI0 h6 q1 q3 q4) (e2 q)⟩, by omega, by omega⟩
        · have e2 : r = (tot nb nj p : Nat) := e2
          have z := EXT_of_FE hI0 hB hJ hm h6 e1
          have zt := hA.2 p z.1
          have := tot_le d1 d2 p
          refine ⟨⟨fun h => ⟨p, z.1, by omega, z.2.1, z.2.2⟩, fun ⟨q, q1, q2, q3, q4⟩ => ?_⟩, by omega, by omega⟩
          have := e3 q (FE_of_EXT hI0 h6 q1 q3 q4)
          omega
      show T (if w32 r = w32 ((A : Nat) : Int) then l_M_plan_49 F k105 n t2 (A : Nat) B ((J : Int) + 1) else (f_M_at t2 B J).bind fun q9 => gd (inb q9.1 288) (let s11 := put q9.2 14 (ix q9.1) 2; l_M_plan_49 F k105 n s11 (A : Nat) B ((J : Int) + 1))) P
      rw [wid (a := r) (by omega) (by omega), wnat (by omega)]
      refine T_if (fun c2 => ?_) (fun c2 => ?_)
      · exact next t2 (SETL_next hI0 hB hJ (v := 1) (.inr (.inl rfl)) f2 t14 (fun _ => by decide) ⟨fun _ => ⟨hm, key.1.mp c2⟩, fun _ => rfl⟩)
      · refine T_bind (T_eq at_eq (T_gd ii ?_))
        show T (l_M_plan_49 F k105 n (put t2 14 (ix ((12 * B + J : Nat) : Int)) 2) (A : Nat) B ((J : Int) + 1)) P
        rw [ixi]
        refine next _ (SETL_next hI0 hB hJ (v := 2) (.inr (.inr rfl)) (frs_put f2 rfl) (fun k => ?_) (fun _ => by decide) ⟨fun h => absurd h (by decide), fun h => absurd (key.1.mpr h.2) c2⟩)
        rw [put_at]
        by_cases e : k = 12 * B + J
        · rw [if_pos e, if_pos e]
        · rw [if_neg e, if_neg e, t14, if_neg e]
  · intro n t hI
    show T (b_M_plan_49 F (l_M_plan_49 F k105 n) k105 t (A : Nat) B nj) P
    unfold b_M_plan_49
    refine T_yes (by rw [(hI.1 0 5 rfl).trans d6, wnat (by omega)]; omega) (hk t ?_)
    obtain ⟨s1, s2, s3, s4, s5⟩ := hI
    refine ⟨s1, s2, s3, fun b j hb hj hn => s4 b j hb hj (fun q => hn (by unfold BEF at *; omega)), fun b j hb hj hBf => s5 b j hb hj (by unfold BEF at *; omega)⟩
theorem plan_39 {F nb nj L A : Nat} {mo : Nat → Nat} {may : Pl} {m0 : St} (hA : MAXP nb nj may L mo A) {k111 : St → Int → Option (Int × St)} {P : Int × St → Prop} (hk : ∀ s, frs KP m0 s → PD nb nj L mo may (fxS s) s → (∀ k, k < 288 → 0 ≤ s 14 k ∧ s 14 k ≤ 2) → LEX nb nj may L mo A (baF (fxS s)) → T (k111 s (A : Nat)) P) {s : St} (hS : SETL nb nj L mo may A m0 0 0 s) (hF : 100 ≤ F) : T (l_M_plan_39 F k111 F s (A : Nat) 0) P := by
  have d1 := hS.2.1.1
  have d2 := hS.2.1.2.1
  have d5 : m0 0 4 = nb := (hS.1 0 4 rfl).symm.trans hS.2.1.2.2.2.2.1
  refine loopG (l := fun n (t : St) x => l_M_plan_39 F k111 n t (A : Nat) (x : Nat)) (N := nb) (I := fun B t => SETL nb nj L mo may A m0 B 0 t) (G := fun r => T r P) ?_ ?_ nb 0 F s (by omega) (by omega) hS
  · intro n B t hB hI next
    show T (b_M_plan_39 F (l_M_plan_39 F k111 n) k111 t (A : Nat) B) P
    unfold b_M_plan_39
    refine T_no (by rw [(hI.1 0 4 rfl).trans d5, wnat (by omega), wnat (by omega)]; omega) ?_
    exact plan_49 hA hB (fun t2 h2 => next t2 h2) hI hF
  · intro n t hI
    show T (b_M_plan_39 F (l_M_plan_39 F k111 n) k111 t (A : Nat) nb) P
    unfold b_M_plan_39
    refine T_yes (by rw [(hI.1 0 4 rfl).trans d5, wnat (by omega)]; omega) ?_
    obtain ⟨s1, s2, s3, s4, s5⟩ := hI
    refine hk t s1 s2 s3 (fun b j hb hj => ?_)
    have z := (s5 b j hb hj (by unfold BEF; omega)).2
    unfold baF at *
    rw [decide_eq_true_iff]
    exact z
