theorem put_o {s : St} {c j c2 j2 : Nat} {v : Int} (h : ¬ (c2 = c ∧ j2 = j)) : put s c j v c2 j2 = s c2 j2 := if_neg h
theorem nz_01 {v : Int} (h : 0 ≤ v ∧ v ≤ 1) : nz v = v := by
  have : v = 0 ∨ v = 1 := by omega
  rcases this with e | e <;> rw [e] <;> decide
def cpy (i : Nat) (s : St) : St := fun c j => if (33 ≤ c ∧ c ≤ 38) ∧ j = i then s (c + 6) i else s c j
theorem cpy_eq {i : Nat} {s : St} (h : 0 ≤ s 44 i ∧ s 44 i ≤ 1) : put (put (put (put (put (put s 33 i (s 39 i)) 34 i (s 40 i)) 35 i (s 41 i)) 36 i (s 42 i)) 37 i (s 43 i)) 38 i (nz (s 44 i)) = cpy i s := by
  rw [nz_01 h]
  funext c j
  unfold cpy
  by_cases hj : j = i
  · subst hj
    by_cases hc : 33 ≤ c ∧ c ≤ 38
    · rw [if_pos ⟨hc, rfl⟩]
      have : c = 33 ∨ c = 34 ∨ c = 35 ∨ c = 36 ∨ c = 37 ∨ c = 38 := by omega
      rcases this with e | e | e | e | e | e <;> subst e
      · rw [put_c (by decide), put_c (by decide), put_c (by decide), put_c (by decide), put_c (by decide), put_eq]
      · rw [put_c (by decide), put_c (by decide), put_c (by decide), put_c (by decide), put_eq]
      · rw [put_c (by decide), put_c (by decide), put_c (by decide), put_eq]
      · rw [put_c (by decide), put_c (by decide), put_eq]
      · rw [put_c (by decide), put_eq]
      · rw [put_eq]
    · rw [if_neg (fun q => hc q.1), put_c (by omega), put_c (by omega), put_c (by omega), put_c (by omega), put_c (by omega), put_c (by omega)]
  · rw [if_neg (fun q => hj q.2), put_j hj, put_j hj, put_j hj, put_j hj, put_j hj, put_j hj]
theorem copyM {F n : Nat} (hn : n ≤ 8) : ∀ (d i N : Nat) (s : St), i + d = n → d + 1 ≤ N → s 0 51 = n → (∀ j, j < n → 0 ≤ s 44 j ∧ s 44 j ≤ 1) → ∃ t, l_M_prizes_161 F (fun s5 => some (s5 0 51, s5)) N s (i : Int) = some ((n : Int), t) ∧ (∀ c j, ¬ (33 ≤ c ∧ c ≤ 38) → t c j = s c j) ∧ ∀ c j, 33 ≤ c → c ≤ 38 → (i ≤ j ∧ j < n → t c j = s (c + 6) j) ∧ (j < i → t c j = s c j) := by
  intro d
  induction d with
  | zero =>
    intro i N s hd hN h51 h44
    obtain ⟨N, rfl⟩ : ∃ k, N = k + 1 := ⟨N - 1, by omega⟩
    refine ⟨s, ?_, fun _ _ _ => rfl, fun c j _ _ => ⟨fun q => by omega, fun _ => rfl⟩⟩
    show b_M_prizes_161 F (l_M_prizes_161 F (fun s5 => some (s5 0 51, s5)) N) (fun s5 => some (s5 0 51, s5)) s (i : Int) = _
    unfold b_M_prizes_161
    rw [if_pos (by rw [h51, wnat (by omega), wnat (by omega)]; omega)]
    show some (s 0 51, s) = _
    rw [h51]
  | succ d ih =>
    intro i N s hd hN h51 h44
    obtain ⟨N, rfl⟩ : ∃ k, N = k + 1 := ⟨N - 1, by omega⟩
    have i9 : inb (i : Int) 9 := inbN (by omega) (by decide)
    have i8 : inb (i : Int) 8 := inbN (by omega) (by decide)
    obtain ⟨t, t1, t2, t3⟩ := ih (i + 1) N (cpy i s) (by omega) (by omega) (by unfold cpy; rw [if_neg (by omega)]; exact h51) (fun j hj => by unfold cpy; rw [if_neg (by omega)]; exact h44 j hj)
    refine ⟨t, ?_, fun c j hc => ?_, fun c j h1 h2 => ⟨fun q => ?_, fun q => ?_⟩⟩
    · show b_M_prizes_161 F (l_M_prizes_161 F (fun s5 => some (s5 0 51, s5)) N) (fun s5 => some (s5 0 51, s5)) s (i : Int) = _
      unfold b_M_prizes_161
      rw [if_neg (by rw [h51, wnat (by omega), wnat (by omega)]; omega)]
      simp only [gd_yes i9, gd_yes i8, ix_nat (show i < 2147483648 by omega), put_c (show (40 : Nat) ≠ 33 by decide), put_c (show (41 : Nat) ≠ 33 by decide), put_c (show (41 : Nat) ≠ 34 by decide), put_c (show (42 : Nat) ≠ 33 by decide), put_c (show (42 : Nat) ≠ 34 by decide), put_c (show (42 : Nat) ≠ 35 by decide), put_c (show (43 : Nat) ≠ 33 by decide), put_c (show (43 : Nat) ≠ 34 by decide), put_c (show (43 : Nat) ≠ 35 by decide), put_c (show (43 : Nat) ≠ 36 by decide), put_c (show (44 : Nat) ≠ 33 by decide), put_c (show (44 : Nat) ≠ 34 by decide), put_c (show (44 : Nat) ≠ 35 by decide), put_c (show (44 : Nat) ≠ 36 by decide), put_c (show (44 : Nat) ≠ 37 by decide)]
      rw [cpy_eq (h44 i (by omega)), show (i : Int) + 1 = ((i + 1 : Nat) : Int) by omega]
      exact t1
    · rw [t2 c j hc]
      unfold cpy
      rw [if_neg (fun z => hc z.1)]
    · by_cases e : j = i
      · rw [(t3 c j h1 h2).2 (by omega)]
        unfold cpy
        rw [if_pos ⟨⟨h1, h2⟩, e⟩, e]
      · rw [(t3 c j h1 h2).1 (by omega)]
        unfold cpy
        rw [if_neg (by omega)]
    · rw [(t3 c j h1 h2).2 (by omega)]
      unfold cpy
      rw [if_neg (by omega)]
theorem IRr_key {P : Nat} {sx sm sx2 sm2 : St} (key : ∀ k j, k < 8 → sx2 (P + k) j = sx (P + k) j) (hm : ∀ c j, gM c j = 8 → sm2 c j = sm c j) (h : IRr P sx sm) : IRr P sx2 sm2 := by
  have a0 : sx2 P 0 = sx P 0 := key 0 0 (by omega)
  have a1 : ∀ b, sx2 (P + 1) b = sx (P + 1) b := fun b => key 1 b (by omega)
  have a2 : ∀ b, sx2 (P + 2) b = sx (P + 2) b := fun b => key 2 b (by omega)
  have a4 : ∀ b, sx2 (P + 4) b = sx (P + 4) b := fun b => key 4 b (by omega)
  have a5 : ∀ b, sx2 (P + 5) b = sx (P + 5) b := fun b => key 5 b (by omega)
  have a6 : ∀ b, sx2 (P + 6) b = sx (P + 6) b := fun b => key 6 b (by omega)
  have a7 : ∀ b, sx2 (P + 7) b = sx (P + 7) b := fun b => key 7 b (by omega)
  have b0 : sm2 0 51 = sm 0 51 := hm _ _ rfl
  have b1 : ∀ b, sm2 33 b = sm 33 b := fun b => hm _ _ rfl
  have b2 : ∀ b, sm2 34 b = sm 34 b := fun b => hm _ _ rfl
  have b3 : ∀ b, sm2 35 b = sm 35 b := fun b => hm _ _ rfl
  have b4 : ∀ b, sm2 36 b = sm 36 b := fun b => hm _ _ rfl
  have b5 : ∀ b, sm2 37 b = sm 37 b := fun b => hm _ _ rfl
  have b6 : ∀ b, sm2 38 b = sm 38 b := fun b => hm _ _ rfl
  unfold IRr at *
  simp only [a0, a1, a2, a4, a5, a6, a7, b0, b1, b2, b3, b4, b5, b6]
  exact h
theorem INV_pr {F : Nat} {sx sm x m : St} (h : INV F sx sm) (hx : ∀ c j, gX c j ≠ 0 → gX c j ≠ 4 → gX c j ≠ 7 → gX c j ≠ 8 → x c j = sx c j) (hm : ∀ c j, gM c j ≠ 0 → gM c j ≠ 4 → gM c j ≠ 7 → gM c j ≠ 8 → m c j = sm c j) (hs : IS x m) (ht : IT x m) (hr : IR x m) : INV F x m := by
  obtain ⟨hB, hJ, hL, hS, hM, hF, hT, hR, hH, hP⟩ := h
  refine ⟨IB_cong (fun c j q => hx c j (by omega) (by omega) (by omega) (by omega)) (fun c j q => hm c j (by omega) (by omega) (by omega) (by omega)) hB, IJ_cong (fun c j q => hx c j (by omega) (by omega) (by omega) (by omega)) (fun c j q => hm c j (by omega) (by omega) (by omega) (by omega)) hJ, IL_cong (fun c j q => hx c j (by omega) (by omega) (by omega) (by omega)) (fun c j q => hm c j (by omega) (by omega) (by omega) (by omega)) hL, hs, IM_cong (hm _ _ (by decide) (by decide) (by decide) (by decide)) (hm _ _ (by decide) (by decide) (by decide) (by decide)) (fun c j q => hx c j (by omega) (by omega) (by omega) (by omega)) (fun c j q => hm c j (by omega) (by omega) (by omega) (by omega)) hM, IF_cong (fun c j q => hx c j (by omega) (by omega) (by omega) (by omega)) (fun c j q => hm c j (by omega) (by omega) (by omega) (by omega)) hF, ht, hr, IH_cong (fun c j q => hx c j (by omega) (by omega) (by omega) (by omega)) (fun c j q => hm c j (by omega) (by omega) (by omega) (by omega)) hH, IP_cong (fun c j q => hx c j (by omega) (by omega) (by omega) (by omega)) (fun c j q => hm c j (by omega) (by omega) (by omega) (by omega)) hP⟩
theorem gX_80 {c j : Nat} (h : 80 ≤ c ∧ c < 96) : gX c j = 8 := by
  unfold gX
  rw [if_neg (by omega), if_neg (by omega), if_neg (by omega), if_neg (by omega), if_neg (by omega), if_neg (by omega), if_neg (by omega), if_neg (by omega), if_neg (by omega), if_neg (by omega), if_neg (by omega), if_neg (by omega), if_neg (by omega), if_neg (by omega), if_pos (by omega)]
theorem XR_no {cp c j : Nat} (hcp : cp = 80 ∨ cp = 88) (h0 : gX c j ≠ 0) (h7 : gX c j ≠ 7) (h8 : gX c j ≠ 8) : XR cp c j = false ∧ ¬ c = 41 ∧ ¬ (80 ≤ c ∧ c < 96) := by
  have c41 : ¬ c = 41 := fun z => by
    subst z
    have e : gX 41 j = if j ≤ 2 then 7 else 0 := rfl
    rw [e] at h0 h7
    by_cases c : j ≤ 2
    · rw [if_pos c] at h7; exact h7 rfl
    · rw [if_neg c] at h0; exact h0 rfl
  have c80 : ¬ (80 ≤ c ∧ c < 96) := fun z => h8 (gX_80 z)
  refine ⟨?_, c41, c80⟩
  unfold XR KNX
  simp [c41]
  omega
theorem MR_no {c j : Nat} (h0 : gM c j ≠ 0) : MR c j = false := by
  cases hM : MR c j with
  | false => rfl
  | true =>
    exfalso
    unfold MR KQ at hM
    simp only [Bool.or_eq_true, Bool.and_eq_true, beq_iff_eq] at hM
    rcases hM with ((((((⟨rfl, (((((rfl | rfl) | rfl) | rfl) | rfl) | rfl) | rfl⟩ | rfl) | rfl) | rfl) | rfl) | rfl) | rfl) | ⟨rfl, rfl⟩ <;> exact h0 rfl
/-- the end of prizes, in both, from what was read -/
theorem prizes_fin {F cp kp : Nat} {sx sm x0 m0 : St} (hF : 340 ≤ F) (h : INV F sx sm) (hcp : (cp = 80 ∧ kp = 88) ∨ (cp = 88 ∧ kp = 80)) (h10 : sx 0 10 = kp) (h11 : sx 0 11 = cp) (hk : IRr kp sx sm) (fx0 : ∀ c j, ¬ c = 41 → ¬ c = cp → x0 c j = sx c j) (fm0 : ∀ c j, gM c j ≠ 0 → gM c j ≠ 4 → ¬ (c = 0 ∧ j = 45) → m0 c j = sm c j) (h45 : m0 0 45 = 0) (h00 : m0 0 0 = 0) {r1 : Option St} {r2 : Option (Int × St)} (hR : REND F cp x0 m0 r1 r2) (hQ : PV id r1) : T (r1.bind fun q5 => let s6 := put q5 41 0 0; if w32 (s6 41 1) = 0 then gd (PRc ((s6 0 10).toNat)) (gd (PRc ((s6 0 11).toNat)) (let s11 := put s6 0 10 ((((s6 0 11).toNat) : Nat) : Int); let s12 := put s11 0 11 ((((s6 0 10).toNat) : Nat) : Int); gd (PRc ((s12 0 10).toNat)) ((f_H_answer s12 (s12 ((s12 0 10).toNat) 0)).bind fun q14 => some (q14.1, q14.2)))) else (f_H_none s6 7).bind fun q8 => some (q8.1, q8.2)) (fun q1 => T r2 (fun q2 => w32 q1.1 = w32 q2.1 ∧ INV F q1.2 q2.2)) := by
  obtain ⟨x2, m2, rfl, rfl, fx, fm, hE⟩ := hR
  revert hE
  have hQ : PQ x2 := hQ x2 rfl
  have hT := h.2.2.2.2.2.2.1
  have hcp8 : cp = 80 ∨ cp = 88 := by omega
  have x42 : ∀ k, x2 42 k = sx 42 k := fun k => by
    rw [fx 42 k (by unfold XR KNX; simp; omega), fx0 42 k (by decide) (by omega)]
  have m32 : ∀ k, m2 32 k = sm 32 k := fun k => by
    rw [fm 32 k rfl, fm0 32 k (show (7 : Nat) ≠ 0 by decide) (show (7 : Nat) ≠ 4 by decide) (fun z => absurd z.1 (by decide))]
  have X : ∀ c j, gX c j ≠ 0 → gX c j ≠ 7 → gX c j ≠ 8 → x2 c j = sx c j := fun c j q0 q7 q8 => by
    have z := XR_no (j := j) hcp8 q0 q7 q8
    rw [fx c j z.1, fx0 c j z.2.1 (by omega)]
  have XK : ∀ k j, k < 8 → x2 (kp + k) j = sx (kp + k) j := fun k j hk => by
    rw [fx (kp + k) j (by unfold XR KNX; simp; omega), fx0 (kp + k) j (by omega) (by omega)]
  have M : ∀ c j, gM c j ≠ 0 → gM c j ≠ 4 → ¬ (c = 0 ∧ j = 45) → m2 c j = sm c j := fun c j q0 q4 q45 => by
    rw [fm c j (MR_no q0), fm0 c j q0 q4 q45]
  have x10 : x2 0 10 = kp := by
    rw [fx 0 10 (by unfold XR KNX; simp; omega), fx0 0 10 (by decide) (by omega)]; exact h10
  have x11 : x2 0 11 = cp := by
    rw [fx 0 11 (by unfold XR KNX; simp; omega), fx0 0 11 (by decide) (by omega)]; exact h11
  have m45 : m2 0 45 = 0 := by rw [fm 0 45 rfl]; exact h45
  have m00 : m2 0 0 = 0 := by rw [fm 0 0 rfl]; exact h00
  have c41 : ∀ j, ¬ j = 0 → (put x2 41 0 0) 41 j = x2 41 j := fun j hj => put_j hj
  intro hE
  refine T_bind (T_some ?_)
  rcases hE with ⟨e1, e2, n, hn, e3, e4, e5⟩ | ⟨e1, e2, e3, e4⟩
  · have pK : PRc kp := by unfold PRc; omega
    have pC : PRc cp := by unfold PRc; omega
    have s10 : ((put x2 41 0 0) 0 10).toNat = kp := by rw [put_c (by decide), x10]; rfl
    have s11 : ((put x2 41 0 0) 0 11).toNat = cp := by rw [put_c (by decide), x11]; rfl
    refine T_yes (by rw [c41 1 (by decide), e1]; decide) (T_gd (by rw [s10]; exact pK) (T_gd (by rw [s11]; exact pC) ?_))
    simp only [s10, s11]
    have s12 : ((put (put (put x2 41 0 0) 0 10 ((cp : Nat) : Int)) 0 11 ((kp : Nat) : Int)) 0 10).toNat = cp := by rw [put_j (by decide), put_eq]; rfl
    refine T_gd (by rw [s12]; exact pC) (T_bind (T_some (T_some ?_)))
    rw [s12]
    have hv : (put (put (put x2 41 0 0) 0 10 ((cp : Nat) : Int)) 0 11 ((kp : Nat) : Int)) cp 0 = n := by
      rw [put_c (by omega), put_c (by omega), put_c (by omega)]; exact e3
    unfold b_M_prizes_110 b_M_prizes_134
    simp only []
    have k49 : (put m2 0 47 (m2 0 49)) 0 49 = 0 := by rw [put_j (by decide)]; exact e2
    refine T_yes (by rw [k49]; decide) (T_yes (by rw [put_j (by decide), k49]; decide) ?_)
    have k52 : (put (put m2 0 47 (m2 0 49)) 0 48 (-1)) 0 52 = n := by rw [put_j (by decide), put_j (by decide)]; exact e4
    rw [k52]
    have kc : ∀ c j, ¬ c = 0 → (put (put (put m2 0 47 (m2 0 49)) 0 48 (-1)) 0 51 (n : Int)) c j = m2 c j := fun c j hc => by rw [put_c hc, put_c hc, put_c hc]
    obtain ⟨t, t1, t2, t3⟩ := copyM (F := F) hn n 0 F (put (put (put m2 0 47 (m2 0 49)) 0 48 (-1)) 0 51 (n : Int)) (by omega) (by omega) (put_eq _ _ _ _) (fun j hj => by rw [kc 44 j (by decide)]; exact (e5 j hj).2.2.2.2.2.2)
    refine T_eq t1 ⟨by rw [hv], ?_⟩
    show INV F (put (put (put (put x2 41 0 0) 0 10 ((cp : Nat) : Int)) 0 11 ((kp : Nat) : Int)) 0 13 0) t
    have t0 : ∀ j, ¬ j = 47 → ¬ j = 48 → ¬ j = 51 → t 0 j = m2 0 j := fun j q1 q2 q3 => by rw [t2 0 j (by omega), put_j q3, put_j q2, put_j q1]
    refine INV_pr h (fun c j q0 q4 q7 q8 => ?_) (fun c j q0 q4 q7 q8 => ?_) ?_ ?_ ?_
    · have z := XR_no (j := j) hcp8 q0 q7 q8
      rw [put_o (fun z => q4 (by rw [z.1, z.2]; rfl)), put_o (fun z => q8 (by rw [z.1, z.2]; rfl)), put_o (fun z => q8 (by rw [z.1, z.2]; rfl)), put_o (fun z2 => z.2.1 z2.1)]
      exact X c j q0 q7 q8
    · have cc : ¬ (33 ≤ c ∧ c ≤ 38) := fun z => q8 (by
        unfold gM
        rw [if_neg (by omega), if_neg (by omega), if_neg (by omega), if_neg (by omega), if_neg (by omega), if_neg (by omega), if_neg (by omega), if_neg (by omega), if_neg (by omega), if_pos (by omega)])
      rw [t2 c j cc, put_o (fun z => q8 (by rw [z.1, z.2]; rfl)), put_o (fun z => q7 (by rw [z.1, z.2]; rfl)), put_o (fun z => q7 (by rw [z.1, z.2]; rfl))]
      exact M c j q0 q4 (fun z => q7 (by rw [z.1, z.2]; rfl))
    · show put _ 0 13 0 0 13 = t 0 0
      rw [put_eq, t0 0 (by decide) (by decide) (by decide), m00]
    · have y : ∀ c j, ¬ c = 0 → (put (put (put (put x2 41 0 0) 0 10 ((cp : Nat) : Int)) 0 11 ((kp : Nat) : Int)) 0 13 0) c j = (put x2 41 0 0) c j := fun c j hc => by rw [put_c hc, put_c hc, put_c hc]
      have ta : t 0 45 = 0 := by rw [t0 45 (by decide) (by decide) (by decide)]; exact m45
      have tb : t 0 47 = 0 := by rw [t2 0 47 (by decide), put_j (by decide), put_j (by decide), put_eq]; exact e2
      have tc : t 0 48 = -1 := by rw [t2 0 48 (by decide), put_j (by decide), put_eq]
      refine ⟨⟨?_, by rw [ta]; decide, by rw [ta]; decide⟩, ?_, ?_, fun k => ?_⟩
      · rw [y 41 0 (by decide), put_eq, ta]
      · rw [y 41 1 (by decide), put_j (by decide), tb]; exact e1
      · rw [y 41 2 (by decide), put_j (by decide), tc]; exact hQ e1
      · rw [y 42 k (by decide), put_c (by decide), x42, t2 32 k (by decide), kc 32 k (by decide), m32]
        exact hT.2.2.2 k
    · have y : ∀ c j, ¬ c = 0 → ¬ c = 41 → (put (put (put (put x2 41 0 0) 0 10 ((cp : Nat) : Int)) 0 11 ((kp : Nat) : Int)) 0 13 0) c j = x2 c j := fun c j hc hc2 => by rw [put_c hc, put_c hc, put_c hc, put_c hc2]
      have y10 : (put (put (put (put x2 41 0 0) 0 10 ((cp : Nat) : Int)) 0 11 ((kp : Nat) : Int)) 0 13 0) 0 10 = cp := by rw [put_j (by decide), put_j (by decide), put_eq]
      have y11 : (put (put (put (put x2 41 0 0) 0 10 ((cp : Nat) : Int)) 0 11 ((kp : Nat) : Int)) 0 13 0) 0 11 = kp := by rw [put_j (by decide), put_eq]
      have t51 : t 0 51 = n := by rw [t2 0 51 (by decide), put_eq]
      have hI : IRr cp (put (put (put (put x2 41 0 0) 0 10 ((cp : Nat) : Int)) 0 11 ((kp : Nat) : Int)) 0 13 0) t := by
        refine ⟨⟨?_, by rw [t51]; omega, by rw [t51]; omega⟩, fun p hp => ?_⟩
        · rw [y cp 0 (by omega) (by omega), t51]; exact e3
        · rw [t51] at hp
          have hp : p < n := by omega
          rw [y (cp + 4) p (by omega) (by omega), y (cp + 5) p (by omega) (by omega), y (cp + 6) p (by omega) (by omega), y (cp + 7) p (by omega) (by omega), y (cp + 1) p (by omega) (by omega), y (cp + 2) p (by omega) (by omega), (t3 33 p (by omega) (by omega)).1 ⟨by omega, hp⟩, (t3 34 p (by omega) (by omega)).1 ⟨by omega, hp⟩, (t3 35 p (by omega) (by omega)).1 ⟨by omega, hp⟩, (t3 36 p (by omega) (by omega)).1 ⟨by omega, hp⟩, (t3 37 p (by omega) (by omega)).1 ⟨by omega, hp⟩, (t3 38 p (by omega) (by omega)).1 ⟨by omega, hp⟩, kc (33 + 6) p (by decide), kc (34 + 6) p (by decide), kc (35 + 6) p (by decide), kc (36 + 6) p (by decide), kc (37 + 6) p (by decide), kc (38 + 6) p (by decide)]
          exact e5 p hp
      rcases hcp with ⟨q1, q2⟩ | ⟨q1, q2⟩
      · exact .inl ⟨by rw [y10, q1]; rfl, by rw [y11, q2]; rfl, q1 ▸ hI⟩
      · exact .inr ⟨by rw [y10, q1]; rfl, by rw [y11, q2]; rfl, q1 ▸ hI⟩
  · refine T_no (by rw [c41 1 (by decide), wid (a := x2 41 1) (by omega) (by omega)]; omega) (T_bind (T_some (T_some ?_)))
    unfold b_M_prizes_110 b_M_prizes_134
    simp only []
    have k49 : (put m2 0 47 (m2 0 49)) 0 49 = x2 41 1 := by rw [put_j (by decide)]; exact e3
    have k50 : (put m2 0 47 (m2 0 49)) 0 50 = x2 41 2 := by rw [put_j (by decide)]; exact e4
    have nz9 : ¬ w32 (x2 41 1) = 0 ∧ ¬ w32 (x2 41 1) ≤ 0 := by rw [wid (a := x2 41 1) (by omega) (by omega)]; omega
    refine T_no (by rw [k49]; exact nz9.1) (T_no (by rw [put_j (by decide), k49]; exact nz9.2) (T_bind (T_some (T_some ⟨rfl, ?_⟩))))
    have t0 : ∀ c j, ¬ (c = 0 ∧ (j = 47 ∨ j = 48 ∨ j = 0)) → (put (put (put m2 0 47 (m2 0 49)) 0 48 ((put m2 0 47 (m2 0 49)) 0 50)) 0 0 7) c j = m2 c j := fun c j q => by rw [put_o (by omega), put_o (by omega), put_o (by omega)]
    refine INV_pr h (fun c j q0 q4 q7 q8 => ?_) (fun c j q0 q4 q7 q8 => ?_) rfl ?_ ?_
    · have z := XR_no (j := j) hcp8 q0 q7 q8
      show put (put x2 41 0 0) 0 13 7 c j = _
      rw [put_o (fun z => q4 (by rw [z.1, z.2]; rfl)), put_o (fun z2 => z.2.1 z2.1)]
      exact X c j q0 q7 q8
    · show (put (put (put m2 0 47 (m2 0 49)) 0 48 ((put m2 0 47 (m2 0 49)) 0 50)) 0 0 7) c j = _
      rw [t0 c j (fun z => by rcases z with ⟨rfl, rfl | rfl | rfl⟩ <;> first | exact q7 rfl | exact q4 rfl)]
      exact M c j q0 q4 (fun z => q7 (by rw [z.1, z.2]; rfl))
    · refine ⟨⟨?_, ?_, ?_⟩, ?_, ?_, fun k => ?_⟩
      · show (put (put x2 41 0 0) 0 13 7) 41 0 = (put (put (put m2 0 47 (m2 0 49)) 0 48 ((put m2 0 47 (m2 0 49)) 0 50)) 0 0 7) 0 45
        rw [t0 0 45 (by decide), m45]; rfl
      · show 0 ≤ (put (put (put m2 0 47 (m2 0 49)) 0 48 ((put m2 0 47 (m2 0 49)) 0 50)) 0 0 7) 0 45
        rw [t0 0 45 (by decide), m45]; decide
      · show (put (put (put m2 0 47 (m2 0 49)) 0 48 ((put m2 0 47 (m2 0 49)) 0 50)) 0 0 7) 0 45 ≤ 300
        rw [t0 0 45 (by decide), m45]; decide
      · show x2 41 1 = m2 0 49
        exact e3.symm
      · show x2 41 2 = m2 0 50
        exact e4.symm
      · show (put (put x2 41 0 0) 0 13 7) 42 k = (put (put (put m2 0 47 (m2 0 49)) 0 48 ((put m2 0 47 (m2 0 49)) 0 50)) 0 0 7) 32 k ∧ -128 ≤ (put (put (put m2 0 47 (m2 0 49)) 0 48 ((put m2 0 47 (m2 0 49)) 0 50)) 0 0 7) 32 k ∧ (put (put (put m2 0 47 (m2 0 49)) 0 48 ((put m2 0 47 (m2 0 49)) 0 50)) 0 0 7) 32 k ≤ 127
        rw [t0 32 k (by omega), put_c (by decide), put_c (by decide), x42, m32]
        exact hT.2.2.2 k
    · have hI : IRr kp (put (put x2 41 0 0) 0 13 7) (put (put (put m2 0 47 (m2 0 49)) 0 48 ((put m2 0 47 (m2 0 49)) 0 50)) 0 0 7) := by
        refine IRr_key (fun k j hk => ?_) (fun c j q => ?_) hk
        · rw [put_c (by omega), put_c (by omega)]; exact XK k j hk
        · rw [t0 c j (fun z => by rcases z with ⟨rfl, rfl | rfl | rfl⟩ <;> cases q)]
          exact M c j (by omega) (by omega) (fun z => by rcases z with ⟨rfl, rfl⟩; cases q)
      have y10 : (put (put x2 41 0 0) 0 13 7) 0 10 = kp := by rw [put_j (by decide), put_c (by decide)]; exact x10
      have y11 : (put (put x2 41 0 0) 0 13 7) 0 11 = cp := by rw [put_j (by decide), put_c (by decide)]; exact x11
      rcases hcp with ⟨q1, q2⟩ | ⟨q1, q2⟩
      · exact .inr ⟨y10.trans (by rw [q2]; rfl), y11.trans (by rw [q1]; rfl), q2 ▸ hI⟩
      · exact .inl ⟨y10.trans (by rw [q2]; rfl), y11.trans (by rw [q1]; rfl), q2 ▸ hI⟩
