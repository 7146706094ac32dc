/-! the class: all heaps weighed, the boards ranked -/
theorem FAB {nb nj n : Nat} {hs : Nat → Nat → Bool} {pt : Nat → Nat → Int} {P : Nat → Bool} (hB : BOX nb nj n hs pt P) {b j0 : Nat} (hb : hs b j0 = true) (hj : P j0 = true) : R63 (FA hs pt P n b) ∧ R63 (FB hs pt P n b) ∧ 0 < FB hs pt P n b := by
  have sr := SS_R hB hb hj
  have s1 := R63_abs.mp sr.1
  have l1 := R63_abs.mp sr.2.1
  have l0 := sr.2.2.1
  refine ⟨R63_abs.mpr ?_, R63_abs.mpr ?_, ?_⟩
  · unfold FA
    have := Int.natAbs_tdiv_le_natAbs (SS hs pt P n b) (gsg (SS hs pt P n b) (LL hs pt P n b))
    omega
  · unfold FB
    have := Int.natAbs_tdiv_le_natAbs (LL hs pt P n b) (gsg (SS hs pt P n b) (LL hs pt P n b))
    omega
  · unfold FB
    rw [frac_lo, Int.natAbs_natCast]
    have g1 : 0 < (LL hs pt P n b).natAbs := by omega
    generalize (if 0 ≤ LL hs pt P n b then SS hs pt P n b else - SS hs pt P n b).natAbs = u
    generalize (LL hs pt P n b).natAbs = v at g1
    have g2 : 0 < Nat.gcd u v := Nat.gcd_pos_of_pos_right _ g1
    have g3 : Nat.gcd u v ≤ v := Nat.le_of_dvd g1 (Nat.gcd_dvd_right _ _)
    have e : (v : Int).tdiv ((Nat.gcd u v : Nat) : Int) = ((v / Nat.gcd u v : Nat) : Int) := rfl
    rw [e]
    have := Nat.div_pos g3 g2
    omega
def jbq (hs : Nat → Nat → Bool) (b : Nat) : Nat := nthq (hs b) 12 0
def Pbq (hs : Nat → Nat → Bool) (nj : Nat) (m : St) (b : Nat) : Nat → Bool := Pq nj m (m 26 (jbq hs b))
def faq (hs : Nat → Nat → Bool) (pt : Nat → Nat → Int) (nj : Nat) (m : St) (b : Nat) : Int := FA hs pt (Pbq hs nj m b) (fb_ct (Pbq hs nj m b) 12) b
def fbq (hs : Nat → Nat → Bool) (pt : Nat → Nat → Int) (nj : Nat) (m : St) (b : Nat) : Int := FB hs pt (Pbq hs nj m b) (fb_ct (Pbq hs nj m b) 12) b
def mkq (hs : Nat → Nat → Bool) (b : Nat) : Prop := 0 < manyq hs b
theorem jbq_t {hs : Nat → Nat → Bool} {b : Nat} (h : mkq hs b) : hs b (jbq hs b) = true ∧ jbq hs b < 12 := by
  have z := nthq_spec (P := hs b) (N := 12) (i := 0) h
  exact ⟨z.2.1, z.1⟩
theorem mkq_of {hs : Nat → Nat → Bool} {b j : Nat} (hj : j < 12) (h : hs b j = true) : mkq hs b := fb_ct_pos.mpr ⟨j, hj, h⟩
def VAL (hs : Nat → Nat → Bool) (pt : Nat → Nat → Int) (nj : Nat) (m s : St) (j : Nat) : Prop := s 30 j = (if 0 ≤ DD hs pt (Pq nj m (m 26 j)) (fb_ct (Pq nj m (m 26 j)) 12) (-1) then DD hs pt (Pq nj m (m 26 j)) (fb_ct (Pq nj m (m 26 j)) 12) ((fb_ct (Pq nj m (m 26 j)) j : Nat) : Int) else - DD hs pt (Pq nj m (m 26 j)) (fb_ct (Pq nj m (m 26 j)) 12) ((fb_ct (Pq nj m (m 26 j)) j : Nat) : Int)) ∧ s 31 j = ((DD hs pt (Pq nj m (m 26 j)) (fb_ct (Pq nj m (m 26 j)) 12) (-1)).natAbs : Int)
def BIG (nj : Nat) (m : St) : Prop := ∃ j, j < nj ∧ 0 ≤ m 26 j ∧ 5 < fb_ct (Pq nj m (m 26 j)) 12
section RK
variable {F nb nj nm : Nat} {day : Int} {x1 m1 x2 m2 : St}
theorem KNW_root (hK : KNW nb nj nm day x1 m1 x2 m2) {j : Nat} (hj : j < nj) (h0 : 0 ≤ m2 26 j) : (m2 26 j).toNat < nj ∧ m2 26 (m2 26 j).toNat = m2 26 j := by
  obtain ⟨k1, k2, k3, k4, k5, k6, k7, k8, k9, k10, k11, k12, k13⟩ := hK
  have hm : mkd (hsOf m1 day nm) j := by
    apply Classical.byContradiction
    intro c
    have z : m2 26 j = -1 := (k8 j hj).2 c
    omega
  have z := (k8 j hj).1 hm
  have z2 : m2 26 j ≤ j := z.2.1
  have lt : (m2 26 j).toNat < nj := by omega
  refine ⟨lt, ?_⟩
  have y := z.2.2.2 (fun k => (m2 26 k + 1).toNat) (fun b j j2 e1 e2 => by
    have : m2 26 j = m2 26 j2 := k9 b j j2 e1 e2
    simp only [this])
  have y2 : (m2 26 (m2 26 j).toNat + 1).toNat = (m2 26 j + 1).toNat := y
  have m3 : mkd (hsOf m1 day nm) (m2 26 j).toNat := z.2.2.1
  have y3 : 0 ≤ m2 26 (m2 26 j).toNat := ((k8 _ lt).1 m3).1
  omega
theorem KNW_bx (hK : KNW nb nj nm day x1 m1 x2 m2) (hN : ¬ BIG nj m2) {b : Nat} (hb : mkq (hsOf m1 day nm) b) : BOX nb nj (fb_ct (Pbq (hsOf m1 day nm) nj m2 b) 12) (hsOf m1 day nm) (ptq m1 day nm) (Pbq (hsOf m1 day nm) nj m2 b) ∧ Pbq (hsOf m1 day nm) nj m2 b (jbq (hsOf m1 day nm) b) = true := by
  have j := jbq_t hb
  obtain ⟨z1, z2, z3, z4, z5, z6, z7⟩ := KNW_brd hK j.1
  refine ⟨KNW_box hK z3 z1 rfl ?_, z7⟩
  rcases Nat.lt_or_ge 5 (fb_ct (Pq nj m2 (m2 26 (jbq (hsOf m1 day nm) b))) 12) with c | c
  · exact absurd ⟨_, z1, z3, c⟩ hN
  · exact c
theorem KNW_fab (hK : KNW nb nj nm day x1 m1 x2 m2) (hN : ¬ BIG nj m2) {b : Nat} (hb : mkq (hsOf m1 day nm) b) : R63 (faq (hsOf m1 day nm) (ptq m1 day nm) nj m2 b) ∧ R63 (fbq (hsOf m1 day nm) (ptq m1 day nm) nj m2 b) ∧ 0 < fbq (hsOf m1 day nm) (ptq m1 day nm) nj m2 b := by
  have z := KNW_bx hK hN hb
  exact FAB z.1 (jbq_t hb).1 z.2
theorem anyGreat_eq (hK : KNW nb nj nm day x1 m1 x2 m2) (hF : 30 ≤ F) : (BIG nj m2 → f_Known_anyGreat F x2 = some (1, x2)) ∧ (¬ BIG nj m2 → f_Known_anyGreat F x2 = some (0, x2)) := by
  have n12 := hK.1.2.1
  have k12 := hK.2.2.2.2.2.2.2.2.2.2.2.1
  have k13 := hK.2.2.2.2.2.2.2.2.2.2.2.2
  have gen : ∀ w : Option (Int × St), (BIG nj m2 → w = some (1, x2)) → (¬ BIG nj m2 → w = some (0, x2)) → f_Known_anyGreat F x2 = w := by
    intro w w1 w2
    unfold f_Known_anyGreat
    refine loopG (l := fun m (_ : Unit) x => l_Known_anyGreat_2 F (fun s1 => some (0, s1)) m x2 (x : Nat)) (N := 12) (I := fun x _ => ∀ k, k < x → m2 26 k = k → k < nj → ¬ 5 < fb_ct (Pq nj m2 k) 12) (G := fun r => r = w) ?_ ?_ 12 0 F () (by omega) (by omega) (fun k hk => absurd hk (Nat.not_lt_zero k))
    · intro m x _ hx hI next
      show b_Known_anyGreat_2 F (l_Known_anyGreat_2 F _ m) _ x2 x = _
      unfold b_Known_anyGreat_2
      rw [if_neg (by rw [show w32 12 = 12 by decide, wnat (by omega)]; omega), gd_yes (inbN hx (by decide)), ix_nat (by omega)]
      have px := KNW_px hK (h := (x : Int)) (by omega) (by omega)
      by_cases c : w32 (x2 26 x) = w32 (x : Int)
      · have p := Pq_iff.mp ((px x hx).mp c)
        rw [if_pos c, great_eq px (by omega)]
        show (if w32 (b01 (5 < fb_ct (Pq nj m2 (x : Int)) 12)) = 0 then l_Known_anyGreat_2 F _ m x2 ((x : Int) + 1) else some (1, x2)) = _
        by_cases c2 : 5 < fb_ct (Pq nj m2 (x : Int)) 12
        · rw [if_neg (fun q => b01_0.mp q c2)]
          exact (w1 ⟨x, p.1, by omega, by rw [p.2]; exact c2⟩).symm
        · rw [if_pos (b01_0.mpr c2)]
          refine next () (fun k hk e1 e2 => ?_)
          by_cases e : k = x
          · rw [e]; exact c2
          · exact hI k (by omega) e1 e2
      · rw [if_neg c]
        refine next () (fun k hk e1 e2 => ?_)
        by_cases e : k = x
        · exfalso
          subst e
          exact c ((px k hx).mpr (Pq_iff.mpr ⟨e2, e1⟩))
        · exact hI k (by omega) e1 e2
    · intro m _ hI
      show b_Known_anyGreat_2 F (l_Known_anyGreat_2 F _ m) _ x2 ((12 : Nat) : Int) = _
      unfold b_Known_anyGreat_2
      rw [if_pos (by decide)]
      refine (w2 (fun ⟨j, j1, j2, j3⟩ => ?_)).symm
      have r := KNW_root hK j1 j2
      have e : (((m2 26 j).toNat : Nat) : Int) = m2 26 j := by omega
      refine hI (m2 26 j).toNat (by omega) (by rw [r.2]; omega) r.1 ?_
      rw [e]; exact j3
  exact ⟨fun e => gen _ (fun _ => rfl) (fun q => absurd e q), fun e => gen _ (fun q => absurd q e) (fun _ => rfl)⟩
theorem weighAll_eq (hK : KNW nb nj nm day x1 m1 x2 m2) (hN : ¬ BIG nj m2) (hF : 60 ≤ F) : T (f_Scale_weighAll F x2) (fun t => frs KW x2 t ∧ ∀ j, j < nj → 0 ≤ m2 26 j → VAL (hsOf m1 day nm) (ptq m1 day nm) nj m2 t j) := by
  have n12 := hK.1.2.1
  unfold f_Scale_weighAll
  refine loopG (l := fun m (s : St) x => l_Scale_weighAll_2 F (fun s1 => some s1) m s (x : Nat)) (N := 12) (I := fun x s => frs KW x2 s ∧ ∀ j, j < nj → 0 ≤ m2 26 j → m2 26 j < x → VAL (hsOf m1 day nm) (ptq m1 day nm) nj m2 s j) (G := fun r => T r _) ?_ ?_ 12 0 F x2 (by omega) (by omega) ⟨frs_refl _ _, fun j _ a b => by omega⟩
  · intro m x s hx hI next
    obtain ⟨f, i1⟩ := hI
    show T (b_Scale_weighAll_2 F (l_Scale_weighAll_2 F _ m) _ s x) _
    unfold b_Scale_weighAll_2
    refine T_no (by rw [show w32 12 = 12 by decide, wnat (by omega)]; omega) (T_gd (inbN hx (by decide)) ?_)
    rw [ix_nat (by omega), f 26 x rfl]
    have px := KNW_px hK (h := (x : Int)) (by omega) (by omega)
    by_cases c : w32 (x2 26 x) = w32 (x : Int)
    · have p := Pq_iff.mp ((px x hx).mp c)
      have n5 : fb_ct (Pq nj m2 (x : Int)) 12 ≤ 5 := by
        rcases Nat.lt_or_ge 5 (fb_ct (Pq nj m2 (x : Int)) 12) with q | q
        · exact absurd ⟨x, p.1, by omega, by rw [p.2]; exact q⟩ hN
        · exact q
      have bx := KNW_box hK (h := (x : Int)) (by omega) p.1 p.2 n5
      refine T_yes c (T_bind (weigh_k bx (CLS_cong (KNW_cls hK) (fun j => f 27 j rfl)) (fun j hj => by rw [f 26 j rfl]; exact px j hj) (by omega) (fun t f1 g1 g2 => ?_)))
      refine next t ⟨frs_trans f f1, fun j hj h0 hlt => ?_⟩
      by_cases e : m2 26 j = x
      · have pj : Pq nj m2 (x : Int) j = true := Pq_iff.mpr ⟨hj, e⟩
        have bo := BX_of bx pj
        have gi := g1 _ bo.1
        rw [bo.2] at gi
        unfold VAL DD
        rw [e]
        exact gi
      · have pj : Pq nj m2 (x : Int) j = false := by
          cases q : Pq nj m2 (x : Int) j with
          | false => rfl
          | true => exact absurd (Pq_iff.mp q).2 e
        have g := g2 j pj
        have v := i1 j hj h0 (by omega)
        unfold VAL at v ⊢
        rw [g.1, g.2]
        exact v
    · refine T_no c (next s ⟨f, fun j hj h0 hlt => ?_⟩)
      by_cases e : m2 26 j = x
      · exfalso
        have r := KNW_root hK hj h0
        rw [e, Int.toNat_natCast] at r
        exact c ((px x hx).mpr (Pq_iff.mpr r))
      · exact i1 j hj h0 (by omega)
  · intro m s hI
    obtain ⟨f, i1⟩ := hI
    show T (b_Scale_weighAll_2 F (l_Scale_weighAll_2 F _ m) _ s ((12 : Nat) : Int)) _
    unfold b_Scale_weighAll_2
    exact T_yes (by decide) (T_some ⟨f, fun j hj h0 => i1 j hj h0 (by have := (KNW_rng hK hj).2; omega)⟩)
def K46 (c j : Nat) : Bool := c == 43 || c == 46
def KV (c j : Nat) : Bool := c == 43 || c == 46 || (decide (48 ≤ c) && decide (c ≤ 71))
theorem K46_KV {s t : St} (h : frs K46 s t) : frs KV s t := frs_sub h (fun c j e => by unfold K46 at e; unfold KV; rw [e]; rfl)
def FRC (fa fb : Nat → Int) (mk : Nat → Prop) (B : Nat) (s : St) : Prop := ∀ c, c < B → mk c → s (48 + c) 0 = fa c ∧ s (48 + c) 1 = fb c
theorem insert_eq {fa fb : Nat → Int} {mk : Nat → Prop} (hp : ∀ b, mk b → R63 (fa b) ∧ R63 (fb b) ∧ 0 < fb b) {B R : Nat} {l : Nat → Nat} (hB : B < 24) (hm : mk B) (hS : SRT fa fb mk B R l) {s0 : St} (hf : FRC fa fb mk (B + 1) s0) (h43 : s0 43 3 = R) (h46 : ∀ i, i < R → s0 46 i = ((l i : Nat) : Int)) (hF : 300 ≤ F) : T (f_Giver_insert F s0 B) (fun t => frs K46 s0 t ∧ ∃ l2, SRT fa fb mk (B + 1) (R + 1) l2 ∧ t 43 3 = ((R + 1 : Nat) : Int) ∧ ∀ i, i < R + 1 → t 46 i = ((l2 i : Nat) : Int)) := by
  have hR := SRT_len hS
  have hS0 := hS
  obtain ⟨g1, g2, g3⟩ := hS
  have fin : ∀ (s : St) (x : Nat), frs K46 s0 s → s 43 3 = R → x ≤ R → (∀ i, i < x → s 46 i = ((l i : Nat) : Int)) → (∀ i, x ≤ i → i < R → s 46 (i + 1) = ((l i : Nat) : Int) ∧ abq fa fb B (l i)) → (0 < x → ¬ abq fa fb B (l (x - 1))) → T (b_Giver_insert_54 F s B x) (fun t => frs K46 s0 t ∧ ∃ l2, SRT fa fb mk (B + 1) (R + 1) l2 ∧ t 43 3 = ((R + 1 : Nat) : Int) ∧ ∀ i, i < R + 1 → t 46 i = ((l2 i : Nat) : Int)) := by
    intro s x f e43 hx i1 i2 i3
    unfold b_Giver_insert_54
    refine T_gd (inbN (by omega) (by decide)) (T_some ⟨frs_put (frs_put f rfl) rfl, insq l x B, SRT_ins (fun b hb => (hp b hb).2.2) hS0 hm hx (fun i a b => (i2 i a b).2) i3, ?_, fun i hi => ?_⟩)
    · rw [put_eq, put_c (by decide), e43]; omega
    · rw [put_c (by decide), ix_nat (by omega), put_at]
      unfold insq
      by_cases c : i < x
      · rw [if_pos c, if_neg (by omega)]; exact i1 i c
      · rw [if_neg c]
        by_cases c2 : i = x
        · rw [if_pos c2, if_pos c2]
        · rw [if_neg c2, if_neg c2]
          have z := (i2 (i - 1) (by omega) (by omega)).1
          rw [show i - 1 + 1 = i by omega] at z
          exact z
  unfold f_Giver_insert
  rw [h43]
  refine loopW (l := fun n (a : St × Nat) => l_Giver_insert_5 F (fun s1 x1_2 x2_3 => b_Giver_insert_54 F s1 x1_2 x2_3) n a.1 B a.2) (I := fun a => frs K46 s0 a.1 ∧ a.1 43 3 = R ∧ a.2 ≤ R ∧ (∀ i, i < a.2 → a.1 46 i = ((l i : Nat) : Int)) ∧ (∀ i, a.2 ≤ i → i < R → a.1 46 (i + 1) = ((l i : Nat) : Int) ∧ abq fa fb B (l i))) (mu := fun a => a.2) (G := fun r => T r _) ?_ 24 F (s0, R) (by show R ≤ 24; omega) (by omega) ⟨frs_refl _ _, h43, Nat.le_refl R, h46, fun i a b => by omega⟩
  intro n a hI next
  obtain ⟨s, x⟩ := a
  obtain ⟨f, e43, hx, i1, i2⟩ := hI
  simp only at f e43 hx i1 i2
  show T (b_Giver_insert_5 F (l_Giver_insert_5 F _ n) _ s B x) _
  unfold b_Giver_insert_5
  by_cases c : x = 0
  · refine T_yes (by rw [wnat (by omega)]; omega) ?_
    exact fin s x f e43 hx i1 i2 (fun q => by omega)
  · have ex : (x : Int) - 1 = ((x - 1 : Nat) : Int) := by omega
    have lx := g1 (x - 1) (by omega)
    refine T_no (by rw [wnat (by omega)]; omega) (T_gd (inbN hB (by decide)) ?_)
    rw [ex, ix_nat (show x - 1 < 2147483648 by omega), i1 (x - 1) (by omega), ix_nat (show l (x - 1) < 2147483648 by omega), ix_nat (show B < 2147483648 by omega), ix_nat (show x < 2147483648 by omega)]
    refine T_gd (inbN (by omega) (by decide)) (T_gd (inbN (by omega) (by decide)) ?_)
    have fr : ∀ c, c < B + 1 → mk c → s (48 + c) 0 = fa c ∧ s (48 + c) 1 = fb c := fun c hc hmc => by
      rw [f (48 + c) 0 (by unfold K46; simp; omega), f (48 + c) 1 (by unfold K46; simp; omega)]
      exact hf c hc hmc
    have u := fr B (by omega) hm
    have v := fr (l (x - 1)) (by omega) lx.1
    have pu := hp B hm
    have pv := hp (l (x - 1)) lx.1
    refine T_bind (T_eq (aboveX_eq u.1 u.2 v.1 v.2 pu.1 pu.2.1 pv.1 pv.2.1 pu.2.2 pv.2.2 (by omega)) ?_)
    dsimp only
    by_cases q : abq fa fb B (l (x - 1))
    · refine T_no (fun z => b01_0.mp z q) (T_gd (inbN (by omega) (by decide)) (T_gd (inbN (by omega) (by decide)) ?_))
      rw [show (x : Int) + (-1) = ((x - 1 : Nat) : Int) by omega, i1 (x - 1) (by omega)]
      refine next (put s 46 x ((l (x - 1) : Nat) : Int), x - 1) ⟨frs_put f rfl, ?_, by omega, fun i hi => ?_, fun i a b => ?_⟩ (by show x - 1 < x; omega)
      · exact e43
      · show put s 46 x _ 46 i = _
        have hi2 : i < x - 1 := hi
        rw [put_j (by omega)]; exact i1 i (by omega)
      · show put s 46 x _ 46 (i + 1) = _ ∧ _
        have a2 : x - 1 ≤ i := a
        by_cases e : i = x - 1
        · rw [put_at, if_pos (by omega), e]; exact ⟨rfl, q⟩
        · rw [put_j (by omega)]; exact i2 i (by omega) b
    · refine T_yes (b01_0.mpr q) ?_
      exact fin s x f e43 hx i1 i2 (fun _ => q)
theorem rank_eq (hK : KNW nb nj nm day x1 m1 x2 m2) (hN : ¬ BIG nj m2) {s0 : St} (h27 : ∀ j, s0 27 j = x2 27 j) (hv : ∀ j, j < nj → 0 ≤ m2 26 j → VAL (hsOf m1 day nm) (ptq m1 day nm) nj m2 s0 j) (hF : 300 ≤ F) : T (f_Giver_rank F s0) (fun t => frs KV s0 t ∧ ∃ R l, SRT (faq (hsOf m1 day nm) (ptq m1 day nm) nj m2) (fbq (hsOf m1 day nm) (ptq m1 day nm) nj m2) (mkq (hsOf m1 day nm)) 24 R l ∧ t 43 3 = ((R : Nat) : Int) ∧ ∀ i, i < R → t 46 i = ((l i : Nat) : Int)) := by
  have hC : CLS (hsOf m1 day nm) (ptq m1 day nm) s0 := CLS_cong (KNW_cls hK) h27
  unfold f_Giver_rank
  refine loopG (l := fun m (s : St) x => l_Giver_rank_7 F (fun s2 => some s2) m s (x : Nat)) (N := 24) (I := fun B s => frs KV s0 s ∧ ∃ R l, SRT (faq (hsOf m1 day nm) (ptq m1 day nm) nj m2) (fbq (hsOf m1 day nm) (ptq m1 day nm) nj m2) (mkq (hsOf m1 day nm)) B R l ∧ s 43 3 = ((R : Nat) : Int) ∧ (∀ i, i < R → s 46 i = ((l i : Nat) : Int)) ∧ FRC (faq (hsOf m1 day nm) (ptq m1 day nm) nj m2) (fbq (hsOf m1 day nm) (ptq m1 day nm) nj m2) (mkq (hsOf m1 day nm)) B s) (G := fun r => T r _) ?_ ?_ 24 0 F (put s0 43 3 0) (by omega) (by omega) ⟨frs_put (frs_refl _ _) rfl, 0, fun _ => 0, ⟨fun i hi => absurd hi (Nat.not_lt_zero i), fun b hb => absurd hb (Nat.not_lt_zero b), fun i j _ hj => absurd hj (Nat.not_lt_zero j)⟩, put_eq _ _ _ _, fun i hi => absurd hi (Nat.not_lt_zero i), fun c hc => absurd hc (Nat.not_lt_zero c)⟩
  · intro m b s hb hI next
    obtain ⟨f, R, l, hS, e43, e46, hfr⟩ := hI
    have ml : fb_ct (hsOf m1 day nm b) 12 ≤ 12 := fb_ct_le _ 12
    have hCs : CLS (hsOf m1 day nm) (ptq m1 day nm) s := CLS_cong hC (fun j => f 27 j rfl)
    show T (b_Giver_rank_7 F (l_Giver_rank_7 F _ m) _ s b) _
    unfold b_Giver_rank_7
    refine T_no (by rw [show w32 24 = 24 by decide, wnat (by omega)]; omega) (T_bind (T_eq (marksOf_eq hCs.1 hb (by omega)) ?_))
    dsimp only
    by_cases c : mkq (hsOf m1 day nm) b
    · have c2 : 0 < fb_ct (hsOf m1 day nm b) 12 := c
      refine T_no (by rw [wnat (by omega)]; omega) (T_gd (inbN hb (by decide)) ?_)
      rw [ix_nat (by omega)]
      have bx := KNW_bx hK hN c
      have jb := jbq_t c
      obtain ⟨z1, z2, z3, z4, z5, z6, z7⟩ := KNW_brd hK jb.1
      refine T_bind (T_eq (rate_eq bx.1 hCs jb.1 bx.2 (fun j e => ?_) (by omega)) ?_)
      · have v := hv j (hsOf_in hK.1 e).2 (by rw [z5 j e]; exact z3)
        unfold VAL at v
        rw [z5 j e] at v
        rw [f 30 j rfl, f 31 j rfl]
        exact v
      · have f2 : frs KV s0 (put (put s (48 + b) 0 (faq (hsOf m1 day nm) (ptq m1 day nm) nj m2 b)) (48 + b) 1 (fbq (hsOf m1 day nm) (ptq m1 day nm) nj m2 b)) := frs_put (frs_put f (by unfold KV; simp; omega)) (by unfold KV; simp; omega)
        refine T_bind (T_mono (insert_eq (fa := faq (hsOf m1 day nm) (ptq m1 day nm) nj m2) (fb := fbq (hsOf m1 day nm) (ptq m1 day nm) nj m2) (mk := mkq (hsOf m1 day nm)) (fun b hb => KNW_fab hK hN hb) hb c hS (fun c2 hc2 hm2 => ?_) ?_ (fun i hi => ?_) hF) (fun t ht => ?_))
        · show put (put s (48 + b) 0 (faq (hsOf m1 day nm) (ptq m1 day nm) nj m2 b)) (48 + b) 1 (fbq (hsOf m1 day nm) (ptq m1 day nm) nj m2 b) (48 + c2) 0 = _ ∧ put (put s (48 + b) 0 (faq (hsOf m1 day nm) (ptq m1 day nm) nj m2 b)) (48 + b) 1 (fbq (hsOf m1 day nm) (ptq m1 day nm) nj m2 b) (48 + c2) 1 = _
          by_cases e : c2 = b
          · rw [e, put_j (by decide), put_eq, put_eq]; exact ⟨rfl, rfl⟩
          · rw [put_c (by omega), put_c (by omega), put_c (by omega), put_c (by omega)]
            exact hfr c2 (by omega) hm2
        · show put (put s (48 + b) 0 _) (48 + b) 1 _ 43 3 = _
          rw [put_c (by omega), put_c (by omega)]; exact e43
        · show put (put s (48 + b) 0 _) (48 + b) 1 _ 46 i = _
          rw [put_c (by omega), put_c (by omega)]; exact e46 i hi
        · obtain ⟨ft, l2, t1, t2, t3⟩ := ht
          refine next t ⟨frs_trans f2 (K46_KV ft), R + 1, l2, t1, t2, t3, fun c2 hc2 hm2 => ?_⟩
          rw [ft (48 + c2) 0 (by unfold K46; simp; omega), ft (48 + c2) 1 (by unfold K46; simp; omega)]
          by_cases e : c2 = b
          · rw [e]
            refine ⟨?_, ?_⟩
            · show put (put s (48 + b) 0 _) (48 + b) 1 _ (48 + b) 0 = _
              rw [put_j (by decide), put_eq]; rfl
            · show put (put s (48 + b) 0 _) (48 + b) 1 _ (48 + b) 1 = _
              rw [put_eq]; rfl
          · refine ⟨?_, ?_⟩
            · show put (put s (48 + b) 0 _) (48 + b) 1 _ (48 + c2) 0 = _
              rw [put_c (by omega), put_c (by omega)]; exact (hfr c2 (by omega) hm2).1
            · show put (put s (48 + b) 0 _) (48 + b) 1 _ (48 + c2) 1 = _
              rw [put_c (by omega), put_c (by omega)]; exact (hfr c2 (by omega) hm2).2
    · have c2 : ¬ 0 < fb_ct (hsOf m1 day nm b) 12 := c
      refine T_yes (by rw [wnat (by omega)]; omega) (next s ⟨f, R, l, SRT_skip hS c, e43, e46, fun c3 hc3 hm3 => ?_⟩)
      by_cases e : c3 = b
      · exact absurd (by rw [← e]; exact hm3) c
      · exact hfr c3 (by omega) hm3
  · intro m s hI
    obtain ⟨f, R, l, hS, e43, e46, hfr⟩ := hI
    show T (b_Giver_rank_7 F (l_Giver_rank_7 F _ m) _ s ((24 : Nat) : Int)) _
    unfold b_Giver_rank_7
    exact T_yes (by decide) (T_some ⟨f, R, l, hS, e43, e46⟩)
end RK
