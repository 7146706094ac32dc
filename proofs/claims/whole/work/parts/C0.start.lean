/-! the law's start: what the Statement gives there -/
theorem tw {w : Cond} (i : Nat) (h : tables_1[i]? = some w) : w ∈ lw_tbl := List.mem_append_right _ (List.mem_of_getElem? h)
theorem arrOfT_of {s : State} {c : ClassId} {k : Class} {comp : ClassId} {ty : FieldType} (hk : s.vm.classes[c]? = some k) (hkind : k.kind = .array comp ty) : ArrOfT s c ty := fun n z => ⟨(fun k h => by cases h), k, hk, comp, hkind⟩
theorem va_AOA.of {ty : FieldType} {A : Array Value} {U : State} (h : (Cond.arrayOver (.array ty)).before A U = true) : va_AOA ty U := by
  unfold va_AOA
  simp only [Cond.before, Cond.holds, Cond.value] at h ⊢
  exact h
section ST0
variable {s : State} {a : Array Value}
theorem st_EX (hts : ∀ w ∈ lw_tbl, w.before a s = true) : EX s := by
  refine ⟨va_AOA.of (hts _ (tw 358 (by decide +kernel))), va_AOA.of (hts _ (tw 204 (by decide +kernel))), va_AO.of (hts _ (tw 284 (by decide +kernel))), fun q hq => ?_⟩
  simp only [nwL, List.mem_cons, List.not_mem_nil, or_false] at hq
  rcases hq with rfl | rfl | rfl | rfl | rfl | rfl | rfl | rfl | rfl | rfl | rfl | rfl | rfl
  · exact va_Nw.of rfl (hts _ (tw 30 (by decide +kernel)))
  · exact va_Nw.of rfl (hts _ (tw 66 (by decide +kernel)))
  · exact va_Nw.of rfl (hts _ (tw 88 (by decide +kernel)))
  · exact va_Nw.of rfl (hts _ (tw 149 (by decide +kernel)))
  · exact va_Nw.of rfl (hts _ (tw 181 (by decide +kernel)))
  · exact va_Nw.of rfl (hts _ (tw 199 (by decide +kernel)))
  · exact va_Nw.of rfl (hts _ (tw 229 (by decide +kernel)))
  · exact va_Nw.of rfl (hts _ (tw 244 (by decide +kernel)))
  · exact va_Nw.of rfl (hts _ (tw 285 (by decide +kernel)))
  · exact va_Nw.of rfl (hts _ (tw 310 (by decide +kernel)))
  · exact va_Nw.of rfl (hts _ (tw 353 (by decide +kernel)))
  · exact va_Nw.of rfl (hts _ (tw 566 (by decide +kernel)))
  · exact va_Nw.of rfl (hts _ (tw 839 (by decide +kernel)))
theorem st_arr (hts : ∀ w ∈ lw_tbl, w.before a s = true) : ∃ cy : Nat → ClassId, ∀ (k : Nat) (q : ClassId × FieldType), (tyl cy)[k]? = some q → ArrOfT s q.1 q.2 ∧ va_RA s q.1 q.2 := by
  have ex := st_EX hts
  obtain ⟨c0, k0, p0, a0, b0, d0⟩ := Cond.arrayClass_spec (hts (.arrayClass .int) (tw 63 (by decide +kernel)))
  obtain ⟨c1, k1, p1, a1, b1, d1⟩ := Cond.arrayClass_spec (hts (.arrayClass .long) (tw 226 (by decide +kernel)))
  obtain ⟨c2, k2, p2, a2, b2, d2⟩ := Cond.arrayClass_spec (hts (.arrayClass .boolean) (tw 307 (by decide +kernel)))
  obtain ⟨c3, k3, p3, a3, b3, d3⟩ := Cond.arrayClass_spec (hts (.arrayClass .byte) (tw 276 (by decide +kernel)))
  obtain ⟨p4, c4, k4, a4, _, b4, d4, e4⟩ := Cond.arrayOver_spec (hts (.arrayOver (.object "FairHall$Fraction")) (tw 284 (by decide +kernel)))
  obtain ⟨p5, c5, k5, _, _, b5, d5, e5⟩ := ex.1.spec
  obtain ⟨p6, c6, k6, _, _, b6, d6, e6⟩ := ex.2.1.spec
  refine ⟨fun k => if k = 0 then c0 else if k = 1 then c1 else if k = 2 then c2 else if k = 3 then c3 else if k = 4 then c4 else if k = 5 then c5 else c6, fun k q hq => ?_⟩
  match k, hq with
  | 0, hq => cases hq; exact ⟨arrOfT_of b0 d0, a0⟩
  | 1, hq => cases hq; exact ⟨arrOfT_of b1 d1, a1⟩
  | 2, hq => cases hq; exact ⟨arrOfT_of b2 d2, a2⟩
  | 3, hq => cases hq; exact ⟨arrOfT_of b3 d3, a3⟩
  | 4, hq => cases hq; exact ⟨arrOfT_of b4 d4, k4, p4, b4, d4, a4, e4⟩
  | 5, hq => cases hq; exact ⟨arrOfT_of b5 d5, e5⟩
  | 6, hq => cases hq; exact ⟨arrOfT_of b6 d6, e6⟩
  | k + 7, hq => simp [tyl] at hq
theorem st_K (hts : ∀ w ∈ lw_tbl, w.before a s = true) : ∃ (D : va_G) (cy : Nat → ClassId), va_K D vwCl (tyl cy) s := by
  have htg : ∀ w ∈ gt, w.before a s = true := fun w hw => hts w (gt_tbl w hw)
  obtain ⟨c0, i0, h0⟩ := u_known (C := RX0) (T := TX0) (N := 6) (n := 6) htg inX0 (hts _ (tw 29 (by decide +kernel)))
  obtain ⟨c1, i1, h1⟩ := u_known (C := RX1) (T := TX1) (N := 2) (n := 2) htg inX1 (hts _ (tw 228 (by decide +kernel)))
  obtain ⟨c2, i2, h2⟩ := u_known (C := RX2) (T := TX2) (N := 6) (n := 6) htg inX2 (hts _ (tw 278 (by decide +kernel)))
  obtain ⟨c3, i3, h3⟩ := u_known (C := RX3) (T := TX3) (N := 11) (n := 11) htg inX3 (hts _ (tw 309 (by decide +kernel)))
  obtain ⟨c4, i4, h4⟩ := u_known (C := RX4) (T := TX4) (N := 4) (n := 4) htg inX4 (hts _ (tw 65 (by decide +kernel)))
  obtain ⟨c5, i5, h5⟩ := u_known (C := RX5) (T := TX5) (N := 3) (n := 3) htg inX5 (hts _ (tw 180 (by decide +kernel)))
  obtain ⟨c6, i6, h6⟩ := u_known (C := RX6) (T := TX6) (N := 6) (n := 6) htg inX6 (hts _ (tw 148 (by decide +kernel)))
  obtain ⟨c7, i7, h7⟩ := u_known (C := RX7) (T := TX7) (N := 17) (n := 17) htg inX7 (hts _ (tw 87 (by decide +kernel)))
  obtain ⟨c8, i8, h8⟩ := u_known (C := RX8) (T := TX8) (N := 4) (n := 4) htg inX8 (hts _ (tw 352 (by decide +kernel)))
  obtain ⟨c9, i9, h9⟩ := u_known (C := RX9) (T := TX9) (N := 6) (n := 6) htg inX9 (hts _ (tw 198 (by decide +kernel)))
  obtain ⟨c10, i10, h10⟩ := u_known (C := RX10) (T := TX10) (N := 8) (n := 8) htg inX10 (hts _ (tw 243 (by decide +kernel)))
  obtain ⟨c11, i11, h11⟩ := u_known (C := RX11) (T := TX11) (N := 14) (n := 14) htg inX11 (hts _ (tw 21 (by decide +kernel)))
  obtain ⟨c12, i12, h12⟩ := u_known (C := RX12) (T := TX12) (N := 86) (n := 86) htg inX12 (hts _ (tw 952 (by decide +kernel)))
  obtain ⟨cy, hcy⟩ := st_arr hts
  refine ⟨(fun k => if k = 0 then c0 else if k = 1 then c1 else if k = 2 then c2 else if k = 3 then c3 else if k = 4 then c4 else if k = 5 then c5 else if k = 6 then c6 else if k = 7 then c7 else if k = 8 then c8 else if k = 9 then c9 else if k = 10 then c10 else if k = 11 then c11 else c12, fun k => if k = 0 then i0 else if k = 1 then i1 else if k = 2 then i2 else if k = 3 then i3 else if k = 4 then i4 else if k = 5 then i5 else if k = 6 then i6 else if k = 7 then i7 else if k = 8 then i8 else if k = 9 then i9 else if k = 10 then i10 else if k = 11 then i11 else i12), cy, fun k q hq => ?_, hcy⟩
  match k, hq with
  | 0, hq => cases hq; exact h0
  | 1, hq => cases hq; exact h1
  | 2, hq => cases hq; exact h2
  | 3, hq => cases hq; exact h3
  | 4, hq => cases hq; exact h4
  | 5, hq => cases hq; exact h5
  | 6, hq => cases hq; exact h6
  | 7, hq => cases hq; exact h7
  | 8, hq => cases hq; exact h8
  | 9, hq => cases hq; exact h9
  | 10, hq => cases hq; exact h10
  | 11, hq => cases hq; exact h11
  | 12, hq => cases hq; exact h12
  | k + 13, hq => simp [vwCl] at hq
def tmK (i : Nat) : Term := .string "FairHall$TextReader" (poolK.getD i 0)
def flS : List Cond := flatC (Jvm.Cond.and given_1 narrow_1)
theorem fl_ex : ∀ i, i < 7 → Cond.exactly (tmK i) "java/lang/String" ∈ flS := by decide +kernel
theorem fl_co : ∀ i, i < 7 → Cond.eq (.field (tmK i) "java/lang/String" "coder" "B") (.int 0) ∈ flS := by decide +kernel
theorem fl_ar : ∀ i, i < 7 → Cond.arrayOf (.field (tmK i) "java/lang/String" "value" "[B") .byte ∈ flS := by decide +kernel
theorem fl_le : ∀ i, i < 7 → Cond.eq (.length (.field (tmK i) "java/lang/String" "value" "[B")) (.int (Int32.ofNat (lenK.getD i 0))) ∈ flS := by decide +kernel
theorem fl_el : ∀ i, i < 7 → ∀ j, j < lenK.getD i 0 → Cond.eq (.elem (.field (tmK i) "java/lang/String" "value" "[B") (.int (Int32.ofNat j))) (.int ((bytK.getD i []).getD j 0)) ∈ flS := by decide +kernel
theorem fl_ne : ∀ i, i < 7 → ∀ j, j < 7 → i ≠ j → Cond.not (Cond.eq (tmK i) (tmK j)) ∈ flS ∨ Cond.not (Cond.eq (tmK j) (tmK i)) ∈ flS := by decide +kernel
theorem fl_lw : ∀ j, j < 4 → Cond.eq (.elem (.static "FairHall$TextReader" "LEAST_WISH" "[I") (.int (Int32.ofNat j))) (.int (Int32.ofInt (leastW j))) ∈ flS := by decide +kernel
theorem fl_gw : ∀ j, j < 4 → Cond.eq (.elem (.static "FairHall$TextReader" "GREATEST_WISH" "[I") (.int (Int32.ofNat j))) (.int (Int32.ofInt (greatW j))) ∈ flS := by decide +kernel
theorem fl_o : Cond.eq (.static "java/lang/String" "COMPACT_STRINGS" "Z") (.int 1) ∈ flS ∧ Cond.isRef (.static "jdk/internal/util/Preconditions" "SIOOBE_FORMATTER" "Ljava/util/function/BiFunction;") ∈ flS ∧ Cond.arrayOf (.static "FairHall$TextReader" "LEAST_WISH" "[I") .int ∈ flS ∧ Cond.eq (.length (.static "FairHall$TextReader" "LEAST_WISH" "[I")) (.int (Int32.ofNat 4)) ∈ flS ∧ Cond.arrayOf (.static "FairHall$TextReader" "GREATEST_WISH" "[I") .int ∈ flS ∧ Cond.eq (.length (.static "FairHall$TextReader" "GREATEST_WISH" "[I")) (.int (Int32.ofNat 4)) ∈ flS := by decide +kernel
theorem tw_str : ∀ i, i < 7 → Cond.stringRef "FairHall$TextReader" (poolK.getD i 0) (txK.getD i "") ∈ lw_tbl := by
  intro i hi
  have : i = 0 ∨ i = 1 ∨ i = 2 ∨ i = 3 ∨ i = 4 ∨ i = 5 ∨ i = 6 := by omega
  rcases this with rfl | rfl | rfl | rfl | rfl | rfl | rfl
  · exact tw 762 (by decide +kernel)
  · exact tw 827 (by decide +kernel)
  · exact tw 828 (by decide +kernel)
  · exact tw 829 (by decide +kernel)
  · exact tw 830 (by decide +kernel)
  · exact tw 840 (by decide +kernel)
  · exact tw 845 (by decide +kernel)
theorem st_SF (hts : ∀ w ∈ lw_tbl, w.before a s = true) (hg : (Jvm.Cond.and given_1 narrow_1).before a s = true) : ∃ ad0 : Nat → Nat, ∀ ad : Nat → Nat, (∀ k, 1000 ≤ k → ad k = ad0 k) → SF (fun q : Nat => s.heap.size ≤ q) ad s s.heap := by
  have hs : ∀ w ∈ flS, w.before a s = true := flat_of_before _ hg
  have hA : ∀ x : Nat, x < s.heap.size → ¬ (fun q : Nat => s.heap.size ≤ q) x := fun x hx => Nat.not_le.mpr hx
  obtain ⟨o1, o2, o3, o4, o5, o6⟩ := fl_o
  have ini16 : (Cond.initialized "java/lang/String").before a s = true := hts _ (tw 16 (by decide +kernel))
  have ini18 : (Cond.initialized "jdk/internal/util/Preconditions").before a s = true := hts _ (tw 18 (by decide +kernel))
  have ini9 : (Cond.initialized "FairHall$TextReader").before a s = true := hts _ (tw 9 (by decide +kernel))
  obtain ⟨adK, adV, hS, hE⟩ := vk_Sof (N := 7) (tm := tmK) (len := lenK) (byt := bytK) (args := a) (s := s) (A := fun q : Nat => s.heap.size ≤ q) (by decide +kernel) (fun i hi => hs _ (fl_ex i hi)) (fun i hi => hs _ (fl_co i hi)) (fun i hi => hs _ (fl_ar i hi)) (fun i hi => hs _ (fl_le i hi)) (fun i hi j hj => hs _ (fl_el i hi j hj)) (fun i j hi hj hne => (fl_ne i hi j hj hne).elim (fun h => .inl (hs _ h)) (fun h => .inr (hs _ h))) hA
  obtain ⟨t1, e1, T1⟩ := va_Tof (tm := .static "FairHall$TextReader" "LEAST_WISH" "[I") (ty := .int) (N := 4) (f := fun j => mI (leastW j)) (args := a) (s := s) (A := fun q : Nat => s.heap.size ≤ q) (by decide) (hs _ o3) (va_eqt (hs _ o4)) (fun j hj => va_eqt (hs _ (fl_lw j hj))) hA
  obtain ⟨t2, e2, T2⟩ := va_Tof (tm := .static "FairHall$TextReader" "GREATEST_WISH" "[I") (ty := .int) (N := 4) (f := fun j => mI (greatW j)) (args := a) (s := s) (A := fun q : Nat => s.heap.size ≤ q) (by decide) (hs _ o5) (va_eqt (hs _ o6)) (fun j hj => va_eqt (hs _ (fl_gw j hj))) hA
  refine ⟨fun k => if k < 1100 then adK (k - 1000) else if k < 1200 then adV (k - 1100) else if k = 1200 then t1 else t2, fun ad had => ?_⟩
  have had : ∀ k, 1000 ≤ k → ad k = (if k < 1100 then adK (k - 1000) else if k < 1200 then adV (k - 1100) else if k = 1200 then t1 else t2) := had
  have k1 : ∀ i, i < 100 → ad (1000 + i) = adK i := fun i hi => by rw [had _ (by omega), if_pos (by omega), Nat.add_sub_cancel_left]
  have k2 : ∀ i, i < 100 → ad (1100 + i) = adV i := fun i hi => by rw [had _ (by omega), if_neg (by omega), if_pos (by omega), Nat.add_sub_cancel_left]
  have k3 : ad 1200 = t1 := by rw [had _ (by omega), if_neg (by omega), if_neg (by omega), if_pos rfl]
  have k4 : ad 1201 = t2 := by rw [had _ (by omega), if_neg (by omega), if_neg (by omega), if_neg (by omega)]
  refine ⟨⟨fun i hi => ?_, fun i j hi hj e => ?_⟩, fun i hi => ?_, va_Zof (hts _ (tw 776 (by decide +kernel))) ini16 (va_eqt (hs _ o1)) hA, va_Zqof (hts _ (tw 792 (by decide +kernel))) ini18 (hs _ o2) hA, ?_, ?_, ?_, ?_, (st_EX hts).2.2.2⟩
  · dsimp only
    rw [k1 i (by omega), k2 i (by omega)]
    exact hS.1 i hi
  · dsimp only at e
    rw [k1 i (by omega), k1 j (by omega)] at e
    exact hS.2 i j hi hj e
  · rw [k1 i (by omega)]
    exact vk_R.of (A := a) (hts _ (tw_str i hi)) (hE i hi)
  · rw [k3]; exact va_Zof (hts _ (tw 832 (by decide +kernel))) ini9 e1 hA
  · rw [k3]; exact T1
  · rw [k4]; exact va_Zof (hts _ (tw 834 (by decide +kernel))) ini9 e2 hA
  · rw [k4]; exact T2
end ST0
/-! addresses from 1000 on are free to be changed -/
def okf (f : Nat → Int) : Nat → List (Nat ⊕ Nat) → Bool
  | _, [] => true
  | j, .inr t :: ks => decide (t < 1000) && okf f (j + 1) ks
  | j, .inl _ :: ks => decide ((f j).toNat < 1000) && okf f (j + 1) ks
def okc (f : Nat → Int) (q : Shp) : Bool := match q with
  | .inl (_, n, .inr g) => (List.range n).all (fun j => decide (g j < 1000))
  | .inl (_, _, .inl _) => true
  | .inr (_, ks) => okf f 0 ks
def okl (sg : St) : Nat → List Shp → Bool
  | _, [] => true
  | c, q :: S => decide (c < 1000) && (okc (sg c) q && okl sg (c + 1) S)
theorem fg_re {ad ad' : Nat → Nat} (h : ∀ k, k < 1000 → ad k = ad' k) (f : Nat → Int) : ∀ (ks : List (Nat ⊕ Nat)) (j : Nat), okf f j ks = true → fg ad f j ks = fg ad' f j ks
  | [], _, _ => rfl
  | .inr t :: ks, j, hk => by
    have hk : (decide (t < 1000) && okf f (j + 1) ks) = true := hk
    simp only [Bool.and_eq_true, decide_eq_true_eq] at hk
    show fv ad (.inr t) (f j) :: fg ad f (j + 1) ks = fv ad' (.inr t) (f j) :: fg ad' f (j + 1) ks
    rw [fg_re h f ks (j + 1) hk.2, show fv ad (.inr t) (f j) = fv ad' (.inr t) (f j) from congrArg Value.ref (h t hk.1)]
  | .inl z :: ks, j, hk => by
    have hk : (decide ((f j).toNat < 1000) && okf f (j + 1) ks) = true := hk
    simp only [Bool.and_eq_true, decide_eq_true_eq] at hk
    have hj := hk.1
    show fv ad (.inl z) (f j) :: fg ad f (j + 1) ks = fv ad' (.inl z) (f j) :: fg ad' f (j + 1) ks
    rw [fg_re h f ks (j + 1) hk.2]
    congr 1
    match z with
    | 0 => rfl
    | 1 => rfl
    | z + 2 => exact congrArg Value.ref (h _ hj)
theorem cg_re {ad ad' : Nat → Nat} (h : ∀ k, k < 1000 → ad k = ad' k) (cy : Nat → ClassId) (f : Nat → Int) (q : Shp) (hq : okc f q = true) : eqE (cg cy ad q f) (cg cy ad' q f) := by
  rw [← cg_eq, ← cg_eq]
  match q, hq with
  | .inl (t, n, .inl 0), _ => exact .inl rfl
  | .inl (t, n, .inl (z + 1)), _ => exact .inl rfl
  | .inl (t, n, .inr g), hq =>
    refine .inr ⟨cy t, n, fun j => some (ad (g j)), fun j => some (ad' (g j)), rfl, rfl, fun j hj => ?_⟩
    have hq : (List.range n).all (fun j => decide (g j < 1000)) = true := hq
    rw [List.all_eq_true] at hq
    have := hq j (List.mem_range.mpr hj)
    dsimp only
    rw [h _ (by simpa using this)]
  | .inr (ci, ks), hq =>
    left
    have hq : okf f 0 ks = true := hq
    show (Sum.inr (ci, ks.mapIdx (fun j k => fv ad k (f j))) : va_E) = .inr (ci, ks.mapIdx (fun j k => fv ad' k (f j)))
    have e1 := fg_eq ad ks f 0
    have e2 := fg_eq ad' ks f 0
    simp only [Nat.add_zero] at e1 e2
    rw [e1, e2, fg_re h f ks 0 hq]
theorem wg_re {ad ad' : Nat → Nat} (h : ∀ k, k < 1000 → ad k = ad' k) (cy : Nat → ClassId) (sg : St) : ∀ (S : List Shp) (c : Nat), okl sg c S = true → EQL (wg cy ad sg c S) (wg cy ad' sg c S)
  | [], _, _ => trivial
  | q :: S, c, hq => by
    have hq : (decide (c < 1000) && (okc (sg c) q && okl sg (c + 1) S)) = true := hq
    simp only [Bool.and_eq_true, decide_eq_true_eq] at hq
    exact EQL.cons (h c hq.1) (cg_re h cy (sg c) q hq.2.1) (wg_re h cy sg S (c + 1) hq.2.2)
theorem okX : okl sX0 0 shX = true := by decide +kernel
theorem okM : okl sM0 0 shM = true := by decide +kernel
theorem wd_re {ad ad' : Nat → Nat} (h : ∀ k, k < 1000 → ad k = ad' k) (cy : Nat → ClassId) {sg : St} {S : List Shp} (hq : okl sg 0 S = true) : EQL (wd S cy ad sg) (wd S cy ad' sg) := by
  rw [wd_go, wd_go]
  exact wg_re h cy sg S 0 hq
