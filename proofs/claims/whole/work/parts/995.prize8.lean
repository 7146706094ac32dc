/-! the class: no fault, no place of a fault -/
def PQ (s : St) : Prop := s 41 1 = 0 → s 41 2 = -1
def PV {α : Type} (g : α → St) (r : Option α) : Prop := ∀ a, r = some a → PQ (g a)
theorem PV_bind {α β : Type} {g : β → St} {h : α → St} {x : Option α} {f : α → Option β} (hx : PV h x) (hf : ∀ a, PQ (h a) → PV g (f a)) : PV g (x.bind f) := by
  intro b hb
  cases x with
  | none => cases hb
  | some a => exact hf a (hx a rfl) b hb
theorem PV_some {α : Type} {g : α → St} {a : α} (h : PQ (g a)) : PV g (some a) := by
  intro b hb
  cases hb
  exact h
theorem PV_none {α : Type} {g : α → St} : PV g none := by
  intro b hb
  cases hb
theorem PV_if {α : Type} {g : α → St} {q : Prop} [Decidable q] {x y : Option α} (h1 : PV g x) (h2 : PV g y) : PV g (if q then x else y) := by
  split
  · exact h1
  · exact h2
theorem PV_gd {α : Type} {g : α → St} {q : Prop} [Decidable q] {x : Option α} (h1 : PV g x) : PV g (gd q x) := by
  unfold gd
  exact PV_if h1 PV_none
theorem PQ_put {s : St} {c j : Nat} {v : Int} (h : PQ s) (hc : ¬ (c = 41 ∧ (j = 1 ∨ j = 2))) : PQ (put s c j v) := by
  unfold PQ put at *
  rw [if_neg (by omega), if_neg (by omega)]
  exact h
theorem PQ_blame {s : St} {k : Int} (h : PQ s) (hk : k ≠ 0) : PV id (f_Read_blame s k) := by
  unfold f_Read_blame
  refine PV_if (PV_some ?_) (PV_some h)
  intro q
  exact absurd q hk
theorem PQ_word {F cs : Nat} {s : St} (h : PQ s) : PV Prod.snd (f_Read_isWord F cs s) := by
  unfold f_Read_isWord
  refine PV_if (PV_bind (h := Prod.snd) (PV_some h) (fun a ha => PV_if ?_ (PV_some ha))) (PV_some h)
  have : ∀ n (s : St) (i : Int), PQ s → PV Prod.snd (l_Read_isWord_28 cs F (fun s4 => some (1, s4)) n s i) := by
    intro n
    induction n with
    | zero => exact fun _ _ _ => PV_none
    | succ n ih =>
      intro s i hs
      show PV Prod.snd (b_Read_isWord_28 cs F (l_Read_isWord_28 cs F (fun s4 => some (1, s4)) n) (fun s4 => some (1, s4)) s i)
      unfold b_Read_isWord_28
      refine PV_bind (h := Prod.snd) (PV_some hs) (fun q1 h1 => PV_if (PV_some h1) (PV_gd (PV_bind (h := Prod.snd) ?_ (fun q4 h4 => PV_if (ih _ _ h4) (PV_some h4)))))
      unfold f_S_charAt
      exact PV_gd (PV_some h1)
  exact this _ _ _ ha
theorem PQ_run {F : Nat} {s : St} {x1 x2 : Int} (h : PQ s) : PV Prod.snd (f_Read_endOfRun F s x1 x2) := by
  have : ∀ n (s : St) (i : Int), PQ s → PV Prod.snd (l_Read_endOfRun_5 F (fun s1 x3_2 => some (x3_2, s1)) n s x1 x2 i) := by
    intro n
    induction n with
    | zero => exact fun _ _ _ => PV_none
    | succ n ih =>
      intro s i hs
      show PV Prod.snd (b_Read_endOfRun_5 F (l_Read_endOfRun_5 F (fun s1 x3_2 => some (x3_2, s1)) n) (fun s1 x3_2 => some (x3_2, s1)) s x1 x2 i)
      unfold b_Read_endOfRun_5
      exact PV_if (PV_some hs) (PV_gd (PV_if (PV_some hs) (PV_gd (PV_if (PV_some hs) (ih _ _ hs)))))
  exact this _ _ _ h
theorem PQ_step {F : Nat} {s : St} (h : PQ s) : PV id (f_Read_step F s) := by
  have s204 : ∀ s : St, PQ s → PV id (b_Read_step_204 F s) := fun s hs => PV_bind (h := id) (PQ_blame hs (by decide)) (fun a ha => PV_some ha)
  have s144 : ∀ s : St, PQ s → PV id (b_Read_step_144 F s) := by
    intro s hs
    unfold b_Read_step_144
    refine PV_if (PV_if ?_ (PV_some hs)) (PV_some hs)
    refine PV_bind (h := Prod.snd) (PQ_run (PQ_put hs (by omega))) (fun q4 h4 => ?_)
    have h5 : PQ (put q4.2 41 7 q4.1) := PQ_put h4 (by omega)
    exact PV_if (s204 _ h5) (PV_if (PV_some h5) (s204 _ h5))
  have s68 : ∀ s : St, PQ s → PV id (b_Read_step_68 F s) := by
    intro s hs
    unfold b_Read_step_68
    refine PV_if (PV_gd (PV_if (s144 _ (PQ_put (PQ_put hs (by omega)) (by omega))) ?_)) (s144 _ (PQ_put (PQ_put hs (by omega)) (by omega)))
    exact PV_bind (h := Prod.snd) (PQ_run (PQ_put hs (by omega))) (fun q4 h4 => s144 _ (PQ_put h4 (by omega)))
  have lp : ∀ n (s : St), PQ s → PV id (l_Read_step_16 F (fun s3 => b_Read_step_68 F s3) n s) := by
    intro n
    induction n with
    | zero => exact fun _ _ => PV_none
    | succ n ih =>
      intro s hs
      show PV id (b_Read_step_16 F (l_Read_step_16 F (fun s3 => b_Read_step_68 F s3) n) (fun s3 => b_Read_step_68 F s3) s)
      unfold b_Read_step_16 b_Read_step_55
      have h2 := ih _ (PQ_put (c := 41) (j := 6) (v := s 41 6 + 1) hs (by omega))
      exact PV_if (s68 _ hs) (PV_gd (PV_if h2 (PV_gd (PV_if h2 (s68 _ hs)))))
  unfold f_Read_step
  exact PV_if (lp _ _ (PQ_put h (by omega))) (PV_some h)
theorem PQ_wish {F : Nat} {s : St} (h : PQ s) : PV Prod.snd (f_Read_wishInHand F s) := by
  unfold f_Read_wishInHand
  exact PV_bind (PQ_word h) (fun a1 h1 => PV_if (PV_bind (PQ_word h1) (fun a2 h2 => PV_if (PV_bind (PQ_word h2) (fun a3 h3 => PV_if (PV_bind (PQ_word h3) (fun a4 h4 => PV_if (PV_some h4) (PV_some h4))) (PV_some h3))) (PV_some h2))) (PV_some h1))
theorem PQ_takeWord {F cs : Nat} {s : St} (h : PQ s) : PV id (f_Read_takeWord F cs s) := by
  unfold f_Read_takeWord b_Read_takeWord_13
  exact PV_bind (PQ_word h) (fun a1 h1 => PV_if (PV_bind (PQ_blame h1 (by decide)) (fun a2 h2 => PV_bind (h := id) (PQ_step h2) (fun a3 h3 => PV_some h3))) (PV_bind (h := id) (PQ_step h1) (fun a3 h3 => PV_some h3)))
theorem PQ_takeStop {F : Nat} {s : St} (h : PQ s) : PV id (f_Read_takeStop F s) := by
  unfold f_Read_takeStop b_Read_takeStop_13
  exact PV_if (PV_bind (h := id) (PQ_step h) (fun a3 h3 => PV_some h3)) (PV_bind (PQ_blame h (by decide)) (fun a2 h2 => PV_bind (h := id) (PQ_step h2) (fun a3 h3 => PV_some h3)))
theorem PQ_takeNumber {F : Nat} {s : St} {x1 x2 : Int} (h : PQ s) : PV Prod.snd (f_Read_takeNumber F s x1 x2) := by
  have s69 : ∀ (s : St) (v : Int), PQ s → PV Prod.snd (b_Read_takeNumber_69 F s v) := fun s v hs => PV_bind (h := id) (PQ_step hs) (fun a ha => PV_some ha)
  have lp : ∀ n (s : St) (x1 x2 x3 i : Int), PQ s → PV Prod.snd (l_Read_takeNumber_24 F (fun s3 x1_4 x2_5 x3_6 => (f_H_within s3 x3_6 x1_4 x2_5).bind fun q7 => if w32 q7.1 = 0 then (f_Read_blame q7.2 4).bind fun q9 => b_Read_takeNumber_69 F q9 x3_6 else b_Read_takeNumber_69 F q7.2 x3_6) n s x1 x2 x3 i) := by
    intro n
    induction n with
    | zero => exact fun _ _ _ _ _ _ => PV_none
    | succ n ih =>
      intro s x1 x2 x3 i hs
      show PV Prod.snd (b_Read_takeNumber_24 F (l_Read_takeNumber_24 F _ n) _ s x1 x2 x3 i)
      unfold b_Read_takeNumber_24
      refine PV_if (PV_bind (h := Prod.snd) ?_ (fun a1 h1 => PV_if (PV_bind (h := id) (PQ_blame h1 (by decide)) (fun a2 h2 => s69 _ _ h2)) (s69 _ _ h1))) (PV_gd (ih _ _ _ _ _ hs))
      unfold f_H_within
      exact PV_if (PV_some hs) (PV_if (PV_some hs) (PV_some hs))
  unfold f_Read_takeNumber
  exact PV_if (lp _ _ _ _ _ _ h) (PV_bind (h := id) (PQ_blame h (by decide)) (fun a2 h2 => s69 _ _ h2))
theorem PQ_wishes {F cp : Nat} {s : St} {x2 : Int} (hcp : cp = 80 ∨ cp = 88) (h : PQ s) : PV id (f_Read_readWishes F cp s x2) := by
  have lp : ∀ n (s : St) (x3 i : Int), PQ s → PV id (l_Read_readWishes_8 cp F (fun s2 => some s2) n s x2 x3 i) := by
    intro n
    induction n with
    | zero => exact fun _ _ _ _ => PV_none
    | succ n ih =>
      intro s x3 i hs
      show PV id (b_Read_readWishes_8 cp F (l_Read_readWishes_8 cp F _ n) _ s x2 x3 i)
      unfold b_Read_readWishes_8
      refine PV_if (PV_some hs) (PV_if (PV_some hs) (PV_if (PV_gd (PV_gd (PV_if ?_ ?_))) (PV_some hs)))
      · refine PV_bind (h := id) (PQ_step hs) (fun a1 h1 => PV_gd (PV_gd (PV_gd (PV_bind (h := Prod.snd) (PQ_takeNumber h1) (fun a2 h2 => PV_gd (PV_bind (h := Prod.snd) (PQ_wish (PQ_put h2 (by omega))) (fun a3 h3 => ih _ _ _ h3)))))))
      · exact PV_bind (h := id) (PQ_blame hs (by decide)) (fun a2 h2 => ih _ _ _ h2)
  unfold f_Read_readWishes
  exact PV_bind (PQ_wish h) (fun a1 h1 => lp _ _ _ _ h1)
theorem PQ_addEmpty {F cp : Nat} {s : St} (hcp : cp = 80 ∨ cp = 88) (h : PQ s) : PV id (f_Prize_addEmpty F cp s) := by
  have lp : ∀ n (s : St) (i : Int), PQ s → PV id (l_Prize_addEmpty_11 cp F (fun s2 => gd (inb (s2 cp 0) 8) (let s4 := put s2 (cp + 2) (ix (s2 cp 0)) (nz 0); let s5 := put s4 cp 0 ((s4 cp 0) + 1); some s5)) n s i) := by
    intro n
    induction n with
    | zero => exact fun _ _ _ => PV_none
    | succ n ih =>
      intro s i hs
      show PV id (b_Prize_addEmpty_11 cp F (l_Prize_addEmpty_11 cp F _ n) _ s i)
      unfold b_Prize_addEmpty_11
      exact PV_if (PV_gd (PV_some (PQ_put (PQ_put hs (by omega)) (by omega)))) (PV_gd (PV_gd (ih _ _ (PQ_put hs (by omega)))))
  unfold f_Prize_addEmpty
  exact PV_if (PV_some h) (lp _ _ _ h)
theorem PQ_prize {F cp : Nat} {s : St} (hcp : cp = 80 ∨ cp = 88) (h : PQ s) : PV id (f_Read_readPrize F cp s) := by
  have s95 : ∀ s : St, PQ s → PV id (b_Read_readPrize_95 cp F s) := fun s hs => PV_bind (h := id) (PQ_takeStop hs) (fun a ha => PV_some ha)
  unfold f_Read_readPrize
  refine PV_bind (PQ_word h) (fun a1 h1 => PV_if (PV_bind (h := id) (PQ_blame h1 (by decide)) (fun a2 h2 => PV_some h2)) (PV_if ?_ (PV_bind (h := id) (PQ_blame h1 (by decide)) (fun a2 h2 => PV_some h2))))
  refine PV_bind (h := id) (PQ_addEmpty hcp h1) (fun a2 h2 => PV_bind (h := id) (PQ_step h2) (fun a3 h3 => PV_bind (h := id) (PQ_wishes hcp h3) (fun a4 h4 => PV_bind (h := id) (PQ_takeWord h4) (fun a5 h5 => PV_bind (h := Prod.snd) (PQ_takeNumber h5) (fun a6 h6 => PV_gd ?_)))))
  have h7 : PQ (put a6.2 (cp + 1) (ix (a1.2 cp 0)) a6.1) := PQ_put h6 (by omega)
  refine PV_if (PV_bind (h := Prod.snd) (PQ_word h7) (fun a8 h8 => PV_if (s95 _ h8) (PV_gd (PV_bind (h := id) (PQ_step (PQ_put h8 (by omega))) (fun a9 h9 => s95 _ h9))))) (s95 _ h7)
theorem PQ_loop {F cp : Nat} (hcp : cp = 80 ∨ cp = 88) : ∀ n (s : St) (i : Int), PQ s → PV id (l_Read_read_37 cp F (fun s8 => some s8) n s i) := by
  intro n
  induction n with
  | zero => exact fun _ _ _ => PV_none
  | succ n ih =>
    intro s i hs
    show PV id (b_Read_read_37 cp F (l_Read_read_37 cp F _ n) _ s i)
    unfold b_Read_read_37
    exact PV_if (PV_some hs) (PV_if (PV_some hs) (PV_if (PV_bind (h := id) (PQ_prize hcp hs) (fun a ha => ih _ _ ha)) (PV_some hs)))
