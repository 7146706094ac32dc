def eqE (a b : va_E) : Prop := a = b ∨ ∃ (cA : ClassId) (n : Nat) (f g : Nat → Option Nat), a = .inl (cA, n, .inr (.inr (.inr (.inr f)))) ∧ b = .inl (cA, n, .inr (.inr (.inr (.inr g)))) ∧ ∀ j, j < n → f j = g j
def EQL : va_W → va_W → Prop
  | [], [] => True
  | (a, e) :: as, (b, f) :: bs => a = b ∧ eqE e f ∧ EQL as bs
  | _, _ => False
theorem EQL.cons {a b : Nat} {e f : va_E} {as bs : va_W} (h1 : a = b) (h2 : eqE e f) (h3 : EQL as bs) : EQL ((a, e) :: as) ((b, f) :: bs) := ⟨h1, h2, h3⟩
theorem EQL.app : ∀ {as bs cs ds : va_W}, EQL as bs → EQL cs ds → EQL (as ++ cs) (bs ++ ds)
  | [], [], _, _, _, h2 => h2
  | (a, e) :: as, (b, f) :: bs, _, _, h1, h2 => ⟨h1.1, h1.2.1, EQL.app h1.2.2 h2⟩
  | [], _ :: _, _, _, h1, _ => h1.elim
  | _ :: _, [], _, _, h1, _ => h1.elim
theorem wg_app (cy : Nat → ClassId) (ad : Nat → Nat) (sg : St) (T : List Shp) : ∀ (S : List Shp) (c : Nat), wg cy ad sg c (S ++ T) = wg cy ad sg c S ++ wg cy ad sg (c + S.length) T
  | [], c => rfl
  | q :: S, c => by
    have h := wg_app cy ad sg T S (c + 1)
    have e : c + (q :: S).length = c + 1 + S.length := by rw [List.length_cons]; omega
    rw [e, List.cons_append, wg, h]
    rfl
theorem EQL.blk {cy : Nat → ClassId} {ad : Nat → Nat} {sg : St} {A W : va_W} {S T : List Shp} {c c2 : Nat} (h1 : EQL A (wg cy ad sg c S)) (hn : c + S.length = c2) (h2 : EQL W (wg cy ad sg c2 T)) : EQL (A ++ W) (wg cy ad sg c (S ++ T)) := by
  subst hn
  rw [wg_app]
  exact EQL.app h1 h2
theorem EQL.at : ∀ {as bs : va_W}, EQL as bs → ∀ (k : Nat) (x : Nat × va_E), bs[k]? = some x → ∃ y, as[k]? = some y ∧ y.1 = x.1 ∧ eqE y.2 x.2
  | [], [], _, k, x, hx => by simp at hx
  | (a, e) :: as, (b, f) :: bs, h, 0, x, hx => by
    have hx2 : some (b, f) = some x := hx
    cases hx2
    exact ⟨(a, e), rfl, h.1, h.2.1⟩
  | (a, e) :: as, (b, f) :: bs, h, k + 1, x, hx => EQL.at h.2.2 k x hx
  | [], _ :: _, h, _, _, _ => h.elim
  | _ :: _, [], h, _, _, _ => h.elim
theorem EQL.P {D : va_G} {as bs : va_W} (h : EQL as bs) {H : Heap} (hP : va_P D vwCl as H) : va_P D vwCl bs H := by
  intro k x hx
  obtain ⟨y, hy, e1, e2⟩ := EQL.at h k x hx
  have h0 := hP k y hy
  obtain ⟨y1, y2⟩ := y
  obtain ⟨x1, x2⟩ := x
  have e1 : y1 = x1 := e1
  subst e1
  rcases e2 with e2 | ⟨cA, n, f, g, e3, e4, e5⟩
  · have e2 : y2 = x2 := e2
    subst e2
    exact h0
  · have e3 : y2 = _ := e3
    have e4 : x2 = _ := e4
    subst e3 e4
    show H[y1]? = some (arrV cA n (fun j => va_rf (g j)))
    have h1 : H[y1]? = some (arrV cA n (fun j => va_rf (f j))) := h0
    rw [h1, arrV_cong (fun j hj => by rw [e5 j hj])]
theorem EQL.D {A : Nat → Prop} {as bs : va_W} (h : EQL as bs) (hD : va_D A as) : va_D A bs := by
  refine ⟨fun i j p1 p2 h1 h2 e => ?_, fun k x hx => ?_⟩
  · obtain ⟨y1, g1, g2, _⟩ := EQL.at h i p1 h1
    obtain ⟨y2, g3, g4, _⟩ := EQL.at h j p2 h2
    exact hD.1 i j y1 y2 g1 g3 (by rw [g2, g4]; exact e)
  · obtain ⟨y1, g1, g2, _⟩ := EQL.at h k x hx
    rw [← g2]
    exact hD.2 k y1 g1
def EQW (a b : va_W) : Prop := EQL a b ∧ True
theorem EQW.blk {cy : Nat → ClassId} {ad : Nat → Nat} {sg : St} {A W : va_W} {S T : List Shp} {c c2 : Nat} (h1 : EQW A (wg cy ad sg c S)) (hn : c + S.length = c2) (h2 : EQW W (wg cy ad sg c2 T)) : EQW (A ++ W) (wg cy ad sg c (S ++ T)) := ⟨EQL.blk h1.1 hn h2.1, trivial⟩
theorem EQW.cons {a b : Nat} {e f : va_E} {as bs : va_W} (h1 : a = b) (h2 : eqE e f) (h3 : EQW as bs) : EQW ((a, e) :: as) ((b, f) :: bs) := ⟨⟨h1, h2, h3.1⟩, trivial⟩
theorem EQW.P {D : va_G} {as bs : va_W} (h : EQW as bs) {H : Heap} (hP : va_P D vwCl as H) : va_P D vwCl bs H := EQL.P h.1 hP
theorem EQW.D {A : Nat → Prop} {as bs : va_W} (h : EQW as bs) (hD : va_D A as) : va_D A bs := EQL.D h.1 hD
def blH (q : Nat → Nat) (u : Nat → Nat → Nat) (i k : Nat) : Nat := if k = 0 then q i else u i k
def vH (q : Nat → Nat) (u : Nat → Nat → Nat) : Nat → Nat := fun c => if c < 7 then blH q u 1 (c - 1) else if c < 11 then blH q u 2 (c - 7) else if c < 19 then blH q u 3 (c - 11) else if c < 25 then blH q u 4 (c - 19) else if c < 29 then blH q u 5 (c - 25) else if c < 40 then blH q u 6 (c - 29) else if c < 41 then blH q u 7 (c - 40) else if c < 43 then blH q u 8 (c - 41) else if c < 72 then blH q u 9 (c - 43) else if c < 80 then blH q u 10 (c - 72) else if c < 88 then blH q u 11 (c - 80) else if c < 96 then blH q u 12 (c - 88) else 0
def adH (h0 : Nat) (q : Nat → Nat) (u : Nat → Nat → Nat) : Nat → Nat := fun c => if c = 0 then h0 else vH q u c
def sX0 : St := fun c j => if c = 0 then (if j = 10 then 80 else if j = 11 then 88 else if j = 12 then 2 else 0) else if c = 40 then (if j = 1 then 1 else 0) else if c = 41 then (if j = 1 then (-1) else if j = 2 then (-1) else 0) else if c = 72 then (if j = 9 then (-1) else 0) else if 47 < c then (if c < 72 then (if j = 1 then 1 else 0) else 0) else 0
def wlX (cy : Nat → ClassId) (h0 : Nat) (u : Nat → Nat) : va_W := wd shX cy (fun c => if c = 0 then h0 else u c) sX0
def SB1 : List Shp := [.inr (0, ks_X_1), .inl (0, 24, .inl 0), .inl (0, 24, .inl 0), .inl (0, 24, .inl 0), .inl (0, 24, .inl 0), .inl (0, 24, .inl 0)]
def SB2 : List Shp := [.inr (4, ks_X_7), .inl (0, 12, .inl 0), .inl (0, 12, .inl 0), .inl (0, 12, .inl 0)]
def SB3 : List Shp := [.inr (7, ks_X_11), .inl (0, 12, .inl 0), .inl (0, 24, .inl 0), .inl (0, 24, .inl 0), .inl (0, 12, .inl 0), .inl (0, 24, .inl 0), .inl (0, 24, .inl 0), .inl (0, 12, .inl 0)]
def SB4 : List Shp := [.inr (6, ks_X_19), .inl (0, 200, .inl 0), .inl (0, 200, .inl 0), .inl (0, 200, .inl 0), .inl (0, 200, .inl 0), .inl (0, 200, .inl 0)]
def SB5 : List Shp := [.inr (5, ks_X_25), .inl (0, 12, .inl 0), .inl (0, 288, .inl 0), .inl (0, 288, .inl 0)]
def SB6 : List Shp := [.inr (9, ks_X_29), .inl (1, 12, .inl 1), .inl (1, 12, .inl 1), .inl (0, 5, .inl 0), .inl (6, 5, .inr (fun j => 34 + j)), .inl (1, 6, .inl 1), .inl (1, 6, .inl 1), .inl (1, 6, .inl 1), .inl (1, 6, .inl 1), .inl (1, 6, .inl 1), .inl (1, 32, .inl 1)]
def SB7 : List Shp := [.inr (1, ks_X_40)]
def SB8 : List Shp := [.inr (10, ks_X_41), .inl (3, 300, .inl 0)]
def SB9 : List Shp := [.inr (2, ks_X_43), .inl (0, 24, .inl 0), .inl (4, 24, .inr (fun j => 48 + j)), .inl (0, 24, .inl 0), .inl (2, 24, .inl 0), .inr (1, ks_X_48), .inr (1, ks_X_49), .inr (1, ks_X_50), .inr (1, ks_X_51), .inr (1, ks_X_52), .inr (1, ks_X_53), .inr (1, ks_X_54), .inr (1, ks_X_55), .inr (1, ks_X_56), .inr (1, ks_X_57), .inr (1, ks_X_58), .inr (1, ks_X_59), .inr (1, ks_X_60), .inr (1, ks_X_61), .inr (1, ks_X_62), .inr (1, ks_X_63), .inr (1, ks_X_64), .inr (1, ks_X_65), .inr (1, ks_X_66), .inr (1, ks_X_67), .inr (1, ks_X_68), .inr (1, ks_X_69), .inr (1, ks_X_70), .inr (1, ks_X_71)]
def SB10 : List Shp := [.inr (3, ks_X_72), .inl (0, 24, .inl 0), .inl (0, 4, .inl 0), .inl (0, 4, .inl 0), .inl (0, 4, .inl 0), .inl (0, 4, .inl 0), .inl (0, 4, .inl 0), .inl (0, 4, .inl 0)]
def SB11 : List Shp := [.inr (8, ks_X_80), .inl (0, 8, .inl 0), .inl (2, 8, .inl 0), .inl (5, 4, .inr (fun j => 84 + j)), .inl (0, 8, .inl 0), .inl (0, 8, .inl 0), .inl (0, 8, .inl 0), .inl (0, 8, .inl 0)]
def SB12 : List Shp := [.inr (8, ks_X_88), .inl (0, 8, .inl 0), .inl (2, 8, .inl 0), .inl (5, 4, .inr (fun j => 92 + j)), .inl (0, 8, .inl 0), .inl (0, 8, .inl 0), .inl (0, 8, .inl 0), .inl (0, 8, .inl 0)]
theorem shX_split : shX = .inr (11, ks_X_0) :: (SB1 ++ (SB2 ++ (SB3 ++ (SB4 ++ (SB5 ++ (SB6 ++ (SB7 ++ (SB8 ++ (SB9 ++ (SB10 ++ (SB11 ++ (SB12 ++ [])))))))))))) := rfl
set_option maxRecDepth 100000 in
theorem eb_1 (cy : Nat → ClassId) (h0 : Nat) (q : Nat → Nat) (u : Nat → Nat → Nat) : EQW (wlC_0 cy (q 1) (u 1)) (wg cy (adH h0 q u) sX0 1 SB1) := by
  refine ⟨?_, trivial⟩
  rw [wlC_0, wd_go]
  refine EQL.cons rfl (.inl rfl) ?_
  refine EQL.cons rfl (.inl rfl) ?_
  refine EQL.cons rfl (.inl rfl) ?_
  refine EQL.cons rfl (.inl rfl) ?_
  refine EQL.cons rfl (.inl rfl) ?_
  refine EQL.cons rfl (.inl rfl) ?_
  exact trivial
set_option maxRecDepth 100000 in
theorem eb_2 (cy : Nat → ClassId) (h0 : Nat) (q : Nat → Nat) (u : Nat → Nat → Nat) : EQW (wlC_4 cy (q 2) (u 2)) (wg cy (adH h0 q u) sX0 7 SB2) := by
  refine ⟨?_, trivial⟩
  rw [wlC_4, wd_go]
  refine EQL.cons rfl (.inl rfl) ?_
  refine EQL.cons rfl (.inl rfl) ?_
  refine EQL.cons rfl (.inl rfl) ?_
  refine EQL.cons rfl (.inl rfl) ?_
  exact trivial
set_option maxRecDepth 100000 in
theorem eb_3 (cy : Nat → ClassId) (h0 : Nat) (q : Nat → Nat) (u : Nat → Nat → Nat) : EQW (wlC_7 cy (q 3) (u 3)) (wg cy (adH h0 q u) sX0 11 SB3) := by
  refine ⟨?_, trivial⟩
  rw [wlC_7, wd_go]
  refine EQL.cons rfl (.inl rfl) ?_
  refine EQL.cons rfl (.inl rfl) ?_
  refine EQL.cons rfl (.inl rfl) ?_
  refine EQL.cons rfl (.inl rfl) ?_
  refine EQL.cons rfl (.inl rfl) ?_
  refine EQL.cons rfl (.inl rfl) ?_
  refine EQL.cons rfl (.inl rfl) ?_
  refine EQL.cons rfl (.inl rfl) ?_
  exact trivial
set_option maxRecDepth 100000 in
theorem eb_4 (cy : Nat → ClassId) (h0 : Nat) (q : Nat → Nat) (u : Nat → Nat → Nat) : EQW (wlC_6 cy (q 4) (u 4)) (wg cy (adH h0 q u) sX0 19 SB4) := by
  refine ⟨?_, trivial⟩
  rw [wlC_6, wd_go]
  refine EQL.cons rfl (.inl rfl) ?_
  refine EQL.cons rfl (.inl rfl) ?_
  refine EQL.cons rfl (.inl rfl) ?_
  refine EQL.cons rfl (.inl rfl) ?_
  refine EQL.cons rfl (.inl rfl) ?_
  refine EQL.cons rfl (.inl rfl) ?_
  exact trivial
set_option maxRecDepth 100000 in
theorem eb_5 (cy : Nat → ClassId) (h0 : Nat) (q : Nat → Nat) (u : Nat → Nat → Nat) : EQW (wlC_5 cy (q 5) (u 5)) (wg cy (adH h0 q u) sX0 25 SB5) := by
  refine ⟨?_, trivial⟩
  rw [wlC_5, wd_go]
  refine EQL.cons rfl (.inl rfl) ?_
  refine EQL.cons rfl (.inl rfl) ?_
  refine EQL.cons rfl (.inl rfl) ?_
  refine EQL.cons rfl (.inl rfl) ?_
  exact trivial
set_option maxRecDepth 100000 in
theorem eb_6 (cy : Nat → ClassId) (h0 : Nat) (q : Nat → Nat) (u : Nat → Nat → Nat) : EQW (wlC_9 cy (q 6) (u 6)) (wg cy (adH h0 q u) sX0 29 SB6) := by
  refine ⟨?_, trivial⟩
  rw [wlC_9, wd_go]
  refine EQL.cons rfl (.inl rfl) ?_
  refine EQL.cons rfl (.inl rfl) ?_
  refine EQL.cons rfl (.inl rfl) ?_
  refine EQL.cons rfl (.inl rfl) ?_
  refine EQL.cons rfl (.inr ⟨_, _, _, _, rfl, rfl, fun j hj => by rcases (show j = 0 ∨ j = 1 ∨ j = 2 ∨ j = 3 ∨ j = 4 by omega) with rfl | rfl | rfl | rfl | rfl <;> rfl⟩) ?_
  refine EQL.cons rfl (.inl rfl) ?_
  refine EQL.cons rfl (.inl rfl) ?_
  refine EQL.cons rfl (.inl rfl) ?_
  refine EQL.cons rfl (.inl rfl) ?_
  refine EQL.cons rfl (.inl rfl) ?_
  refine EQL.cons rfl (.inl rfl) ?_
  exact trivial
set_option maxRecDepth 100000 in
theorem eb_7 (cy : Nat → ClassId) (h0 : Nat) (q : Nat → Nat) (u : Nat → Nat → Nat) : EQW (wlC_1 cy (q 7) (u 7)) (wg cy (adH h0 q u) sX0 40 SB7) := by
  refine ⟨?_, trivial⟩
  rw [wlC_1, wd_go]
  refine EQL.cons rfl (.inl rfl) ?_
  exact trivial
set_option maxRecDepth 100000 in
theorem eb_8 (cy : Nat → ClassId) (h0 : Nat) (q : Nat → Nat) (u : Nat → Nat → Nat) : EQW (wlC_10 cy (q 8) (u 8)) (wg cy (adH h0 q u) sX0 41 SB8) := by
  refine ⟨?_, trivial⟩
  rw [wlC_10, wd_go]
  refine EQL.cons rfl (.inl rfl) ?_
  refine EQL.cons rfl (.inl rfl) ?_
  exact trivial
set_option maxRecDepth 100000 in
theorem eb_9 (cy : Nat → ClassId) (h0 : Nat) (q : Nat → Nat) (u : Nat → Nat → Nat) : EQW (wlC_2 cy (q 9) (u 9)) (wg cy (adH h0 q u) sX0 43 SB9) := by
  refine ⟨?_, trivial⟩
  rw [wlC_2, wd_go]
  refine EQL.cons rfl (.inl rfl) ?_
  refine EQL.cons rfl (.inl rfl) ?_
  refine EQL.cons rfl (.inr ⟨_, _, _, _, rfl, rfl, fun j hj => by rcases (show j = 0 ∨ j = 1 ∨ j = 2 ∨ j = 3 ∨ j = 4 ∨ j = 5 ∨ j = 6 ∨ j = 7 ∨ j = 8 ∨ j = 9 ∨ j = 10 ∨ j = 11 ∨ j = 12 ∨ j = 13 ∨ j = 14 ∨ j = 15 ∨ j = 16 ∨ j = 17 ∨ j = 18 ∨ j = 19 ∨ j = 20 ∨ j = 21 ∨ j = 22 ∨ j = 23 by omega) with rfl | rfl | rfl | rfl | rfl | rfl | rfl | rfl | rfl | rfl | rfl | rfl | rfl | rfl | rfl | rfl | rfl | rfl | rfl | rfl | rfl | rfl | rfl | rfl <;> rfl⟩) ?_
  refine EQL.cons rfl (.inl rfl) ?_
  refine EQL.cons rfl (.inl rfl) ?_
  refine EQL.cons rfl (.inl rfl) ?_
  refine EQL.cons rfl (.inl rfl) ?_
  refine EQL.cons rfl (.inl rfl) ?_
  refine EQL.cons rfl (.inl rfl) ?_
  refine EQL.cons rfl (.inl rfl) ?_
  refine EQL.cons rfl (.inl rfl) ?_
  refine EQL.cons rfl (.inl rfl) ?_
  refine EQL.cons rfl (.inl rfl) ?_
  refine EQL.cons rfl (.inl rfl) ?_
  refine EQL.cons rfl (.inl rfl) ?_
  refine EQL.cons rfl (.inl rfl) ?_
  refine EQL.cons rfl (.inl rfl) ?_
  refine EQL.cons rfl (.inl rfl) ?_
  refine EQL.cons rfl (.inl rfl) ?_
  refine EQL.cons rfl (.inl rfl) ?_
  refine EQL.cons rfl (.inl rfl) ?_
  refine EQL.cons rfl (.inl rfl) ?_
  refine EQL.cons rfl (.inl rfl) ?_
  refine EQL.cons rfl (.inl rfl) ?_
  refine EQL.cons rfl (.inl rfl) ?_
  refine EQL.cons rfl (.inl rfl) ?_
  refine EQL.cons rfl (.inl rfl) ?_
  refine EQL.cons rfl (.inl rfl) ?_
  refine EQL.cons rfl (.inl rfl) ?_
  exact trivial
set_option maxRecDepth 100000 in
theorem eb_10 (cy : Nat → ClassId) (h0 : Nat) (q : Nat → Nat) (u : Nat → Nat → Nat) : EQW (wlC_3 cy (q 10) (u 10)) (wg cy (adH h0 q u) sX0 72 SB10) := by
  refine ⟨?_, trivial⟩
  rw [wlC_3, wd_go]
  refine EQL.cons rfl (.inl rfl) ?_
  refine EQL.cons rfl (.inl rfl) ?_
  refine EQL.cons rfl (.inl rfl) ?_
  refine EQL.cons rfl (.inl rfl) ?_
  refine EQL.cons rfl (.inl rfl) ?_
  refine EQL.cons rfl (.inl rfl) ?_
  refine EQL.cons rfl (.inl rfl) ?_
  refine EQL.cons rfl (.inl rfl) ?_
  exact trivial
set_option maxRecDepth 100000 in
theorem eb_11 (cy : Nat → ClassId) (h0 : Nat) (q : Nat → Nat) (u : Nat → Nat → Nat) : EQW (wlC_8 cy (q 11) (u 11)) (wg cy (adH h0 q u) sX0 80 SB11) := by
  refine ⟨?_, trivial⟩
  rw [wlC_8, wd_go]
  refine EQL.cons rfl (.inl rfl) ?_
  refine EQL.cons rfl (.inl rfl) ?_
  refine EQL.cons rfl (.inl rfl) ?_
  refine EQL.cons rfl (.inr ⟨_, _, _, _, rfl, rfl, fun j hj => by rcases (show j = 0 ∨ j = 1 ∨ j = 2 ∨ j = 3 by omega) with rfl | rfl | rfl | rfl <;> rfl⟩) ?_
  refine EQL.cons rfl (.inl rfl) ?_
  refine EQL.cons rfl (.inl rfl) ?_
  refine EQL.cons rfl (.inl rfl) ?_
  refine EQL.cons rfl (.inl rfl) ?_
  exact trivial
set_option maxRecDepth 100000 in
theorem eb_12 (cy : Nat → ClassId) (h0 : Nat) (q : Nat → Nat) (u : Nat → Nat → Nat) : EQW (wlC_8 cy (q 12) (u 12)) (wg cy (adH h0 q u) sX0 88 SB12) := by
  refine ⟨?_, trivial⟩
  rw [wlC_8, wd_go]
  refine EQL.cons rfl (.inl rfl) ?_
  refine EQL.cons rfl (.inl rfl) ?_
  refine EQL.cons rfl (.inl rfl) ?_
  refine EQL.cons rfl (.inr ⟨_, _, _, _, rfl, rfl, fun j hj => by rcases (show j = 0 ∨ j = 1 ∨ j = 2 ∨ j = 3 by omega) with rfl | rfl | rfl | rfl <;> rfl⟩) ?_
  refine EQL.cons rfl (.inl rfl) ?_
  refine EQL.cons rfl (.inl rfl) ?_
  refine EQL.cons rfl (.inl rfl) ?_
  refine EQL.cons rfl (.inl rfl) ?_
  exact trivial
theorem ec_12 (cy : Nat → ClassId) (h0 : Nat) (q : Nat → Nat) (u : Nat → Nat → Nat) : EQW (wlC_8 cy (q 12) (u 12)) (wg cy (adH h0 q u) sX0 88 (SB12 ++ [])) := by
  rw [List.append_nil]
  exact eb_12 cy h0 q u
theorem ln_11 : 80 + SB11.length = 88 := by decide
theorem ec_11 (cy : Nat → ClassId) (h0 : Nat) (q : Nat → Nat) (u : Nat → Nat → Nat) : EQW (wlC_8 cy (q 11) (u 11) ++ wlC_8 cy (q 12) (u 12)) (wg cy (adH h0 q u) sX0 80 (SB11 ++ (SB12 ++ []))) :=
  @EQW.blk cy (adH h0 q u) sX0 (wlC_8 cy (q 11) (u 11)) (wlC_8 cy (q 12) (u 12)) SB11 (SB12 ++ []) 80 88 (eb_11 cy h0 q u) ln_11 (ec_12 cy h0 q u)
theorem ln_10 : 72 + SB10.length = 80 := by decide
theorem ec_10 (cy : Nat → ClassId) (h0 : Nat) (q : Nat → Nat) (u : Nat → Nat → Nat) : EQW (wlC_3 cy (q 10) (u 10) ++ (wlC_8 cy (q 11) (u 11) ++ wlC_8 cy (q 12) (u 12))) (wg cy (adH h0 q u) sX0 72 (SB10 ++ (SB11 ++ (SB12 ++ [])))) :=
  @EQW.blk cy (adH h0 q u) sX0 (wlC_3 cy (q 10) (u 10)) ((wlC_8 cy (q 11) (u 11) ++ wlC_8 cy (q 12) (u 12))) SB10 (SB11 ++ (SB12 ++ [])) 72 80 (eb_10 cy h0 q u) ln_10 (ec_11 cy h0 q u)
theorem ln_9 : 43 + SB9.length = 72 := by decide
theorem ec_9 (cy : Nat → ClassId) (h0 : Nat) (q : Nat → Nat) (u : Nat → Nat → Nat) : EQW (wlC_2 cy (q 9) (u 9) ++ (wlC_3 cy (q 10) (u 10) ++ (wlC_8 cy (q 11) (u 11) ++ wlC_8 cy (q 12) (u 12)))) (wg cy (adH h0 q u) sX0 43 (SB9 ++ (SB10 ++ (SB11 ++ (SB12 ++ []))))) :=
  @EQW.blk cy (adH h0 q u) sX0 (wlC_2 cy (q 9) (u 9)) ((wlC_3 cy (q 10) (u 10) ++ (wlC_8 cy (q 11) (u 11) ++ wlC_8 cy (q 12) (u 12)))) SB9 (SB10 ++ (SB11 ++ (SB12 ++ []))) 43 72 (eb_9 cy h0 q u) ln_9 (ec_10 cy h0 q u)
theorem ln_8 : 41 + SB8.length = 43 := by decide
theorem ec_8 (cy : Nat → ClassId) (h0 : Nat) (q : Nat → Nat) (u : Nat → Nat → Nat) : EQW (wlC_10 cy (q 8) (u 8) ++ (wlC_2 cy (q 9) (u 9) ++ (wlC_3 cy (q 10) (u 10) ++ (wlC_8 cy (q 11) (u 11) ++ wlC_8 cy (q 12) (u 12))))) (wg cy (adH h0 q u) sX0 41 (SB8 ++ (SB9 ++ (SB10 ++ (SB11 ++ (SB12 ++ [])))))) :=
  @EQW.blk cy (adH h0 q u) sX0 (wlC_10 cy (q 8) (u 8)) ((wlC_2 cy (q 9) (u 9) ++ (wlC_3 cy (q 10) (u 10) ++ (wlC_8 cy (q 11) (u 11) ++ wlC_8 cy (q 12) (u 12))))) SB8 (SB9 ++ (SB10 ++ (SB11 ++ (SB12 ++ [])))) 41 43 (eb_8 cy h0 q u) ln_8 (ec_9 cy h0 q u)
theorem ln_7 : 40 + SB7.length = 41 := by decide
theorem ec_7 (cy : Nat → ClassId) (h0 : Nat) (q : Nat → Nat) (u : Nat → Nat → Nat) : EQW (wlC_1 cy (q 7) (u 7) ++ (wlC_10 cy (q 8) (u 8) ++ (wlC_2 cy (q 9) (u 9) ++ (wlC_3 cy (q 10) (u 10) ++ (wlC_8 cy (q 11) (u 11) ++ wlC_8 cy (q 12) (u 12)))))) (wg cy (adH h0 q u) sX0 40 (SB7 ++ (SB8 ++ (SB9 ++ (SB10 ++ (SB11 ++ (SB12 ++ []))))))) :=
  @EQW.blk cy (adH h0 q u) sX0 (wlC_1 cy (q 7) (u 7)) ((wlC_10 cy (q 8) (u 8) ++ (wlC_2 cy (q 9) (u 9) ++ (wlC_3 cy (q 10) (u 10) ++ (wlC_8 cy (q 11) (u 11) ++ wlC_8 cy (q 12) (u 12)))))) SB7 (SB8 ++ (SB9 ++ (SB10 ++ (SB11 ++ (SB12 ++ []))))) 40 41 (eb_7 cy h0 q u) ln_7 (ec_8 cy h0 q u)
theorem ln_6 : 29 + SB6.length = 40 := by decide
theorem ec_6 (cy : Nat → ClassId) (h0 : Nat) (q : Nat → Nat) (u : Nat → Nat → Nat) : EQW (wlC_9 cy (q 6) (u 6) ++ (wlC_1 cy (q 7) (u 7) ++ (wlC_10 cy (q 8) (u 8) ++ (wlC_2 cy (q 9) (u 9) ++ (wlC_3 cy (q 10) (u 10) ++ (wlC_8 cy (q 11) (u 11) ++ wlC_8 cy (q 12) (u 12))))))) (wg cy (adH h0 q u) sX0 29 (SB6 ++ (SB7 ++ (SB8 ++ (SB9 ++ (SB10 ++ (SB11 ++ (SB12 ++ [])))))))) :=
  @EQW.blk cy (adH h0 q u) sX0 (wlC_9 cy (q 6) (u 6)) ((wlC_1 cy (q 7) (u 7) ++ (wlC_10 cy (q 8) (u 8) ++ (wlC_2 cy (q 9) (u 9) ++ (wlC_3 cy (q 10) (u 10) ++ (wlC_8 cy (q 11) (u 11) ++ wlC_8 cy (q 12) (u 12))))))) SB6 (SB7 ++ (SB8 ++ (SB9 ++ (SB10 ++ (SB11 ++ (SB12 ++ [])))))) 29 40 (eb_6 cy h0 q u) ln_6 (ec_7 cy h0 q u)
theorem ln_5 : 25 + SB5.length = 29 := by decide
theorem ec_5 (cy : Nat → ClassId) (h0 : Nat) (q : Nat → Nat) (u : Nat → Nat → Nat) : EQW (wlC_5 cy (q 5) (u 5) ++ (wlC_9 cy (q 6) (u 6) ++ (wlC_1 cy (q 7) (u 7) ++ (wlC_10 cy (q 8) (u 8) ++ (wlC_2 cy (q 9) (u 9) ++ (wlC_3 cy (q 10) (u 10) ++ (wlC_8 cy (q 11) (u 11) ++ wlC_8 cy (q 12) (u 12)))))))) (wg cy (adH h0 q u) sX0 25 (SB5 ++ (SB6 ++ (SB7 ++ (SB8 ++ (SB9 ++ (SB10 ++ (SB11 ++ (SB12 ++ []))))))))) :=
  @EQW.blk cy (adH h0 q u) sX0 (wlC_5 cy (q 5) (u 5)) ((wlC_9 cy (q 6) (u 6) ++ (wlC_1 cy (q 7) (u 7) ++ (wlC_10 cy (q 8) (u 8) ++ (wlC_2 cy (q 9) (u 9) ++ (wlC_3 cy (q 10) (u 10) ++ (wlC_8 cy (q 11) (u 11) ++ wlC_8 cy (q 12) (u 12)))))))) SB5 (SB6 ++ (SB7 ++ (SB8 ++ (SB9 ++ (SB10 ++ (SB11 ++ (SB12 ++ []))))))) 25 29 (eb_5 cy h0 q u) ln_5 (ec_6 cy h0 q u)
theorem ln_4 : 19 + SB4.length = 25 := by decide
theorem ec_4 (cy : Nat → ClassId) (h0 : Nat) (q : Nat → Nat) (u : Nat → Nat → Nat) : EQW (wlC_6 cy (q 4) (u 4) ++ (wlC_5 cy (q 5) (u 5) ++ (wlC_9 cy (q 6) (u 6) ++ (wlC_1 cy (q 7) (u 7) ++ (wlC_10 cy (q 8) (u 8) ++ (wlC_2 cy (q 9) (u 9) ++ (wlC_3 cy (q 10) (u 10) ++ (wlC_8 cy (q 11) (u 11) ++ wlC_8 cy (q 12) (u 12))))))))) (wg cy (adH h0 q u) sX0 19 (SB4 ++ (SB5 ++ (SB6 ++ (SB7 ++ (SB8 ++ (SB9 ++ (SB10 ++ (SB11 ++ (SB12 ++ [])))))))))) :=
  @EQW.blk cy (adH h0 q u) sX0 (wlC_6 cy (q 4) (u 4)) ((wlC_5 cy (q 5) (u 5) ++ (wlC_9 cy (q 6) (u 6) ++ (wlC_1 cy (q 7) (u 7) ++ (wlC_10 cy (q 8) (u 8) ++ (wlC_2 cy (q 9) (u 9) ++ (wlC_3 cy (q 10) (u 10) ++ (wlC_8 cy (q 11) (u 11) ++ wlC_8 cy (q 12) (u 12))))))))) SB4 (SB5 ++ (SB6 ++ (SB7 ++ (SB8 ++ (SB9 ++ (SB10 ++ (SB11 ++ (SB12 ++ [])))))))) 19 25 (eb_4 cy h0 q u) ln_4 (ec_5 cy h0 q u)
theorem ln_3 : 11 + SB3.length = 19 := by decide
theorem ec_3 (cy : Nat → ClassId) (h0 : Nat) (q : Nat → Nat) (u : Nat → Nat → Nat) : EQW (wlC_7 cy (q 3) (u 3) ++ (wlC_6 cy (q 4) (u 4) ++ (wlC_5 cy (q 5) (u 5) ++ (wlC_9 cy (q 6) (u 6) ++ (wlC_1 cy (q 7) (u 7) ++ (wlC_10 cy (q 8) (u 8) ++ (wlC_2 cy (q 9) (u 9) ++ (wlC_3 cy (q 10) (u 10) ++ (wlC_8 cy (q 11) (u 11) ++ wlC_8 cy (q 12) (u 12)))))))))) (wg cy (adH h0 q u) sX0 11 (SB3 ++ (SB4 ++ (SB5 ++ (SB6 ++ (SB7 ++ (SB8 ++ (SB9 ++ (SB10 ++ (SB11 ++ (SB12 ++ []))))))))))) :=
  @EQW.blk cy (adH h0 q u) sX0 (wlC_7 cy (q 3) (u 3)) ((wlC_6 cy (q 4) (u 4) ++ (wlC_5 cy (q 5) (u 5) ++ (wlC_9 cy (q 6) (u 6) ++ (wlC_1 cy (q 7) (u 7) ++ (wlC_10 cy (q 8) (u 8) ++ (wlC_2 cy (q 9) (u 9) ++ (wlC_3 cy (q 10) (u 10) ++ (wlC_8 cy (q 11) (u 11) ++ wlC_8 cy (q 12) (u 12)))))))))) SB3 (SB4 ++ (SB5 ++ (SB6 ++ (SB7 ++ (SB8 ++ (SB9 ++ (SB10 ++ (SB11 ++ (SB12 ++ []))))))))) 11 19 (eb_3 cy h0 q u) ln_3 (ec_4 cy h0 q u)
theorem ln_2 : 7 + SB2.length = 11 := by decide
theorem ec_2 (cy : Nat → ClassId) (h0 : Nat) (q : Nat → Nat) (u : Nat → Nat → Nat) : EQW (wlC_4 cy (q 2) (u 2) ++ (wlC_7 cy (q 3) (u 3) ++ (wlC_6 cy (q 4) (u 4) ++ (wlC_5 cy (q 5) (u 5) ++ (wlC_9 cy (q 6) (u 6) ++ (wlC_1 cy (q 7) (u 7) ++ (wlC_10 cy (q 8) (u 8) ++ (wlC_2 cy (q 9) (u 9) ++ (wlC_3 cy (q 10) (u 10) ++ (wlC_8 cy (q 11) (u 11) ++ wlC_8 cy (q 12) (u 12))))))))))) (wg cy (adH h0 q u) sX0 7 (SB2 ++ (SB3 ++ (SB4 ++ (SB5 ++ (SB6 ++ (SB7 ++ (SB8 ++ (SB9 ++ (SB10 ++ (SB11 ++ (SB12 ++ [])))))))))))) :=
  @EQW.blk cy (adH h0 q u) sX0 (wlC_4 cy (q 2) (u 2)) ((wlC_7 cy (q 3) (u 3) ++ (wlC_6 cy (q 4) (u 4) ++ (wlC_5 cy (q 5) (u 5) ++ (wlC_9 cy (q 6) (u 6) ++ (wlC_1 cy (q 7) (u 7) ++ (wlC_10 cy (q 8) (u 8) ++ (wlC_2 cy (q 9) (u 9) ++ (wlC_3 cy (q 10) (u 10) ++ (wlC_8 cy (q 11) (u 11) ++ wlC_8 cy (q 12) (u 12))))))))))) SB2 (SB3 ++ (SB4 ++ (SB5 ++ (SB6 ++ (SB7 ++ (SB8 ++ (SB9 ++ (SB10 ++ (SB11 ++ (SB12 ++ [])))))))))) 7 11 (eb_2 cy h0 q u) ln_2 (ec_3 cy h0 q u)
theorem ln_1 : 1 + SB1.length = 7 := by decide
theorem ec_1 (cy : Nat → ClassId) (h0 : Nat) (q : Nat → Nat) (u : Nat → Nat → Nat) : EQW (wlC_0 cy (q 1) (u 1) ++ (wlC_4 cy (q 2) (u 2) ++ (wlC_7 cy (q 3) (u 3) ++ (wlC_6 cy (q 4) (u 4) ++ (wlC_5 cy (q 5) (u 5) ++ (wlC_9 cy (q 6) (u 6) ++ (wlC_1 cy (q 7) (u 7) ++ (wlC_10 cy (q 8) (u 8) ++ (wlC_2 cy (q 9) (u 9) ++ (wlC_3 cy (q 10) (u 10) ++ (wlC_8 cy (q 11) (u 11) ++ wlC_8 cy (q 12) (u 12)))))))))))) (wg cy (adH h0 q u) sX0 1 (SB1 ++ (SB2 ++ (SB3 ++ (SB4 ++ (SB5 ++ (SB6 ++ (SB7 ++ (SB8 ++ (SB9 ++ (SB10 ++ (SB11 ++ (SB12 ++ []))))))))))))) :=
  @EQW.blk cy (adH h0 q u) sX0 (wlC_0 cy (q 1) (u 1)) ((wlC_4 cy (q 2) (u 2) ++ (wlC_7 cy (q 3) (u 3) ++ (wlC_6 cy (q 4) (u 4) ++ (wlC_5 cy (q 5) (u 5) ++ (wlC_9 cy (q 6) (u 6) ++ (wlC_1 cy (q 7) (u 7) ++ (wlC_10 cy (q 8) (u 8) ++ (wlC_2 cy (q 9) (u 9) ++ (wlC_3 cy (q 10) (u 10) ++ (wlC_8 cy (q 11) (u 11) ++ wlC_8 cy (q 12) (u 12)))))))))))) SB1 (SB2 ++ (SB3 ++ (SB4 ++ (SB5 ++ (SB6 ++ (SB7 ++ (SB8 ++ (SB9 ++ (SB10 ++ (SB11 ++ (SB12 ++ []))))))))))) 1 7 (eb_1 cy h0 q u) ln_1 (ec_2 cy h0 q u)
def hdH (q : Nat → Nat) : va_E := .inr (11, [.ref (q 1), .ref (q 2), .ref (q 3), .ref (q 4), .ref (q 5), .ref (q 6), .ref (q 7), .ref (q 8), .ref (q 9), .ref (q 10), .ref (q 11), .ref (q 12), mI 2, mI 0])
theorem wlH_eq (cy : Nat → ClassId) (h0 : Nat) (q : Nat → Nat) (u : Nat → Nat → Nat) : wlH cy h0 q u = (h0, hdH q) :: (wlC_0 cy (q 1) (u 1) ++ (wlC_4 cy (q 2) (u 2) ++ (wlC_7 cy (q 3) (u 3) ++ (wlC_6 cy (q 4) (u 4) ++ (wlC_5 cy (q 5) (u 5) ++ (wlC_9 cy (q 6) (u 6) ++ (wlC_1 cy (q 7) (u 7) ++ (wlC_10 cy (q 8) (u 8) ++ (wlC_2 cy (q 9) (u 9) ++ (wlC_3 cy (q 10) (u 10) ++ (wlC_8 cy (q 11) (u 11) ++ wlC_8 cy (q 12) (u 12)))))))))))) := by
  rw [wlH, hdH]
  simp only [List.append_assoc]
theorem wlX_eq (cy : Nat → ClassId) (h0 : Nat) (q : Nat → Nat) (u : Nat → Nat → Nat) : wlX cy h0 (vH q u) = (h0, cg cy (adH h0 q u) (.inr (11, ks_X_0)) (sX0 0)) :: wg cy (adH h0 q u) sX0 1 (SB1 ++ (SB2 ++ (SB3 ++ (SB4 ++ (SB5 ++ (SB6 ++ (SB7 ++ (SB8 ++ (SB9 ++ (SB10 ++ (SB11 ++ (SB12 ++ [])))))))))))) := by
  rw [wlX, wd_go, shX_split]
  rfl
theorem hd_eq (cy : Nat → ClassId) (h0 : Nat) (q : Nat → Nat) (u : Nat → Nat → Nat) : hdH q = cg cy (adH h0 q u) (.inr (11, ks_X_0)) (sX0 0) := rfl
theorem eq_H (cy : Nat → ClassId) (h0 : Nat) (q : Nat → Nat) (u : Nat → Nat → Nat) : EQW (wlH cy h0 q u) (wlX cy h0 (vH q u)) := by
  rw [wlH_eq, wlX_eq]
  exact @EQW.cons h0 h0 (hdH q) (cg cy (adH h0 q u) (.inr (11, ks_X_0)) (sX0 0)) (wlC_0 cy (q 1) (u 1) ++ (wlC_4 cy (q 2) (u 2) ++ (wlC_7 cy (q 3) (u 3) ++ (wlC_6 cy (q 4) (u 4) ++ (wlC_5 cy (q 5) (u 5) ++ (wlC_9 cy (q 6) (u 6) ++ (wlC_1 cy (q 7) (u 7) ++ (wlC_10 cy (q 8) (u 8) ++ (wlC_2 cy (q 9) (u 9) ++ (wlC_3 cy (q 10) (u 10) ++ (wlC_8 cy (q 11) (u 11) ++ wlC_8 cy (q 12) (u 12)))))))))))) (wg cy (adH h0 q u) sX0 1 (SB1 ++ (SB2 ++ (SB3 ++ (SB4 ++ (SB5 ++ (SB6 ++ (SB7 ++ (SB8 ++ (SB9 ++ (SB10 ++ (SB11 ++ (SB12 ++ []))))))))))))) rfl (.inl (hd_eq cy h0 q u)) (ec_1 cy h0 q u)
theorem hwlX : ∀ (cy : Nat → ClassId) (h0 : Nat) (q : Nat → Nat) (u : Nat → Nat → Nat), ∃ v, (∀ D H, va_P D vwCl (wlH cy h0 q u) H → va_P D vwCl (wlX cy h0 v) H) ∧ ∀ A, va_D A (wlH cy h0 q u) → va_D A (wlX cy h0 v) := by
  intro cy h0 q u
  have e := eq_H cy h0 q u
  generalize wlH cy h0 q u = L1 at e ⊢
  refine ⟨vH q u, ?_⟩
  generalize wlX cy h0 (vH q u) = L2 at e ⊢
  exact ⟨fun D H hP => EQW.P e hP, fun A hD => EQW.D e hD⟩
theorem c_H_init {l : Launch} : MC l yX11_init cX11_init 1 rm_C_11 11 fsC_11 wlX := c_C_11 (wl := wlX) hwlX
