/-! LAYER 2: the relation of both states, and tools to walk through the functions. -/
def T {α : Type} (x : Option α) (P : α → Prop) : Prop := ∃ a, x = some a ∧ P a
theorem T_some {α : Type} {a : α} {P : α → Prop} (h : P a) : T (some a) P := ⟨a, rfl, h⟩
theorem T_eq {α : Type} {x : Option α} {a : α} {P : α → Prop} (h : x = some a) (hp : P a) : T x P := ⟨a, h, hp⟩
theorem T_bind {α β : Type} {x : Option α} {f : α → Option β} {P : β → Prop} (h : T x (fun a => T (f a) P)) : T (x.bind f) P := by
  obtain ⟨a, rfl, b, hb, hP⟩ := h
  exact ⟨b, hb, hP⟩
theorem T_gd {α : Type} {q : Prop} [Decidable q] {x : Option α} {P : α → Prop} (hq : q) (h : T x P) : T (gd q x) P := by
  unfold gd
  rw [if_pos hq]
  exact h
theorem T_if {α : Type} {q : Prop} [Decidable q] {x y : Option α} {P : α → Prop} (h1 : q → T x P) (h2 : ¬ q → T y P) : T (if q then x else y) P := by
  by_cases hq : q
  · rw [if_pos hq]; exact h1 hq
  · rw [if_neg hq]; exact h2 hq
theorem T_yes {α : Type} {q : Prop} [Decidable q] {x y : Option α} {P : α → Prop} (hq : q) (h1 : T x P) : T (if q then x else y) P := by rw [if_pos hq]; exact h1
theorem T_no {α : Type} {q : Prop} [Decidable q] {x y : Option α} {P : α → Prop} (hq : ¬ q) (h1 : T y P) : T (if q then x else y) P := by rw [if_neg hq]; exact h1
theorem T_mono {α : Type} {x : Option α} {P Q : α → Prop} (h : T x P) (hpq : ∀ a, P a → Q a) : T x Q := by
  obtain ⟨a, ha, hp⟩ := h
  exact ⟨a, ha, hpq a hp⟩
theorem gd_yes {α : Type} {q : Prop} [Decidable q] {x : Option α} (hq : q) : gd q x = x := by unfold gd; rw [if_pos hq]
theorem wid {a : Int} (h1 : -2147483648 ≤ a) (h2 : a < 2147483648) : w32 a = a := fb_ofI h1 h2
theorem w32_rng (a : Int) : -2147483648 ≤ w32 a ∧ w32 a < 2147483648 := fb_rng _
theorem w32_w32 (a : Int) : w32 (w32 a) = w32 a := wid (w32_rng a).1 (w32_rng a).2
theorem wnat {k : Nat} (h : k < 2147483648) : w32 (k : Int) = k := wid (by omega) (by omega)
theorem w64_rng (a : Int) : -9223372036854775808 ≤ w64 a ∧ w64 a < 9223372036854775808 := fb_rngL _
theorem w64_id {a : Int} (h1 : -9223372036854775808 ≤ a) (h2 : a < 9223372036854775808) : w64 a = a := by
  unfold w64
  rw [Int64.toInt_ofInt]
  exact fb_bmodL h1 h2
theorem ix_nat {k : Nat} (h : k < 2147483648) : ix (k : Int) = k := by
  unfold ix
  rw [wnat h]
  rfl
theorem ix_id {a : Int} (h1 : 0 ≤ a) (h2 : a < 2147483648) : ix a = a.toNat := by
  unfold ix
  rw [wid (by omega) h2]
theorem inb_id {a : Int} {n : Nat} (h1 : 0 ≤ a) (h2 : a < n) (h3 : n < 2147483648) : inb a n := by
  unfold inb
  rw [wid (by omega) (by omega)]
  exact ⟨h1, h2⟩
theorem put_eq (s : St) (c j : Nat) (v : Int) : put s c j v c j = v := if_pos ⟨rfl, rfl⟩
theorem put_c {s : St} {c j c2 j2 : Nat} {v : Int} (h : c2 ≠ c) : put s c j v c2 j2 = s c2 j2 := if_neg (fun q => h q.1)
theorem put_j {s : St} {c j c2 j2 : Nat} {v : Int} (h : j2 ≠ j) : put s c j v c2 j2 = s c2 j2 := if_neg (fun q => h q.2)
theorem put_at (s : St) (c j j2 : Nat) (v : Int) : put s c j v c j2 = if j2 = j then v else s c j2 := by
  unfold put
  by_cases h : j2 = j
  · rw [if_pos ⟨rfl, h⟩, if_pos h]
  · rw [if_neg (fun q => h q.2), if_neg h]
theorem nz_0 : nz 0 = 0 := by decide
theorem nz_1 : nz 1 = 1 := by decide
def frs (S : Nat → Nat → Bool) (s t : St) : Prop := ∀ c j, S c j = false → t c j = s c j
theorem frs_refl (S : Nat → Nat → Bool) (s : St) : frs S s s := fun _ _ _ => rfl
theorem frs_trans {S : Nat → Nat → Bool} {s t u : St} (h1 : frs S s t) (h2 : frs S t u) : frs S s u := fun c j h => (h2 c j h).trans (h1 c j h)
theorem frs_put {S : Nat → Nat → Bool} {s t : St} {c j : Nat} {v : Int} (h1 : frs S s t) (h2 : S c j = true) : frs S s (put t c j v) := fun c2 j2 h => by
  unfold put
  rw [if_neg (fun q => by rw [q.1, q.2, h2] at h; cases h)]
  exact h1 c2 j2 h
theorem frs_sub {S S2 : Nat → Nat → Bool} {s t : St} (h1 : frs S s t) (h2 : ∀ c j, S c j = true → S2 c j = true) : frs S2 s t := fun c j h => h1 c j (by
  cases e : S c j with
  | false => rfl
  | true => rw [h2 c j e] at h; cases h)
/-! the groups of the relation -/
def IB (sx sm : St) : Prop := (sx 1 0 = sm 0 4 ∧ 0 ≤ sm 0 4 ∧ sm 0 4 ≤ 24) ∧ ∀ b : Nat, (b : Int) < sm 0 4 → (sx 2 b = sm 1 b ∧ 0 ≤ sm 1 b ∧ sm 1 b ≤ 7) ∧ (sx 3 b = sm 2 b ∧ 0 ≤ sm 2 b ∧ sm 2 b ≤ 3) ∧ (sx 4 b = sm 3 b ∧ 0 ≤ sm 3 b ∧ sm 3 b ≤ 15) ∧ (sx 5 b = sm 4 b ∧ 0 ≤ sm 4 b ∧ sm 4 b ≤ 99) ∧ (sx 6 b = sm 8 b ∧ 0 ≤ sm 8 b ∧ sm 8 b ≤ 1)
def IJ (sx sm : St) : Prop := (sx 7 0 = sm 0 5 ∧ 0 ≤ sm 0 5 ∧ sm 0 5 ≤ 12) ∧ ∀ j : Nat, (j : Int) < sm 0 5 → (sx 8 j = sm 5 j ∧ 0 ≤ sm 5 j ∧ sm 5 j ≤ 255) ∧ (sx 9 j = sm 6 j ∧ -1 ≤ sm 6 j ∧ sm 6 j ≤ 15) ∧ (sx 10 j = sm 7 j ∧ 0 ≤ sm 7 j ∧ sm 7 j ≤ 24)
def IL (sx sm : St) : Prop := sx 0 12 = sm 0 6 ∧ 1 ≤ sm 0 6 ∧ sm 0 6 ≤ 4
def IS (sx sm : St) : Prop := sx 0 13 = sm 0 0
def IM (sx sm : St) : Prop := (sx 19 0 = sm 0 29 ∧ 0 ≤ sm 0 29 ∧ sm 0 29 ≤ 200) ∧ ∀ k : Nat, (k : Int) < sm 0 29 → (sx 20 k = sm 20 k ∧ 0 ≤ sm 20 k ∧ sm 20 k < sm 0 5) ∧ (sx 21 k = sm 21 k ∧ 0 ≤ sm 21 k ∧ sm 21 k < sm 0 4) ∧ (sx 22 k = sm 22 k ∧ 0 ≤ sm 22 k ∧ sm 22 k ≤ 100) ∧ (sx 23 k = sm 23 k ∧ 0 ≤ sm 23 k ∧ sm 23 k ≤ 999) ∧ (sx 24 k = sm 24 k ∧ -1 ≤ sm 24 k ∧ sm 24 k ≤ 999)
def IF (sx sm : St) : Prop := w64 (sx 40 0) = w64 (sm 0 2) ∧ w64 (sx 40 1) = w64 (sm 0 3)
def IT (sx sm : St) : Prop := (sx 41 0 = sm 0 45 ∧ 0 ≤ sm 0 45 ∧ sm 0 45 ≤ 300) ∧ (sx 41 1 = sm 0 47) ∧ (sx 41 2 = sm 0 48) ∧ ∀ k : Nat, sx 42 k = sm 32 k ∧ -128 ≤ sm 32 k ∧ sm 32 k ≤ 127
def IRr (P : Nat) (sx sm : St) : Prop := (sx P 0 = sm 0 51 ∧ 0 ≤ sm 0 51 ∧ sm 0 51 ≤ 8) ∧ ∀ p : Nat, (p : Int) < sm 0 51 → (sx (P + 4) p = sm 33 p ∧ -1 ≤ sm 33 p ∧ sm 33 p ≤ 7) ∧ (sx (P + 5) p = sm 34 p ∧ -1 ≤ sm 34 p ∧ sm 34 p ≤ 3) ∧ (sx (P + 6) p = sm 35 p ∧ -1 ≤ sm 35 p ∧ sm 35 p ≤ 15) ∧ (((sx (P + 7) p = -1 ∧ sm 36 p = 1) ∨ sx (P + 7) p = sm 36 p) ∧ 1 ≤ sm 36 p ∧ sm 36 p ≤ 12) ∧ (sx (P + 1) p = sm 37 p ∧ 1 ≤ sm 37 p ∧ sm 37 p ≤ 24) ∧ (sx (P + 2) p = sm 38 p ∧ 0 ≤ sm 38 p ∧ sm 38 p ≤ 1)
def IR (sx sm : St) : Prop := (sx 0 10 = 80 ∧ sx 0 11 = 88 ∧ IRr 80 sx sm) ∨ (sx 0 10 = 88 ∧ sx 0 11 = 80 ∧ IRr 88 sx sm)
def SAMEH (m : Nat) (s t : St) : Prop := t 0 4 = m ∧ t 0 70 = s 0 70 ∧ (∀ b : Nat, b < m → t 4 b = s 4 b ∧ t 8 b = s 8 b) ∧ ∀ h : Nat, (h : Int) < s 0 70 → t 50 h = s 50 h ∧ t 51 h = s 51 h ∧ t 52 h = s 52 h
def CACHE (F : Nat) (m : Nat) (sx sm : St) : Prop := (m : Int) ≤ sm 0 4 ∧ ∀ t, SAMEH m sm t → T (f_M_lays F t) (fun q => q.1 = sx 72 10 ∧ 0 ≤ q.1 ∧ q.1 ≤ 10 ∧ q.2 0 71 = sx 72 1 ∧ (∀ b : Nat, b < m → q.1 = 0 → q.2 53 b = sx 73 b) ∧ frs (fun c j => c == 53 || c == 54 || c == 55 || c == 56 || (c == 0 && j == 71)) t q.2)
def IH (F : Nat) (sx sm : St) : Prop := (sx 72 0 = sm 0 70 ∧ 0 ≤ sm 0 70 ∧ sm 0 70 ≤ 4) ∧ (∀ h : Nat, (h : Int) < sm 0 70 → (sx 74 h = sm 50 h ∧ 0 ≤ sm 50 h ∧ sm 50 h ≤ 24) ∧ (sx 75 h = sm 51 h ∧ 0 ≤ sm 51 h ∧ sm 51 h ≤ 999) ∧ (sx 76 h = sm 52 h ∧ 0 ≤ sm 52 h ∧ sm 52 h ≤ 24)) ∧ (sx 72 9 = -1 ∨ ∃ m : Nat, sx 72 9 = m ∧ CACHE F m sx sm)
def IP (sx sm : St) : Prop := (sx 11 0 = sm 0 15 ∧ (sm 0 15 = 0 ∨ sm 0 15 = 1)) ∧ (sm 0 15 = 1 → (sx 11 1 = sm 0 16 ∧ 0 ≤ sm 0 16 ∧ sm 0 16 ≤ 24) ∧ (sx 11 2 = sm 0 17 ∧ 0 ≤ sm 0 17 ∧ sm 0 17 ≤ 12) ∧ ∀ b : Nat, (b : Int) < sm 0 16 → (andI (shrI (sx 11 4) b) 1 = sm 11 b ∧ 0 ≤ sm 11 b ∧ sm 11 b ≤ 1) ∧ ∀ j : Nat, (j : Int) < sm 0 17 → andI (shrI (sx 14 b) j) 1 = sm 9 (12 * b + j) ∧ 0 ≤ sm 9 (12 * b + j) ∧ sm 9 (12 * b + j) ≤ 1)
def INV (F : Nat) (sx sm : St) : Prop := IB sx sm ∧ IJ sx sm ∧ IL sx sm ∧ IS sx sm ∧ IM sx sm ∧ IF sx sm ∧ IT sx sm ∧ IR sx sm ∧ IH F sx sm ∧ IP sx sm
/-! what the groups read -/
def gX (c j : Nat) : Nat := if c = 0 then (if j = 10 ∨ j = 11 then 8 else if j = 12 then 3 else if j = 13 then 4 else 0) else if c ≤ 6 then 1 else if c ≤ 10 then 2 else if c = 11 then (if j = 0 ∨ j = 1 ∨ j = 2 ∨ j = 4 then 10 else 0) else if c = 14 then 10 else if c < 19 then 0 else if c ≤ 24 then 5 else if c = 40 then 6 else if c = 41 then (if j ≤ 2 then 7 else 0) else if c = 42 then 7 else if c = 72 then (if j = 0 ∨ j = 1 ∨ j = 9 ∨ j = 10 then 9 else 0) else if c < 72 then 0 else if c ≤ 76 then 9 else if c < 80 then 0 else if c < 96 then 8 else 0
def gM (c j : Nat) : Nat := if c = 0 then (if j = 0 then 4 else if j = 2 ∨ j = 3 then 6 else if j = 4 then 1 else if j = 5 then 2 else if j = 6 then 3 else if j = 15 ∨ j = 16 ∨ j = 17 then 10 else if j = 29 then 5 else if j = 45 ∨ j = 47 ∨ j = 48 then 7 else if j = 51 then 8 else if j = 70 then 9 else 0) else if c ≤ 4 then 1 else if c ≤ 7 then 2 else if c = 8 then 1 else if c = 9 ∨ c = 11 then 10 else if c < 20 then 0 else if c ≤ 24 then 5 else if c < 32 then 0 else if c = 32 then 7 else if c ≤ 38 then 8 else if c < 50 then 0 else if c ≤ 52 then 9 else 0
section CG
variable {sx sm sx2 sm2 : St}
theorem IB_cong (hx : ∀ c j, gX c j = 1 → sx2 c j = sx c j) (hm : ∀ c j, gM c j = 1 → sm2 c j = sm c j) (h : IB sx sm) : IB sx2 sm2 := by
  have a1 : sx2 1 0 = sx 1 0 := hx _ _ rfl
  have a2 : ∀ b, sx2 2 b = sx 2 b := fun b => hx _ _ rfl
  have a3 : ∀ b, sx2 3 b = sx 3 b := fun b => hx _ _ rfl
  have a4 : ∀ b, sx2 4 b = sx 4 b := fun b => hx _ _ rfl
  have a5 : ∀ b, sx2 5 b = sx 5 b := fun b => hx _ _ rfl
  have a6 : ∀ b, sx2 6 b = sx 6 b := fun b => hx _ _ rfl
  have b0 : sm2 0 4 = sm 0 4 := hm _ _ rfl
  have b1 : ∀ b, sm2 1 b = sm 1 b := fun b => hm _ _ rfl
  have b2 : ∀ b, sm2 2 b = sm 2 b := fun b => hm _ _ rfl
  have b3 : ∀ b, sm2 3 b = sm 3 b := fun b => hm _ _ rfl
  have b4 : ∀ b, sm2 4 b = sm 4 b := fun b => hm _ _ rfl
  have b8 : ∀ b, sm2 8 b = sm 8 b := fun b => hm _ _ rfl
  unfold IB at *
  simp only [a1, a2, a3, a4, a5, a6, b0, b1, b2, b3, b4, b8]
  exact h
theorem IJ_cong (hx : ∀ c j, gX c j = 2 → sx2 c j = sx c j) (hm : ∀ c j, gM c j = 2 → sm2 c j = sm c j) (h : IJ sx sm) : IJ sx2 sm2 := by
  have a1 : sx2 7 0 = sx 7 0 := hx _ _ rfl
  have a2 : ∀ b, sx2 8 b = sx 8 b := fun b => hx _ _ rfl
  have a3 : ∀ b, sx2 9 b = sx 9 b := fun b => hx _ _ rfl
  have a4 : ∀ b, sx2 10 b = sx 10 b := fun b => hx _ _ rfl
  have b0 : sm2 0 5 = sm 0 5 := hm _ _ rfl
  have b1 : ∀ b, sm2 5 b = sm 5 b := fun b => hm _ _ rfl
  have b2 : ∀ b, sm2 6 b = sm 6 b := fun b => hm _ _ rfl
  have b3 : ∀ b, sm2 7 b = sm 7 b := fun b => hm _ _ rfl
  unfold IJ at *
  simp only [a1, a2, a3, a4, b0, b1, b2, b3]
  exact h
theorem IL_cong (hx : ∀ c j, gX c j = 3 → sx2 c j = sx c j) (hm : ∀ c j, gM c j = 3 → sm2 c j = sm c j) (h : IL sx sm) : IL sx2 sm2 := by
  have a1 : sx2 0 12 = sx 0 12 := hx _ _ rfl
  have b1 : sm2 0 6 = sm 0 6 := hm _ _ rfl
  unfold IL at *
  simp only [a1, b1]
  exact h
theorem IS_cong (hx : ∀ c j, gX c j = 4 → sx2 c j = sx c j) (hm : ∀ c j, gM c j = 4 → sm2 c j = sm c j) (h : IS sx sm) : IS sx2 sm2 := by
  have a1 : sx2 0 13 = sx 0 13 := hx _ _ rfl
  have b1 : sm2 0 0 = sm 0 0 := hm _ _ rfl
  unfold IS at *
  simp only [a1, b1]
  exact h
theorem IM_cong (h4 : sm2 0 4 = sm 0 4) (h5 : sm2 0 5 = sm 0 5) (hx : ∀ c j, gX c j = 5 → sx2 c j = sx c j) (hm : ∀ c j, gM c j = 5 → sm2 c j = sm c j) (h : IM sx sm) : IM sx2 sm2 := by
  have a1 : sx2 19 0 = sx 19 0 := hx _ _ rfl
  have a2 : ∀ b, sx2 20 b = sx 20 b := fun b => hx _ _ rfl
  have a3 : ∀ b, sx2 21 b = sx 21 b := fun b => hx _ _ rfl
  have a4 : ∀ b, sx2 22 b = sx 22 b := fun b => hx _ _ rfl
  have a5 : ∀ b, sx2 23 b = sx 23 b := fun b => hx _ _ rfl
  have a6 : ∀ b, sx2 24 b = sx 24 b := fun b => hx _ _ rfl
  have b0 : sm2 0 29 = sm 0 29 := hm _ _ rfl
  have b1 : ∀ b, sm2 20 b = sm 20 b := fun b => hm _ _ rfl
  have b2 : ∀ b, sm2 21 b = sm 21 b := fun b => hm _ _ rfl
  have b3 : ∀ b, sm2 22 b = sm 22 b := fun b => hm _ _ rfl
  have b4 : ∀ b, sm2 23 b = sm 23 b := fun b => hm _ _ rfl
  have b5 : ∀ b, sm2 24 b = sm 24 b := fun b => hm _ _ rfl
  unfold IM at *
  simp only [h4, h5, a1, a2, a3, a4, a5, a6, b0, b1, b2, b3, b4, b5]
  exact h
theorem IF_cong (hx : ∀ c j, gX c j = 6 → sx2 c j = sx c j) (hm : ∀ c j, gM c j = 6 → sm2 c j = sm c j) (h : IF sx sm) : IF sx2 sm2 := by
  have a1 : sx2 40 0 = sx 40 0 := hx _ _ rfl
  have a2 : sx2 40 1 = sx 40 1 := hx _ _ rfl
  have b1 : sm2 0 2 = sm 0 2 := hm _ _ rfl
  have b2 : sm2 0 3 = sm 0 3 := hm _ _ rfl
  unfold IF at *
  simp only [a1, a2, b1, b2]
  exact h
theorem IT_cong (hx : ∀ c j, gX c j = 7 → sx2 c j = sx c j) (hm : ∀ c j, gM c j = 7 → sm2 c j = sm c j) (h : IT sx sm) : IT sx2 sm2 := by
  have a1 : sx2 41 0 = sx 41 0 := hx _ _ rfl
  have a2 : sx2 41 1 = sx 41 1 := hx _ _ rfl
  have a3 : sx2 41 2 = sx 41 2 := hx _ _ rfl
  have a4 : ∀ b, sx2 42 b = sx 42 b := fun b => hx _ _ rfl
  have b1 : sm2 0 45 = sm 0 45 := hm _ _ rfl
  have b2 : sm2 0 47 = sm 0 47 := hm _ _ rfl
  have b3 : sm2 0 48 = sm 0 48 := hm _ _ rfl
  have b4 : ∀ b, sm2 32 b = sm 32 b := fun b => hm _ _ rfl
  unfold IT at *
  simp only [a1, a2, a3, a4, b1, b2, b3, b4]
  exact h
theorem IRr_cong {P : Nat} (hP : P = 80 ∨ P = 88) (hx : ∀ c j, gX c j = 8 → sx2 c j = sx c j) (hm : ∀ c j, gM c j = 8 → sm2 c j = sm c j) (h : IRr P sx sm) : IRr P sx2 sm2 := by
  have key : ∀ k j, k < 8 → sx2 (P + k) j = sx (P + k) j := fun k j hk => hx _ _ (by
    unfold gX
    rw [if_neg (by omega), if_neg (by omega), if_neg (by omega), if_neg (by omega), if_neg (by omega), if_neg (by omega), if_neg (by omega), if_neg (by omega), if_neg (by omega), if_neg (by omega), if_neg (by omega), if_neg (by omega), if_neg (by omega), if_neg (by omega), if_pos (by omega)])
  have a0 : sx2 P 0 = sx P 0 := key 0 0 (by omega)
  have a1 : ∀ b, sx2 (P + 1) b = sx (P + 1) b := fun b => key 1 b (by omega)
  have a2 : ∀ b, sx2 (P + 2) b = sx (P + 2) b := fun b => key 2 b (by omega)
  have a4 : ∀ b, sx2 (P + 4) b = sx (P + 4) b := fun b => key 4 b (by omega)
  have a5 : ∀ b, sx2 (P + 5) b = sx (P + 5) b := fun b => key 5 b (by omega)
  have a6 : ∀ b, sx2 (P + 6) b = sx (P + 6) b := fun b => key 6 b (by omega)
  have a7 : ∀ b, sx2 (P + 7) b = sx (P + 7) b := fun b => key 7 b (by omega)
  have b0 : sm2 0 51 = sm 0 51 := hm _ _ rfl
  have b1 : ∀ b, sm2 33 b = sm 33 b := fun b => hm _ _ rfl
  have b2 : ∀ b, sm2 34 b = sm 34 b := fun b => hm _ _ rfl
  have b3 : ∀ b, sm2 35 b = sm 35 b := fun b => hm _ _ rfl
  have b4 : ∀ b, sm2 36 b = sm 36 b := fun b => hm _ _ rfl
  have b5 : ∀ b, sm2 37 b = sm 37 b := fun b => hm _ _ rfl
  have b6 : ∀ b, sm2 38 b = sm 38 b := fun b => hm _ _ rfl
  unfold IRr at *
  simp only [a0, a1, a2, a4, a5, a6, a7, b0, b1, b2, b3, b4, b5, b6]
  exact h
theorem IR_cong (hx : ∀ c j, gX c j = 8 → sx2 c j = sx c j) (hm : ∀ c j, gM c j = 8 → sm2 c j = sm c j) (h : IR sx sm) : IR sx2 sm2 := by
  have a1 : sx2 0 10 = sx 0 10 := hx _ _ rfl
  have a2 : sx2 0 11 = sx 0 11 := hx _ _ rfl
  rcases h with ⟨h1, h2, h3⟩ | ⟨h1, h2, h3⟩
  · exact .inl ⟨a1.trans h1, a2.trans h2, IRr_cong (.inl rfl) hx hm h3⟩
  · exact .inr ⟨a1.trans h1, a2.trans h2, IRr_cong (.inr rfl) hx hm h3⟩
theorem IH_cong {F : Nat} (hx : ∀ c j, gX c j = 9 → sx2 c j = sx c j) (hm : ∀ c j, gM c j = 9 ∨ gM c j = 1 → sm2 c j = sm c j) (h : IH F sx sm) : IH F sx2 sm2 := by
  have a1 : sx2 72 0 = sx 72 0 := hx _ _ rfl
  have a2 : sx2 72 1 = sx 72 1 := hx _ _ rfl
  have a3 : sx2 72 9 = sx 72 9 := hx _ _ rfl
  have a4 : sx2 72 10 = sx 72 10 := hx _ _ rfl
  have a5 : ∀ b, sx2 73 b = sx 73 b := fun b => hx _ _ rfl
  have a6 : ∀ b, sx2 74 b = sx 74 b := fun b => hx _ _ rfl
  have a7 : ∀ b, sx2 75 b = sx 75 b := fun b => hx _ _ rfl
  have a8 : ∀ b, sx2 76 b = sx 76 b := fun b => hx _ _ rfl
  have b0 : sm2 0 70 = sm 0 70 := hm _ _ (.inl rfl)
  have b1 : sm2 0 4 = sm 0 4 := hm _ _ (.inr rfl)
  have b2 : ∀ b, sm2 4 b = sm 4 b := fun b => hm _ _ (.inr rfl)
  have b3 : ∀ b, sm2 8 b = sm 8 b := fun b => hm _ _ (.inr rfl)
  have b4 : ∀ b, sm2 50 b = sm 50 b := fun b => hm _ _ (.inl rfl)
  have b5 : ∀ b, sm2 51 b = sm 51 b := fun b => hm _ _ (.inl rfl)
  have b6 : ∀ b, sm2 52 b = sm 52 b := fun b => hm _ _ (.inl rfl)
  unfold IH CACHE SAMEH at *
  simp only [a1, a2, a3, a4, a5, a6, a7, a8, b0, b1, b2, b3, b4, b5, b6]
  exact h
theorem IP_cong (hx : ∀ c j, gX c j = 10 → sx2 c j = sx c j) (hm : ∀ c j, gM c j = 10 → sm2 c j = sm c j) (h : IP sx sm) : IP sx2 sm2 := by
  have a1 : sx2 11 0 = sx 11 0 := hx _ _ rfl
  have a2 : sx2 11 1 = sx 11 1 := hx _ _ rfl
  have a3 : sx2 11 2 = sx 11 2 := hx _ _ rfl
  have a4 : sx2 11 4 = sx 11 4 := hx _ _ rfl
  have a5 : ∀ b, sx2 14 b = sx 14 b := fun b => hx _ _ rfl
  have b0 : sm2 0 15 = sm 0 15 := hm _ _ rfl
  have b1 : sm2 0 16 = sm 0 16 := hm _ _ rfl
  have b2 : sm2 0 17 = sm 0 17 := hm _ _ rfl
  have b3 : ∀ b, sm2 9 b = sm 9 b := fun b => hm _ _ rfl
  have b4 : ∀ b, sm2 11 b = sm 11 b := fun b => hm _ _ rfl
  unfold IP at *
  simp only [a1, a2, a3, a4, a5, b0, b1, b2, b3, b4]
  exact h
/-- but for the groups that S names, nothing has changed -/
theorem INV_cong {F : Nat} (hx : ∀ c j, gX c j ≠ 0 → sx2 c j = sx c j) (hm : ∀ c j, gM c j ≠ 0 → sm2 c j = sm c j) (h : INV F sx sm) : INV F sx2 sm2 := by
  obtain ⟨hB, hJ, hL, hS, hM, hF, hT, hR, hH, hP⟩ := h
  refine ⟨IB_cong (fun c j q => hx c j (by omega)) (fun c j q => hm c j (by omega)) hB, IJ_cong (fun c j q => hx c j (by omega)) (fun c j q => hm c j (by omega)) hJ, IL_cong (fun c j q => hx c j (by omega)) (fun c j q => hm c j (by omega)) hL, IS_cong (fun c j q => hx c j (by omega)) (fun c j q => hm c j (by omega)) hS, IM_cong (hm _ _ (by decide)) (hm _ _ (by decide)) (fun c j q => hx c j (by omega)) (fun c j q => hm c j (by omega)) hM, IF_cong (fun c j q => hx c j (by omega)) (fun c j q => hm c j (by omega)) hF, IT_cong (fun c j q => hx c j (by omega)) (fun c j q => hm c j (by omega)) hT, IR_cong (fun c j q => hx c j (by omega)) (fun c j q => hm c j (by omega)) hR, IH_cong (fun c j q => hx c j (by omega)) (fun c j q => hm c j (by omega)) hH, IP_cong (fun c j q => hx c j (by omega)) (fun c j q => hm c j (by omega)) hP⟩
/-- status aside -/
theorem INV_st {F : Nat} (hx : ∀ c j, gX c j ≠ 0 → gX c j ≠ 4 → sx2 c j = sx c j) (hm : ∀ c j, gM c j ≠ 0 → gM c j ≠ 4 → sm2 c j = sm c j) (hs : sx2 0 13 = sm2 0 0) (h : INV F sx sm) : INV F sx2 sm2 := by
  obtain ⟨hB, hJ, hL, hS, hM, hF, hT, hR, hH, hP⟩ := h
  refine ⟨IB_cong (fun c j q => hx c j (by omega) (by omega)) (fun c j q => hm c j (by omega) (by omega)) hB, IJ_cong (fun c j q => hx c j (by omega) (by omega)) (fun c j q => hm c j (by omega) (by omega)) hJ, IL_cong (fun c j q => hx c j (by omega) (by omega)) (fun c j q => hm c j (by omega) (by omega)) hL, hs, IM_cong (hm _ _ (by decide) (by decide)) (hm _ _ (by decide) (by decide)) (fun c j q => hx c j (by omega) (by omega)) (fun c j q => hm c j (by omega) (by omega)) hM, IF_cong (fun c j q => hx c j (by omega) (by omega)) (fun c j q => hm c j (by omega) (by omega)) hF, IT_cong (fun c j q => hx c j (by omega) (by omega)) (fun c j q => hm c j (by omega) (by omega)) hT, IR_cong (fun c j q => hx c j (by omega) (by omega)) (fun c j q => hm c j (by omega) (by omega)) hR, IH_cong (fun c j q => hx c j (by omega) (by omega)) (fun c j q => hm c j (by omega) (by omega)) hH, IP_cong (fun c j q => hx c j (by omega) (by omega)) (fun c j q => hm c j (by omega) (by omega)) hP⟩
end CG
theorem INV_0 {F : Nat} : INV F sX0 sM0 := by
  refine ⟨⟨⟨rfl, by decide, by decide⟩, fun b hb => ?_⟩, ⟨⟨rfl, by decide, by decide⟩, fun b hb => ?_⟩, ⟨rfl, by decide, by decide⟩, rfl, ⟨⟨rfl, by decide, by decide⟩, fun b hb => ?_⟩, ⟨rfl, rfl⟩, ⟨⟨rfl, by decide, by decide⟩, rfl, rfl, fun k => ⟨rfl, ?_, ?_⟩⟩, .inl ⟨rfl, rfl, ⟨rfl, by decide, by decide⟩, fun b hb => ?_⟩, ⟨⟨rfl, by decide, by decide⟩, fun b hb => ?_, .inl rfl⟩, ⟨⟨rfl, .inl rfl⟩, fun h => ?_⟩⟩
  · exact absurd hb (by show ¬ (b : Int) < 0; omega)
  · exact absurd hb (by show ¬ (b : Int) < 0; omega)
  · exact absurd hb (by show ¬ (b : Int) < 0; omega)
  · show (-128 : Int) ≤ 0; decide
  · show (0 : Int) ≤ 127; decide
  · exact absurd hb (by show ¬ (b : Int) < 0; omega)
  · exact absurd hb (by show ¬ (b : Int) < 0; omega)
  · exact absurd h (by decide)
