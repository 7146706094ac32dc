def ks_X_0 : List (Nat ⊕ Nat) := [.inr 1, .inr 7, .inr 11, .inr 19, .inr 25, .inr 29, .inr 40, .inr 41, .inr 43, .inr 72, .inl 2, .inl 2, .inl 0, .inl 0]
def ks_X_1 : List (Nat ⊕ Nat) := [.inl 0, .inr 2, .inr 3, .inr 4, .inr 5, .inr 6]
def ks_X_7 : List (Nat ⊕ Nat) := [.inl 0, .inr 8, .inr 9, .inr 10]
def ks_X_11 : List (Nat ⊕ Nat) := [.inl 0, .inl 0, .inl 0, .inl 0, .inl 0, .inr 12, .inr 13, .inr 14, .inr 15, .inl 0, .inl 0, .inl 0, .inl 0, .inl 0, .inr 16, .inr 17, .inr 18]
def ks_X_19 : List (Nat ⊕ Nat) := [.inl 0, .inr 20, .inr 21, .inr 22, .inr 23, .inr 24]
def ks_X_25 : List (Nat ⊕ Nat) := [.inr 26, .inr 27, .inr 28]
def ks_X_29 : List (Nat ⊕ Nat) := [.inr 30, .inr 31, .inl 0, .inr 32, .inr 33, .inr 39]
def ks_X_40 : List (Nat ⊕ Nat) := [.inl 1, .inl 1]
def ks_X_41 : List (Nat ⊕ Nat) := [.inl 0, .inl 0, .inl 0, .inr 42, .inl 0, .inl 0, .inl 0, .inl 0]
def ks_X_43 : List (Nat ⊕ Nat) := [.inl 0, .inr 44, .inr 45, .inl 0, .inr 46, .inr 47]
def ks_X_48 : List (Nat ⊕ Nat) := [.inl 1, .inl 1]
def ks_X_49 : List (Nat ⊕ Nat) := [.inl 1, .inl 1]
def ks_X_50 : List (Nat ⊕ Nat) := [.inl 1, .inl 1]
def ks_X_51 : List (Nat ⊕ Nat) := [.inl 1, .inl 1]
def ks_X_52 : List (Nat ⊕ Nat) := [.inl 1, .inl 1]
def ks_X_53 : List (Nat ⊕ Nat) := [.inl 1, .inl 1]
def ks_X_54 : List (Nat ⊕ Nat) := [.inl 1, .inl 1]
def ks_X_55 : List (Nat ⊕ Nat) := [.inl 1, .inl 1]
def ks_X_56 : List (Nat ⊕ Nat) := [.inl 1, .inl 1]
def ks_X_57 : List (Nat ⊕ Nat) := [.inl 1, .inl 1]
def ks_X_58 : List (Nat ⊕ Nat) := [.inl 1, .inl 1]
def ks_X_59 : List (Nat ⊕ Nat) := [.inl 1, .inl 1]
def ks_X_60 : List (Nat ⊕ Nat) := [.inl 1, .inl 1]
def ks_X_61 : List (Nat ⊕ Nat) := [.inl 1, .inl 1]
def ks_X_62 : List (Nat ⊕ Nat) := [.inl 1, .inl 1]
def ks_X_63 : List (Nat ⊕ Nat) := [.inl 1, .inl 1]
def ks_X_64 : List (Nat ⊕ Nat) := [.inl 1, .inl 1]
def ks_X_65 : List (Nat ⊕ Nat) := [.inl 1, .inl 1]
def ks_X_66 : List (Nat ⊕ Nat) := [.inl 1, .inl 1]
def ks_X_67 : List (Nat ⊕ Nat) := [.inl 1, .inl 1]
def ks_X_68 : List (Nat ⊕ Nat) := [.inl 1, .inl 1]
def ks_X_69 : List (Nat ⊕ Nat) := [.inl 1, .inl 1]
def ks_X_70 : List (Nat ⊕ Nat) := [.inl 1, .inl 1]
def ks_X_71 : List (Nat ⊕ Nat) := [.inl 1, .inl 1]
def ks_X_72 : List (Nat ⊕ Nat) := [.inl 0, .inl 0, .inr 73, .inr 74, .inr 75, .inr 76, .inr 77, .inr 78, .inr 79, .inl 0, .inl 0]
def ks_X_80 : List (Nat ⊕ Nat) := [.inl 0, .inr 81, .inr 82, .inr 83]
def ks_X_88 : List (Nat ⊕ Nat) := [.inl 0, .inr 89, .inr 90, .inr 91]
def shX : List Shp := [.inr (11, ks_X_0), .inr (0, ks_X_1), .inl (0, 24, .inl 0), .inl (0, 24, .inl 0), .inl (0, 24, .inl 0), .inl (0, 24, .inl 0), .inl (0, 24, .inl 0), .inr (4, ks_X_7), .inl (0, 12, .inl 0), .inl (0, 12, .inl 0), .inl (0, 12, .inl 0), .inr (7, ks_X_11), .inl (0, 12, .inl 0), .inl (0, 24, .inl 0), .inl (0, 24, .inl 0), .inl (0, 12, .inl 0), .inl (0, 24, .inl 0), .inl (0, 24, .inl 0), .inl (0, 12, .inl 0), .inr (6, ks_X_19), .inl (0, 200, .inl 0), .inl (0, 200, .inl 0), .inl (0, 200, .inl 0), .inl (0, 200, .inl 0), .inl (0, 200, .inl 0), .inr (5, ks_X_25), .inl (0, 12, .inl 0), .inl (0, 288, .inl 0), .inl (0, 288, .inl 0), .inr (9, ks_X_29), .inl (1, 12, .inl 1), .inl (1, 12, .inl 1), .inl (0, 5, .inl 0), .inl (6, 5, .inr (fun j => 34 + j)), .inl (1, 6, .inl 1), .inl (1, 6, .inl 1), .inl (1, 6, .inl 1), .inl (1, 6, .inl 1), .inl (1, 6, .inl 1), .inl (1, 32, .inl 1), .inr (1, ks_X_40), .inr (10, ks_X_41), .inl (3, 300, .inl 0), .inr (2, ks_X_43), .inl (0, 24, .inl 0), .inl (4, 24, .inr (fun j => 48 + j)), .inl (0, 24, .inl 0), .inl (2, 24, .inl 0), .inr (1, ks_X_48), .inr (1, ks_X_49), .inr (1, ks_X_50), .inr (1, ks_X_51), .inr (1, ks_X_52), .inr (1, ks_X_53), .inr (1, ks_X_54), .inr (1, ks_X_55), .inr (1, ks_X_56), .inr (1, ks_X_57), .inr (1, ks_X_58), .inr (1, ks_X_59), .inr (1, ks_X_60), .inr (1, ks_X_61), .inr (1, ks_X_62), .inr (1, ks_X_63), .inr (1, ks_X_64), .inr (1, ks_X_65), .inr (1, ks_X_66), .inr (1, ks_X_67), .inr (1, ks_X_68), .inr (1, ks_X_69), .inr (1, ks_X_70), .inr (1, ks_X_71), .inr (3, ks_X_72), .inl (0, 24, .inl 0), .inl (0, 4, .inl 0), .inl (0, 4, .inl 0), .inl (0, 4, .inl 0), .inl (0, 4, .inl 0), .inl (0, 4, .inl 0), .inl (0, 4, .inl 0), .inr (8, ks_X_80), .inl (0, 8, .inl 0), .inl (2, 8, .inl 0), .inl (5, 4, .inr (fun j => 84 + j)), .inl (0, 8, .inl 0), .inl (0, 8, .inl 0), .inl (0, 8, .inl 0), .inl (0, 8, .inl 0), .inr (8, ks_X_88), .inl (0, 8, .inl 0), .inl (2, 8, .inl 0), .inl (5, 4, .inr (fun j => 92 + j)), .inl (0, 8, .inl 0), .inl (0, 8, .inl 0), .inl (0, 8, .inl 0), .inl (0, 8, .inl 0)]
abbrev PRc (c : Nat) : Prop := c = 80 ∨ c = 88
abbrev FRc (c : Nat) : Prop := c = 40 ∨ (48 ≤ c ∧ c < 72)
abbrev KSc (c : Nat) : Prop := 1000 ≤ c ∧ c < 1007
theorem inb_ix {a : Int} {n : Nat} (h : inb a n) : ix a < n := by
  unfold ix
  obtain ⟨h1, h2⟩ := h
  omega
theorem pr_o {c : Nat} (h : PRc c) : shX[c]? = some (.inr (8, [.inl 0, .inr (c + 1), .inr (c + 2), .inr (c + 3)])) := by rcases h with rfl | rfl <;> rfl
theorem pr_k0 {c : Nat} (h : PRc c) : fk shX c 0 = some (8, .inl 0) := by rcases h with rfl | rfl <;> rfl
theorem pr_k1 {c : Nat} (h : PRc c) : fk shX c 1 = some (8, .inr (c + 1)) := by rcases h with rfl | rfl <;> rfl
theorem pr_k2 {c : Nat} (h : PRc c) : fk shX c 2 = some (8, .inr (c + 2)) := by rcases h with rfl | rfl <;> rfl
theorem pr_k3 {c : Nat} (h : PRc c) : fk shX c 3 = some (8, .inr (c + 3)) := by rcases h with rfl | rfl <;> rfl
theorem pr_a1 {c : Nat} (h : PRc c) : shX[c + 1]? = some (.inl (0, 8, .inl 0)) := by rcases h with rfl | rfl <;> rfl
theorem pr_a2 {c : Nat} (h : PRc c) : shX[c + 2]? = some (.inl (2, 8, .inl 0)) := by rcases h with rfl | rfl <;> rfl
theorem pr_a3 {c : Nat} (h : PRc c) : shX[c + 3]? = some (.inl (5, 4, .inr (fun j => c + 4 + j))) := by rcases h with rfl | rfl <;> rfl
theorem pr_a4 {c k : Nat} (h : PRc c) (hk : k < 4) : shX[c + 4 + k]? = some (.inl (0, 8, .inl 0)) := by
  rcases h with rfl | rfl <;> (rcases (show k = 0 ∨ k = 1 ∨ k = 2 ∨ k = 3 by omega) with rfl | rfl | rfl | rfl <;> rfl)
theorem sc_a {k : Nat} (hk : k < 5) : shX[34 + k]? = some (.inl (1, 6, .inl 1)) := by
  rcases (show k = 0 ∨ k = 1 ∨ k = 2 ∨ k = 3 ∨ k = 4 by omega) with rfl | rfl | rfl | rfl | rfl <;> rfl
theorem sc_r : shX[33]? = some (.inl (6, 5, .inr (fun j => 34 + j))) := rfl
theorem gi_r : shX[45]? = some (.inl (4, 24, .inr (fun j => 48 + j))) := rfl
theorem fr_i {k : Nat} (hk : k < 24) : FRc (48 + k) := Or.inr ⟨by omega, by omega⟩
theorem fr_all {k : Nat} (hk : k < 24) : shX[48 + k]? = some (.inr (1, [.inl 1, .inl 1])) := by
  rcases (show k = 0 ∨ k = 1 ∨ k = 2 ∨ k = 3 ∨ k = 4 ∨ k = 5 ∨ k = 6 ∨ k = 7 ∨ k = 8 ∨ k = 9 ∨ k = 10 ∨ k = 11 ∨ k = 12 ∨ k = 13 ∨ k = 14 ∨ k = 15 ∨ k = 16 ∨ k = 17 ∨ k = 18 ∨ k = 19 ∨ k = 20 ∨ k = 21 ∨ k = 22 ∨ k = 23 by omega) with rfl | rfl | rfl | rfl | rfl | rfl | rfl | rfl | rfl | rfl | rfl | rfl | rfl | rfl | rfl | rfl | rfl | rfl | rfl | rfl | rfl | rfl | rfl | rfl <;> rfl
theorem fr_o {c : Nat} (h : FRc c) : shX[c]? = some (.inr (1, [.inl 1, .inl 1])) := by
  rcases h with rfl | ⟨h1, h2⟩
  · rfl
  · have := fr_all (k := c - 48) (by omega)
    rwa [show 48 + (c - 48) = c by omega] at this
theorem fr_k0 {c : Nat} (h : FRc c) : fk shX c 0 = some (1, .inl 1) := by unfold fk; rw [fr_o h]; rfl
theorem fr_k1 {c : Nat} (h : FRc c) : fk shX c 1 = some (1, .inl 1) := by unfold fk; rw [fr_o h]; rfl

