def ks_X_0 : List (Nat ⊕ Nat) := [.inr 1, .inr 2, .inr 3, .inr 4, .inr 5, .inr 6, .inr 7, .inr 8, .inr 9, .inr 10, .inl 2, .inl 2, .inl 0, .inl 0]
def ks_X_1 : List (Nat ⊕ Nat) := [.inl 0, .inr 51, .inr 52, .inr 53, .inr 54, .inr 55]
def ks_X_2 : List (Nat ⊕ Nat) := [.inl 0, .inr 56, .inr 57, .inr 58]
def ks_X_3 : List (Nat ⊕ Nat) := [.inl 0, .inl 0, .inl 0, .inl 0, .inl 0, .inr 59, .inr 60, .inr 61, .inr 62, .inl 0, .inl 0, .inl 0, .inl 0, .inl 0, .inr 63, .inr 64, .inr 65]
def ks_X_4 : List (Nat ⊕ Nat) := [.inl 0, .inr 66, .inr 67, .inr 68, .inr 69, .inr 70]
def ks_X_5 : List (Nat ⊕ Nat) := [.inr 71, .inr 72, .inr 73]
def ks_X_6 : List (Nat ⊕ Nat) := [.inr 74, .inr 75, .inl 0, .inr 76, .inr 77, .inr 83]
def ks_X_7 : List (Nat ⊕ Nat) := [.inl 1, .inl 1]
def ks_X_8 : List (Nat ⊕ Nat) := [.inl 0, .inl 0, .inl 0, .inr 84, .inl 0, .inl 0, .inl 0, .inl 0]
def ks_X_9 : List (Nat ⊕ Nat) := [.inl 0, .inr 85, .inr 86, .inl 0, .inr 87, .inr 88]
def ks_X_10 : List (Nat ⊕ Nat) := [.inl 0, .inl 0, .inr 89, .inr 90, .inr 91, .inr 92, .inr 93, .inr 94, .inr 95, .inl 0, .inl 0]
def ks_X_11 : List (Nat ⊕ Nat) := [.inl 0, .inr 12, .inr 13, .inr 14]
def ks_X_19 : List (Nat ⊕ Nat) := [.inl 0, .inr 20, .inr 21, .inr 22]
def ks_X_27 : List (Nat ⊕ Nat) := [.inl 1, .inl 1]
def ks_X_28 : List (Nat ⊕ Nat) := [.inl 1, .inl 1]
def ks_X_29 : List (Nat ⊕ Nat) := [.inl 1, .inl 1]
def ks_X_30 : List (Nat ⊕ Nat) := [.inl 1, .inl 1]
def ks_X_31 : List (Nat ⊕ Nat) := [.inl 1, .inl 1]
def ks_X_32 : List (Nat ⊕ Nat) := [.inl 1, .inl 1]
def ks_X_33 : List (Nat ⊕ Nat) := [.inl 1, .inl 1]
def ks_X_34 : List (Nat ⊕ Nat) := [.inl 1, .inl 1]
def ks_X_35 : List (Nat ⊕ Nat) := [.inl 1, .inl 1]
def ks_X_36 : List (Nat ⊕ Nat) := [.inl 1, .inl 1]
def ks_X_37 : List (Nat ⊕ Nat) := [.inl 1, .inl 1]
def ks_X_38 : List (Nat ⊕ Nat) := [.inl 1, .inl 1]
def ks_X_39 : List (Nat ⊕ Nat) := [.inl 1, .inl 1]
def ks_X_40 : List (Nat ⊕ Nat) := [.inl 1, .inl 1]
def ks_X_41 : List (Nat ⊕ Nat) := [.inl 1, .inl 1]
def ks_X_42 : List (Nat ⊕ Nat) := [.inl 1, .inl 1]
def ks_X_43 : List (Nat ⊕ Nat) := [.inl 1, .inl 1]
def ks_X_44 : List (Nat ⊕ Nat) := [.inl 1, .inl 1]
def ks_X_45 : List (Nat ⊕ Nat) := [.inl 1, .inl 1]
def ks_X_46 : List (Nat ⊕ Nat) := [.inl 1, .inl 1]
def ks_X_47 : List (Nat ⊕ Nat) := [.inl 1, .inl 1]
def ks_X_48 : List (Nat ⊕ Nat) := [.inl 1, .inl 1]
def ks_X_49 : List (Nat ⊕ Nat) := [.inl 1, .inl 1]
def ks_X_50 : List (Nat ⊕ Nat) := [.inl 1, .inl 1]
def shX : List Shp := [.inr (11, ks_X_0), .inr (0, ks_X_1), .inr (4, ks_X_2), .inr (7, ks_X_3), .inr (6, ks_X_4), .inr (5, ks_X_5), .inr (9, ks_X_6), .inr (1, ks_X_7), .inr (10, ks_X_8), .inr (2, ks_X_9), .inr (3, ks_X_10), .inr (8, ks_X_11), .inl (0, 8, .inl 0), .inl (2, 8, .inl 0), .inl (5, 4, .inr (fun j => 15 + j)), .inl (0, 8, .inl 0), .inl (0, 8, .inl 0), .inl (0, 8, .inl 0), .inl (0, 8, .inl 0), .inr (8, ks_X_19), .inl (0, 8, .inl 0), .inl (2, 8, .inl 0), .inl (5, 4, .inr (fun j => 23 + j)), .inl (0, 8, .inl 0), .inl (0, 8, .inl 0), .inl (0, 8, .inl 0), .inl (0, 8, .inl 0), .inr (1, ks_X_27), .inr (1, ks_X_28), .inr (1, ks_X_29), .inr (1, ks_X_30), .inr (1, ks_X_31), .inr (1, ks_X_32), .inr (1, ks_X_33), .inr (1, ks_X_34), .inr (1, ks_X_35), .inr (1, ks_X_36), .inr (1, ks_X_37), .inr (1, ks_X_38), .inr (1, ks_X_39), .inr (1, ks_X_40), .inr (1, ks_X_41), .inr (1, ks_X_42), .inr (1, ks_X_43), .inr (1, ks_X_44), .inr (1, ks_X_45), .inr (1, ks_X_46), .inr (1, ks_X_47), .inr (1, ks_X_48), .inr (1, ks_X_49), .inr (1, ks_X_50), .inl (0, 24, .inl 0), .inl (0, 24, .inl 0), .inl (0, 24, .inl 0), .inl (0, 24, .inl 0), .inl (0, 24, .inl 0), .inl (0, 12, .inl 0), .inl (0, 12, .inl 0), .inl (0, 12, .inl 0), .inl (0, 12, .inl 0), .inl (0, 24, .inl 0), .inl (0, 24, .inl 0), .inl (0, 12, .inl 0), .inl (0, 24, .inl 0), .inl (0, 24, .inl 0), .inl (0, 12, .inl 0), .inl (0, 200, .inl 0), .inl (0, 200, .inl 0), .inl (0, 200, .inl 0), .inl (0, 200, .inl 0), .inl (0, 200, .inl 0), .inl (0, 12, .inl 0), .inl (0, 288, .inl 0), .inl (0, 288, .inl 0), .inl (1, 12, .inl 1), .inl (1, 12, .inl 1), .inl (0, 5, .inl 0), .inl (6, 5, .inr (fun j => 78 + j)), .inl (1, 6, .inl 1), .inl (1, 6, .inl 1), .inl (1, 6, .inl 1), .inl (1, 6, .inl 1), .inl (1, 6, .inl 1), .inl (1, 32, .inl 1), .inl (3, 300, .inl 0), .inl (0, 24, .inl 0), .inl (4, 24, .inr (fun j => 27 + j)), .inl (0, 24, .inl 0), .inl (2, 24, .inl 0), .inl (0, 24, .inl 0), .inl (0, 4, .inl 0), .inl (0, 4, .inl 0), .inl (0, 4, .inl 0), .inl (0, 4, .inl 0), .inl (0, 4, .inl 0), .inl (0, 4, .inl 0)]
abbrev PRc (c : Nat) : Prop := c = 11 ∨ c = 19
abbrev FRc (c : Nat) : Prop := c = 7 ∨ (27 ≤ c ∧ c < 51)
abbrev KSc (c : Nat) : Prop := 1000 ≤ c ∧ c < 1007
theorem inb_ix {a : Int} {n : Nat} (h : inb a n) : ix a < n := by
  unfold ix
  obtain ⟨h1, h2⟩ := h
  omega
theorem pr_o {c : Nat} (h : PRc c) : shX[c]? = some (.inr (8, [.inl 0, .inr (c + 1), .inr (c + 2), .inr (c + 3)])) := by rcases h with rfl | rfl <;> rfl
theorem pr_k0 {c : Nat} (h : PRc c) : fk shX c 0 = some (8, .inl 0) := by rcases h with rfl | rfl <;> rfl
theorem pr_k1 {c : Nat} (h : PRc c) : fk shX c 1 = some (8, .inr (c + 1)) := by rcases h with rfl | rfl <;> rfl
theorem pr_k2 {c : Nat} (h : PRc c) : fk shX c 2 = some (8, .inr (c + 2)) := by rcases h with rfl | rfl <;> rfl
theorem pr_k3 {c : Nat} (h : PRc c) : fk shX c 3 = some (8, .inr (c + 3)) := by rcases h with rfl | rfl <;> rfl
theorem pr_a1 {c : Nat} (h : PRc c) : shX[c + 1]? = some (.inl (0, 8, .inl 0)) := by rcases h with rfl | rfl <;> rfl
theorem pr_a2 {c : Nat} (h : PRc c) : shX[c + 2]? = some (.inl (2, 8, .inl 0)) := by rcases h with rfl | rfl <;> rfl
theorem pr_a3 {c : Nat} (h : PRc c) : shX[c + 3]? = some (.inl (5, 4, .inr (fun j => c + 4 + j))) := by rcases h with rfl | rfl <;> rfl
theorem pr_a4 {c k : Nat} (h : PRc c) (hk : k < 4) : shX[c + 4 + k]? = some (.inl (0, 8, .inl 0)) := by
  rcases h with rfl | rfl <;> (rcases (show k = 0 ∨ k = 1 ∨ k = 2 ∨ k = 3 by omega) with rfl | rfl | rfl | rfl <;> rfl)
theorem sc_a {k : Nat} (hk : k < 5) : shX[78 + k]? = some (.inl (1, 6, .inl 1)) := by
  rcases (show k = 0 ∨ k = 1 ∨ k = 2 ∨ k = 3 ∨ k = 4 by omega) with rfl | rfl | rfl | rfl | rfl <;> rfl
theorem sc_r : shX[77]? = some (.inl (6, 5, .inr (fun j => 78 + j))) := rfl
theorem gi_r : shX[86]? = some (.inl (4, 24, .inr (fun j => 27 + j))) := rfl
theorem fr_i {k : Nat} (hk : k < 24) : FRc (27 + k) := Or.inr ⟨by omega, by omega⟩
theorem fr_all {k : Nat} (hk : k < 24) : shX[27 + k]? = some (.inr (1, [.inl 1, .inl 1])) := by
  rcases (show k = 0 ∨ k = 1 ∨ k = 2 ∨ k = 3 ∨ k = 4 ∨ k = 5 ∨ k = 6 ∨ k = 7 ∨ k = 8 ∨ k = 9 ∨ k = 10 ∨ k = 11 ∨ k = 12 ∨ k = 13 ∨ k = 14 ∨ k = 15 ∨ k = 16 ∨ k = 17 ∨ k = 18 ∨ k = 19 ∨ k = 20 ∨ k = 21 ∨ k = 22 ∨ k = 23 by omega) with rfl | rfl | rfl | rfl | rfl | rfl | rfl | rfl | rfl | rfl | rfl | rfl | rfl | rfl | rfl | rfl | rfl | rfl | rfl | rfl | rfl | rfl | rfl | rfl <;> rfl
theorem fr_o {c : Nat} (h : FRc c) : shX[c]? = some (.inr (1, [.inl 1, .inl 1])) := by
  rcases h with rfl | ⟨h1, h2⟩
  · rfl
  · have := fr_all (k := c - 27) (by omega)
    rwa [show 27 + (c - 27) = c by omega] at this
theorem fr_k0 {c : Nat} (h : FRc c) : fk shX c 0 = some (1, .inl 1) := by unfold fk; rw [fr_o h]; rfl
theorem fr_k1 {c : Nat} (h : FRc c) : fk shX c 1 = some (1, .inl 1) := by unfold fk; rw [fr_o h]; rfl

