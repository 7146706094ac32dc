/-! BASE: a fixed-shape world over mathematical integers, and the kit's rows restated over it.
A cell's number is its place in the shape list S; ad gives its address; the state sg gives, for a cell and a place, an integer; the machine holds it cut to 32 or 64 bits. -/
def w32 (a : Int) : Int := (Int32.ofInt a).toInt
def w64 (a : Int) : Int := (Int64.ofInt a).toInt
abbrev mI (a : Int) : Value := .int (Int32.ofInt a)
abbrev mL (a : Int) : Value := .long (Int64.ofInt a)
def ix (a : Int) : Nat := (w32 a).toNat
abbrev inb (a : Int) (n : Nat) : Prop := 0 ≤ w32 a ∧ w32 a < (n : Int)
abbrev St : Type := Nat → Nat → Int
def put (sg : St) (c j : Nat) (v : Int) : St := fun c2 j2 => if c2 = c ∧ j2 = j then v else sg c2 j2
def gd {α : Type} (q : Prop) [Decidable q] (x : Option α) : Option α := if q then x else none
theorem gd_some {α : Type} {q : Prop} [Decidable q] {x : Option α} {r : α} (h : gd q x = some r) : q ∧ x = some r := by
  unfold gd at h
  split at h
  · exact ⟨by assumption, h⟩
  · cases h
theorem ite_yes {α : Type} {q : Prop} [Decidable q] {x y : Option α} {r : α} (hq : q) (h : (if q then x else y) = some r) : x = some r := by rwa [if_pos hq] at h
theorem ite_no {α : Type} {q : Prop} [Decidable q] {x y : Option α} {r : α} (hq : ¬ q) (h : (if q then x else y) = some r) : y = some r := by rwa [if_neg hq] at h
theorem bd_some {α β : Type} {x : Option α} {f : α → Option β} {r : β} (h : x.bind f = some r) : ∃ a, x = some a ∧ f a = some r := by
  cases x with
  | none => cases h
  | some a => exact ⟨a, rfl, h⟩
abbrev Shp : Type := (Nat × Nat × (Nat ⊕ (Nat → Nat))) ⊕ (Nat × List (Nat ⊕ Nat))
def fv (ad : Nat → Nat) (k : Nat ⊕ Nat) (v : Int) : Value := match k with
  | .inr t => .ref (ad t)
  | .inl 0 => mI v
  | .inl 1 => mL v
  | .inl _ => .ref (ad v.toNat)
def ce (cy : Nat → ClassId) (ad : Nat → Nat) (q : Shp) (f : Nat → Int) : va_E := match q with
  | .inl (t, n, .inl 0) => .inl (cy t, n, .inl (fun j => Int32.ofInt (f j)))
  | .inl (t, n, .inl _) => .inl (cy t, n, .inr (.inl (fun j => Int64.ofInt (f j))))
  | .inl (t, n, .inr g) => .inl (cy t, n, .inr (.inr (.inr (.inr (fun j => some (ad (g j)))))))
  | .inr (ci, ks) => .inr (ci, ks.mapIdx (fun j k => fv ad k (f j)))
def wd (S : List Shp) (cy : Nat → ClassId) (ad : Nat → Nat) (sg : St) : va_W := S.mapIdx (fun c q => (ad c, ce cy ad q (sg c)))
def aw (S : List Shp) (ad : Nat → Nat) : Nat → Prop := fun q => ∃ k, k < S.length ∧ q = ad k
def tyl (cy : Nat → ClassId) : List (ClassId × FieldType) := [(cy 0, .int), (cy 1, .long), (cy 2, .boolean), (cy 3, .byte), (cy 4, .object "FairHall$Fraction"), (cy 5, .array .int), (cy 6, .array .long)]
/-- addresses apart -/
def apart (S : List Shp) (ad : Nat → Nat) : Prop := ∀ i j, i < S.length → j < S.length → ad i = ad j → i = j
theorem wd_at {S : List Shp} {cy : Nat → ClassId} {ad : Nat → Nat} {sg : St} {c : Nat} {q : Shp} (h : S[c]? = some q) : (wd S cy ad sg)[c]? = some (ad c, ce cy ad q (sg c)) := by
  unfold wd
  rw [List.getElem?_mapIdx, h]
  rfl
theorem wd_D {S : List Shp} {cy : Nat → ClassId} {ad : Nat → Nat} (sg : St) {A : Nat → Prop} (h : apart S ad) (hA : ∀ k, k < S.length → A (ad k)) : va_D A (wd S cy ad sg) := by
  have key : ∀ (k : Nat) (q : Nat × va_E), (wd S cy ad sg)[k]? = some q → k < S.length ∧ q.1 = ad k := by
    intro k q hq
    unfold wd at hq
    rw [List.getElem?_mapIdx] at hq
    cases hs : S[k]? with
    | none => rw [hs] at hq; cases hq
    | some z =>
      rw [hs] at hq
      have := (List.getElem?_eq_some_iff.mp hs).1
      cases hq
      exact ⟨this, rfl⟩
  refine ⟨fun i j p q hp hq e => ?_, fun k q hq => ?_⟩
  · obtain ⟨a1, a2⟩ := key i p hp
    obtain ⟨b1, b2⟩ := key j q hq
    exact h i j a1 b1 (by rw [← a2, ← b2]; exact e)
  · obtain ⟨a1, a2⟩ := key k q hq
    rw [a2]
    exact hA k a1
theorem wd_set {S : List Shp} {cy : Nat → ClassId} {ad : Nat → Nat} {sg sg2 : St} {c : Nat} {q : Shp} {e : va_E} (h : S[c]? = some q) (he : ce cy ad q (sg2 c) = e) (ho : ∀ c2, c2 ≠ c → sg2 c2 = sg c2) : (wd S cy ad sg).set c (ad c, e) = wd S cy ad sg2 := by
  apply List.ext_getElem?
  intro i
  unfold wd
  rw [List.getElem?_set, List.getElem?_mapIdx, List.getElem?_mapIdx]
  by_cases hi : c = i
  · subst hi
    have hl := (List.getElem?_eq_some_iff.mp h).1
    simp [hl]
    rw [(List.getElem?_eq_some_iff.mp h).2, he]
  · simp only [hi, if_false]
    rw [ho i (fun q => hi q.symm)]
theorem put_same (sg : St) (c j : Nat) (v : Int) : put sg c j v c j = v := by simp [put]
theorem put_other (sg : St) (c j : Nat) (v : Int) {c2 : Nat} (h : c2 ≠ c) : put sg c j v c2 = sg c2 := by funext j2; simp [put, h]
theorem ofInt_w32 (a : Int) : Int32.ofInt (w32 a) = Int32.ofInt a := by unfold w32; exact Int32.ofInt_toInt _
theorem ofInt_w64 (a : Int) : Int64.ofInt (w64 a) = Int64.ofInt a := by unfold w64; exact Int64.ofInt_toInt _
theorem lt_w {a b : Int} : Int32.ofInt a < Int32.ofInt b ↔ w32 a < w32 b := Int32.lt_iff_toInt_lt
theorem le_w {a b : Int} : Int32.ofInt a ≤ Int32.ofInt b ↔ w32 a ≤ w32 b := Int32.le_iff_toInt_le
theorem eq_w {a b : Int} : Int32.ofInt a = Int32.ofInt b ↔ w32 a = w32 b := Int32.toInt_inj.symm
theorem ltL_w {a b : Int} : Int64.ofInt a < Int64.ofInt b ↔ w64 a < w64 b := Int64.lt_iff_toInt_lt
theorem leL_w {a b : Int} : Int64.ofInt a ≤ Int64.ofInt b ↔ w64 a ≤ w64 b := Int64.le_iff_toInt_le
theorem eqL_w {a b : Int} : Int64.ofInt a = Int64.ofInt b ↔ w64 a = w64 b := Int64.toInt_inj.symm
theorem w32_0 : w32 0 = 0 := by decide
theorem inb_vp {a : Int} {n : Nat} (h : inb a n) : vp_in (Int32.ofInt a) n := vp_in_iff.mpr h
theorem ix_eq (a : Int) : (Int32.ofInt a).toNatClampNeg = ix a := rfl
def andI (a b : Int) : Int := (Int32.ofInt a &&& Int32.ofInt b).toInt
def orI (a b : Int) : Int := (Int32.ofInt a ||| Int32.ofInt b).toInt
def xorI (a b : Int) : Int := (Int32.ofInt a ^^^ Int32.ofInt b).toInt
def shlI (a b : Int) : Int := (Int32.ofInt a <<< (Int32.ofInt b &&& 31)).toInt
def shrI (a b : Int) : Int := (Int32.ofInt a >>> (Int32.ofInt b &&& 31)).toInt
def ushrI (a b : Int) : Int := ((Int32.ofInt a).toUInt32 >>> ((Int32.ofInt b).toUInt32 &&& Int32.toUInt32 31)).toInt32.toInt
def xorL (a b : Int) : Int := (Int64.ofInt a ^^^ Int64.ofInt b).toInt
def divI (a b : Int) : Int := (Int32.ofInt a / Int32.ofInt b).toInt
def remI (a b : Int) : Int := (Int32.ofInt a - Int32.ofInt a / Int32.ofInt b * Int32.ofInt b).toInt
def divL (a b : Int) : Int := (Int64.ofInt a / Int64.ofInt b).toInt
def remL (a b : Int) : Int := (Int64.ofInt a - Int64.ofInt a / Int64.ofInt b * Int64.ofInt b).toInt
def w8 (a : Int) : Int := (Int32.ofInt a).toInt8.toInt
def nz (a : Int) : Int := (vp_nar .boolean (Int32.ofInt a)).toInt
theorem i2l_w (a : Int) : (Int32.ofInt a).toInt64 = Int64.ofInt (w32 a) := by
  apply Int64.toInt_inj.mp
  rw [Int32.toInt_toInt64]
  unfold w32
  have h1 := Int32.le_toInt (Int32.ofInt a)
  have h2 := Int32.toInt_lt (Int32.ofInt a)
  rw [Int64.toInt_ofInt_of_le (by omega) (by omega)]
theorem i2b_w (a : Int) : (Int32.ofInt a).toInt8.toInt32 = Int32.ofInt (w8 a) := by
  apply Int32.toInt_inj.mp
  rw [Int8.toInt_toInt32]
  unfold w8
  have h1 := Int8.le_toInt (Int32.ofInt a).toInt8
  have h2 := Int8.toInt_lt (Int32.ofInt a).toInt8
  rw [Int32.toInt_ofInt_of_le (by omega) (by omega)]
theorem eq_w0 {a : Int} : Int32.ofInt a = 0 ↔ w32 a = 0 := by
  constructor
  · intro h; unfold w32; rw [h]; rfl
  · intro h; exact Int32.toInt_inj.mp h
theorem lt_w0 {a : Int} : Int32.ofInt a < 0 ↔ w32 a < 0 := Int32.lt_iff_toInt_lt
theorem ge_w0 {a : Int} : 0 ≤ Int32.ofInt a ↔ 0 ≤ w32 a := Int32.le_iff_toInt_le
theorem gt_w0 {a : Int} : 0 < Int32.ofInt a ↔ 0 < w32 a := Int32.lt_iff_toInt_lt
theorem le_w0 {a : Int} : Int32.ofInt a ≤ 0 ↔ w32 a ≤ 0 := Int32.le_iff_toInt_le
theorem lg_three (x y : Int64) : (x < y ∧ lg_cmp x y = -1) ∨ (x = y ∧ lg_cmp x y = 0) ∨ (y < x ∧ lg_cmp x y = 1) := by
  unfold lg_cmp
  by_cases h : x > y
  · right; right; exact ⟨h, by rw [if_pos h]⟩
  · by_cases e : x = y
    · right; left; exact ⟨e, by rw [if_neg h, if_pos e]⟩
    · left
      refine ⟨?_, by rw [if_neg h, if_neg e]⟩
      rw [Int64.lt_iff_toInt_lt]
      have h' : ¬ y.toInt < x.toInt := fun q => h (Int64.lt_iff_toInt_lt.mpr q)
      have e' : ¬ x.toInt = y.toInt := fun q => e (Int64.toInt_inj.mp q)
      omega
theorem lgc_eq {a b : Int} : lg_cmp (Int64.ofInt a) (Int64.ofInt b) = 0 ↔ w64 a = w64 b := by
  unfold w64
  rcases lg_three (Int64.ofInt a) (Int64.ofInt b) with ⟨h, e⟩ | ⟨h, e⟩ | ⟨h, e⟩ <;> rw [e]
  · have := Int64.lt_iff_toInt_lt.mp h
    exact ⟨fun q => absurd q (by decide), fun q => by omega⟩
  · exact ⟨fun _ => by rw [h], fun _ => rfl⟩
  · have := Int64.lt_iff_toInt_lt.mp h
    exact ⟨fun q => absurd q (by decide), fun q => by omega⟩
theorem lgc_lt {a b : Int} : lg_cmp (Int64.ofInt a) (Int64.ofInt b) < 0 ↔ w64 a < w64 b := by
  unfold w64
  rcases lg_three (Int64.ofInt a) (Int64.ofInt b) with ⟨h, e⟩ | ⟨h, e⟩ | ⟨h, e⟩ <;> rw [e]
  · exact ⟨fun _ => Int64.lt_iff_toInt_lt.mp h, fun _ => by decide⟩
  · exact ⟨fun q => absurd q (by decide), fun q => by rw [h] at q; omega⟩
  · have := Int64.lt_iff_toInt_lt.mp h
    exact ⟨fun q => absurd q (by decide), fun q => by omega⟩
theorem lgc_gt {a b : Int} : 0 < lg_cmp (Int64.ofInt a) (Int64.ofInt b) ↔ w64 b < w64 a := by
  unfold w64
  rcases lg_three (Int64.ofInt a) (Int64.ofInt b) with ⟨h, e⟩ | ⟨h, e⟩ | ⟨h, e⟩ <;> rw [e]
  · have := Int64.lt_iff_toInt_lt.mp h
    exact ⟨fun q => absurd q (by decide), fun q => by omega⟩
  · exact ⟨fun q => absurd q (by decide), fun q => by rw [h] at q; omega⟩
  · exact ⟨fun _ => Int64.lt_iff_toInt_lt.mp h, fun _ => by decide⟩
theorem lgc_ge {a b : Int} : 0 ≤ lg_cmp (Int64.ofInt a) (Int64.ofInt b) ↔ w64 b ≤ w64 a := by
  unfold w64
  rcases lg_three (Int64.ofInt a) (Int64.ofInt b) with ⟨h, e⟩ | ⟨h, e⟩ | ⟨h, e⟩ <;> rw [e]
  · have := Int64.lt_iff_toInt_lt.mp h
    exact ⟨fun q => absurd q (by decide), fun q => by omega⟩
  · exact ⟨fun _ => by rw [h]; omega, fun _ => by decide⟩
  · have := Int64.lt_iff_toInt_lt.mp h
    exact ⟨fun _ => by omega, fun _ => by decide⟩
theorem lgc_le {a b : Int} : lg_cmp (Int64.ofInt a) (Int64.ofInt b) ≤ 0 ↔ w64 a ≤ w64 b := by
  unfold w64
  rcases lg_three (Int64.ofInt a) (Int64.ofInt b) with ⟨h, e⟩ | ⟨h, e⟩ | ⟨h, e⟩ <;> rw [e]
  · have := Int64.lt_iff_toInt_lt.mp h
    exact ⟨fun _ => by omega, fun _ => by decide⟩
  · exact ⟨fun _ => by rw [h]; omega, fun _ => by decide⟩
  · have := Int64.lt_iff_toInt_lt.mp h
    exact ⟨fun q => absurd q (by decide), fun q => by omega⟩
theorem ce_i (cy : Nat → ClassId) (ad : Nat → Nat) (t n : Nat) (sg : St) (c j : Nat) (v : Int) : ce cy ad (.inl (t, n, .inl 0)) (put sg c j v c) = .inl (cy t, n, .inl (upd (fun j => Int32.ofInt (sg c j)) j (Int32.ofInt v))) := by
  show (Sum.inl (cy t, n, Sum.inl _) : va_E) = _
  congr 4
  funext j2
  simp only [put, upd, true_and]
  split <;> rfl
theorem ce_l (cy : Nat → ClassId) (ad : Nat → Nat) (t n : Nat) (sg : St) (c j : Nat) (v : Int) : ce cy ad (.inl (t, n, .inl 1)) (put sg c j v c) = .inl (cy t, n, .inr (.inl (vp_updL (fun j => Int64.ofInt (sg c j)) j (Int64.ofInt v)))) := by
  show (Sum.inl (cy t, n, Sum.inr (Sum.inl _)) : va_E) = _
  congr 5
  funext j2
  simp only [put, vp_updL, true_and]
  split <;> rfl
theorem ce_z (cy : Nat → ClassId) (ad : Nat → Nat) (t n : Nat) (sg : St) (c j : Nat) (v : Int) : ce cy ad (.inl (t, n, .inl 0)) (put sg c j (nz v) c) = .inl (cy t, n, .inl (upd (fun j => Int32.ofInt (sg c j)) j (vp_nar .boolean (Int32.ofInt v)))) := by
  rw [ce_i, nz, Int32.ofInt_toInt]
theorem ce_b (cy : Nat → ClassId) (ad : Nat → Nat) (t n : Nat) (sg : St) (c j : Nat) (v : Int) : ce cy ad (.inl (t, n, .inl 0)) (put sg c j (w8 v) c) = .inl (cy t, n, .inl (upd (fun j => Int32.ofInt (sg c j)) j (vp_nar .byte (Int32.ofInt v)))) := by
  rw [ce_i, vp_nar_byte, i2b_w]
theorem ce_o (cy : Nat → ClassId) (ad : Nat → Nat) (ci : Nat) (ks : List (Nat ⊕ Nat)) (sg : St) (c j : Nat) (k : Nat ⊕ Nat) (v : Int) (hk : ks[j]? = some k) : ce cy ad (.inr (ci, ks)) (put sg c j v c) = .inr (ci, (ks.mapIdx (fun j k => fv ad k (sg c j))).set j (fv ad k v)) := by
  show (Sum.inr (ci, ks.mapIdx _) : va_E) = _
  congr 2
  apply List.ext_getElem?
  intro i
  rw [List.getElem?_set, List.getElem?_mapIdx, List.getElem?_mapIdx]
  by_cases hi : j = i
  · subst hi
    rw [hk]
    have hl := (List.getElem?_eq_some_iff.mp hk).1
    simp [hl, put]
  · have hi2 : ¬ i = j := fun q => hi q.symm
    simp [hi, hi2, put]
/-! what stands outside the world and never changes: the seven String constants, four statics -/
def poolK : List Nat := [52, 103, 105, 107, 109, 69, 81]
def txK : List String := ["prize", "field", "age", "school", "seen", "best", "alone"]
def bytK : List (List Int32) := [[112, 114, 105, 122, 101], [102, 105, 101, 108, 100], [97, 103, 101], [115, 99, 104, 111, 111, 108], [115, 101, 101, 110], [98, 101, 115, 116], [97, 108, 111, 110, 101]]
def lenK : List Nat := [5, 5, 3, 6, 4, 4, 5]
def leastW (j : Nat) : Int := [0, 0, 0, 1].getD j 0
def greatW (j : Nat) : Int := [7, 3, 15, 12].getD j 0
def nwL : List (String × Nat × MethodName) := [("FairHall", 9, ⟨"FairHall$Boards", "<init>", "()V"⟩), ("FairHall", 18, ⟨"FairHall$Judges", "<init>", "()V"⟩), ("FairHall", 25, ⟨"FairHall$Plan", "<init>", "()V"⟩), ("FairHall", 32, ⟨"FairHall$Marks", "<init>", "()V"⟩), ("FairHall", 39, ⟨"FairHall$Known", "<init>", "()V"⟩), ("FairHall", 46, ⟨"FairHall$Scale", "<init>", "()V"⟩), ("FairHall", 53, ⟨"FairHall$Fraction", "<init>", "()V"⟩), ("FairHall", 60, ⟨"FairHall$TextReader", "<init>", "()V"⟩), ("FairHall$Giver", 28, ⟨"FairHall$Fraction", "<init>", "()V"⟩), ("FairHall", 74, ⟨"FairHall$Halls", "<init>", "()V"⟩), ("FairHall", 81, ⟨"FairHall$PrizeRows", "<init>", "()V"⟩), ("FairHall$Plan", 100, ⟨"FairHall", "lowestBit", "(I)I"⟩), ("FairHall$TextReader", 114, ⟨"FairHall", "within", "(III)Z"⟩)]
def SF (A : Nat → Prop) (ad : Nat → Nat) (U : State) (H : Heap) : Prop :=
  vk_S 7 lenK bytK (fun i => ad (1000 + i)) (fun i => ad (1100 + i)) A U H ∧ (∀ i, i < 7 → vk_R "FairHall$TextReader" (poolK.getD i 0) (txK.getD i "") (ad (1000 + i)) U) ∧ va_Z "java/lang/String" "COMPACT_STRINGS" "Z" (.int 1) A U H ∧ va_Zq "jdk/internal/util/Preconditions" "SIOOBE_FORMATTER" "Ljava/util/function/BiFunction;" A U H ∧ va_Z "FairHall$TextReader" "LEAST_WISH" "[I" (.ref (ad 1200)) A U H ∧ va_T .int (ad 1200) 4 (fun j => mI (leastW j)) A U H ∧ va_Z "FairHall$TextReader" "GREATEST_WISH" "[I" (.ref (ad 1201)) A U H ∧ va_T .int (ad 1201) 4 (fun j => mI (greatW j)) A U H ∧ ∀ q ∈ nwL, va_Nw (.methodLinkNest q.1 q.2.1 q.2.2 "FairHall") U
theorem SF.calling {A : Nat → Prop} {ad : Nat → Nat} {U : State} {g : JFrame} {mk : MethodId} {a : Array Value} (h : SF A ad U U.heap) : SF A ad (U.calling g mk a) (U.calling g mk a).heap := by
  obtain ⟨h1, h2, h3, h4, h5, h6, h7, h8, h9⟩ := h
  have hv : U.vm.Alike (U.calling g mk a).vm := Vm.Alike.refl U.vm
  exact ⟨h1.moved hv, fun i hi => (h2 i hi).same rfl, h3.moved hv, h4.moved hv, h5.moved hv, h6.moved hv, h7.moved hv, h8.moved hv, fun q hq => (h9 q hq).same rfl rfl⟩
theorem SF.sub {A B : Nat → Prop} {ad : Nat → Nat} {s U : State} {H : Heap} {locs : List Loc} (h : SF A ad s s.heap) (hS : va_S A s.heap H locs) (hAB : ∀ q, B q → A q) (hU : U.heap = H) (hW : s.WarmedH U.vm) : SF B ad U U.heap := by
  subst hU
  obtain ⟨h1, h2, h3, h4, h5, h6, h7, h8, h9⟩ := h
  have hv := hW.alike
  exact ⟨((h1.kept hS.2.1).narrow hAB).moved hv, fun i hi => (h2 i hi).warm hW, ((h3.kept hS.2.1).narrow hAB).moved hv, ((h4.kept hS.2.1).narrow hAB).moved hv, ((h5.kept hS.2.1).narrow hAB).moved hv, ((h6.kept hS.2.1).narrow hAB).moved hv, ((h7.kept hS.2.1).narrow hAB).moved hv, ((h8.kept hS.2.1).narrow hAB).moved hv, fun q hq => (h9 q hq).warmM hW⟩
