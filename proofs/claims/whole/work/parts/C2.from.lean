theorem P_re {S : List Shp} {sg : St} (hq : okl sg 0 S = true) {D : va_G} {cy : Nat → ClassId} {a ax : Nat → Nat} {H : Heap} (h : ∀ k, k < 1000 → a k = ax k) (hP : va_P D vwCl (wd S cy a sg) H) : va_P D vwCl (wd S cy ax sg) H := EQL.P (wd_re h cy hq) hP
theorem D_re {S T : List Shp} {sg tg : St} (hq : okl sg 0 S = true) (hr : okl tg 0 T = true) {cy : Nat → ClassId} {a ax d am : Nat → Nat} {A : Nat → Prop} (h : ∀ k, k < 1000 → a k = ax k) (g : ∀ k, k < 1000 → d k = am k) (hD : va_D A (wd S cy a sg ++ wd T cy d tg)) : va_D A (wd S cy ax sg ++ wd T cy am tg) := EQL.D (EQL.app (wd_re h cy hq) (wd_re g cy hr)) hD
/-- from the loop's head on, both objects made -/
theorem law_from {F : Nat} (hF : 40010 ≤ F) {p : Program} {e : Env} {s : State} {m : MethodId} {below : List Frame} {meth : Method} {c : Code} {l : Launch} {b L : Nat} {xs : Nat → Int32} (hL : L ≤ 3072) (C0 : lw_At p s m meth c b L xs) {D : va_G} {cy : Nat → ClassId} (hK : va_K D vwCl (tyl cy) s) {ad0 : Nat → Nat} (hSF : ∀ ad : Nat → Nat, (∀ k, 1000 ≤ k → ad k = ad0 k) → SF (fun q : Nat => s.heap.size ≤ q) ad s s.heap) {h0 h1 : Nat} {u v : Nat → Nat} {H : Heap} {locs : List Loc} {ls : Array Slot} (hP : va_P D vwCl (wd shX cy (fun k => if k = 0 then h0 else u k) sX0 ++ wd shM cy (fun k => if k = 0 then h1 else v k) sM0) H) (hD : va_D (fun q : Nat => s.heap.size ≤ q) (wd shX cy (fun k => if k = 0 then h0 else u k) sX0 ++ wd shM cy (fun k => if k = 0 then h1 else v k) sM0)) (hS : va_S (fun q : Nat => s.heap.size ≤ q) s.heap H locs) (hl : lv_has ls 4 [(3, mI 0), (2, .ref h1), (1, .ref h0), (0, .ref b)]) : W p l e room_1 s m #[Value.ref b] below meth c H locs 600000 7302250 (lw_Z below #[Value.ref b] s) (F0 m 18 ls []) := by
  obtain ⟨hx, hb, hr, hml, hown, hts, hX, hbl, hlocks, hgv⟩ := id C0
  have htg : ∀ w ∈ gt, w.before #[Value.ref b] s = true := fun w hw => hts w (gt_tbl w hw)
  obtain ⟨ax, hax⟩ : ∃ ax : Nat → Nat, ax = fun k => if k < 1000 then (if k = 0 then h0 else u k) else ad0 k := ⟨_, rfl⟩
  obtain ⟨am, ham⟩ : ∃ am : Nat → Nat, am = fun k => if k < 1000 then (if k = 0 then h1 else v k) else ad0 k := ⟨_, rfl⟩
  have ax0 : ax 0 = h0 := by rw [hax]; rfl
  have am0 : am 0 = h1 := by rw [ham]; rfl
  have gx : ∀ k, k < 1000 → (fun k => if k = 0 then h0 else u k) k = ax k := fun k hk => by
    rw [hax]
    show (if k = 0 then h0 else u k) = (if k < 1000 then (if k = 0 then h0 else u k) else ad0 k)
    rw [if_pos hk]
  have gm : ∀ k, k < 1000 → (fun k => if k = 0 then h1 else v k) k = am k := fun k hk => by
    rw [ham]
    show (if k = 0 then h1 else v k) = (if k < 1000 then (if k = 0 then h1 else v k) else ad0 k)
    rw [if_pos hk]
  have fx : ∀ k, 1000 ≤ k → ax k = ad0 k := fun k hk => by
    rw [hax]
    show (if k < 1000 then (if k = 0 then h0 else u k) else ad0 k) = ad0 k
    rw [if_neg (by omega)]
  have fm : ∀ k, 1000 ≤ k → am k = ad0 k := fun k hk => by
    rw [ham]
    show (if k < 1000 then (if k = 0 then h1 else v k) else ad0 k) = ad0 k
    rw [if_neg (by omega)]
  have hPX : va_P D vwCl (wd shX cy ax sX0) H := P_re okX gx (P_left hP)
  have hPM : va_P D vwCl (wd shM cy am sM0) H := P_re okM gm (P_right hP)
  obtain ⟨t1, t2, t3, t4, t5⟩ := two_apart (D_re okX okM gx gm hD)
  have LXX : LX p s m meth c D cy ax am b L xs := ⟨hx, hb, hml, hown, htg, hK, t1, t2, t3, t4, t5, hSF _ fx, hSF _ fm, hX, hbl, hr, hlocks⟩
  have hl2 : lv_has ls 4 [(0, .ref b), (1, .ref (ax 0)), (2, .ref (am 0)), (3, mI ((0 : Nat) : Int))] := by
    rw [ax0, am0]
    exact lv_sub hl [3, 2, 1, 0] rfl
  have ll := law_loop (l := l) (e := e) (below := below) LXX hL (F := F) (INV := INV F) s_status s_board s_judge (s_told (by omega)) s_may s_looks (s_plan (by omega)) s_sees s_holds s_mark s_lose (s_seen (by omega)) (s_heap (by omega)) (s_hardness (by omega)) (s_fair (by omega)) s_upper s_lower (s_feed (by omega)) (s_prizes (by omega)) s_fault (s_given (by omega)) s_hall s_clear (s_laid (by omega)) (s_tries (by omega)) L 0 (by omega) (by omega) sX0 sM0 INV_0
  exact ll H locs ls hPX hPM hS hl2
