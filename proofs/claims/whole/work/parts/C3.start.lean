set_option maxHeartbeats 4000000 in
set_option maxRecDepth 100000 in
/-- THE LAW, from its entry -/
theorem whole_start {p : Program} {e : Env} {s : State} {m : MethodId} {below : List Frame} {meth : Method} {c : Code} (l : Launch) {b L : Nat} {xs : Nat → Int32} (hL : L ≤ 3072) (C0 : lw_At p s m meth c b L xs) : W p l e room_1 s m #[Value.ref b] below meth c s.heap [] 0 0 (lw_Z below #[Value.ref b] s) (entryFrame m ([Value.ref b] : List Value).toArray 4) := by
  obtain ⟨hx, hb, hr, hml, hown, hts, hX, hbl, hlocks, hgv⟩ := id C0
  obtain ⟨D, cy, hK⟩ := st_K hts
  obtain ⟨ad0, hSF⟩ := st_SF hts hgv
  have htg : ∀ w ∈ gt, w.before #[Value.ref b] s = true := fun w hw => hts w (gt_tbl w hw)
  have X : CW p s m b c D cy := ⟨hx, hb, hml, hown, htg, hK, st_EX hts⟩
  have hP0 : va_P D vwCl [] s.heap := fun k q h => by simp at h
  have hD0 : va_D (fun q : Nat => s.heap.size ≤ q) [] := ⟨fun i j p q h => by simp at h, fun k q h => by simp at h⟩
  have hl := lv_entry ([.ref b]) (n := 4) (Nat.le_of_ble_eq_true rfl)
  rw [lg_entry_eq]
  generalize (lg_sl ([.ref b]) ++ List.replicate (4 - (lg_sl ([.ref b])).length) Slot.unset).toArray = ls at hl ⊢
  have hl : lv_has ls 4 [(0, .ref b)] := hl
  have go : GW p l e s m b below meth c D 0 0 0 [(0, .ref b)] [] [] := by
    refine q_new X nw_L_7 (N := 14) rfl (by decide) (by decide) dL_law_0 (fun h0 => ?_)
    refine q_dup X dL_law_3 rfl ?_
    refine q_callJ X (ws := []) c_H_init yw_X11_init yi_X11_init ml_L_9 rfl ⟨by decide, by decide⟩ ⟨by decide, by decide⟩ (by simp [Value.category]) dL_law_4 (fun u => ?_)
    rw [List.nil_append]
    refine q_astore_n (lv2 := [(1, .ref h0), (0, .ref b)]) X dL_law_7 rfl (by decide) rfl ?_
    refine q_new X nw_L_10 (N := 86) rfl (by decide) (by decide) dL_law_8 (fun h1 => ?_)
    refine q_dup X dL_law_11 rfl ?_
    refine q_callJ X c_M_init yw_X12_init yi_X12_init ml_L_12 rfl ⟨by decide, by decide⟩ ⟨by decide, by decide⟩ (by simp [Value.category]) dL_law_12 (fun v => ?_)
    refine q_astore_n (lv2 := [(2, .ref h1), (1, .ref h0), (0, .ref b)]) X dL_law_15 rfl (by decide) rfl ?_
    refine q_iconst X dL_law_16 ?_
    refine q_istore_n (lv2 := [(3, mI 0), (2, .ref h1), (1, .ref h0), (0, .ref b)]) X dL_law_17 rfl (by decide) rfl ?_
    rw [wlX, wlM]
    intro H locs ls hP hD hS hl
    refine W.widen (k := 600000) (n := 7302250) (by decide) (by decide) ?_
    exact law_from (F := 40010) (Nat.le_refl _) hL C0 hK hSF hP hD hS hl
  exact go s.heap [] ls hP0 hD0 va_S.rf hl
