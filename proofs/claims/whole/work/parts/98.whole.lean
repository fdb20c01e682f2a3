/-! the law, from its entry to its end -/
set_option maxHeartbeats 4000000 in
theorem whole_start {p : Program} {e : Env} {s : State} {m : MethodId} {below : List Frame} {meth : Method} {c : Code} (l : Launch) (hl : l.stackTraces = false) {b L : Nat} {xs : Nat → Int32} (hL : L ≤ 3072) (C0 : lw_At p s m meth c b L xs) (hnm : meth.name = "law") : W p l e room_1 s m #[Value.ref b] below meth c s.heap [] 0 0 (lw_Z below #[Value.ref b] s) (entryFrame m ([Value.ref b] : List Value).toArray 8) := by
  obtain ⟨hx, hb, hr, hml, hown, hts, hX, hbl, hlocks, hgv⟩ := C0
  obtain ⟨E, sv, hE, hK, hH, l1, l2, l3, d1, d2, d3, d4, d5, d6⟩ := st_all hts hgv hX hbl hL
  have hlv : lvO (mI 193).1 = 14 := by decide +kernel
  have m1 : (stH s.heap.size b L xs E.2.1 E.2.2.1 sv).2.2 b = some (false, .inl (1, L, .inl xs)) := if_pos rfl
  have m2 : (stH s.heap.size b L xs E.2.1 E.2.2.1 sv).2.2 E.2.1 = some (false, .inl (0, 0, .inl (fun _ => nI 0))) := (if_neg d1).trans (if_pos rfl)
  have m3 : (stH s.heap.size b L xs E.2.1 E.2.2.1 sv).2.2 E.2.2.1 = some (false, .inr (12, [.ref sv, .int (nI 0)])) := (if_neg d2).trans ((if_neg d4).trans (if_pos rfl))
  have m4 : (stH s.heap.size b L xs E.2.1 E.2.2.1 sv).2.2 sv = some (false, .inl (0, 8, .inl (fun j => nI (LB j)))) := (if_neg d3).trans ((if_neg d5).trans ((if_neg d6).trans (if_pos rfl)))
  have m0 : (stH s.heap.size b L xs E.2.1 E.2.2.1 sv).1 = s.heap.size := rfl
  generalize stH s.heap.size b L xs E.2.1 E.2.2.1 sv = h at hH m0 m1 m2 m3 m4
  obtain ⟨v, h', ⟨hlen, f, hrun⟩, rfl, g1, g2, g3, g4⟩ := c_LW_law (nb := E.2.1) (sa := E.2.2.1) (h := h) (a0 := b) (n := L) (w := false) (g := xs) m1 hL (by rw [m0]; exact hbl) ⟨false, fun _ => nI 0, m2, fun j hj => absurd hj (Nat.not_lt_zero j), fun x hx => absurd hx List.not_mem_nil, by decide⟩ (by rw [m0]; exact l1) ⟨false, sv, [], false, fun j => nI (LB j), m3, m4, fun j _ => rfl, by rw [m0]; exact l2, by rw [m0]; exact l3⟩
  have K := law_W (E := E) (l := l) hl (p := p) (e := e) (s := s) (m := m) (below := below) (meth := meth) (c := c) (a0 := b) (f := f) (h := h) (v := some (.int (nI 1))) (h' := h') hrun
    ⟨hx, hb, hml, hown, hnm, hr, hlocks, fun w hw => hts w (lwg_in hw), hK, Nat.le_of_eq hE, by show 1 ≤ lvO (mI 193).1; rw [hlv]; decide, by show 64 ≤ 64 * lvO (mI 193).1; rw [hlv]; decide⟩ hH
  have K2 := W_room (R := room_1) (by show lvO (mI 193).1 ≤ 20; rw [hlv]; decide) (by show 64 * lvO (mI 193).1 ≤ 10856; rw [hlv]; decide) (by show h'.1 - h.1 ≤ 603072; omega) (by show h'.2.1 - h.2.1 ≤ 7262314; omega) K
  intro T hT X
  obtain ⟨t, a1, b1⟩ := K2 T hT X
  exact ⟨t, a1, law_end hE (by omega) (by omega) b1⟩
