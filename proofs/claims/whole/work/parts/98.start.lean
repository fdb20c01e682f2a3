/-! the start: from what the Statement gives to the abstract machine's heap -/
theorem ar_cls {s : State} {cell : Cell} {t : FieldType} (h : s.isArrayOf cell t) : ArrOfT s cell.cls t := by
  obtain ⟨-, k, hk, comp, hc⟩ := h
  exact fun n z => ⟨(fun k h => by cases h), k, hk, comp, hc⟩
theorem ar_two {s : State} {cell : Cell} {t u : FieldType} (h1 : s.isArrayOf cell t) (h2 : s.isArrayOf cell u) : t = u := by
  obtain ⟨-, k, hk, comp, hc⟩ := h1
  obtain ⟨-, k2, hk2, comp2, hc2⟩ := h2
  rw [hk] at hk2
  cases hk2
  rw [hc] at hc2
  cases hc2
  rfl
theorem ar_ord {s : State} {cell : Cell} {t : FieldType} {C : String} (h1 : s.isArrayOf cell t) (h2 : ClassAt s C cell.cls) : False := by
  obtain ⟨-, k, hk, comp, hc⟩ := h1
  obtain ⟨-, k2, hk2, hc2⟩ := h2
  rw [hk] at hk2
  cases hk2
  rw [hc] at hc2
  cases hc2
theorem ar_P {A : Array Value} {s : State} {t : FieldType} (h : (Cond.arrayClass t).before A s = true) : ∃ cA, ArrOfT s cA t ∧ s.vm.findClass ("[" ++ t.toString) = some cA := by
  obtain ⟨c, k, comp, h1, h2, h3⟩ := Cond.arrayClass_spec (show (Cond.arrayClass t).holds A s none s [] = true from h)
  exact ⟨c, fun n z => ⟨(fun k h => by cases h), k, h2, comp, h3⟩, h1⟩
theorem ar_O {A : Array Value} {s : State} {C : String} (h : (Cond.arrayOver (.object C)).before A s = true) : ∃ cA, ArrOfT s cA (.object C) ∧ va_RA s cA (.object C) := by
  obtain ⟨comp, c, k, h1, h2, h3, h4, h5⟩ := Cond.arrayOver_spec (show (Cond.arrayOver (.object C)).holds A s none s [] = true from h)
  exact ⟨c, fun n z => ⟨(fun k h => by cases h), k, h3, comp, h4⟩, k, comp, h3, h4, h1, h5⟩
theorem ar_A {A : Array Value} {s : State} {t : FieldType} (h : (Cond.arrayOver (.array t)).before A s = true) : ∃ cA, ArrOfT s cA (.array t) ∧ va_RA s cA (.array t) := by
  obtain ⟨comp, c, k, h1, -, h2, h3, h4⟩ := arrayOverA_spec (show (Cond.arrayOver (.array t)).holds A s none s [] = true from h)
  exact ⟨c, fun n z => ⟨(fun k h => by cases h), k, h2, comp, h3⟩, h4⟩
theorem tb_of {A : Array Value} {s : State} (hts : ∀ w ∈ lw_tbl, w.before A s = true) {w : Cond} (k : Nat) (h : tables_1[k]? = some w) : w.before A s = true := hts w (List.mem_append_right _ (List.mem_of_getElem? h))
theorem tb_list {A : Array Value} {s : State} (hts : ∀ w ∈ lw_tbl, w.before A s = true) (ws : List Cond) (ks : List Nat) (h : ws.map some = ks.map (fun k => tables_1[k]?)) : ∀ w ∈ ws, w.before A s = true := by
  intro w hw
  have h1 : some w ∈ ws.map some := List.mem_map.mpr ⟨w, hw, rfl⟩
  rw [h] at h1
  obtain ⟨k, -, hk⟩ := List.mem_map.mp h1
  exact tb_of hts k hk
/-- the classes -/
theorem st_cls {A : Array Value} {s : State} (hts : ∀ w ∈ lw_tbl, w.before A s = true) : ∃ D : va_G, ∀ (k : Nat) (q : vw_C), classes[k]? = some q → u_Kn s q.1 q.2.1 q.2.2 (D.1 k) (D.2 k) := by
  have hg : ∀ w ∈ lwg, w.before A s = true := fun w hw => hts w (lwg_in hw)
  have hex : ∀ k : Nat, ∃ d : ClassId × (Nat → Nat), ∀ q : vw_C, classes[k]? = some q → u_Kn s q.1 q.2.1 q.2.2 d.1 d.2 := by
    intro k
    match k with
    | 0 =>
      obtain ⟨c, i, h⟩ := u_known (C := RX0) (T := TX0) (N := 9) (n := 9) hg inX0 (tb_of hts 113 (by decide +kernel))
      exact ⟨(c, i), fun q hq => by cases hq; exact h⟩
    | 1 =>
      obtain ⟨c, i, h⟩ := u_known (C := RX1) (T := TX1) (N := 3) (n := 3) hg inX1 (tb_of hts 64 (by decide +kernel))
      exact ⟨(c, i), fun q hq => by cases hq; exact h⟩
    | 2 =>
      obtain ⟨c, i, h⟩ := u_known (C := RX2) (T := TX2) (N := 5) (n := 5) hg inX2 (tb_of hts 57 (by decide +kernel))
      exact ⟨(c, i), fun q hq => by cases hq; exact h⟩
    | 3 =>
      obtain ⟨c, i, h⟩ := u_known (C := RX3) (T := TX3) (N := 5) (n := 5) hg inX3 (tb_of hts 236 (by decide +kernel))
      exact ⟨(c, i), fun q hq => by cases hq; exact h⟩
    | 4 =>
      obtain ⟨c, i, h⟩ := u_known (C := RX4) (T := TX4) (N := 2) (n := 2) hg inX4 (tb_of hts 41 (by decide +kernel))
      exact ⟨(c, i), fun q hq => by cases hq; exact h⟩
    | 5 =>
      obtain ⟨c, i, h⟩ := u_known (C := RX6) (T := TX6) (N := 2) (n := 2) hg inX6 (tb_of hts 101 (by decide +kernel))
      exact ⟨(c, i), fun q hq => by cases hq; exact h⟩
    | 6 =>
      obtain ⟨c, i, h⟩ := u_known (C := RX7) (T := TX7) (N := 8) (n := 8) hg inX7 (tb_of hts 33 (by decide +kernel))
      exact ⟨(c, i), fun q hq => by cases hq; exact h⟩
    | 7 =>
      obtain ⟨c, i, h⟩ := u_known (C := RX8) (T := TX8) (N := 2) (n := 2) hg inX8 (tb_of hts 1048 (by decide +kernel))
      exact ⟨(c, i), fun q hq => by cases hq; exact h⟩
    | 8 =>
      obtain ⟨c, i, h⟩ := u_known (C := RX9) (T := TX9) (N := 10) (n := 10) hg inX9 (tb_of hts 950 (by decide +kernel))
      exact ⟨(c, i), fun q hq => by cases hq; exact h⟩
    | 9 =>
      obtain ⟨c, i, h⟩ := u_known (C := RX10) (T := TX10) (N := 5) (n := 5) hg inX10 (tb_of hts 1253 (by decide +kernel))
      exact ⟨(c, i), fun q hq => by cases hq; exact h⟩
    | 10 =>
      obtain ⟨c, i, h⟩ := u_known (C := RX11) (T := TX11) (N := 2) (n := 2) hg inX11 (tb_of hts 1031 (by decide +kernel))
      exact ⟨(c, i), fun q hq => by cases hq; exact h⟩
    | 11 =>
      obtain ⟨c, i, h⟩ := u_known (C := RX12) (T := TX12) (N := 17) (n := 17) hg inX12 (tb_of hts 874 (by decide +kernel))
      exact ⟨(c, i), fun q hq => by cases hq; exact h⟩
    | 12 =>
      obtain ⟨c, i, h⟩ := u_known (C := RJ0) (T := TJ0) (N := 2) (n := 4) hg inJ0 (tb_of hts 784 (by decide +kernel))
      exact ⟨(c, i), fun q hq => by cases hq; exact h⟩
    | k + 13 =>
      obtain ⟨c, i, h⟩ := u_known (C := RJ0) (T := TJ0) (N := 2) (n := 4) hg inJ0 (tb_of hts 784 (by decide +kernel))
      exact ⟨(c, i), fun q hq => absurd (show (none : Option vw_C) = some q from hq) (by intro z; cases z)⟩
  obtain ⟨d, hd⟩ := Classical.axiomOfChoice hex
  exact ⟨(fun k => (d k).1, fun k => (d k).2), fun k q hq => hd k q hq⟩
/-- the kinds of arrays; an array that is there has a number of its own -/
theorem st_arr {A : Array Value} {s : State} (hts : ∀ w ∈ lw_tbl, w.before A s = true) : ∃ dA : Nat → ClassId, (∀ (k : Nat) (q : ClassId × FieldType), (tysOf dA)[k]? = some q → ArrOfT s q.1 q.2 ∧ va_RA s q.1 q.2) ∧ (∀ i : Nat, ArrOfT s (dA (20 + 2 * i)) .byte ∧ ArrOfT s (dA (20 + 2 * i + 1)) .int) ∧ (∀ (a : Nat) (cell : Cell), s.heap[a]? = some cell → s.isArrayOf cell .byte → cell.cls = dA (20 + 2 * a + 0)) ∧ ∀ (a : Nat) (cell : Cell), s.heap[a]? = some cell → s.isArrayOf cell .int → cell.cls = dA (20 + 2 * a + 1) := by
  obtain ⟨c0, a0, r0⟩ := ar_P (t := .byte) (tb_of hts 53 (by decide +kernel))
  obtain ⟨c1, a1, r1⟩ := ar_P (t := .int) (tb_of hts 83 (by decide +kernel))
  obtain ⟨c2, a2, r2⟩ := ar_P (t := .long) (tb_of hts 1368 (by decide +kernel))
  obtain ⟨c3, a3, r3⟩ := ar_A (t := .int) (tb_of hts 121 (by decide +kernel))
  obtain ⟨c4, a4, r4⟩ := ar_A (t := .byte) (tb_of hts 956 (by decide +kernel))
  obtain ⟨c5, a5, r5⟩ := ar_O (C := RX0) (tb_of hts 55 (by decide +kernel))
  obtain ⟨c6, a6, r6⟩ := ar_O (C := RX1) (tb_of hts 63 (by decide +kernel))
  obtain ⟨c7, a7, r7⟩ := ar_O (C := RX9) (tb_of hts 880 (by decide +kernel))
  obtain ⟨c8, a8, r8⟩ := ar_O (C := RX11) (tb_of hts 960 (by decide +kernel))
  obtain ⟨c9, a9, r9⟩ := ar_A (t := .object RX11) (tb_of hts 958 (by decide +kernel))
  obtain ⟨c10, a10, r10⟩ := ar_O (C := RX10) (tb_of hts 882 (by decide +kernel))
  have key : ∀ (a : Nat) (t : FieldType) (c : ClassId), ArrOfT s c t → ∃ d : ClassId, ArrOfT s d t ∧ ∀ cell : Cell, s.heap[a]? = some cell → s.isArrayOf cell t → cell.cls = d := by
    intro a t c hc
    by_cases h : ∃ cell : Cell, s.heap[a]? = some cell ∧ s.isArrayOf cell t
    · obtain ⟨cell, h1, h2⟩ := h
      exact ⟨cell.cls, ar_cls h2, fun ce h3 _ => by rw [h1] at h3; cases h3; rfl⟩
    · exact ⟨c, hc, fun ce h3 h4 => absurd ⟨ce, h3, h4⟩ h⟩
  obtain ⟨fb, hfb⟩ := Classical.axiomOfChoice (fun a : Nat => key a .byte c0 a0)
  obtain ⟨fi, hfi⟩ := Classical.axiomOfChoice (fun a : Nat => key a .int c1 a1)
  have eb : ∀ i : Nat, (20 + 2 * i - 20) % 2 = 0 ∧ (20 + 2 * i - 20) / 2 = i := fun i => by omega
  have ei : ∀ i : Nat, (20 + 2 * i + 1 - 20) % 2 = 1 ∧ (20 + 2 * i + 1 - 20) / 2 = i := fun i => by omega
  let dA : Nat → ClassId := fun k => if k < 20 then ([c0, c1, c2, c3, c4, c5, c6, c7, c8, c9, c10] : List ClassId).getD k c0 else if (k - 20) % 2 = 0 then fb ((k - 20) / 2) else fi ((k - 20) / 2)
  have db : ∀ i : Nat, dA (20 + 2 * i) = fb i := by
    intro i
    show (if 20 + 2 * i < 20 then _ else _) = _
    rw [if_neg (by omega), if_pos (eb i).1, (eb i).2]
  have di : ∀ i : Nat, dA (20 + 2 * i + 1) = fi i := by
    intro i
    show (if 20 + 2 * i + 1 < 20 then _ else _) = _
    rw [if_neg (by omega), if_neg (by rw [(ei i).1]; decide), (ei i).2]
  have dl : ∀ k : Nat, k < 20 → dA k = ([c0, c1, c2, c3, c4, c5, c6, c7, c8, c9, c10] : List ClassId).getD k c0 := fun k hk => if_pos hk
  clear_value dA
  refine ⟨dA, ?_, ?_, ?_, ?_⟩
  · intro k q hq
    match k, hq with
    | 0, hq =>
      cases (show some ((dA 0, .byte) : ClassId × FieldType) = some q from hq)
      show ArrOfT s (dA 0) (.byte) ∧ va_RA s (dA 0) (.byte)
      rw [show dA 0 = c0 from dl 0 (by decide)]
      exact ⟨a0, r0⟩
    | 1, hq =>
      cases (show some ((dA 1, .int) : ClassId × FieldType) = some q from hq)
      show ArrOfT s (dA 1) (.int) ∧ va_RA s (dA 1) (.int)
      rw [show dA 1 = c1 from dl 1 (by decide)]
      exact ⟨a1, r1⟩
    | 2, hq =>
      cases (show some ((dA 2, .long) : ClassId × FieldType) = some q from hq)
      show ArrOfT s (dA 2) (.long) ∧ va_RA s (dA 2) (.long)
      rw [show dA 2 = c2 from dl 2 (by decide)]
      exact ⟨a2, r2⟩
    | 3, hq =>
      cases (show some ((dA 3, .array .int) : ClassId × FieldType) = some q from hq)
      show ArrOfT s (dA 3) (.array .int) ∧ va_RA s (dA 3) (.array .int)
      rw [show dA 3 = c3 from dl 3 (by decide)]
      exact ⟨a3, r3⟩
    | 4, hq =>
      cases (show some ((dA 4, .array .byte) : ClassId × FieldType) = some q from hq)
      show ArrOfT s (dA 4) (.array .byte) ∧ va_RA s (dA 4) (.array .byte)
      rw [show dA 4 = c4 from dl 4 (by decide)]
      exact ⟨a4, r4⟩
    | 5, hq =>
      cases (show some ((dA 5, .object RX0) : ClassId × FieldType) = some q from hq)
      show ArrOfT s (dA 5) (.object RX0) ∧ va_RA s (dA 5) (.object RX0)
      rw [show dA 5 = c5 from dl 5 (by decide)]
      exact ⟨a5, r5⟩
    | 6, hq =>
      cases (show some ((dA 6, .object RX1) : ClassId × FieldType) = some q from hq)
      show ArrOfT s (dA 6) (.object RX1) ∧ va_RA s (dA 6) (.object RX1)
      rw [show dA 6 = c6 from dl 6 (by decide)]
      exact ⟨a6, r6⟩
    | 7, hq =>
      cases (show some ((dA 7, .object RX9) : ClassId × FieldType) = some q from hq)
      show ArrOfT s (dA 7) (.object RX9) ∧ va_RA s (dA 7) (.object RX9)
      rw [show dA 7 = c7 from dl 7 (by decide)]
      exact ⟨a7, r7⟩
    | 8, hq =>
      cases (show some ((dA 8, .object RX11) : ClassId × FieldType) = some q from hq)
      show ArrOfT s (dA 8) (.object RX11) ∧ va_RA s (dA 8) (.object RX11)
      rw [show dA 8 = c8 from dl 8 (by decide)]
      exact ⟨a8, r8⟩
    | 9, hq =>
      cases (show some ((dA 9, .array (.object RX11)) : ClassId × FieldType) = some q from hq)
      show ArrOfT s (dA 9) (.array (.object RX11)) ∧ va_RA s (dA 9) (.array (.object RX11))
      rw [show dA 9 = c9 from dl 9 (by decide)]
      exact ⟨a9, r9⟩
    | 10, hq =>
      cases (show some ((dA 10, .object RX10) : ClassId × FieldType) = some q from hq)
      show ArrOfT s (dA 10) (.object RX10) ∧ va_RA s (dA 10) (.object RX10)
      rw [show dA 10 = c10 from dl 10 (by decide)]
      exact ⟨a10, r10⟩
    | k + 11, hq => exact absurd (show (none : Option (ClassId × FieldType)) = some q from hq) (by intro z; cases z)
  · intro i
    rw [db, di]
    exact ⟨(hfb i).1, (hfi i).1⟩
  · intro a cell h1 h2
    rw [Nat.add_zero, db]
    exact (hfb a).2 cell h1 h2
  · intro a cell h1 h2
    rw [di]
    exact (hfi a).2 cell h1 h2
/-- what throwing asks, at the start -/
theorem st_KE {b : Nat} {s : State} (hts : ∀ w ∈ lw_tbl, w.before #[Value.ref b] s = true) (hs : ∀ w ∈ flatC (Jvm.Cond.and given_1 narrow_1), w.before #[Value.ref b] s = true) {E : XE} (hE : E.1 = s.heap.size) (harr : ∀ i : Nat, ArrOfT s (E.2.2.2.2 (20 + 2 * i)) .byte ∧ ArrOfT s (E.2.2.2.2 (20 + 2 * i + 1)) .int) : KE E s s.heap := by
  have hA : ∀ a : Nat, a < s.heap.size → ¬ XA E a := fun a ha (h : E.1 ≤ a) => by rw [hE] at h; exact absurd ha (Nat.not_lt.mpr h)
  refine ⟨?_, ?_, ?_, ?_, ?_, ?_, harr⟩
  · exact vx_Zqof (tb_of hts 720 (by decide +kernel)) (tb_of hts 21 (by decide +kernel)) (hs _ (by decide +kernel)) hA
  · exact vx_Zqof (tb_of hts 722 (by decide +kernel)) (tb_of hts 21 (by decide +kernel)) (hs _ (by decide +kernel)) hA
  · have h1 := tb_list hts (exWc.map fun q => Cond.castable q.1 q.2) [835, 851, 812, 827, 814] (by decide +kernel)
    intro q hq
    exact va_Nw.of rfl (h1 _ (List.mem_map.mpr ⟨q, hq, rfl⟩))
  · have h1 := tb_list hts (exWd.map fun x => Cond.declares x) [769, 771, 773] (by decide +kernel)
    intro x hx
    exact va_Nw.of rfl (h1 _ (List.mem_map.mpr ⟨x, hx, rfl⟩))
  · have h1 := tb_list hts (exS.map fun q => Cond.stringRef RX7 q.1 q.2) [842, 858, 863, 870] (by decide +kernel)
    have h2 : ∀ w ∈ exS.map (fun q => Cond.exactly (.string RX7 q.1) "java/lang/String"), w ∈ flatC (Jvm.Cond.and given_1 narrow_1) := by decide +kernel
    intro q hq
    obtain ⟨a, c, cA, kA, q1, -⟩ := Cond.exactly_spec (args := #[Value.ref b]) (first := s) (o := none) (s := s) (idx := []) (hs _ (h2 _ (List.mem_map.mpr ⟨q, hq, rfl⟩)))
    exact ⟨a, vk_R.of (h1 _ (List.mem_map.mpr ⟨q, hq, rfl⟩)) q1⟩
  · have h2 : ∀ w ∈ exN.map (fun q => Cond.not (Cond.castable q.1 q.2)), w ∈ flatC (Jvm.Cond.and given_1 narrow_1) := by decide +kernel
    intro q hq
    exact va_Nc.of (hs _ (h2 _ (List.mem_map.mpr ⟨q, hq, rfl⟩)))
theorem LB_fits : ∀ j : Nat, fits .byte (.int (nI (LB j))) = true
  | 0 => by decide +kernel
  | 1 => by decide +kernel
  | 2 => by decide +kernel
  | 3 => by decide +kernel
  | 4 => by decide +kernel
  | 5 => by decide +kernel
  | 6 => by decide +kernel
  | 7 => by decide +kernel
  | j + 8 => by
    show fits .byte (.int (nI 0)) = true
    decide +kernel
/-- the heap of the start, as the abstract machine sees it -/
def stH (z b L : Nat) (xs : Nat → Int32) (nb sa sv : Nat) : Hp := (z, 0, fun a => if a = b then some (false, .inl (1, L, .inl xs)) else if a = nb then some (false, .inl (0, 0, .inl (fun _ => nI 0))) else if a = sa then some (false, .inr (12, [.ref sv, .int (nI 0)])) else if a = sv then some (false, .inl (0, 8, .inl (fun j => nI (LB j)))) else none)
/-- the start -/
theorem st_all {b L : Nat} {xs : Nat → Int32} {s : State} (hts : ∀ w ∈ lw_tbl, w.before #[Value.ref b] s = true) (hgv : (Jvm.Cond.and given_1 narrow_1).before #[Value.ref b] s = true) (hX : va_X b L xs s s.heap) (hbl : b < s.heap.size) (hL : L ≤ 3072) :
    ∃ (E : XE) (sv : Nat), E.1 = s.heap.size ∧ KX E s s.heap ∧ HR E (stH s.heap.size b L xs E.2.1 E.2.2.1 sv) s.heap ∧ E.2.1 < s.heap.size ∧ E.2.2.1 < s.heap.size ∧ sv < s.heap.size ∧ E.2.1 ≠ b ∧ E.2.2.1 ≠ b ∧ sv ≠ b ∧ E.2.2.1 ≠ E.2.1 ∧ sv ≠ E.2.1 ∧ sv ≠ E.2.2.1 := by
  have hs := flat_of_before _ hgv
  obtain ⟨D, hD⟩ := st_cls hts
  obtain ⟨dA, hd1, hd2, hd3, hd4⟩ := st_arr hts
  have hA : ∀ a : Nat, a < s.heap.size → ¬ (fun q : Nat => s.heap.size ≤ q) a := fun a ha h => absurd ha (Nat.not_lt.mpr h)
  obtain ⟨nb, hnb, cN, n1, n2, n3, n4, n5, n6, n7⟩ := va_Tof (tm := .static RX12 "NO_BYTES" "[B") (ty := .byte) (N := 0) (f := fun _ => .int (nI 0)) (args := #[Value.ref b]) (s := s) (A := fun q : Nat => s.heap.size ≤ q) (by decide) (hs _ (by decide +kernel)) (va_eqt (hs _ (by decide +kernel))) (fun j hj => absurd hj (Nat.not_lt_zero j)) hA
  obtain ⟨adK, adV, hS, hK⟩ := vk_Sof (args := #[Value.ref b]) (s := s) (N := 1) (tm := fun _ => .string RX12 155) (len := [8]) (byt := [[66, 67, 68, 70, 73, 74, 83, 90]]) (A := fun q : Nat => s.heap.size ≤ q)
    (fun i hi => by
      have e : i = 0 := by omega
      subst e; decide)
    (fun i hi => show (Cond.exactly (.string RX12 155) "java/lang/String").before #[Value.ref b] s = true from hs _ (by decide +kernel))
    (fun i hi => show (Cond.eq (.field (.string RX12 155) "java/lang/String" "coder" "B") (.int 0)).before #[Value.ref b] s = true from hs _ (by decide +kernel))
    (fun i hi => show (Cond.arrayOf (.field (.string RX12 155) "java/lang/String" "value" "[B") .byte).before #[Value.ref b] s = true from hs _ (by decide +kernel))
    (fun i hi => by
      have e : i = 0 := by omega
      subst e
      show (Cond.eq (.length (.field (.string RX12 155) "java/lang/String" "value" "[B")) (.int (Int32.ofNat 8))).before #[Value.ref b] s = true
      exact hs _ (by decide +kernel))
    (fun i hi j hj => by
      have e : i = 0 := by omega
      subst e
      have h8 : ∀ j, j < 8 → (Cond.eq (.elem (.field (.string RX12 155) "java/lang/String" "value" "[B") (.int (Int32.ofNat j))) (.int ((([[66, 67, 68, 70, 73, 74, 83, 90]] : List (List Int32)).getD 0 []).getD j 0))) ∈ flatC (Jvm.Cond.and given_1 narrow_1) := by decide +kernel
      exact hs _ (h8 j hj))
    (fun i j hi hj hn => absurd (show i = j by omega) hn) hA
  obtain ⟨⟨cS, s1, s2, s3, s4⟩, ⟨cf1, k1, i1, f1, cS1, o1, o2, o3, o4, o5, o6⟩, ⟨cf2, k2, i2, f2, cS2, p1, p2, p3, p4, p5, p6⟩, cV, v1, v2, v3, v4, v5, v6, v7⟩ := hS.1 0 (by decide)
  have hsa := hK 0 (by decide)
  generalize adK 0 = sa at *
  generalize adV 0 = sv at *
  have eo : cS = cS1 := Option.some.inj (s1.symm.trans o3)
  subst eo
  have ep : cS = cS2 := Option.some.inj (s1.symm.trans p3)
  subst ep
  obtain ⟨scr, x1, x2, x3, x4, x5⟩ := hX
  have hcS := hD 12 (RJ0, TJ0, 2) rfl
  have ecls : cS.cls = D.1 12 := Option.some.inj (s3.symm.trans hcS.2.1)
  have hord : ClassAt s RJ0 cS.cls := by
    rw [ecls]; exact hcS.2
  have lnb : nb < s.heap.size := (Array.getElem?_eq_some_iff.mp n1).1
  have lsa : sa < s.heap.size := (Array.getElem?_eq_some_iff.mp s1).1
  have lsv : sv < s.heap.size := (Array.getElem?_eq_some_iff.mp v1).1
  have d1 : nb ≠ b := fun e => by
    subst e; rw [x1] at n1; cases n1
    exact absurd (ar_two x2 n2) (by intro z; cases z)
  have d2 : sa ≠ b := fun e => by
    subst e; rw [x1] at s1; cases s1
    exact ar_ord x2 hord
  have d3 : sv ≠ b := fun e => by
    subst e; rw [x1] at v1; cases v1
    exact absurd (ar_two x2 v2) (by intro z; cases z)
  have d4 : sa ≠ nb := fun e => by
    subst e; rw [n1] at s1; cases s1
    exact ar_ord n2 hord
  have d5 : sv ≠ nb := fun e => by
    subst e; rw [n1] at v1; cases v1
    rw [n5] at v5
    exact absurd v5 (by decide)
  have d6 : sv ≠ sa := fun e => by
    subst e; rw [s1] at v1; cases v1
    exact ar_ord v2 hord
  refine ⟨(s.heap.size, nb, sa, D, dA), sv, rfl, ?_, ?_, lnb, lsa, lsv, d1, d2, d3, d4, d5, d6⟩
  · refine ⟨⟨hD, hd1⟩, ?_, ?_, ?_, ?_, ?_, ?_, ?_, ?_⟩
    · have h1 := tb_list hts nestW [42, 65, 70, 102, 114, 119, 307, 310, 317, 564, 570, 650, 951, 1032, 1049, 1254] (by decide +kernel)
      have h2 : nestW.all (fun w => w.onTables) = true := by decide +kernel
      intro w hw
      exact va_Nw.of (List.all_eq_true.mp h2 w hw) (h1 w hw)
    · exact va_Nw.of rfl (tb_of hts 1258 (by decide +kernel))
    · exact va_Zof (tb_of hts 1259 (by decide +kernel)) (tb_of hts 7 (by decide +kernel)) hnb hA
    · exact va_Zof (tb_of hts 1105 (by decide +kernel)) (tb_of hts 15 (by decide +kernel)) (va_eqt (hs _ (by decide +kernel))) hA
    · exact vk_R.of (tb_of hts 1091 (by decide +kernel)) hsa
    · have h1 := tb_list hts (overO.map fun C => Cond.arrayOver (.object C)) [55, 63, 880, 882, 960] (by decide +kernel)
      intro C hC
      exact va_AO.of (h1 _ (List.mem_map.mpr ⟨C, hC, rfl⟩))
    · have h1 := tb_list hts (overA.map fun t => Cond.arrayOver (.array t)) [121, 956, 958] (by decide +kernel)
      intro t ht
      exact h1 _ (List.mem_map.mpr ⟨t, ht, rfl⟩)
    · exact st_KE hts hs rfl hd2
  · refine ⟨rfl, fun a w c hc => ?_⟩
    have hc : (if a = b then some (false, (.inl (1, L, .inl xs) : Ce)) else if a = nb then some (false, .inl (0, 0, .inl (fun _ => nI 0))) else if a = sa then some (false, .inr (12, [.ref sv, .int (nI 0)])) else if a = sv then some (false, .inl (0, 8, .inl (fun j => nI (LB j)))) else none) = some (w, c) := hc
    by_cases e1 : a = b
    · rw [if_pos e1] at hc
      cases hc
      subst e1
      refine ⟨?_, (fun h => by cases h), fun h => absurd h (by decide)⟩
      show PaI _ a (1, L, xs) s.heap
      refine ⟨scr, x1, hd4 a scr x1 x2, Nat.le_of_eq x4.symm, ?_, x5, x2.1, x3, (show (1 : Nat) < 2 from by decide)⟩
      show scr.slots.size.toInt32 = Int32.ofNat L
      rw [x4]
    rw [if_neg e1] at hc
    by_cases e2 : a = nb
    · rw [if_pos e2] at hc
      cases hc
      subst e2
      refine ⟨?_, (fun h => by cases h), fun _ _ => (show fits .byte (.int (nI 0)) = true from by decide +kernel)⟩
      show PaI _ a (0, 0, fun _ => nI 0) s.heap
      exact ⟨cN, n1, hd3 a cN n1 n2, Nat.zero_le _, n5, fun j hj => absurd hj (Nat.not_lt_zero j), n2.1, n3, (show (0 : Nat) < 2 from by decide)⟩
    rw [if_neg e2] at hc
    by_cases e3 : a = sa
    · rw [if_pos e3] at hc
      cases hc
      subst e3
      refine ⟨?_, (fun h => by cases h), trivial⟩
      show PaB _ a (12, [.ref sv, .int (nI 0)]) s.heap
      refine ⟨(RJ0, TJ0, 2), rfl, cS, s1, ecls, s2, o4, fun k hk => ?_⟩
      obtain ⟨cf, kf, fi, fd, g1, g2⟩ := hcS.1 k hk
      have hk2 : k < 2 := hk
      rcases (show k = 0 ∨ k = 1 by omega) with rfl | rfl
      · have e : some (cf2, k2, i2, f2) = some (cf, kf, fi, fd) := p1.symm.trans g1
        cases e
        have e5 : cS.slots[D.2 12 0]? = some (.ref sv) := by rw [← g2]; exact p5
        exact e5
      · have e : some (cf1, k1, i1, f1) = some (cf, kf, fi, fd) := o1.symm.trans g1
        cases e
        have e5 : cS.slots[D.2 12 1]? = some (.int (nI 0)) := by rw [← g2]; exact o5
        exact e5
    rw [if_neg e3] at hc
    by_cases e4 : a = sv
    · rw [if_pos e4] at hc
      cases hc
      subst e4
      refine ⟨?_, (fun h => by cases h), fun _ j => LB_fits j⟩
      show PaI _ a (0, 8, fun j => nI (LB j)) s.heap
      refine ⟨cV, v1, hd3 a cV v1 v2, v4, v5, fun j hj => ?_, v2.1, v3, (show (0 : Nat) < 2 from by decide)⟩
      have hB : ∀ j, j < 8 → (([[66, 67, 68, 70, 73, 74, 83, 90]] : List (List Int32)).getD 0 []).getD j 0 = nI (LB j) := by decide +kernel
      exact (v6 j hj).trans (congrArg (fun z => some (Value.int z)) (hB j hj))
    rw [if_neg e4] at hc
    cases hc
