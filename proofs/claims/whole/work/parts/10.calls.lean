/-! each step is sound: copies, calls, returns -/
section SGR
variable {E : XE} {I : MI} {pc : Nat}
theorem toI_of_nonneg (z : Int32) (hz : ¬ z < 0) : z.toInt = (z.toNatClampNeg : Int) := by
  have hz0 : (0 : Int) ≤ z.toInt := by
    have := Int32.not_lt.mp hz
    simpa using Int32.le_iff_toInt_le.mp this
  show z.toInt = ((z.toInt.toNat : Nat) : Int)
  omega
theorem acp_inv {nx : Nat} {L : Ls} {st : List Value} {h : Hp} {S : XStp} (hS : o_acp nx L st h = some S) : ∃ (n dp sp : Int32) (d a : Nat) (r : List Value) (w : Bool) (k na nd : Nat) (f g : Nat → Int32), st = .int n :: .int dp :: .ref d :: .int sp :: .ref a :: r ∧ h.2.2 a = some (w, .inl (k, na, .inl f)) ∧ h.2.2 d = some (true, .inl (k, nd, .inl g)) ∧ stw r ≤ 8 ∧ k < 2 ∧ ¬ n < 0 ∧ ¬ sp < 0 ∧ ¬ dp < 0 ∧ sp.toNatClampNeg + n.toNatClampNeg ≤ na ∧ dp.toNatClampNeg + n.toNatClampNeg ≤ nd ∧ S = .inl (nx, L, r, hset h d (.inl (k, nd, .inl (va_cpy f g sp.toNatClampNeg dp.toNatClampNeg n.toNatClampNeg)))) := by
  simp only [o_acp] at hS; split at hS
  next n dp d sp a r =>
    split at hS
    next w ka na f kd nd g hMa hMd =>
      cases hbe : (Nat.ble (stw r) 8 && Nat.beq ka kd && Nat.blt kd 2 && !(decide (n < 0)) && !(decide (sp < 0)) && !(decide (dp < 0)) && Nat.ble (sp.toNatClampNeg + n.toNatClampNeg) na && Nat.ble (dp.toNatClampNeg + n.toNatClampNeg) nd) with
      | false => rw [hbe] at hS; cases hS
      | true =>
        rw [hbe] at hS
        simp only [Bool.and_eq_true, Bool.not_eq_true', decide_eq_false_iff_not] at hbe
        obtain ⟨⟨⟨⟨⟨⟨⟨b1, b2⟩, b3⟩, b4⟩, b5⟩, b6⟩, b7⟩, b8⟩ := hbe
        have hk : ka = kd := Nat.eq_of_beq_eq_true b2
        subst hk
        simp only [cond_true, Option.some.injEq] at hS; subst hS
        exact ⟨n, dp, sp, d, a, r, w, ka, na, nd, f, g, rfl, hMa, hMd, Nat.le_of_ble_eq_true b1, blt_lt b3, b4, b5, b6, Nat.le_of_ble_eq_true b7, Nat.le_of_ble_eq_true b8, rfl⟩
    all_goals cases hS
  all_goals cases hS
theorem native_words : nativeFrameWords "java/lang/System" "arraycopy" 5 ≤ 40 := by decide +kernel
theorem sg_acp {i : Nat} (d : decode I.2.1 pc = .ok (.invokestatic i, 3)) (hw1 : Cond.methodLink I.1.cls i arraycopyName ∈ lwg) (hw2 : Cond.native arraycopyName ∈ lwg) (hw3 : Cond.static arraycopyName ∈ lwg) (hw4 : Cond.initialized "java/lang/System" ∈ lwg) : SG E I pc (o_acp (pc + 3)) := by
  refine SG.st fun p l e R s m args below meth c CC L st h S hS => ?_
  obtain ⟨hx, hb, hml, hown, hnm', hr, hlk, hts, hK, hbs, hR1, hR2⟩ := CC
  obtain ⟨n, dp, sp, a, a0, rest, w, k, n0, n1, f, g, rfl, hM0, hM1, h8, hk2, h3, h1, h2, h4, h5, rfl⟩ := acp_inv hS
  refine ⟨_, _, a, _, _, rfl, hM1, ?_, fun H ls locs cells slots Q hH hL hs kk => ?_⟩
  · intro H0 hH0 hk j
    simp only [va_cpy]
    split
    · exact (hH0.2 a0 w _ hM0).2.2 hk _
    · exact (hH0.2 a true _ hM1).2.2 hk j
  obtain ⟨ty, ht, hprim, hfit⟩ : ∃ ty : FieldType, (tysOf E.2.2.2.2)[k]? = some (E.2.2.2.2 k, ty) ∧ refKind ty = false ∧ ∀ j, fits ty (.int (f j)) = true := by
    have hck := (hH.2 a0 w _ hM0).2.2
    match k, hk2, hck with
    | 0, _, hck => exact ⟨.byte, rfl, rfl, hck rfl⟩
    | 1, _, _ => exact ⟨.int, rfl, rfl, fun _ => rfl⟩
  intro T hT X
  obtain ⟨cell0, hc0, ⟨-, k0, hk0, cm0, hkk0⟩, hcu, hcs, hc5, -, hcq⟩ := HR.arr hK hH hM0 ht
  have hc1 : H[a]? = some (vp_cell (E.2.2.2.2 k) (n1, .inl g)) := (hH.one hM1) 0 _ rfl
  obtain ⟨-, k1, hk1, cm1, hkk1⟩ := (hK.1.2 k _ ht).1 n1 (fun j => .int (g j))
  obtain ⟨vm', X', step⟩ := X.arraycopy hx hown (hts _ hw1) (hts _ hw2) (hts _ hw3) (hts _ hw4) (src := a0) (dst := a) (cs := cell0) (cd := vp_cell (E.2.2.2.2 k) (n1, .inl g)) (srcPos := sp) (destPos := dp) (n := n) (by rw [hT]; exact hc0) (by rw [hT]; exact hc1)
    hcs (fun _ h => by cases h) hcu (fun h => by cases h) hk0 hk1 hkk0 hkk1 (by simp [hprim]) h1 h2 h3
    (by rw [toI_of_nonneg sp h1, toI_of_nonneg n h3]; omega)
    (by rw [toI_of_nonneg dp h2, toI_of_nonneg n h3]; show ¬ _ > ((arrV _ n1 (fun j => .int (g j))).slots.size : Int); rw [arrV_size]; omega)
    (fun vm₁ _ i hi => by
      have e : cell0.slots.getD (sp.toNatClampNeg + i) .null = .int (f (sp.toNatClampNeg + i)) := by
        rw [Array.getD_eq_getD_getElem?, hcq _ (by omega)]
        rfl
      refine ⟨?_, ?_⟩
      · rw [e]
        exact hfit _
      · rw [e]
        exact trivial)
    (g := F0 m pc ls (.int n :: .int dp :: .ref a :: .int sp :: .ref a0 :: rest)) rfl (by rw [hml]; exact hL.1.1) (rest := rest) rfl (by rw [hb]; exact d) hR1 (by have := native_words; show 2 * 0 + stw rest + _ ≤ _; omega)
  have e1 : copied cell0 (vp_cell (E.2.2.2.2 k) (n1, .inl g)) sp dp n = vp_cell (E.2.2.2.2 k) (n1, .inl (va_cpy f g sp.toNatClampNeg dp.toNatClampNeg n.toNatClampNeg)) := by
    rw [show copied cell0 (vp_cell (E.2.2.2.2 k) (n1, .inl g)) sp dp n = copied (vp_cell (E.2.2.2.2 k) (n0, .inl f)) (vp_cell (E.2.2.2.2 k) (n1, .inl g)) sp dp n by
      simp only [copied, Cell.stretch]
      congr 1
      apply List.map_congr_left
      intro i hi
      have hi := List.mem_range.mp hi
      rw [Array.getD_eq_getD_getElem?, Array.getD_eq_getD_getElem?, hcq _ (by omega)]
      show _ = ((arrV _ n0 (fun j => .int (f j))).slots[_]?).getD _
      rw [arrV_read _ _ (by omega)]]
    exact va_copied (fun z => .int z) _ _ f g h4
  rw [e1] at X' step
  have hl : a < H.size := (Array.getElem?_eq_some_iff.mp hc1).1
  have hheap : ((T.setVm vm').setCell a (vp_cell (E.2.2.2.2 k) (n1, .inl (va_cpy f g sp.toNatClampNeg dp.toNatClampNeg n.toNatClampNeg)))).heap = H.setIfInBounds a (vp_cell (E.2.2.2.2 k) (n1, .inl (va_cpy f g sp.toNatClampNeg dp.toNatClampNeg n.toNatClampNeg))) := by rw [← hT]; rfl
  obtain ⟨t, a1, b1⟩ := kk _ _ (show (H.setIfInBounds a _)[a]? = some _ by simp [Array.getElem?_setIfInBounds, hl]) (by simp) (fun q hq => by simp [Array.getElem?_setIfInBounds, Ne.symm hq]) (fun x hx => by obtain ⟨z, -, hz⟩ := List.mem_map.mp hx; rw [← hz]) _ hheap X'
  exact ⟨t, step t a1, b1⟩
theorem sg_iret (d : decode I.2.1 pc = .ok (.ireturn, 1)) (hr : I.2.2.2 = some .int) : SG E I pc o_iret := by
  intro p l e R s m args below meth c C L st h S hS H ls locs cells slots hH hL hs
  obtain ⟨hx, hb, hml, hown, hnm', hrt, hlk, hts, hK, hbs, hR⟩ := C
  simp only [o_iret] at hS; split at hS
  next x => simp only [o_ret, Option.some.injEq] at hS; subst hS; exact ⟨rfl, fun Qc free hq hf => W.iret hx hb (by rw [hrt]; exact hr) hq hf d hlk⟩
  all_goals cases hS
theorem sg_zret {ty : FieldType} (d : decode I.2.1 pc = .ok (.ireturn, 1)) (hr : I.2.2.2 = some ty) (hn : narrow ty (.int 0) = .int 0 ∧ narrow ty (.int 1) = .int 1) : SG E I pc o_zret := by
  intro p l e R s m args below meth c C L st h S hS H ls locs cells slots hH hL hs
  obtain ⟨hx, hb, hml, hown, hnm', hrt, hlk, hts, hK, hbs, hR⟩ := C
  simp only [o_zret] at hS; split at hS
  next x =>
    cases hbe : (decide (x = 0) || decide (x = 1)) with
    | false => rw [hbe] at hS; cases hS
    | true =>
      rw [hbe] at hS
      simp only [Bool.or_eq_true, decide_eq_true_eq] at hbe
      simp only [cond_true, o_ret, Option.some.injEq] at hS; subst hS
      refine ⟨rfl, fun Qc free hq hf => W.zret hx hb (by rw [hrt]; exact hr) ?_ hq hf d hlk⟩
      rcases hbe with rfl | rfl
      · exact hn.1
      · exact hn.2
  all_goals cases hS
theorem sg_lret (d : decode I.2.1 pc = .ok (.lreturn, 1)) (hr : I.2.2.2 = some .long) : SG E I pc o_lret := by
  intro p l e R s m args below meth c C L st h S hS H ls locs cells slots hH hL hs
  obtain ⟨hx, hb, hml, hown, hnm', hrt, hlk, hts, hK, hbs, hR⟩ := C
  simp only [o_lret] at hS; split at hS
  next x => simp only [o_ret, Option.some.injEq] at hS; subst hS; exact ⟨rfl, fun Qc free hq hf => W.lret hx hb (by rw [hrt]; exact hr) hq hf d hlk⟩
  all_goals cases hS
theorem sg_aret {rt : FieldType} (d : decode I.2.1 pc = .ok (.areturn, 1)) (hr : I.2.2.2 = some rt) (ho : (∃ n, rt = .object n) ∨ ∃ t, rt = .array t) : SG E I pc o_aret := by
  intro p l e R s m args below meth c C L st h S hS H ls locs cells slots hH hL hs
  obtain ⟨hx, hb, hml, hown, hnm', hrt, hlk, hts, hK, hbs, hR⟩ := C
  simp only [o_aret] at hS; split at hS
  next x => simp only [o_ret, Option.some.injEq] at hS; subst hS; exact ⟨rfl, fun Qc free hq hf => W.aret hx hb (by rw [hrt]; exact hr) ho (Or.inr ⟨_, rfl⟩) hq hf d hlk⟩
  next => simp only [o_ret, Option.some.injEq] at hS; subst hS; exact ⟨rfl, fun Qc free hq hf => W.aret hx hb (by rw [hrt]; exact hr) ho (Or.inl rfl) hq hf d hlk⟩
  all_goals cases hS
theorem sg_vret (d : decode I.2.1 pc = .ok (.return_, 1)) (hr : I.2.2.2 = none) : SG E I pc o_vret := by
  intro p l e R s m args below meth c C L st h S hS H ls locs cells slots hH hL hs
  obtain ⟨hx, hb, hml, hown, hnm', hrt, hlk, hts, hK, hbs, hR⟩ := C
  simp only [o_vret] at hS; split at hS
  next => simp only [o_ret, Option.some.injEq] at hS; subst hS; exact ⟨rfl, fun Qc free hq hf => W.vret hx hb (by rw [hrt]; exact hr) hq hf d hlk⟩
  all_goals cases hS
/-! calls -/
theorem good_ws (mid : Nat) (hne : Nat.beq mid 192 = false) (hcode : Cond.code (mI mid).1 (mI mid).2.1 (mI mid).2.2.1 (mI mid).2.2.2 ∈ lwg) : GoodIn lwg (wsOf mid) := by
  intro w hw
  rw [wsOf_eq hne] at hw
  rcases List.mem_cons.mp hw with rfl | h
  · exact ⟨hcode, good_of_word (lwg_good hcode)⟩
  · exact ⟨h, good_of_word (lwg_good h)⟩
/-- what is asked of a method that is called: its words, its arguments -/
def cOK (mid n : Nat) : Prop := Nat.beq mid 192 = false ∧ Cond.code (mI mid).1 (mI mid).2.1 (mI mid).2.2.1 (mI mid).2.2.2 ∈ lwg ∧ Cond.initialized (mI mid).1.cls ∈ lwg ∧ ((mI mid).1.cls ≠ "java/lang/invoke/MethodHandle" ∧ (mI mid).1.cls ≠ "java/lang/invoke/VarHandle" ∧ (parseMethodDescriptor (mI mid).1.desc).map (fun d => d.parameters.length) = some n)
theorem call_inv {mid : Nat} {As : List Value} {nx : Nat} {L : Ls} {r : List Value} {h : Hp} {S : XStp} (hS : o_call mid As nx L r h = some S) : stw r ≤ 8 ∧ S = .inr (.inr (mid, As, nx, L, r, h)) := by
  simp only [o_call] at hS
  cases hbe : Nat.ble (stw r) 8 with
  | false => rw [hbe] at hS; cases hS
  | true =>
    rw [hbe] at hS
    simp only [cond_true, Option.some.injEq] at hS; subst hS
    exact ⟨Nat.le_of_ble_eq_true hbe, rfl⟩
theorem inv_inv {mid n nx : Nat} {L : Ls} {st : List Value} {h : Hp} {S : XStp} (hS : o_inv mid n nx L st h = some S) : ∃ As r : List Value, st = As.reverse ++ r ∧ As.length = n ∧ stw r ≤ 8 ∧ S = .inr (.inr (mid, As, nx, L, r, h)) := by
  simp only [o_inv] at hS
  cases hbe : Nat.ble n st.length with
  | false => rw [hbe] at hS; cases hS
  | true =>
    rw [hbe] at hS
    simp only [cond_true] at hS
    obtain ⟨h1, h2⟩ := call_inv hS
    exact ⟨_, _, by simp, by simp; exact Nat.min_eq_left (Nat.le_of_ble_eq_true hbe), h1, h2⟩
theorem sg_inv {mid n i : Nat} (hlv : lvO (mI mid).1 < lvO I.1) (d : decode I.2.1 pc = .ok (.invokestatic i, 3)) (hc : cOK mid n) (hw1 : Cond.methodLink I.1.cls i (mI mid).1 ∈ lwg) (hw2 : Cond.static (mI mid).1 ∈ lwg) : SG E I pc (o_inv mid n (pc + 3)) := by
  intro p l e R s m args below meth c C L st h S hS H ls locs cells slots hH hL hs
  obtain ⟨hx, hb, hml, hown, hnm', hrt, hlk, hts, hK, hbs, hR⟩ := C
  obtain ⟨As, r, rfl, hn, h8, rfl⟩ := inv_inv hS
  refine ⟨rfl, rfl, rfl, hlv, fun rm Pc Qc mc ms free hM hrc hrs hf hlo hbl hP h1 h2 => ?_⟩
  exact va_runS (nL := I.2.2.1) (Ts := lwg) (own := I.1.cls) ⟨hx, hb, hml, hown, hts⟩ hM ⟨callB_of n hts (good_ws mid hc.1 hc.2.1) (wsOf_eq hc.1) hrc hrs (hts _ hc.2.2.1) (hts _ hw1) hc.2.2.2 ⟨hf, hlo⟩, hts _ hw2⟩ ⟨hbl, hP⟩ rfl hn hL.1.1 rfl (lv_room h8) d ⟨h1, h2⟩
theorem sg_invN {mid n i : Nat} {host : String} (hlv : lvO (mI mid).1 < lvO I.1) (d : decode I.2.1 pc = .ok (.invokestatic i, 3)) (hc : cOK mid n) (hw1 : Cond.methodLinkNest I.1.cls i (mI mid).1 host ∈ nestW) (hw2 : Cond.static (mI mid).1 ∈ lwg) : SG E I pc (o_inv mid n (pc + 3)) := by
  intro p l e R s m args below meth c C L st h S hS H ls locs cells slots hH hL hs
  obtain ⟨hx, hb, hml, hown, hnm', hrt, hlk, hts, hK, hbs, hR⟩ := C
  obtain ⟨As, r, rfl, hn, h8, rfl⟩ := inv_inv hS
  refine ⟨rfl, rfl, rfl, hlv, fun rm Pc Qc mc ms free hM hrc hrs hf hlo hbl hP h1 h2 => ?_⟩
  exact va_runSN (nL := I.2.2.1) (Ts := lwg) (own := I.1.cls) ⟨hx, hb, hml, hown, hts⟩ hM ⟨va_cnB n hts (good_ws mid hc.1 hc.2.1) (wsOf_eq hc.1) hrc hrs (hK.2.1 _ hw1) (hts _ hc.2.2.1) hc.2.2.2 ⟨hf, hlo⟩, hts _ hw2, trivial⟩ ⟨hbl, hP⟩ rfl hn hL.1.1 rfl (lv_room h8) d ⟨h1, h2⟩
theorem drop_take {n : Nat} {st r : List Value} {v : Value} (h : st.drop n = v :: r) (hn : n ≤ st.length) : st = (st.take n).reverse.reverse ++ v :: r ∧ (st.take n).reverse.length = n := by
  constructor
  · rw [List.reverse_reverse, ← h, List.take_append_drop]
  · simp; exact Nat.min_eq_left hn
theorem invV_inv {mid ci n nx : Nat} {L : Ls} {st : List Value} {h : Hp} {S : XStp} (hS : o_invV mid ci n nx L st h = some S) : ∃ (As r : List Value) (a : Nat) (w : Bool) (fs : List Value), st = As.reverse ++ .ref a :: r ∧ As.length = n ∧ h.2.2 a = some (w, .inr (ci, fs)) ∧ stw r ≤ 8 ∧ S = .inr (.inr (mid, .ref a :: As, nx, L, r, h)) := by
  simp only [o_invV] at hS; split at hS
  next a r hd =>
    split at hS
    next w c fs hM =>
      cases hbe : (Nat.beq c ci && Nat.ble n st.length) with
      | false => rw [hbe] at hS; cases hS
      | true =>
        rw [hbe] at hS
        simp only [Bool.and_eq_true] at hbe
        simp only [cond_true] at hS
        obtain ⟨h1, h2⟩ := call_inv hS
        have hce : c = ci := Nat.eq_of_beq_eq_true hbe.1
        subst hce
        obtain ⟨e1, e2⟩ := drop_take hd (Nat.le_of_ble_eq_true hbe.2)
        exact ⟨_, r, a, w, fs, e1, e2, hM, h1, h2⟩
    all_goals cases hS
  all_goals cases hS
theorem invI_inv {mid n nx : Nat} {L : Ls} {st : List Value} {h : Hp} {S : XStp} (hS : o_invI mid n nx L st h = some S) : ∃ (As r : List Value) (a : Nat), st = As.reverse ++ .ref a :: r ∧ As.length = n ∧ stw r ≤ 8 ∧ S = .inr (.inr (mid, .ref a :: As, nx, L, r, h)) := by
  simp only [o_invI] at hS; split at hS
  next a r hd =>
    cases hbe : Nat.ble n st.length with
    | false => rw [hbe] at hS; cases hS
    | true =>
      rw [hbe] at hS
      simp only [cond_true] at hS
      obtain ⟨h1, h2⟩ := call_inv hS
      obtain ⟨e1, e2⟩ := drop_take hd (Nat.le_of_ble_eq_true hbe)
      exact ⟨_, r, a, e1, e2, h1, h2⟩
  all_goals cases hS
theorem sg_invV {mid ci n i : Nat} {q : vw_C} (hlv : lvO (mI mid).1 < lvO I.1) (d : decode I.2.1 pc = .ok (.invokevirtual i, 3)) (hc : cOK mid n) (hci : classes[ci]? = some q) (hw1 : Cond.methodLink I.1.cls i (mI mid).1 ∈ lwg) (hw2 : Cond.instanceMethod (mI mid).1 ∈ lwg) (hw3 : Cond.selects q.1 (mI mid).1 (mI mid).1 ∈ lwg) : SG E I pc (o_invV mid ci n (pc + 3)) := by
  intro p l e R s m args below meth c C L st h S hS H ls locs cells slots hH hL hs
  obtain ⟨hx, hb, hml, hown, hnm', hrt, hlk, hts, hK, hbs, hR⟩ := C
  obtain ⟨As, r, a, w, fs, rfl, hn, hM, h8, rfl⟩ := invV_inv hS
  refine ⟨rfl, rfl, rfl, hlv, fun rm Pc Qc mc ms free hMt hrc hrs hf hlo hbl hP h1 h2 => ?_⟩
  exact va_runV (nL := I.2.2.1) (Ts := lwg) (own := I.1.cls) (C := q.1) ⟨hx, hb, hml, hown, hts⟩ hMt ⟨callB_of n hts (good_ws mid hc.1 hc.2.1) (wsOf_eq hc.1) hrc hrs (hts _ hc.2.2.1) (hts _ hw1) hc.2.2.2 ⟨hf, hlo⟩, hts _ hw2, hts _ hw3⟩ ⟨hbl, (by obtain ⟨r9, -, cell, q1, q2, q3, -, -⟩ := hH.obj hM; exact ⟨cell, q1, q3, by rw [q2]; exact (hK.1.1 ci _ hci).2.1⟩), hP⟩ rfl hn hL.1.1 rfl (lv_room h8) d ⟨h1, h2⟩
theorem sg_invI {mid n i : Nat} (hlv : lvO (mI mid).1 < lvO I.1) (d : decode I.2.1 pc = .ok (.invokespecial i, 3)) (hc : cOK mid n) (hini : (mI mid).1.name = "<init>") (hrn : (mI mid).2.2.2 = none) (hw1 : Cond.methodLink I.1.cls i (mI mid).1 ∈ lwg) (hw2 : Cond.instanceMethod (mI mid).1 ∈ lwg) : SG E I pc (o_invI mid n (pc + 3)) := by
  intro p l e R s m args below meth c C L st h S hS H ls locs cells slots hH hL hs
  obtain ⟨hx, hb, hml, hown, hnm', hrt, hlk, hts, hK, hbs, hR⟩ := C
  obtain ⟨As, r, a, rfl, hn, h8, rfl⟩ := invI_inv hS
  refine ⟨rfl, rfl, rfl, hlv, fun rm Pc Qc mc ms free hMt hrc hrs hf hlo hbl hP h1 h2 => ?_⟩
  have hcb := callB_of (R := R) (s := s) (args := args) (own := I.1.cls) (index := i) (rm := rm) (mc := mc) (ms := ms) n hts (good_ws mid hc.1 hc.2.1) (wsOf_eq hc.1) hrc hrs (hts _ hc.2.2.1) (hts _ hw1) hc.2.2.2 ⟨hf, hlo⟩
  rw [hrn] at hcb
  exact va_runI (nL := I.2.2.1) (Ts := lwg) (own := I.1.cls) ⟨hx, hb, hml, hown, hts⟩ hMt ⟨hcb, hini, hts _ hw2⟩ ⟨hbl, hP⟩ rfl hn hL.1.1 rfl (lv_room h8) d ⟨h1, h2⟩
theorem sg_invIN {mid n i : Nat} {host : String} (hlv : lvO (mI mid).1 < lvO I.1) (d : decode I.2.1 pc = .ok (.invokespecial i, 3)) (hc : cOK mid n) (hini : (mI mid).1.name = "<init>") (hrn : (mI mid).2.2.2 = none) (hw1 : Cond.methodLinkNest I.1.cls i (mI mid).1 host ∈ nestW) (hw2 : Cond.instanceMethod (mI mid).1 ∈ lwg) : SG E I pc (o_invI mid n (pc + 3)) := by
  intro p l e R s m args below meth c C L st h S hS H ls locs cells slots hH hL hs
  obtain ⟨hx, hb, hml, hown, hnm', hrt, hlk, hts, hK, hbs, hR⟩ := C
  obtain ⟨As, r, a, rfl, hn, h8, rfl⟩ := invI_inv hS
  refine ⟨rfl, rfl, rfl, hlv, fun rm Pc Qc mc ms free hMt hrc hrs hf hlo hbl hP h1 h2 => ?_⟩
  have hcb := va_cnB (R := R) (s := s) (args := args) (own := I.1.cls) (index := i) (rm := rm) (mc := mc) (ms := ms) n hts (good_ws mid hc.1 hc.2.1) (wsOf_eq hc.1) hrc hrs (hK.2.1 _ hw1) (hts _ hc.2.2.1) hc.2.2.2 ⟨hf, hlo⟩
  rw [hrn] at hcb
  exact va_runIN (nL := I.2.2.1) (Ts := lwg) (own := I.1.cls) ⟨hx, hb, hml, hown, hts⟩ hMt ⟨hcb, hini, hts _ hw2⟩ ⟨hbl, hP⟩ rfl hn hL.1.1 rfl (lv_room h8) d ⟨h1, h2⟩
theorem good_wsX (hc : hdW 192 ∈ lwg) : GoodIn lwg (wsOf 192) := by
  intro w hw
  rcases List.mem_cons.mp hw with rfl | h
  · exact ⟨hc, good_of_word (lwg_good hc)⟩
  · exact ⟨h, good_of_word (lwg_good h)⟩
/-- a call of the method with handlers -/
theorem sg_invX {n i : Nat} (hlv : lvO (mI 192).1 < lvO I.1) (d : decode I.2.1 pc = .ok (.invokestatic i, 3)) (hc : hdW 192 ∈ lwg) (hini : Cond.initialized (mI 192).1.cls ∈ lwg) (hd : (mI 192).1.cls ≠ "java/lang/invoke/MethodHandle" ∧ (mI 192).1.cls ≠ "java/lang/invoke/VarHandle" ∧ (parseMethodDescriptor (mI 192).1.desc).map (fun d => d.parameters.length) = some n) (hw1 : Cond.methodLink I.1.cls i (mI 192).1 ∈ lwg) (hw2 : Cond.static (mI 192).1 ∈ lwg) : SG E I pc (o_inv 192 n (pc + 3)) := by
  intro p l e R s m args below meth c C L st h S hS H ls locs cells slots hH hL hs
  obtain ⟨hx, hb, hml, hown, hnm', hrt, hlk, hts, hK, hbs, hR⟩ := C
  obtain ⟨As, r, rfl, hn, h8, rfl⟩ := inv_inv hS
  refine ⟨rfl, rfl, rfl, hlv, fun rm Pc Qc mc ms free hM hrc hrs hf hlo hbl hP h1 h2 => ?_⟩
  have hcw : vx_CSW R s args I.1.cls i (mI 192).1 (mI 192).2.1 (mI 192).2.2.1 (mI 192).2.2.2 [(0, 9, 12, 13), (0, 9, 16, 15), (0, 9, 20, 17), (0, 9, 24, 19)] (wsOf 192) rm mc ms n := by
    refine ⟨⟨hrc, hrs, hf, hlo, pay_in hts (good_wsX hc), List.mem_cons_self⟩, hts _ hc, hts _ hini, ⟨hd.1, hd.2.1⟩, fun sig h => ?_, hts _ hw1, hts _ hw2⟩
    have h2 := hd.2.2
    rw [h] at h2
    exact (Option.some.inj h2).symm
  exact vx_runSW (nL := I.2.2.1) (Ts := lwg) (own := I.1.cls) ⟨hx, hb, hml, hown, hts⟩ hM hcw ⟨hbl, hP⟩ rfl hn hL.1.1 rfl (lv_room h8) d ⟨h1, h2⟩
end SGR
