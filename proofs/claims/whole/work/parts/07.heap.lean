/-! each step is sound: the heap -/
theorem HR.lt {E : XE} {h : Hp} {H : Heap} (hH : HR E h H) {a : Nat} {w : Bool} {c : Ce} (e : h.2.2 a = some (w, c)) : a < h.1 := by
  rw [← hH.1]; exact (hH.2 a w c e).1.lt
theorem va_P1 {D : va_G} {q : Nat × va_E} {H : Heap} (h : va_at D classes q H) : va_P D classes [q] H := by
  intro k q' hk
  have hz : k < 1 := (List.getElem?_eq_some_iff.mp hk).1
  rw [show k = 0 by omega] at hk
  cases hk
  exact h
theorem HR.one {E : XE} {h : Hp} {H : Heap} (hH : HR E h H) {a : Nat} {c : Ce} (e : h.2.2 a = some (true, c)) : va_P E.2.2.2.1 classes [(a, cvE E.2.2.2.2 c)] H := va_P1 (PaA.to (old_t c) (hH.2 a true c e).1)
/-- an object, new or old -/
theorem HR.obj {E : XE} {h : Hp} {H : Heap} (hH : HR E h H) {a : Nat} {w : Bool} {o : Nat × List Value} (e : h.2.2 a = some (w, .inr o)) : PaB E a o H := by
  cases w with
  | false => exact (hH.2 a false _ e).1
  | true =>
    obtain ⟨r, h1, cell, q1, q2, q3, q4⟩ := (hH.one e) 0 _ rfl
    exact ⟨r, h1, cell, q1, q2, by rw [q3]; rfl, (by rw [q3]; intro h; cases h), q4⟩
theorem HR.oneR {E : XE} {h : Hp} {H : Heap} (hH : HR E h H) {a : Nat} {w : Bool} {k n : Nat} {y : (Nat → Int64) ⊕ (Nat → UInt32) ⊕ (Nat → UInt64) ⊕ (Nat → Option Nat)} (e : h.2.2 a = some (w, .inl (k, n, .inr y))) : va_P E.2.2.2.1 classes [(a, cvE E.2.2.2.2 (.inl (k, n, .inr y)))] H := va_P1 (PaA.to (old_r w k n y) (hH.2 a w _ e).1)
/-- an array of ints or bytes, new or old -/
theorem HR.arr {E : XE} {s : State} {h : Hp} {H : Heap} (hK : KX E s s.heap) (hH : HR E h H) {a : Nat} {w : Bool} {k n : Nat} {f : Nat → Int32} (e : h.2.2 a = some (w, .inl (k, n, .inl f))) {ty : FieldType} (ht : (tysOf E.2.2.2.2)[k]? = some (E.2.2.2.2 k, ty)) :
    ∃ cell : Cell, H[a]? = some cell ∧ s.isArrayOf cell ty ∧ cell.vm ≠ .unknown ∧ (∀ q, cell.vm ≠ .statics q) ∧ n ≤ cell.slots.size ∧ cell.slots.size.toInt32 = Int32.ofNat n ∧ ∀ j, j < n → cell.slots[j]? = some (.int (f j)) := by
  cases w with
  | true => exact ⟨_, (hH.one e) 0 _ rfl, (hK.1.2 k _ ht).1 n (fun j => .int (f j)), (fun q => by cases q), (fun q z => by cases z), Nat.le_of_eq (arrV_size _ _ _).symm, congrArg Nat.toInt32 (arrV_size _ _ _), fun j hj => arrV_read _ _ hj⟩
  | false =>
    obtain ⟨cell, h1, h2, h3, h7, h8, h4, h5, h6⟩ : PaI E a (k, n, f) H := (hH.2 a false _ e).1
    have hA : ArrOfT s cell.cls ty := by
      have hO := hK.2.2.2.2.2.2.2.2.2.2.2.2.2.2 a
      rw [h2]
      have h6 : k < 2 := h6
      match k, h6, ht with
      | 0, _, ht => cases ht; exact hO.1
      | 1, _, ht => cases ht; exact hO.2
    obtain ⟨-, kA, g1, g2⟩ := hA 0 (fun _ => .null)
    exact ⟨cell, h1, ⟨h4, kA, g1, g2⟩, h5, h4, h3, h7, h8⟩
theorem HR.set {E : XE} {h : Hp} {H H' : Heap} (hH : HR E h H) {a : Nat} {c0 c : Ce} (e : h.2.2 a = some (true, c0)) (hz : H'.size = H.size) (ho : ∀ q : Nat, q ≠ a → H'[q]? = H[q]?) (hc : va_at E.2.2.2.1 classes (a, cvE E.2.2.2.2 c) H') (hk : cok c) : HR E (hset h a c) H' := by
  refine ⟨by rw [hz]; exact hH.1, fun b w d hb => ?_⟩
  simp only [hset] at hb
  by_cases hba : b = a
  · subst hba
    simp at hb
    obtain ⟨rfl, rfl⟩ := hb
    exact ⟨PaA.of (old_t _) hc, (hH.2 b true c0 e).2.1, hk⟩
  · rw [if_neg hba] at hb
    obtain ⟨h1, h2, h3⟩ := hH.2 b w d hb
    exact ⟨h1.kept (ho b hba), h2, h3⟩
theorem HR.new {E : XE} {h : Hp} {H H' : Heap} (hH : HR E h H) (hb : E.1 ≤ H.size) {n : Nat} {c : Ce} (hz : H'.size = H.size + 1) (ho : ∀ q : Nat, q < H.size → H'[q]? = H[q]?) (hc : va_at E.2.2.2.1 classes (h.1, cvE E.2.2.2.2 c) H') (hk : cok c) : HR E (hnew h n c) H' := by
  refine ⟨by rw [hz, hH.1]; rfl, fun b w d hbd => ?_⟩
  simp only [hnew] at hbd
  by_cases hba : b = h.1
  · subst hba
    simp at hbd
    obtain ⟨rfl, rfl⟩ := hbd
    exact ⟨PaA.of (old_t _) hc, fun _ => by rw [← hH.1]; exact hb, hk⟩
  · rw [if_neg hba] at hbd
    obtain ⟨h1, h2, h3⟩ := hH.2 b w d hbd
    exact ⟨h1.kept (ho b h1.lt), h2, h3⟩
theorem XA_S {E : XE} {H0 H H' : Heap} {locs : List Loc} (hS : va_S (XA E) H0 H locs) (hb : E.1 ≤ H0.size) (hz : H'.size = H.size + 1) (ho : ∀ q : Nat, q < H.size → H'[q]? = H[q]?) : va_S (XA E) H0 H' locs := ⟨Nat.le_trans hS.1 (by omega), fun x h1 h2 => (ho x (Nat.lt_of_lt_of_le h1 hS.1)).trans (hS.2.1 x h1 h2), hS.2.2⟩
section SGH
variable {E : XE} {I : MI} {pc : Nat}
theorem sg_getf {C : String} {T : u_T} {N ci k i : Nat} (d : decode I.2.1 pc = .ok (.getfield i, 3)) (hc : classes[ci]? = some (C, T, N)) (hin : ∀ w ∈ u_ws C T N, w ∈ lwg) (hk : k < N) (hw : Cond.fieldLink I.1.cls i (T k).1 (T k).2.1 (T k).2.2.1 ∈ lwg) : SG E I pc (o_getf ci k (pc + 3)) := by
  refine SG.mv fun p l e R s m args below meth c C L st h S hS => ?_
  obtain ⟨hx, hb, hml, hown, hnm, hr, hlk, hts, hK, hbs⟩ := C
  simp only [o_getf] at hS; split at hS
  next a r =>
    split at hS
    next w c0 fs hM =>
      cases hbe : Nat.beq c0 ci with
      | false => rw [hbe] at hS; cases hS
      | true =>
        rw [hbe] at hS
        simp only [cond_true] at hS
        have hce : c0 = ci := Nat.eq_of_beq_eq_true hbe
        subst hce
        split at hS
        next v hv =>
          simp only [Option.some.injEq] at hS; subst hS
          refine ⟨_, _, rfl, fun H ls locs cells slots Q hH hL hs kk => ?_⟩
          obtain ⟨r9, h19, cell, q1, q2, -, q3, q4⟩ := hH.obj hM
          have hr9 : r9 = (C, T, N) := Option.some.inj (h19.symm.trans hc)
          subst hr9
          obtain ⟨hS9, hfc, kC, hkC, hkind⟩ := hK.1.1 _ _ hc
          obtain ⟨cf, kf, fi, f, hi, hsl⟩ := hS9 k hk
          refine W.getf hx hb hown (hts _ hw) hi (u_facts hfc hkC (u_lays hts hin hk) hi).1 q1 q3 ?_ rfl rfl d kk
          rw [hsl, q4 k hk]
          simp [vp_V, hv]
        next => cases hS
    all_goals cases hS
  all_goals cases hS
/-- an element -/
theorem inb_in {i : Int32} {n : Nat} (h : inb i n = true) : vp_in i n := by
  simp only [inb, Bool.and_eq_true, Bool.not_eq_true', decide_eq_false_iff_not] at h
  rintro (q | q)
  · exact h.1 q
  · exact absurd (Nat.le_of_ble_eq_true h.2) (by omega)
theorem sg_iald (d : decode I.2.1 pc = .ok (.iaload, 1)) : SG E I pc (o_iald 1 (pc + 1)) := by
  refine SG.mv fun p l e R s m args below meth c C L st h S hS => ?_
  obtain ⟨hx, hb, hml, hown, hnm, hr, hlk, hts, hK, hbs⟩ := C
  simp only [o_iald] at hS; split at hS
  next i a r =>
    split at hS
    next w k n f hM =>
      cases hbe : (Nat.beq k 1 && inb i n) with
      | false => rw [hbe] at hS; cases hS
      | true =>
        rw [hbe] at hS
        simp only [Bool.and_eq_true] at hbe
        have hk : k = 1 := Nat.eq_of_beq_eq_true hbe.1
        subst hk
        simp only [cond_true, Option.some.injEq] at hS; subst hS
        refine ⟨_, _, rfl, fun H ls locs cells slots Q hH hL hs kk => ?_⟩
        obtain ⟨cell, c1, c2, c3, -, c5, -, c7⟩ := HR.arr hK hH hM rfl
        have hin := inb_in hbe.2
        have hlt : i.toNatClampNeg < n := Nat.not_le.mp fun q => hin (Or.inr q)
        exact W.iald (v := .int (f i.toNatClampNeg)) hx hb c1 c2 c3 (fun q => q.elim (fun q => hin (Or.inl q)) (fun q => hin (Or.inr (Nat.le_trans c5 q)))) (c7 _ hlt) rfl rfl d kk
    all_goals cases hS
  all_goals cases hS
theorem sg_bald (d : decode I.2.1 pc = .ok (.baload, 1)) : SG E I pc (o_iald 0 (pc + 1)) := by
  refine SG.mv fun p l e R s m args below meth c C L st h S hS => ?_
  obtain ⟨hx, hb, hml, hown, hnm, hr, hlk, hts, hK, hbs⟩ := C
  simp only [o_iald] at hS; split at hS
  next i a r =>
    split at hS
    next w k n f hM =>
      cases hbe : (Nat.beq k 0 && inb i n) with
      | false => rw [hbe] at hS; cases hS
      | true =>
        rw [hbe] at hS
        simp only [Bool.and_eq_true] at hbe
        have hk : k = 0 := Nat.eq_of_beq_eq_true hbe.1
        subst hk
        simp only [cond_true, Option.some.injEq] at hS; subst hS
        refine ⟨_, _, rfl, fun H ls locs cells slots Q hH hL hs kk => ?_⟩
        obtain ⟨cell, c1, c2, c3, -, c5, -, c7⟩ := HR.arr hK hH hM rfl
        have hin := inb_in hbe.2
        have hlt : i.toNatClampNeg < n := Nat.not_le.mp fun q => hin (Or.inr q)
        exact W.bald (v := .int (f i.toNatClampNeg)) hx hb c1 c2 c3 (fun q => q.elim (fun q => hin (Or.inl q)) (fun q => hin (Or.inr (Nat.le_trans c5 q)))) (c7 _ hlt) rfl rfl d kk
    all_goals cases hS
  all_goals cases hS
theorem sg_lald (d : decode I.2.1 pc = .ok (.laload, 1)) : SG E I pc (o_lald (pc + 1)) := by
  refine SG.mv fun p l e R s m args below meth c C L st h S hS => ?_
  obtain ⟨hx, hb, hml, hown, hnm, hr, hlk, hts, hK, hbs⟩ := C
  simp only [o_lald] at hS; split at hS
  next i a r =>
    split at hS
    next w k n f hM =>
      cases hbe : (Nat.beq k 2 && inb i n) with
      | false => rw [hbe] at hS; cases hS
      | true =>
        rw [hbe] at hS
        simp only [Bool.and_eq_true] at hbe
        have hk : k = 2 := Nat.eq_of_beq_eq_true hbe.1
        subst hk
        simp only [cond_true, Option.some.injEq] at hS; subst hS
        exact ⟨_, _, rfl, fun H ls locs cells slots Q hH hL hs kk => va_lald hx hb hK.1 (hH.oneR hM) 0 2 rfl rfl (inb_in hbe.2) d kk⟩
    all_goals cases hS
  all_goals cases hS
theorem tys_ref (dA : Nat → ClassId) : ∀ k, 2 < k → k < 11 → ∃ ty, (tysOf dA)[k]? = some (dA k, ty) ∧ ty.isReference = true
  | 0, h, _ => by omega
  | 1, h, _ => by omega
  | 2, h, _ => by omega
  | 3, _, _ => ⟨_, rfl, rfl⟩
  | 4, _, _ => ⟨_, rfl, rfl⟩
  | 5, _, _ => ⟨_, rfl, rfl⟩
  | 6, _, _ => ⟨_, rfl, rfl⟩
  | 7, _, _ => ⟨_, rfl, rfl⟩
  | 8, _, _ => ⟨_, rfl, rfl⟩
  | 9, _, _ => ⟨_, rfl, rfl⟩
  | 10, _, _ => ⟨_, rfl, rfl⟩
  | k + 11, _, h => by omega
theorem tys_any (dA : Nat → ClassId) : ∀ k, k < 11 → ∃ ty, (tysOf dA)[k]? = some (dA k, ty)
  | 0, _ => ⟨_, rfl⟩
  | 1, _ => ⟨_, rfl⟩
  | 2, _ => ⟨_, rfl⟩
  | 3, _ => ⟨_, rfl⟩
  | 4, _ => ⟨_, rfl⟩
  | 5, _ => ⟨_, rfl⟩
  | 6, _ => ⟨_, rfl⟩
  | 7, _ => ⟨_, rfl⟩
  | 8, _ => ⟨_, rfl⟩
  | 9, _ => ⟨_, rfl⟩
  | 10, _ => ⟨_, rfl⟩
  | k + 11, h => by omega
theorem blt_lt {a b : Nat} (h : Nat.blt a b = true) : a < b := Nat.le_of_ble_eq_true h
theorem sg_aald (d : decode I.2.1 pc = .ok (.aaload, 1)) : SG E I pc (o_aald (pc + 1)) := by
  refine SG.mv fun p l e R s m args below meth c C L st h S hS => ?_
  obtain ⟨hx, hb, hml, hown, hnm, hr, hlk, hts, hK, hbs⟩ := C
  simp only [o_aald] at hS; split at hS
  next i a r =>
    split at hS
    next w k n f hM =>
      cases hbe : (Nat.blt 2 k && Nat.blt k 11 && inb i n) with
      | false => rw [hbe] at hS; cases hS
      | true =>
        rw [hbe] at hS
        simp only [Bool.and_eq_true] at hbe
        obtain ⟨ty, ht, hty⟩ := tys_ref E.2.2.2.2 k (blt_lt hbe.1.1) (blt_lt hbe.1.2)
        have hin := inb_in hbe.2
        have hlt : i.toNatClampNeg < n := Nat.not_le.mp fun q => hin (Or.inr q)
        have key : ∀ (H : Heap) (ls : Array Slot) (locs : List Loc) (cells slots : Nat) (Q : State → Prop), HR E h H → W p l e R s m args below meth c H locs cells slots Q (F0 m (pc + 1) ls (va_rf (f i.toNatClampNeg) :: r)) → W p l e R s m args below meth c H locs cells slots Q (F0 m pc ls (.int i :: .ref a :: r)) := fun H ls locs cells slots Q hH kk =>
          W.aald (v := va_rf (f i.toNatClampNeg)) (ty := ty) hx hb ((hH.oneR hM) 0 _ rfl) ((hK.1.2 k _ ht).1 n (fun j => va_rf (f j))) hty (fun q => by cases q) (by show ¬ (i < 0 ∨ (arrV _ _ _).slots.size ≤ _); rw [arrV_size]; exact hin) (by show (arrV _ _ _).slots[_]? = _; rw [arrV_read _ _ hlt]) rfl rfl d kk
        simp only [cond_true] at hS
        split at hS
        next hf => simp only [Option.some.injEq] at hS; subst hS; exact ⟨_, _, rfl, fun H ls locs cells slots Q hH hL hs kk => key H ls locs cells slots Q hH (by rw [hf]; exact kk)⟩
        next q hf => simp only [Option.some.injEq] at hS; subst hS; exact ⟨_, _, rfl, fun H ls locs cells slots Q hH hL hs kk => key H ls locs cells slots Q hH (by rw [hf]; exact kk)⟩
    all_goals cases hS
  all_goals cases hS
theorem sg_alen (d : decode I.2.1 pc = .ok (.arraylength, 1)) : SG E I pc (o_alen (pc + 1)) := by
  refine SG.mv fun p l e R s m args below meth c C L st h S hS => ?_
  obtain ⟨hx, hb, hml, hown, hnm, hr, hlk, hts, hK, hbs⟩ := C
  simp only [o_alen] at hS; split at hS
  next a r =>
    split at hS
    next w k n f hM =>
      cases hbe : Nat.blt k 11 with
      | false => rw [hbe] at hS; cases hS
      | true =>
        rw [hbe] at hS
        obtain ⟨ty, ht⟩ := tys_any E.2.2.2.2 k (blt_lt hbe)
        simp only [cond_true, Option.some.injEq] at hS; subst hS
        refine ⟨_, _, rfl, fun H ls locs cells slots Q hH hL hs kk => ?_⟩
        match f, hM with
        | .inl f, hM =>
          obtain ⟨cell, c1, c2, -, -, -, c6, -⟩ := HR.arr hK hH hM ht
          exact W.alen (n := Int32.ofNat n) hx hb c1 c2 c6 rfl rfl d kk
        | .inr y, hM => exact va_alen hx hb hK.1 (hH.oneR hM) 0 k rfl ht rfl d kk
    all_goals cases hS
  all_goals cases hS
theorem sg_getsB {i : Nat} (d : decode I.2.1 pc = .ok (.getstatic i, 3)) (hw : Cond.fieldLink I.1.cls i RX12 "NO_BYTES" "[B" ∈ lwg) : SG E I pc (o_ref E.2.1 (pc + 3)) := by
  refine SG.mv fun p l e R s m args below meth c C L st h S hS => ?_
  obtain ⟨hx, hb, hml, hown, hnm, hr, hlk, hts, hK, hbs⟩ := C
  simp only [o_ref, Option.some.injEq] at hS; subst hS
  exact ⟨_, _, rfl, fun H ls locs cells slots Q hH hL hs kk => va_gets hx hb hK.2.2.2.1 hs hown (hts _ hw) (fun _ h => h) d kk⟩
theorem sg_getsBN {i : Nat} (d : decode I.2.1 pc = .ok (.getstatic i, 3)) (hw : I.1.cls = RX10 ∧ i = 7) : SG E I pc (o_ref E.2.1 (pc + 3)) := by
  refine SG.mv fun p l e R s m args below meth c C L st h S hS => ?_
  obtain ⟨hx, hb, hml, hown, hnm, hr, hlk, hts, hK, hbs⟩ := C
  simp only [o_ref, Option.some.injEq] at hS; subst hS
  refine ⟨_, _, rfl, fun H ls locs cells slots Q hH hL hs kk => va_getsN hx hb hK.2.2.2.1 hs hown (host := RX12) (ref := RX12) (index := i) (va_Nw.use rfl ?_) (fun _ h => h) d kk⟩
  rw [hw.1, hw.2]
  exact hK.2.2.1
theorem sg_getsC {i : Nat} (d : decode I.2.1 pc = .ok (.getstatic i, 3)) (hw : Cond.fieldLink I.1.cls i RJ0 "COMPACT_STRINGS" "Z" ∈ lwg) : SG E I pc (o_ic (nI 1) (pc + 3)) := by
  refine SG.mv fun p l e R s m args below meth c C L st h S hS => ?_
  obtain ⟨hx, hb, hml, hown, hnm, hr, hlk, hts, hK, hbs⟩ := C
  simp only [o_ic, Option.some.injEq] at hS; subst hS
  exact ⟨_, _, rfl, fun H ls locs cells slots Q hH hL hs kk => va_gets hx hb hK.2.2.2.2.1 hs hown (hts _ hw) (fun _ h => h) d kk⟩
theorem sg_ldcS (d : decode I.2.1 pc = .ok (.ldc 155, 2)) (hw : I.1.cls = RX12) : SG E I pc (o_ref E.2.2.1 (pc + 2)) := by
  refine SG.mv fun p l e R s m args below meth c C L st h S hS => ?_
  obtain ⟨hx, hb, hml, hown, hnm, hr, hlk, hts, hK, hbs⟩ := C
  simp only [o_ref, Option.some.injEq] at hS; subst hS
  rw [hw] at hown
  exact ⟨_, _, rfl, fun H ls locs cells slots Q hH hL hs kk => va_ldcS hx hb hown hK.2.2.2.2.2.1 d kk⟩
theorem sg_obj {i : Nat} (d : decode I.2.1 pc = .ok (.invokespecial i, 3)) (hw : Cond.methodLink I.1.cls i objectInit ∈ lwg) (hw2 : Cond.instanceMethod objectInit ∈ lwg) (hw3 : Cond.code objectInit ⟨#[0xb1]⟩ 1 none ∈ lwg) : SG E I pc (o_pop0 (pc + 3)) := by
  refine SG.mv fun p l e R s m args below meth c C L st h S hS => ?_
  obtain ⟨hx, hb, hml, hown, hnm, hr, hlk, hts, hK, hbs, hR1, hR2⟩ := C
  simp only [o_pop0] at hS; split at hS
  next a r =>
    cases hbe : Nat.ble (stw r) 8 with
    | false => rw [hbe] at hS; cases hS
    | true =>
      rw [hbe] at hS
      simp only [cond_true, Option.some.injEq] at hS; subst hS
      have h8 : stw r ≤ 8 := Nat.le_of_ble_eq_true hbe
      refine ⟨_, _, rfl, fun H ls locs cells slots Q hH hL hs kk => W.objInit hx hb hown (hts _ hw) (hts _ hw2) (hts _ hw3) (g := F0 m pc ls (.ref a :: r)) rfl (by rw [hml]; exact hL.1.1) rfl d hR1 ?_ kk⟩
      show 2 * 0 + stw r + 12 ≤ _
      omega
  all_goals cases hS
end SGH
