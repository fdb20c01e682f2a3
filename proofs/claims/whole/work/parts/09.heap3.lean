/-! each step is sound: references stored, things made -/
theorem cell_updQ {c : ClassId} {n k : Nat} {f : Nat → Option Nat} {x : Option Nat} : (vp_cell c (n, .inr (.inr (.inr (.inr f))))).setSlot k (va_rf x) = vp_cell c (n, .inr (.inr (.inr (.inr (va_up f k x))))) := by
  rw [vp_cell_q, vp_cell_q, arrV_store]
  congr 1
  funext q
  by_cases hq : q = k
  · subst hq; simp [updV, va_up]
  · simp [updV, va_up, hq]
section SGQ
variable {E : XE} {I : MI} {pc : Nat}
theorem aast_inv {kd ek nx : Nat} {L : Ls} {st : List Value} {h : Hp} {S : XStp} (hS : o_aast kd ek nx L st h = some S) : ∃ (i : Int32) (a n : Nat) (r : List Value) (f : Nat → Option Nat) (x : Option Nat), st = va_rf x :: .int i :: .ref a :: r ∧ h.2.2 a = some (true, .inl (kd, n, .inr (.inr (.inr (.inr f))))) ∧ inb i n = true ∧ (∀ v, x = some v → ∃ c, h.2.2 v = some (true, c) ∧ kof c = ek) ∧ S = .inl (nx, L, r, hset h a (.inl (kd, n, .inr (.inr (.inr (.inr (va_up f i.toNatClampNeg x))))))) := by
  simp only [o_aast] at hS; split at hS
  next v i a r =>
    split at hS
    next k n f c hM hv =>
      cases hbe : (Nat.beq k kd && inb i n && Nat.beq (kof c) ek) with
      | false => rw [hbe] at hS; cases hS
      | true =>
        rw [hbe] at hS
        simp only [Bool.and_eq_true] at hbe
        have hk : k = kd := Nat.eq_of_beq_eq_true hbe.1.1
        subst hk
        simp only [cond_true, Option.some.injEq] at hS; subst hS
        exact ⟨i, a, n, r, f, some v, rfl, hM, hbe.1.2, fun v' e => by cases e; exact ⟨c, hv, Nat.eq_of_beq_eq_true hbe.2⟩, rfl⟩
    all_goals cases hS
  next i a r =>
    split at hS
    next k n f hM =>
      cases hbe : (Nat.beq k kd && inb i n) with
      | false => rw [hbe] at hS; cases hS
      | true =>
        rw [hbe] at hS
        simp only [Bool.and_eq_true] at hbe
        have hk : k = kd := Nat.eq_of_beq_eq_true hbe.1
        subst hk
        simp only [cond_true, Option.some.injEq] at hS; subst hS
        exact ⟨i, a, n, r, f, none, rfl, hM, hbe.2, (fun v' e => by cases e), rfl⟩
    all_goals cases hS
  all_goals cases hS
theorem sg_aast {kd ci : Nat} {r : vw_C} (ht : ∀ dA, (tysOf dA)[kd]? = some (dA kd, .object r.1)) (hc : classes[ci]? = some r) (d : decode I.2.1 pc = .ok (.aastore, 1)) : SG E I pc (o_aast kd (2 * ci + 1) (pc + 1)) := by
  refine SG.st fun p l e R s m args below meth c CC L st h S hS => ?_
  obtain ⟨hx, hb, hml, hown, hnm', hr, hlk, hts, hK, hbs⟩ := CC
  obtain ⟨i, a, n, rr, f, x, rfl, hM, hbe, hv, rfl⟩ := aast_inv hS
  refine ⟨_, _, a, _, _, rfl, hM, fun _ _ => trivial, fun H ls locs cells slots Q hH hL hs kk => ?_⟩
  have hin := inb_in hbe
  cases x with
  | none =>
    refine va_WaastN (C := r.1) hx hb ((hH.one hM) 0 _ rfl) ((hK.1.2 kd _ (ht _)).1 n (fun j => va_rf (f j))) (fun h => by cases h) (by show ¬ (i < 0 ∨ (arrV _ _ _).slots.size ≤ _); rw [arrV_size]; exact hin) rfl rfl d fun H1 e z oq => ?_
    exact kk H1 _ (by show H1[a]? = some (vp_cell _ _); rw [e]; exact congrArg some (cell_updQ (x := none))) z oq (fun x hx => by rw [List.mem_singleton.mp hx])
  | some v =>
    obtain ⟨cv, hMv, hkv⟩ := hv v rfl
    have hcv : ∃ fs, cv = .inr (ci, fs) := by
      match cv, hkv with
      | .inl (k, y), hkv =>
        simp only [kof] at hkv
        omega
      | .inr (k, y), hkv =>
        simp only [kof] at hkv
        exact ⟨y, by rw [show k = ci by omega]⟩
    obtain ⟨fs, rfl⟩ := hcv
    have hlt : i.toNatClampNeg < n := Nat.not_le.mp fun q => hin (Or.inr q)
    have h0 : ¬ i < 0 := fun q => hin (Or.inl q)
    obtain ⟨r', hr', cellV, g1, g2, g3, -⟩ := (hH.one hMv) 0 _ rfl
    have hcls := (hK.1.1 ci r hc).2
    obtain ⟨kA, comp, k1, k2, k3, -⟩ := (hK.1.2 kd _ (ht _)).2
    have hcomp : comp = E.2.2.2.1.1 ci := Option.some.inj (k3.symm.trans hcls.1)
    subst hcomp
    obtain ⟨kC, hkC, -⟩ := hcls.2
    refine W.aast hx hb ((hH.one hM) 0 _ rfl) (fun q h => by cases h) (fun h => by cases h) k1 k2 rfl hkC ⟨h0, by show _ < (arrV _ _ _).slots.size; rw [arrV_size]; exact hlt⟩ g1 (fun q h => by rw [g3] at h; cases h) (by rw [g2]; exact hkC) (by rw [g2]; exact va_assign hcls) rfl rfl d fun H1 e z oq => ?_
    exact kk H1 _ (by show H1[a]? = some (vp_cell _ _); rw [e]; exact congrArg some (cell_updQ (x := some v))) z oq (fun x hx => by rw [List.mem_singleton.mp hx])
/-- arrays of arrays -/
theorem sg_aastA {kd k1 : Nat} {t : FieldType} (ht : ∀ dA, (tysOf dA)[kd]? = some (dA kd, .array t)) (ht1 : ∀ dA, (tysOf dA)[k1]? = some (dA k1, t)) (hn : ∀ (s : State) (c : ClassId), va_RA s c t → s.vm.findClass (FieldType.array t).toString = some c) (hw : t ∈ overA) (d : decode I.2.1 pc = .ok (.aastore, 1)) : SG E I pc (o_aast kd (2 * k1) (pc + 1)) := by
  refine SG.st fun p l e R s m args below meth c CC L st h S hS => ?_
  obtain ⟨hx, hb, hml, hown, hnm', hr, hlk, hts, hK, hbs⟩ := CC
  obtain ⟨i, a, n, rr, f, x, rfl, hM, hbe, hv, rfl⟩ := aast_inv hS
  refine ⟨_, _, a, _, _, rfl, hM, fun _ _ => trivial, fun H ls locs cells slots Q hH hL hs kk => ?_⟩
  have hin := inb_in hbe
  have hlt : i.toNatClampNeg < n := Nat.not_le.mp fun q => hin (Or.inr q)
  have h0 : ¬ i < 0 := fun q => hin (Or.inl q)
  obtain ⟨comp, cA, kA, hcomp, -, hkA, hkind, hnA⟩ := arrayOverA_spec (hK.2.2.2.2.2.2.2.1 t hw)
  have e1 : cA = E.2.2.2.2 kd := Option.some.inj (hnA.symm.trans (hK.1.2 kd _ (ht _)).2)
  subst e1
  have e2 : comp = E.2.2.2.2 k1 := Option.some.inj (hcomp.symm.trans (hn s _ (hK.1.2 k1 _ (ht1 _)).2))
  subst e2
  obtain ⟨-, kC, hkC, -⟩ := (hK.1.2 k1 _ (ht1 _)).1 0 (fun _ => .null)
  cases x with
  | none =>
    intro T hT X
    have hT' : T.heap[a]? = some (vp_cell (E.2.2.2.2 kd) (n, .inr (.inr (.inr (.inr f))))) := by rw [hT]; exact (hH.one hM) 0 _ rfl
    obtain ⟨X', st⟩ := X.aastoreNullIn hx hT' (fun q h => by cases h) (fun h => by cases h) hkA hkind rfl ⟨h0, by show _ < (arrV _ _ _).slots.size; rw [arrV_size]; exact hlt⟩ (g := F0 m pc ls (.null :: .int i :: .ref a :: rr)) rfl rfl (by rw [hb]; exact d)
    have hlt : a < T.heap.size := (Array.getElem?_eq_some_iff.mp hT').1
    obtain ⟨t', a1, b1⟩ := kk _ _ (by show _ = some (vp_cell _ _); rw [heapAt_setCell_self _ hlt]; exact congrArg some (cell_updQ (x := none))) (by rw [size_setCell, hT]) (fun q hq => by rw [heapAt_setCell_ne _ (Ne.symm hq), hT]) (fun x hx => by rw [List.mem_singleton.mp hx]) _ rfl X'
    exact ⟨t', st t' a1, b1⟩
  | some v =>
    obtain ⟨cv, hMv, hkv⟩ := hv v rfl
    have hcv : ∃ y, cv = .inl (k1, y) := by
      match cv, hkv with
      | .inr (k, y), hkv =>
        simp only [kof] at hkv
        omega
      | .inl (k, y), hkv =>
        simp only [kof] at hkv
        exact ⟨y, by rw [show k = k1 by omega]⟩
    obtain ⟨y, rfl⟩ := hcv
    have g1 : H[v]? = some (vp_cell (E.2.2.2.2 k1) y) := (hH.one hMv) 0 _ rfl
    have g2 : (vp_cell (E.2.2.2.2 k1) y).cls = E.2.2.2.2 k1 := by obtain ⟨n, f | f | f | f | f⟩ := y <;> rfl
    have g3 : (vp_cell (E.2.2.2.2 k1) y).vm = .none := by obtain ⟨n, f | f | f | f | f⟩ := y <;> rfl
    refine W.aast hx hb ((hH.one hM) 0 _ rfl) (fun q h => by cases h) (fun h => by cases h) hkA hkind rfl hkC ⟨h0, by show _ < (arrV _ _ _).slots.size; rw [arrV_size]; exact hlt⟩ g1 (fun q h => by rw [g3] at h; cases h) (by rw [g2]; exact hkC) (by rw [g2]; exact va_asg _ _) rfl rfl d fun H1 e z oq => ?_
    exact kk H1 _ (by show H1[a]? = some (vp_cell _ _); rw [e]; exact congrArg some (cell_updQ (x := some v))) z oq (fun x hx => by rw [List.mem_singleton.mp hx])
/-- a step that makes one cell -/
theorem SG.nw {o : XOp} (hh : ∀ (p : Program) (l : Launch) (e : Env) (R : Room) (s : State) (m : MethodId) (args : Array Value) (below : List Frame) (meth : Method) (c : Code), XC E I R p s m args meth c → ∀ (L : Ls) (st : List Value) (h : Hp) (S : XStp), o L st h = some S → ∃ (pc' : Nat) (r : List Value) (n : Nat) (c1 : Ce), S = .inl (pc', L, .ref h.1 :: r, hnew h n c1) ∧ cok c1 ∧ ∀ (H : Heap) (ls : Array Slot) (locs : List Loc) (cells slots : Nat) (Q : State → Prop), HR E h H → LV ls I.2.2.1 L → va_S (XA E) s.heap H locs → cells + 1 ≤ R.cells → slots + n ≤ R.slots → (∀ H' : Heap, va_at E.2.2.2.1 classes (H.size, cvE E.2.2.2.2 c1) H' → H'.size = H.size + 1 → (∀ q : Nat, q < H.size → H'[q]? = H[q]?) → W p l e R s m args below meth c H' locs (cells + 1) (slots + n) Q (F0 m pc' ls (.ref H.size :: r))) → W p l e R s m args below meth c H locs cells slots Q (F0 m pc ls st)) : SG E I pc o := by
  intro p l e R s m args below meth c C L st h S hS H ls locs cells slots hH hL hs
  obtain ⟨pc', r, n, c1, rfl, hk, k⟩ := hh p l e R s m args below meth c C L st h S hS
  obtain ⟨hx, hb, hml, hown, hnm', hr, hlk, hts, hK, hbs, hR⟩ := C
  refine ⟨Nat.le_succ _, Nat.le_add_right _ _, fun Q hc1 hc2 kk => k H ls locs cells slots Q hH hL hs ?_ ?_ fun H' h1 h2 h3 => ?_⟩
  · simp only [hnew] at hc1; omega
  · simp only [hnew] at hc2; omega
  have := kk H' ls locs (hH.new (Nat.le_trans hbs hs.1) h2 h3 (by rw [← hH.1]; exact h1) hk) hL (XA_S hs hbs h2 h3)
  simp only [hnew] at this
  rw [hH.1]
  rw [show h.1 + 1 - h.1 = 1 by omega, show h.2.1 + n - h.2.1 = n by omega] at this
  exact this
theorem sg_new {C : String} {T : u_T} {ty : Nat → FieldType} {N ci i : Nat} {fs : List Value} (d : decode I.2.1 pc = .ok (.new i, 3)) (hc : classes[ci]? = some (C, T, N)) (hin : ∀ w ∈ u_ws C T N, w ∈ lwg) (hty : ∀ k, k < N → parseFieldDescriptor (T k).2.2.1 = some (ty k)) (hfs : ∀ j, j < N → defaultValue (ty j) = vp_V fs j) (hw1 : Cond.classLink I.1.cls i C ∈ lwg) (hw2 : Cond.instantiable C N ∈ lwg) (hw3 : Cond.initialized C ∈ lwg) : SG E I pc (o_new ci N fs (pc + 3)) := by
  refine SG.nw fun p l e R s m args below meth c CC L st h S hS => ?_
  obtain ⟨hx, hb, hml, hown, hnm', hr, hlk, hts, hK, hbs⟩ := CC
  simp only [o_new, Option.some.injEq] at hS; subst hS
  refine ⟨_, _, _, _, rfl, trivial, fun H ls locs cells slots Q hH hL hs hc1 hc2 kk => ?_⟩
  have hKn := hK.1.1 ci _ hc
  refine W.newcK hx hb hown (hts _ hw1) (hts _ hw2) (hts _ hw3) (g := F0 m pc ls st) rfl d hc1 hc2 hKn.2.1 rfl fun H1 kC hkC e1 z1 o1 => ?_
  exact kk H1 ⟨_, hc, (u_born ty hts hin hKn hkC e1 hty).to hfs⟩ z1 o1
theorem newi_core {p : Program} {l : Launch} {e : Env} {R : Room} {s : State} {m : MethodId} {args : Array Value} {below : List Frame} {meth : Method} {c : Code} (C : XC E I R p s m args meth c) {kd : Nat} {atype : ArrayType} {z : vp_A} {n : Int32} (d : decode I.2.1 pc = .ok (.newarray atype, 2)) (hw : Cond.arrayClass (newarray.typeOf atype) ∈ lwg) (ht : ∀ dA, (tysOf dA)[kd]? = some (dA kd, newarray.typeOf atype)) (hz : ∀ cA : ClassId, vp_cell cA z = arrV cA n.toNatClampNeg (fun _ => defaultValue (newarray.typeOf atype))) (hbe : inb n 100000 = true) (hcb : componentBytes (newarray.typeOf atype) ≤ 8)
    (H : Heap) (ls : Array Slot) (locs : List Loc) (cells slots : Nat) (Q : State → Prop) (r : List Value) (hc1 : cells + 1 ≤ R.cells) (hc2 : slots + n.toNatClampNeg ≤ R.slots) (kk : ∀ H' : Heap, va_at E.2.2.2.1 classes (H.size, .inl (E.2.2.2.2 kd, z)) H' → H'.size = H.size + 1 → (∀ q : Nat, q < H.size → H'[q]? = H[q]?) → W p l e R s m args below meth c H' locs (cells + 1) (slots + n.toNatClampNeg) Q (F0 m (pc + 2) ls (.ref H.size :: r))) : W p l e R s m args below meth c H locs cells slots Q (F0 m pc ls (.int n :: r)) := by
  obtain ⟨hx, hb, hml, hown, hnm', hr, hlk, hts, hK, hbs⟩ := C
  have hin := inb_in hbe
  have hlt : n.toNatClampNeg < 100000 := Nat.not_le.mp fun q => hin (Or.inr q)
  refine va_newaK hx hb (hts _ hw) (g := F0 m pc ls (.int n :: r)) rfl d rfl (fun q => hin (Or.inl q)) rfl (by have := Nat.mul_le_mul (Nat.le_of_lt hlt) hcb; omega) hc1 hc2 rfl fun H1 cA e1 z1 o1 hAr hNm => ?_
  have hnm2 : s.vm.findClass ("[" ++ (newarray.typeOf atype).toString) = some (E.2.2.2.2 kd) := by
    have := (hK.1.2 kd _ (ht _)).2
    cases atype <;> exact this
  have e : cA = E.2.2.2.2 kd := Option.some.inj (hNm.symm.trans hnm2)
  subst e
  exact kk H1 (by show H1[H.size]? = some (vp_cell _ _); rw [hz]; exact e1) z1 o1
theorem newi_inv {kd nx : Nat} {L : Ls} {st : List Value} {h : Hp} {S : XStp} (hS : o_newi kd nx L st h = some S) : ∃ (n : Int32) (r : List Value), st = .int n :: r ∧ inb n 100000 = true ∧ S = .inl (nx, L, .ref h.1 :: r, hnew h n.toNatClampNeg (.inl (kd, n.toNatClampNeg, .inl (fun _ => 0)))) := by
  simp only [o_newi] at hS; split at hS
  next n r =>
    cases hbe : inb n 100000 with
    | false => rw [hbe] at hS; cases hS
    | true =>
      rw [hbe] at hS
      simp only [cond_true, Option.some.injEq] at hS; subst hS
      exact ⟨n, r, rfl, hbe, rfl⟩
  all_goals cases hS
theorem sg_newB (d : decode I.2.1 pc = .ok (.newarray .byte, 2)) (hw : Cond.arrayClass .byte ∈ lwg) : SG E I pc (o_newi 0 (pc + 2)) := by
  refine SG.nw fun p l e R s m args below meth c CC L st h S hS => ?_
  obtain ⟨n, r, rfl, hbe, rfl⟩ := newi_inv hS
  exact ⟨_, _, _, _, rfl, fun _ _ => rfl, fun H ls locs cells slots Q hH hL hs hc1 hc2 kk => newi_core CC d hw (fun _ => rfl) (fun _ => rfl) hbe (by decide) H ls locs cells slots Q r hc1 hc2 kk⟩
theorem sg_newI (d : decode I.2.1 pc = .ok (.newarray .int, 2)) (hw : Cond.arrayClass .int ∈ lwg) : SG E I pc (o_newi 1 (pc + 2)) := by
  refine SG.nw fun p l e R s m args below meth c CC L st h S hS => ?_
  obtain ⟨n, r, rfl, hbe, rfl⟩ := newi_inv hS
  exact ⟨_, _, _, _, rfl, (fun q => by cases q), fun H ls locs cells slots Q hH hL hs hc1 hc2 kk => newi_core CC d hw (fun _ => rfl) (fun _ => rfl) hbe (by decide) H ls locs cells slots Q r hc1 hc2 kk⟩
theorem sg_newL (d : decode I.2.1 pc = .ok (.newarray .long, 2)) (hw : Cond.arrayClass .long ∈ lwg) : SG E I pc (o_newl (pc + 2)) := by
  refine SG.nw fun p l e R s m args below meth c CC L st h S hS => ?_
  simp only [o_newl] at hS; split at hS
  next n r =>
    cases hbe : inb n 100000 with
    | false => rw [hbe] at hS; cases hS
    | true =>
      rw [hbe] at hS
      simp only [cond_true, Option.some.injEq] at hS; subst hS
      exact ⟨_, _, _, _, rfl, trivial, fun H ls locs cells slots Q hH hL hs hc1 hc2 kk => newi_core CC d hw (fun _ => rfl) (fun _ => rfl) hbe (by decide) H ls locs cells slots Q r hc1 hc2 kk⟩
  all_goals cases hS
theorem newq_inv {kd nx : Nat} {L : Ls} {st : List Value} {h : Hp} {S : XStp} (hS : o_newq kd nx L st h = some S) : ∃ (n : Int32) (r : List Value), st = .int n :: r ∧ inb n 100000 = true ∧ S = .inl (nx, L, .ref h.1 :: r, hnew h n.toNatClampNeg (.inl (kd, n.toNatClampNeg, .inr (.inr (.inr (.inr (fun _ => none))))))) := by
  simp only [o_newq] at hS; split at hS
  next n r =>
    cases hbe : inb n 100000 with
    | false => rw [hbe] at hS; cases hS
    | true =>
      rw [hbe] at hS
      simp only [cond_true, Option.some.injEq] at hS; subst hS
      exact ⟨n, r, rfl, hbe, rfl⟩
  all_goals cases hS
theorem push_new {H : Heap} {cA : ClassId} {N : Nat} : (H.push { cls := cA, slots := Array.replicate N .null, vm := .none })[H.size]? = some (vp_cell cA (N, .inr (.inr (.inr (.inr (fun _ => none)))))) := by
  rw [vp_cell_q]
  show _ = some (arrV cA N (fun _ => Value.null))
  rw [← arrV_new]
  simp
theorem sg_newQ {kd i : Nat} {C : String} (d : decode I.2.1 pc = .ok (.anewarray i, 3)) (ht : ∀ dA, (tysOf dA)[kd]? = some (dA kd, .object C)) (hw1 : Cond.classLink I.1.cls i C ∈ lwg) (hw2 : C ∈ overO) : SG E I pc (o_newq kd (pc + 3)) := by
  refine SG.nw fun p l e R s m args below meth c CC L st h S hS => ?_
  obtain ⟨n, r, rfl, hbe, rfl⟩ := newq_inv hS
  obtain ⟨hx, hb, hml, hown, hnm', hr, hlk, hts, hK, hbs⟩ := CC
  refine ⟨_, _, _, _, rfl, trivial, fun H ls locs cells slots Q hH hL hs hc1 hc2 kk => ?_⟩
  have hin := inb_in hbe
  have hlt : n.toNatClampNeg < 100000 := Nat.not_le.mp fun q => hin (Or.inr q)
  refine W.anew hx hb hown (hts _ hw1) (va_AO.use (hK.2.2.2.2.2.2.1 C hw2)) (g := F0 m pc ls (.int n :: r)) rfl d rfl (fun q => hin (Or.inl q)) (by omega) hc1 hc2 fun cA kA comp h1 h2 h3 h4 => ?_
  obtain ⟨_, _, -, -, -, h5⟩ := (hK.1.2 kd _ (ht _)).2
  have e : cA = E.2.2.2.2 kd := Option.some.inj (h1.symm.trans h5)
  subst e
  exact kk _ push_new (by simp) (fun q hq => by rw [Array.getElem?_push, if_neg (Nat.ne_of_lt hq)])
theorem sg_newA {kd i : Nat} {t : FieldType} (d : decode I.2.1 pc = .ok (.anewarray i, 3)) (ht : ∀ dA, (tysOf dA)[kd]? = some (dA kd, .array t)) (hw1 : Cond.classLink I.1.cls i (FieldType.array t).toString ∈ lwg) (hw2 : t ∈ overA) : SG E I pc (o_newq kd (pc + 3)) := by
  refine SG.nw fun p l e R s m args below meth c CC L st h S hS => ?_
  obtain ⟨n, r, rfl, hbe, rfl⟩ := newq_inv hS
  obtain ⟨hx, hb, hml, hown, hnm', hr, hlk, hts, hK, hbs⟩ := CC
  refine ⟨_, _, _, _, rfl, trivial, fun H ls locs cells slots Q hH hL hs hc1 hc2 kk => ?_⟩
  have hin := inb_in hbe
  have hlt : n.toNatClampNeg < 100000 := Nat.not_le.mp fun q => hin (Or.inr q)
  refine W.anewA hx hb hown (hts _ hw1) (over_moved (Vm.Alike.refl _) (hK.2.2.2.2.2.2.2.1 t hw2)) (g := F0 m pc ls (.int n :: r)) rfl d rfl (fun q => hin (Or.inl q)) (by omega) hc1 hc2 fun cA kA comp h1 h2 h3 h4 => ?_
  have h5 : s.vm.findClass ("[" ++ (FieldType.array t).toString) = some (E.2.2.2.2 kd) := (hK.1.2 kd _ (ht _)).2
  have e : cA = E.2.2.2.2 kd := Option.some.inj (h1.symm.trans h5)
  subst e
  exact kk _ push_new (by simp) (fun q hq => by rw [Array.getElem?_push, if_neg (Nat.ne_of_lt hq)])
end SGQ
