/-! each step is sound: stores and makings -/
/-- a step that changes one old cell -/
theorem SG.st {E : XE} {I : MI} {pc : Nat} {o : XOp} (hh : ∀ (p : Program) (l : Launch) (e : Env) (R : Room) (s : State) (m : MethodId) (args : Array Value) (below : List Frame) (meth : Method) (c : Code), XC E I R p s m args meth c → ∀ (L : Ls) (st : List Value) (h : Hp) (S : XStp), o L st h = some S → ∃ (pc' : Nat) (st' : List Value) (a : Nat) (c0 c1 : Ce), S = .inl (pc', L, st', hset h a c1) ∧ h.2.2 a = some (true, c0) ∧ (∀ H : Heap, HR E h H → cok c1) ∧ ∀ (H : Heap) (ls : Array Slot) (locs : List Loc) (cells slots : Nat) (Q : State → Prop), HR E h H → LV ls I.2.2.1 L → va_S (XA E) s.heap H locs → (∀ (H' : Heap) (L' : List Loc), va_at E.2.2.2.1 classes (a, cvE E.2.2.2.2 c1) H' → H'.size = H.size → (∀ q : Nat, q ≠ a → H'[q]? = H[q]?) → (∀ x ∈ L', x.base = a) → W p l e R s m args below meth c H' (locs ++ L') cells slots Q (F0 m pc' ls st')) → W p l e R s m args below meth c H locs cells slots Q (F0 m pc ls st)) : SG E I pc o := by
  intro p l e R s m args below meth c C L st h S hS H ls locs cells slots hH hL hs
  obtain ⟨pc', st', a, c0, c1, rfl, hM, hk, k⟩ := hh p l e R s m args below meth c C L st h S hS
  refine ⟨Nat.le_refl _, Nat.le_refl _, fun Q _ _ kk => k H ls locs cells slots Q hH hL hs fun H' L' h1 h2 h3 h4 => ?_⟩
  have hba := (hH.2 a true c0 hM).2.1 rfl
  have := kk H' ls (locs ++ L') (hH.set hM h2 h3 h1 (hk H hH)) hL ⟨by rw [h2]; exact hs.1, fun q g1 g2 => by rw [h3 q (fun e => g2 (by rw [e]; exact hba))]; exact hs.2.1 q g1 g2, fun x hx => by
    rcases List.mem_append.mp hx with g | g
    · exact hs.2.2 x g
    · show E.1 ≤ x.base
      rw [h4 x g]; exact hba⟩
  simpa [hset] using this
section SGP
variable {E : XE} {I : MI} {pc : Nat}
theorem ok_int (v : Value) (h : o_ok 0 v = true) : narrow .int v = v ∧ fits .int v = true := by cases v <;> first | exact ⟨rfl, rfl⟩ | cases h
theorem ok_long (v : Value) (h : o_ok 1 v = true) : narrow .long v = v ∧ fits .long v = true := by cases v <;> first | exact ⟨rfl, rfl⟩ | cases h
theorem ok_obj (C : String) (v : Value) (h : o_ok 2 v = true) : narrow (.object C) v = v ∧ fits (.object C) v = true := by cases v <;> first | exact ⟨rfl, rfl⟩ | cases h
theorem ok_arr (t : FieldType) (v : Value) (h : o_ok 2 v = true) : narrow (.array t) v = v ∧ fits (.array t) v = true := by cases v <;> first | exact ⟨rfl, rfl⟩ | cases h
theorem putf_inv {ci k kd nx : Nat} {L : Ls} {st : List Value} {h : Hp} {S : XStp} (hS : o_putf ci k kd nx L st h = some S) : ∃ (v : Value) (a : Nat) (r : List Value) (fs : List Value), st = v :: .ref a :: r ∧ h.2.2 a = some (true, .inr (ci, fs)) ∧ o_ok kd v = true ∧ k < fs.length ∧ S = .inl (nx, L, r, hset h a (.inr (ci, fs.set k v))) := by
  simp only [o_putf] at hS; split at hS
  next v a r =>
    split at hS
    next c0 fs hM =>
      cases hbe : (Nat.beq c0 ci && o_ok kd v && Nat.blt k fs.length) with
      | false => rw [hbe] at hS; cases hS
      | true =>
        rw [hbe] at hS
        simp only [Bool.and_eq_true] at hbe
        have hce : c0 = ci := Nat.eq_of_beq_eq_true hbe.1.1
        subst hce
        simp only [cond_true, Option.some.injEq] at hS; subst hS
        exact ⟨v, a, r, fs, rfl, hM, hbe.1.2, blt_lt hbe.2, rfl⟩
    all_goals cases hS
  all_goals cases hS
theorem sg_putf {C : String} {T : u_T} {ty0 : Nat → FieldType} {N ci k kd i : Nat} {ty : FieldType} (d : decode I.2.1 pc = .ok (.putfield i, 3)) (hc : classes[ci]? = some (C, T, N)) (hin : ∀ w ∈ u_ws C T N, w ∈ lwg) (hty : ∀ k, k < N → parseFieldDescriptor (T k).2.2.1 = some (ty0 k)) (hnm : ∀ a, a < N → ∀ b, b < N → a ≠ b → (T a).2.1 ≠ (T b).2.1) (hk : k < N) (hw : Cond.fieldLink I.1.cls i (T k).1 (T k).2.1 (T k).2.2.1 ∈ lwg) (hfin : (T k).2.2.2 = false) (hd : parseFieldDescriptor (T k).2.2.1 = some ty) (hok : ∀ v, o_ok kd v = true → narrow ty v = v ∧ fits ty v = true) : SG E I pc (o_putf ci k kd (pc + 3)) := by
  refine SG.st fun p l e R s m args below meth c CC L st h S hS => ?_
  obtain ⟨hx, hb, hml, hown, hnm', hr, hlk, hts, hK, hbs⟩ := CC
  obtain ⟨v, a, r, fs, rfl, hM, hov, hl, rfl⟩ := putf_inv hS
  refine ⟨_, _, a, _, _, rfl, hM, fun _ _ => trivial, fun H ls locs cells slots Q hH hL hs kk => ?_⟩
  obtain ⟨hn, hfit⟩ := hok v hov
  have hap := va_apart (own := I.1.cls) hts hin ty0 hty hnm hK.1 hc
  obtain ⟨r', h1, cell, q1, q2, q3, q4⟩ := (hH.one hM) 0 _ rfl
  have hr' : r' = (C, T, N) := Option.some.inj (h1.symm.trans hc)
  subst hr'
  obtain ⟨hS, hfc, kC, hkC, hkind⟩ := hK.1.1 ci _ hc
  obtain ⟨cf, kf, fi, f, hi, hsl⟩ := hS k hk
  have hlay := hts _ (hin _ (u_in_lay hk))
  unfold u_lay at hlay
  rw [if_neg (by rw [hfin]; decide)] at hlay
  have hst := (u_facts hfc hkC (u_lays hts hin hk) hi).1
  have h6 := u_store hfc hkC hkind hlay hi hd hn hfit
  refine W.putK hx hb (f := f) ⟨hown, hts _ hw, ⟨_, _, _, hi⟩, hst⟩ (by rw [q2]; exact h6) q1 q3 (by rw [hsl]; exact k2_hasslot (q4 k hk)) rfl rfl d fun H' e1 e2 e3 => ?_
  rw [hsl] at e1 ⊢
  exact kk H' _ ⟨_, hc, t_OB.to (V := updV (vp_V fs) k v) ⟨_, e1, q2, q3, t_set q4 hap hk v⟩ (fun j _ => vp_updV_set hl v j)⟩ e2 e3 (fun x hx => by rw [List.mem_singleton.mp hx])
theorem sg_putF {C : String} {T : u_T} {ty0 : Nat → FieldType} {N ci k kd i : Nat} {ty : FieldType} (d : decode I.2.1 pc = .ok (.putfield i, 3)) (hc : classes[ci]? = some (C, T, N)) (hin : ∀ w ∈ u_ws C T N, w ∈ lwg) (hty : ∀ k, k < N → parseFieldDescriptor (T k).2.2.1 = some (ty0 k)) (hnm : ∀ a, a < N → ∀ b, b < N → a ≠ b → (T a).2.1 ≠ (T b).2.1) (hk : k < N) (hw : Cond.fieldLink I.1.cls i (T k).1 (T k).2.1 (T k).2.2.1 ∈ lwg) (hfin : (T k).2.2.2 = true) (hini : I.1.name = "<init>") (hdecl : (T k).1 = I.1.cls) (hd : parseFieldDescriptor (T k).2.2.1 = some ty) (hok : ∀ v, o_ok kd v = true → narrow ty v = v ∧ fits ty v = true) : SG E I pc (o_putf ci k kd (pc + 3)) := by
  refine SG.st fun p l e R s m args below meth c CC L st h S hS => ?_
  obtain ⟨hx, hb, hml, hown, hnm', hr, hlk, hts, hK, hbs⟩ := CC
  obtain ⟨v, a, r, fs, rfl, hM, hov, hl, rfl⟩ := putf_inv hS
  refine ⟨_, _, a, _, _, rfl, hM, fun _ _ => trivial, fun H ls locs cells slots Q hH hL hs kk => ?_⟩
  obtain ⟨hn, hfit⟩ := hok v hov
  have hap := va_apart (own := I.1.cls) hts hin ty0 hty hnm hK.1 hc
  obtain ⟨r', h1, cell, q1, q2, q3, q4⟩ := (hH.one hM) 0 _ rfl
  have hr' : r' = (C, T, N) := Option.some.inj (h1.symm.trans hc)
  subst hr'
  obtain ⟨hS, hfc, kC, hkC, hkind⟩ := hK.1.1 ci _ hc
  obtain ⟨cf, kf, fi, f, hi, hsl⟩ := hS k hk
  have hlay := hts _ (hin _ (u_in_lay hk))
  unfold u_lay at hlay
  rw [if_pos hfin] at hlay
  have hst := (u_facts hfc hkC (u_lays hts hin hk) hi).1
  have hcf : m.cls = cf := by
    obtain ⟨_, _, c', _, _, _, -, -, hf', -, -, -, hown2, -⟩ := Cond.laysFinal_spec hlay
    have e1 : c' = cf := by have := hi.symm.trans hf'; simp at this; exact this.1.symm
    rw [hdecl] at hown2
    rw [← e1]; exact Option.some.inj (hown.symm.trans hown2)
  have h6 := u_fits hfc hkC hkind (Or.inr hlay) hi hd hn hfit
  refine W.putFinK hx hb hown (hts _ hw) hi hst hcf (by rw [hnm']; exact hini) (by rw [q2]; exact h6) q1 q3 (by rw [hsl]; exact k2_hasslot (q4 k hk)) rfl rfl d fun H' e1 e2 e3 => ?_
  rw [hsl] at e1 ⊢
  exact kk H' _ ⟨_, hc, t_OB.to (V := updV (vp_V fs) k v) ⟨_, e1, q2, q3, t_set q4 hap hk v⟩ (fun j _ => vp_updV_set hl v j)⟩ e2 e3 (fun x hx => by rw [List.mem_singleton.mp hx])
theorem cell_upd {c : ClassId} {n k : Nat} {f : Nat → Int32} {x : Int32} : (vp_cell c (n, .inl f)).setSlot k (.int x) = vp_cell c (n, .inl (upd f k x)) := by
  rw [vp_cell_i, vp_cell_i, arrV_store]
  congr 1
  funext q
  by_cases hq : q = k
  · subst hq; simp [updV, upd]
  · simp [updV, upd, hq]
theorem sg_iast (d : decode I.2.1 pc = .ok (.iastore, 1)) : SG E I pc (o_iast (pc + 1)) := by
  refine SG.st fun p l e R s m args below meth c CC L st h S hS => ?_
  obtain ⟨hx, hb, hml, hown, hnm', hr, hlk, hts, hK, hbs⟩ := CC
  simp only [o_iast] at hS; split at hS
  next x i a r =>
    split at hS
    next k n f hM =>
      cases hbe : (Nat.beq k 1 && inb i n) with
      | false => rw [hbe] at hS; cases hS
      | true =>
        rw [hbe] at hS
        simp only [Bool.and_eq_true] at hbe
        have hk : k = 1 := Nat.eq_of_beq_eq_true hbe.1
        subst hk
        simp only [cond_true, Option.some.injEq] at hS; subst hS
        refine ⟨_, _, a, _, _, rfl, hM, (fun _ _ q => by simp at q), fun H ls locs cells slots Q hH hL hs kk => ?_⟩
        have hin := inb_in hbe.2
        refine W.iast hx hb ((hH.one hM) 0 _ rfl) ((hK.1.2 1 _ rfl).1 n (fun j => .int (f j))) (fun q => by cases q) (by show ¬ (i < 0 ∨ (arrV _ _ _).slots.size ≤ _); rw [arrV_size]; exact hin) rfl rfl d fun H1 e z oq => ?_
        exact kk H1 _ (by show H1[a]? = some (vp_cell _ _); rw [e, cell_upd]) z oq (fun x hx => by rw [List.mem_singleton.mp hx])
    all_goals cases hS
  all_goals cases hS
theorem fit_byte (x : Int32) : fits .byte (.int x.toInt8.toInt32) = true := pk_fb x
theorem sg_bast (d : decode I.2.1 pc = .ok (.bastore, 1)) : SG E I pc (o_bast (pc + 1)) := by
  refine SG.st fun p l e R s m args below meth c CC L st h S hS => ?_
  obtain ⟨hx, hb, hml, hown, hnm', hr, hlk, hts, hK, hbs⟩ := CC
  simp only [o_bast] at hS; split at hS
  next x i a r =>
    split at hS
    next k n f hM =>
      cases hbe : (Nat.beq k 0 && inb i n) with
      | false => rw [hbe] at hS; cases hS
      | true =>
        rw [hbe] at hS
        simp only [Bool.and_eq_true] at hbe
        have hk : k = 0 := Nat.eq_of_beq_eq_true hbe.1
        subst hk
        simp only [cond_true, Option.some.injEq] at hS; subst hS
        refine ⟨_, _, a, _, _, rfl, hM, fun H0 hH0 _ j => ?_, fun H ls locs cells slots Q hH hL hs kk => ?_⟩
        · simp only [upd]
          split
          · exact fit_byte x
          · exact (hH0.2 a true _ hM).2.2 rfl j
        have hin := inb_in hbe.2
        refine W.bast hx hb ((hH.one hM) 0 _ rfl) ((hK.1.2 0 _ rfl).1 n (fun j => .int (f j))) (fun q => by cases q) (by show ¬ (i < 0 ∨ (arrV _ _ _).slots.size ≤ _); rw [arrV_size]; exact hin) rfl rfl d fun H1 e z oq => ?_
        exact kk H1 _ (by show H1[a]? = some (vp_cell _ _); rw [e]; exact congrArg some cell_upd) z oq (fun x hx => by rw [List.mem_singleton.mp hx])
    all_goals cases hS
  all_goals cases hS
theorem cell_updL {c : ClassId} {n k : Nat} {f : Nat → Int64} {x : Int64} : (vp_cell c (n, .inr (.inl f))).setSlot k (.long x) = vp_cell c (n, .inr (.inl (vp_updL f k x))) := by
  rw [vp_cell_l, vp_cell_l, arrV_store]
  congr 1
  funext q
  by_cases hq : q = k
  · subst hq; simp [updV, vp_updL]
  · simp [updV, vp_updL, hq]
theorem sg_last (d : decode I.2.1 pc = .ok (.lastore, 1)) : SG E I pc (o_last (pc + 1)) := by
  refine SG.st fun p l e R s m args below meth c CC L st h S hS => ?_
  obtain ⟨hx, hb, hml, hown, hnm', hr, hlk, hts, hK, hbs⟩ := CC
  simp only [o_last] at hS; split at hS
  next x i a r =>
    split at hS
    next k n f hM =>
      cases hbe : (Nat.beq k 2 && inb i n) with
      | false => rw [hbe] at hS; cases hS
      | true =>
        rw [hbe] at hS
        simp only [Bool.and_eq_true] at hbe
        have hk : k = 2 := Nat.eq_of_beq_eq_true hbe.1
        subst hk
        simp only [cond_true, Option.some.injEq] at hS; subst hS
        refine ⟨_, _, a, _, _, rfl, hM, fun _ _ => trivial, fun H ls locs cells slots Q hH hL hs kk => ?_⟩
        have hin := inb_in hbe.2
        refine W.last hx hb ((hH.one hM) 0 _ rfl) ((hK.1.2 2 _ rfl).1 n (fun j => .long (f j))) (fun q => by cases q) (by show ¬ (i < 0 ∨ (arrV _ _ _).slots.size ≤ _); rw [arrV_size]; exact hin) rfl rfl d fun H1 e z oq => ?_
        exact kk H1 _ (by show H1[a]? = some (vp_cell _ _); rw [e]; exact congrArg some cell_updL) z oq (fun x hx => by rw [List.mem_singleton.mp hx])
    all_goals cases hS
  all_goals cases hS
end SGP
