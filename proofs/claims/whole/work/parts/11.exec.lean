/-! a run of the abstract machine is a run of the machine -/
def Cs (E : XE) (I : MI) (cd : Cd) : Prop := ∀ (pc : Nat) (o : XOp), cd pc = some o → SG E I pc o
theorem Cs_nd {E : XE} {I : MI} {k : Nat} {f g : Cd} (hf : Cs E I f) (hg : Cs E I g) : Cs E I (nd k f g) := by
  intro pc o h
  simp only [nd] at h
  cases hb : Nat.blt pc k with
  | true => rw [hb] at h; exact hf pc o h
  | false => rw [hb] at h; exact hg pc o h
theorem Cs_lf {E : XE} {I : MI} {k : Nat} {o : XOp} (h : SG E I k o) : Cs E I (lf k o) := by
  intro pc o' h'
  simp only [lf] at h'
  cases hb : Nat.beq pc k with
  | false => rw [hb] at h'; cases h'
  | true =>
    rw [hb] at h'
    have e : pc = k := Nat.eq_of_beq_eq_true hb
    subst e
    simp only [cond_true, Option.some.injEq] at h'
    subst h'
    exact h
theorem hle_le {h h' : Hp} (e : hle h h' = true) : h.1 ≤ h'.1 ∧ h.2.1 ≤ h'.2.1 := by
  simp only [hle, Bool.and_eq_true] at e
  exact ⟨Nat.le_of_ble_eq_true e.1, Nat.le_of_ble_eq_true e.2⟩
/-- nothing shrinks -/
theorem xexec_mono (P : Pg) : ∀ (f : Nat) (cd : Cd) (pc : Nat) (ls : Ls) (st : List Value) (h : Hp) (v : Option Value) (h' : Hp), xexec P f cd pc ls st h = some (v, h') → h.1 ≤ h'.1 ∧ h.2.1 ≤ h'.2.1
  | 0, _, _, _, _, _, _, _, e => by simp [xexec] at e
  | f + 1, cd, pc, ls, st, h, v, h', e => by
    simp only [xexec] at e
    split at e
    next => cases e
    next o ho =>
      split at e
      next => cases e
      next pc1 ls1 st1 h1 hS =>
        cases hb : hle h h1 with
        | false => rw [hb] at e; cases e
        | true =>
          rw [hb] at e
          have a := hle_le hb
          have b := xexec_mono P f cd pc1 ls1 st1 h1 v h' e
          exact ⟨Nat.le_trans a.1 b.1, Nat.le_trans a.2 b.2⟩
      next v1 h1 hS =>
        cases hb : hle h h1 with
        | false => rw [hb] at e; cases e
        | true =>
          rw [hb] at e
          simp only [cond_true, Option.some.injEq, Prod.mk.injEq] at e
          obtain ⟨-, rfl⟩ := e
          exact hle_le hb
      next mid As pc1 ls1 st1 h1 hS =>
        cases hb : (hle h h1 && Nat.ble (lent As).length (P mid).2) with
        | false => rw [hb] at e; cases e
        | true =>
          rw [hb] at e
          simp only [Bool.and_eq_true] at hb
          simp only [cond_true] at e
          split at e
          next v2 h2 hc =>
            have a := hle_le hb.1
            have b := xexec_mono P f _ _ _ _ _ v2 h2 hc
            have d := xexec_mono P f cd pc1 ls1 _ h2 v h' e
            exact ⟨Nat.le_trans a.1 (Nat.le_trans b.1 d.1), Nat.le_trans a.2 (Nat.le_trans b.2 d.2)⟩
          next => cases e
def rmO (lv mc ms : Nat) : Room := { frames := lv, cells := mc, slots := ms, locals := 64 * lv }
def PcX (E : XE) (As : List Value) (h : Hp) : Array Value → State → Prop := fun a U => a = As.toArray ∧ HR E h U.heap ∧ KX E U U.heap ∧ E.1 ≤ U.heap.size
def QcX (E : XE) (v : Option Value) (h' : Hp) : Array Value → State → Outcome → State → Prop := fun _ st o t => o = .returned v ∧ HR E h' t.heap ∧ va_F (XA E) st t
theorem PcX_blind (E : XE) (As : List Value) (h : Hp) : FrameBlind (PcX E As h) := by
  rintro a U g mk ⟨h1, h2, h3, h4⟩
  exact ⟨h1, h2, KX.same (u := U) (U := U.calling g mk a) rfl h3, h4⟩
/-- the contract of a run -/
def CT (E : XE) (l : Launch) (mid : Nat) (As : List Value) (h : Hp) (v : Option Value) (h' : Hp) : Prop := Met l (mI mid).1 (wsOf mid) (rmO (lvO (mI mid).1) (h'.1 - h.1) (h'.2.1 - h.2.1)) (PcX E As h) (QcX E v h') (h'.1 - h.1) (h'.2.1 - h.2.1) (XA E)
/-- a method of the program whose code is sound -/
def GM (E : XE) (P : Pg) (mid : Nat) : Prop := Nat.beq mid 192 = false ∧ Cs E (mI mid) (P mid).1 ∧ (P mid).2 = (mI mid).2.2.1 ∧ plainFor (mI mid).1 = true ∧ 1 ≤ lvO (mI mid).1 ∧ (mI mid).2.2.1 ≤ 40
/-- a body's contract, the method plain by its own name -/
theorem Met_ofWF {l : Launch} {y : MethodName} {ws ws' : List Cond} {rm : Room} {Pc : Array Value → State → Prop} {Qc : Array Value → State → Outcome → State → Prop} {mc ms : Nat} {free : Addr → Prop} {cc : ByteArray} {maxL : Nat} {ret : Option FieldType}
    (hy : plainFor y = true) (hw : ws = Cond.code y cc maxL ret :: ws')
    (body : ∀ p e s m args below meth c s₁, BodyLoose p l y (headSpec ws rm) cc maxL ret e s m args below meth c s₁ → c.maxLocals = maxL → Pc args s →
      W p l e (headSpec ws rm).room s m args below meth c s.heap [] 0 0 (MQ below Qc args s mc ms free) (entryFrame m args maxL)) : Met l y ws rm Pc Qc mc ms free := by
  refine MetFree.of_bodyRF (code := cc) (maxLocals := maxL) (ret := ret) hy ?_ ?_
  · intro args s m h hn
    obtain ⟨meth, c, h1, h2, h3, h4, h5, h6, -, -⟩ := Cond.code_spec hn (atoms_spec (ws := ws) h _ (by rw [hw]; exact List.mem_cons_self))
    exact ⟨meth, c, h1, h2, h3, h4, h5, h6⟩
  · intro p e s m args below meth c s₁ B hml hP _ hst
    have hh0 : s₁.heap = s.heap := by rw [B.state]; rfl
    obtain ⟨t, a1, o, b1, b2, b3, b4⟩ := body p e s m args below meth c s₁ B hml hP s₁ hh0 (Stand.of_body B)
    exact ⟨t, o, hst.trans a1, b1, b2, b3, b4⟩
/-- a run of a body; where the code isn't of the plain sort, the end is given -/
theorem xbodyQ {E : XE} {P : Pg} {l : Launch} {f0 K : Nat} {ok : Nat → Prop} {rt : Option Value → Prop} {I : MI} (IH : ∀ f, f < f0 → ∀ (mid : Nat) (As : List Value) (h : Hp) (v : Option Value) (h' : Hp), lvO (mI mid).1 < lvO I.1 → ok mid → xexec P f (P mid).1 0 (lpad (P mid).2 (lent As)) [] h = some (v, h') → (lent As).length ≤ (P mid).2 → CT E l mid As h v h' ∧ (P mid).2 ≤ 40 ∧ lvO (mI mid).1 + 1 ≤ K) {cd : Cd} {mc ms : Nat} {p : Program} {e : Env} {s : State} {m : MethodId} {args : Array Value} {below : List Frame} {meth : Method} {c : Code} (C : XC E I (rmO K mc ms) p s m args meth c) (hP2 : ∀ mid, (P mid).2 = (mI mid).2.2.1) {v : Option Value} {h' : Hp} {Q : State → Prop} (hq : rt v → ∀ T, MQ below (QcX E v h') args s mc ms (XA E) T → Q T)
    (hcd : ∀ (pc : Nat) (o : XOp), cd pc = some o → (SG E I pc o ∧ ∀ L st h v1 h1, o L st h = some (.inr (.inl (v1, h1))) → rt v1) ∨ ((∀ L st h S, o L st h = some S → ∃ v1 h1, S = .inr (.inl (v1, h1))) ∧ ∀ (L : Ls) (st : List Value) (h : Hp), o L st h = some (.inr (.inl (v, h'))) → hle h h' = true → ∀ (H : Heap) (ls : Array Slot) (locs : List Loc) (cells slots : Nat), HR E h H → LV ls I.2.2.1 L → va_S (XA E) s.heap H locs → cells + (h'.1 - h.1) = mc → slots + (h'.2.1 - h.2.1) = ms → W p l e (rmO K mc ms) s m args below meth c H locs cells slots Q (F0 m pc ls st)))
    (hnc : ∀ (pc : Nat) (o : XOp), cd pc = some o → ∀ (L : Ls) (st : List Value) (h : Hp) (mid : Nat) (As : List Value) (pc1 : Nat) (L1 : Ls) (st1 : List Value) (h1 : Hp), o L st h = some (.inr (.inr (mid, As, pc1, L1, st1, h1))) → ok mid) :
    ∀ (f : Nat), f ≤ f0 → ∀ (pc : Nat) (L : Ls) (st : List Value) (h : Hp), xexec P f cd pc L st h = some (v, h') → ∀ (H : Heap) (ls : Array Slot) (locs : List Loc) (cells slots : Nat), HR E h H → LV ls I.2.2.1 L → va_S (XA E) s.heap H locs → cells + (h'.1 - h.1) = mc → slots + (h'.2.1 - h.2.1) = ms → W p l e (rmO K mc ms) s m args below meth c H locs cells slots Q (F0 m pc ls st) := by
  intro f
  induction f with
  | zero => intro _ pc L st h hx; simp [xexec] at hx
  | succ f ih =>
    intro hf pc L st h hx H ls locs cells slots hH hL hs hc hsl
    have hx0 := hx
    simp only [xexec] at hx
    split at hx
    next => cases hx
    next o ho =>
      rcases hcd pc o ho with ⟨hsg, hrt9⟩ | ⟨ht1, ht2⟩
      case inr =>
        split at hx
        next => cases hx
        next pc1 ls1 st1 h1 hS => obtain ⟨_, _, q⟩ := ht1 _ _ _ _ hS; cases q
        next v1 h1 hS =>
          cases hb : hle h h1 with
          | false => rw [hb] at hx; cases hx
          | true =>
            rw [hb] at hx
            simp only [cond_true, Option.some.injEq, Prod.mk.injEq] at hx
            obtain ⟨rfl, rfl⟩ := hx
            exact ht2 L st h hS hb H ls locs cells slots hH hL hs hc hsl
        next mid As pc1 ls1 st1 h1 hS => obtain ⟨_, _, q⟩ := ht1 _ _ _ _ hS; cases q
      split at hx
      next => cases hx
      next pc1 ls1 st1 h1 hS =>
        cases hb : hle h h1 with
        | false => rw [hb] at hx; cases hx
        | true =>
          rw [hb] at hx
          simp only [cond_true] at hx
          have a := hle_le hb
          have b := xexec_mono P f cd pc1 ls1 st1 h1 v h' hx
          obtain ⟨-, -, k⟩ := hsg p l e (rmO K mc ms) s m args below meth c C L st h _ hS H ls locs cells slots hH hL hs
          refine k _ (by show _ ≤ mc; omega) (by show _ ≤ ms; omega) fun H' ls' locs' q1 q2 q3 => ?_
          exact ih (by omega) pc1 ls1 st1 h1 hx H' ls' locs' _ _ q1 q2 q3 (by omega) (by omega)
      next v1 h1 hS =>
        cases hb : hle h h1 with
        | false => rw [hb] at hx; cases hx
        | true =>
          rw [hb] at hx
          simp only [cond_true, Option.some.injEq, Prod.mk.injEq] at hx
          obtain ⟨rfl, rfl⟩ := hx
          obtain ⟨rfl, k⟩ := hsg p l e (rmO K mc ms) s m args below meth c C L st h _ hS H ls locs cells slots hH hL hs
          have e1 : cells = mc := by omega
          have e2 : slots = ms := by omega
          subst e1; subst e2
          have kk := k (QcX E v1 h1) (XA E) (fun t ht hW => ⟨rfl, by rw [ht]; exact hH, hs.F ht⟩) hs.2.2
          intro T hT X
          obtain ⟨t2, a1, b1⟩ := kk T hT X
          exact ⟨t2, a1, hq (hrt9 _ _ _ _ _ hS) _ b1⟩
      next mid As pc1 ls1 st1 h1 hS =>
        cases hb : (hle h h1 && Nat.ble (lent As).length (P mid).2) with
        | false => rw [hb] at hx; cases hx
        | true =>
          rw [hb] at hx
          simp only [Bool.and_eq_true] at hb
          simp only [cond_true] at hx
          split at hx
          next v2 h2 hcall =>
            obtain ⟨rfl, rfl, rfl, hlv, k⟩ := hsg p l e (rmO K mc ms) s m args below meth c C L st h _ hS H ls locs cells slots hH hL hs
            have mA := xexec_mono P f _ _ _ _ _ v2 h2 hcall
            have mB := xexec_mono P f cd _ _ _ h2 v h' hx
            obtain ⟨hct, h40, hK9⟩ := IH f (by omega) mid As h1 v2 h2 hlv (hnc pc o ho _ _ _ _ _ _ _ _ _ hS) hcall (Nat.le_of_ble_eq_true hb.2)
            rw [hP2] at h40
            obtain ⟨hx', hb', hml, hown, hnm', hrt, hlk, hts, hK, hbs, hR⟩ := C
            have hrun := k (rmO (lvO (mI mid).1) (h2.1 - h1.1) (h2.2.1 - h1.2.1)) (PcX E As h1) (QcX E v2 h2) (h2.1 - h1.1) (h2.2.1 - h1.2.1) (XA E) hct rfl rfl (by show lvO (mI mid).1 + 1 ≤ K; omega) (by show _ + 64 * lvO (mI mid).1 ≤ 64 * K; omega) (PcX_blind E As h1)
              (fun U hU hW => ⟨rfl, by rw [hU]; exact hH, by rw [hU]; exact hK.warm hW hs.2.1, by rw [hU]; exact Nat.le_trans hbs hs.1⟩) (by show _ ≤ mc; omega) (by show _ ≤ ms; omega)
            intro T hT X
            obtain ⟨w, st₀, t, T', LL, g0, X', hLL, e1, e2, ⟨hv, hH2, hF⟩, stp⟩ := hrun T hT X
            have hvw : w = v2 := by injection hv
            subst hvw
            rw [← e1] at hH2
            have hs' : va_S (XA E) s.heap T'.heap (locs ++ LL) := by
              refine ⟨?_, fun q g1 g2 => ?_, fun x hx => ?_⟩
              · have := hF.1; rw [g0, ← e1] at this; exact Nat.le_trans hs.1 this
              · have := hF.2 q (by rw [g0]; exact Nat.lt_of_lt_of_le g1 hs.1) g2
                rw [g0, ← e1] at this
                rw [this]; exact hs.2.1 q g1 g2
              · rcases List.mem_append.mp hx with g | g
                · exact hs.2.2 x g
                · exact hLL x g
            obtain ⟨t2, a1, b1⟩ := ih (by omega) (pc + 3) ls1 (w.toList ++ st1) h2 hx T'.heap ls (locs ++ LL) _ _ hH2 hL hs' (by omega) (by omega) T' rfl X'
            exact ⟨t2, stp t2 a1, b1⟩
          next => cases hx
/-- the plain case -/
theorem xbody {E : XE} {P : Pg} {l : Launch} {f0 : Nat} {I : MI} (IH : ∀ f, f < f0 → ∀ (mid : Nat) (As : List Value) (h : Hp) (v : Option Value) (h' : Hp), lvO (mI mid).1 < lvO I.1 → xexec P f (P mid).1 0 (lpad (P mid).2 (lent As)) [] h = some (v, h') → (lent As).length ≤ (P mid).2 → CT E l mid As h v h' ∧ (P mid).2 ≤ 40) {cd : Cd} (hcd : Cs E I cd) {mc ms : Nat} {p : Program} {e : Env} {s : State} {m : MethodId} {args : Array Value} {below : List Frame} {meth : Method} {c : Code} (C : XC E I (rmO (lvO I.1) mc ms) p s m args meth c) (hP2 : ∀ mid, (P mid).2 = (mI mid).2.2.1) (pc : Nat) (L : Ls) (st : List Value) (h : Hp) (v : Option Value) (h' : Hp) (hx : xexec P f0 cd pc L st h = some (v, h')) (H : Heap) (ls : Array Slot) (locs : List Loc) (cells slots : Nat) (hH : HR E h H) (hL : LV ls I.2.2.1 L) (hs : va_S (XA E) s.heap H locs) (hc : cells + (h'.1 - h.1) = mc) (hsl : slots + (h'.2.1 - h.2.1) = ms) : W p l e (rmO (lvO I.1) mc ms) s m args below meth c H locs cells slots (MQ below (QcX E v h') args s mc ms (XA E)) (F0 m pc ls st) :=
  xbodyQ (ok := fun _ => True) (rt := fun _ => True) (fun f hf mid As h v h' hlv _ hx hlen => ⟨(IH f hf mid As h v h' hlv hx hlen).1, (IH f hf mid As h v h' hlv hx hlen).2, hlv⟩) C hP2 (fun _ _ q => q) (fun pc o ho => Or.inl ⟨hcd pc o ho, fun _ _ _ _ _ _ => trivial⟩) (fun _ _ _ _ _ _ _ _ _ _ _ _ _ => trivial) f0 (Nat.le_refl _) pc L st h hx H ls locs cells slots hH hL hs hc hsl
/-- the contract of a run, the callees' given -/
theorem xmeth {E : XE} {P : Pg} {l : Launch} {f0 mid : Nat} (IH : ∀ f, f < f0 → ∀ (mid' : Nat) (As : List Value) (h : Hp) (v : Option Value) (h' : Hp), lvO (mI mid').1 < lvO (mI mid).1 → xexec P f (P mid').1 0 (lpad (P mid').2 (lent As)) [] h = some (v, h') → (lent As).length ≤ (P mid').2 → CT E l mid' As h v h' ∧ (P mid').2 ≤ 40) (hG : GM E P mid) (hP2 : ∀ mid, (P mid).2 = (mI mid).2.2.1) (As : List Value) (h : Hp) (v : Option Value) (h' : Hp) (hx : xexec P f0 (P mid).1 0 (lpad (P mid).2 (lent As)) [] h = some (v, h')) (hlen : (lent As).length ≤ (P mid).2) : CT E l mid As h v h' ∧ (P mid).2 ≤ 40 := by
  obtain ⟨hne, hcd, h2, hpl, hlv, h40⟩ := hG
  refine ⟨?_, by rw [h2]; exact h40⟩
  unfold CT
  refine Met_ofWF (cc := (mI mid).2.1) (maxL := (mI mid).2.2.1) (ret := (mI mid).2.2.2) hpl (wsOf_eq hne) ?_
  intro p e s m args below meth c s₁ B hml hv
  obtain ⟨rfl, hH, hK, hbs⟩ := hv
  have hts := atoms_spec (ws := wsOf mid) B.pre
  have hown : s.vm.findClass (mI mid).1.cls = some m.cls := findClass_of_methodNamed B.named
  have hin : meth.name = (mI mid).1.name := (name_of_methodNamed B.named B.method).1
  rw [lg_entry_eq]
  rw [h2] at hx hlen
  exact xbody IH hcd (I := mI mid) ⟨B.exec, B.bytes, hml, hown, hin, B.returns, B.notSynchronized, fun w hw => hts w (List.mem_cons_of_mem _ hw), hK, hbs, hlv, by show 64 ≤ 64 * lvO (mI mid).1; omega⟩ hP2 0 _ [] h v h' hx s.heap _ [] 0 0 hH (LV.entry As hlen) va_S.rf (Nat.zero_add _) (Nat.zero_add _)
/-- the contracts of all methods of low level -/
theorem xsound {E : XE} {P : Pg} {l : Launch} (hG : ∀ mid, lvO (mI mid).1 ≤ 8 → GM E P mid) (hP2 : ∀ mid, (P mid).2 = (mI mid).2.2.1) :
    ∀ (f : Nat) (mid : Nat) (As : List Value) (h : Hp) (v : Option Value) (h' : Hp), lvO (mI mid).1 ≤ 8 → xexec P f (P mid).1 0 (lpad (P mid).2 (lent As)) [] h = some (v, h') → (lent As).length ≤ (P mid).2 → CT E l mid As h v h' ∧ (P mid).2 ≤ 40 := by
  intro f
  induction f using Nat.strongRecOn with
  | ind f0 IH =>
    intro mid As h v h' hm hx hlen
    exact xmeth (fun f hf mid' As h v h' hlv hx hlen => IH f hf mid' As h v h' (by omega) hx hlen) (hG mid hm) hP2 As h v h' hx hlen
