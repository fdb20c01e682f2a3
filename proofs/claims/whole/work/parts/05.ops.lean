/-! each step is sound -/
theorem KE.warm {E : XE} {s U : State} {H : Heap} (hW : s.WarmedH U.vm) (h : KE E s s.heap) (hq : ∀ q : Nat, q < s.heap.size → ¬ XA E q → H[q]? = s.heap[q]?) : KE E U H := by
  obtain ⟨h1, h2, h3, h4, h5, h6, h7⟩ := h
  exact ⟨vx_Zq.moved hW.alike (h1.kept hq), vx_Zq.moved hW.alike (h2.kept hq), fun q hm => va_Nw.warmC hW (h3 q hm), fun x hm => va_Nw.warmD hW (h4 x hm), fun q hm => (h5 q hm).imp fun a ha => vk_R.warm hW ha, fun q hm => (h6 q hm).moved hW.alike, fun i => ⟨arrOfT_moved hW.alike (h7 i).1, arrOfT_moved hW.alike (h7 i).2⟩⟩
theorem KE.same {E : XE} {u U : State} {H : Heap} (hv : u.vm = U.vm) (h : KE E u H) : KE E U H := by
  obtain ⟨h1, h2, h3, h4, h5, h6, h7⟩ := h
  have ha : u.vm.Alike U.vm := by rw [hv]; exact Vm.Alike.refl _
  exact ⟨vx_Zq.moved ha h1, vx_Zq.moved ha h2, fun q hm => va_Nw.same rfl hv (h3 q hm), fun x hm => va_Nw.same rfl hv (h4 x hm), fun q hm => (h5 q hm).imp fun a hz => hz.same hv.symm, fun q hm => (h6 q hm).moved ha, fun i => ⟨arrOfT_moved ha (h7 i).1, arrOfT_moved ha (h7 i).2⟩⟩
theorem KX.warm {E : XE} {s U : State} {H : Heap} (hW : s.WarmedH U.vm) (h : KX E s s.heap) (hq : ∀ q : Nat, q < s.heap.size → ¬ XA E q → H[q]? = s.heap[q]?) : KX E U H := by
  obtain ⟨h1, h2, h3, h4, h5, h6, h7, h8, h9⟩ := h
  refine ⟨h1.moved hW.alike, ?_, h3.warmF hW, ((va_Z.moved hW.alike h4).kept hq), ((va_Z.moved hW.alike h5).kept hq), h6.warm hW, fun C hC => (h7 C hC).moved hW.alike, fun t ht => over_moved hW.alike (h8 t ht), h9.warm hW hq⟩
  intro w hw
  have hz := h2 w hw
  simp only [nestW, List.mem_cons, List.not_mem_nil, or_false] at hw
  rcases hw with rfl | rfl | rfl | rfl | rfl | rfl | rfl | rfl | rfl | rfl | rfl | rfl | rfl | rfl | rfl | rfl <;> exact hz.warmM hW
theorem KX.same {E : XE} {u U : State} {H : Heap} (hv : u.vm = U.vm) (h : KX E u H) : KX E U H := by
  obtain ⟨h1, h2, h3, h4, h5, h6, h7, h8, h9⟩ := h
  have ha : u.vm.Alike U.vm := by rw [hv]; exact Vm.Alike.refl _
  refine ⟨h1.moved ha, ?_, h3.same rfl hv, va_Z.moved ha h4, va_Z.moved ha h5, h6.same hv.symm, fun C hC => (h7 C hC).moved ha, fun t ht => over_moved ha (h8 t ht), h9.same hv⟩
  intro w hw
  have hz := h2 w hw
  simp only [nestW, List.mem_cons, List.not_mem_nil, or_false] at hw
  rcases hw with rfl | rfl | rfl | rfl | rfl | rfl | rfl | rfl | rfl | rfl | rfl | rfl | rfl | rfl | rfl | rfl <;> exact va_Nw.same rfl hv hz
/-- a method's frame of facts -/
def XC (E : XE) (I : MI) (R : Room) (p : Program) (s : State) (m : MethodId) (args : Array Value) (meth : Method) (c : Code) : Prop :=
  p.tables.exec = Jvm.exec ∧ c.code = I.2.1 ∧ c.maxLocals = I.2.2.1 ∧ s.vm.findClass I.1.cls = some m.cls ∧ meth.name = I.1.name ∧ meth.sig.returnType = I.2.2.2 ∧ meth.locks = false ∧ (∀ w ∈ lwg, w.before args s = true) ∧ KX E s s.heap ∧ E.1 ≤ s.heap.size ∧ 1 ≤ R.frames ∧ 64 ≤ R.locals
/-- the word of a method's code; one method has a table of handlers -/
def hdW (mid : Nat) : Cond := cond (Nat.beq mid 192) (Cond.codeWith (mI mid).1 (mI mid).2.1 (mI mid).2.2.1 (mI mid).2.2.2 [(0, 9, 12, 13), (0, 9, 16, 15), (0, 9, 20, 17), (0, 9, 24, 19)]) (Cond.code (mI mid).1 (mI mid).2.1 (mI mid).2.2.1 (mI mid).2.2.2)
def wsOf (mid : Nat) : List Cond := hdW mid :: lwg
theorem wsOf_eq {mid : Nat} (h : Nat.beq mid 192 = false) : wsOf mid = Cond.code (mI mid).1 (mI mid).2.1 (mI mid).2.2.1 (mI mid).2.2.2 :: lwg := by
  rw [wsOf, hdW, h]; rfl
/-- from a state on, a step on -/
def SK (E : XE) (I : MI) (p : Program) (l : Launch) (e : Env) (R : Room) (s : State) (m : MethodId) (args : Array Value) (below : List Frame) (meth : Method) (c : Code) (pc : Nat) (L : Ls) (st : List Value) (h : Hp) (H : Heap) (ls : Array Slot) (locs : List Loc) (cells slots : Nat) (S : XStp) : Prop := match S with
  | .inl (pc', L', st', h') => h.1 ≤ h'.1 ∧ h.2.1 ≤ h'.2.1 ∧ ∀ Q : State → Prop, cells + (h'.1 - h.1) ≤ R.cells → slots + (h'.2.1 - h.2.1) ≤ R.slots → (∀ (H' : Heap) (ls' : Array Slot) (locs' : List Loc), HR E h' H' → LV ls' I.2.2.1 L' → va_S (XA E) s.heap H' locs' → W p l e R s m args below meth c H' locs' (cells + (h'.1 - h.1)) (slots + (h'.2.1 - h.2.1)) Q (F0 m pc' ls' st')) → W p l e R s m args below meth c H locs cells slots Q (F0 m pc ls st)
  | .inr (.inl (v, h')) => h' = h ∧ ∀ (Qc : Array Value → State → Outcome → State → Prop) (free : Addr → Prop), (∀ t : State, t.heap = H → s.WarmedH t.vm → Qc args s (.returned v) t) → (∀ q ∈ locs, free q.base) → W p l e R s m args below meth c H locs cells slots (MQ below Qc args s cells slots free) (F0 m pc ls st)
  | .inr (.inr (mid, As, pc', L', st', h')) => h' = h ∧ L' = L ∧ pc' = pc + 3 ∧ lvO (mI mid).1 < lvO I.1 ∧ ∀ (rm : Room) (Pc : Array Value → State → Prop) (Qc : Array Value → State → Outcome → State → Prop) (mc ms : Nat) (free : Addr → Prop), Met l (mI mid).1 (wsOf mid) rm Pc Qc mc ms free → rm.cells = mc → rm.slots = ms → rm.frames + 1 ≤ R.frames → 8 + ((mI mid).2.2.1 + 11) + rm.locals ≤ R.locals → FrameBlind Pc → (∀ U : State, U.heap = H → s.WarmedH U.vm → Pc As.toArray U) → cells + mc ≤ R.cells → slots + ms ≤ R.slots → va_Run p l e R s m args below meth c H locs cells slots mc ms (F0 m pc ls st) st' (Qc As.toArray) free
def SG (E : XE) (I : MI) (pc : Nat) (o : XOp) : Prop := ∀ (p : Program) (l : Launch) (e : Env) (R : Room) (s : State) (m : MethodId) (args : Array Value) (below : List Frame) (meth : Method) (c : Code), XC E I R p s m args meth c → ∀ (L : Ls) (st : List Value) (h : Hp) (S : XStp), o L st h = some S → ∀ (H : Heap) (ls : Array Slot) (locs : List Loc) (cells slots : Nat), HR E h H → LV ls I.2.2.1 L → va_S (XA E) s.heap H locs → SK E I p l e R s m args below meth c pc L st h H ls locs cells slots S
/-- a step that only moves values -/
theorem SG.mv {E : XE} {I : MI} {pc : Nat} {o : XOp} (hh : ∀ (p : Program) (l : Launch) (e : Env) (R : Room) (s : State) (m : MethodId) (args : Array Value) (below : List Frame) (meth : Method) (c : Code), XC E I R p s m args meth c → ∀ (L : Ls) (st : List Value) (h : Hp) (S : XStp), o L st h = some S → ∃ (pc' : Nat) (st' : List Value), S = .inl (pc', L, st', h) ∧ ∀ (H : Heap) (ls : Array Slot) (locs : List Loc) (cells slots : Nat) (Q : State → Prop), HR E h H → LV ls I.2.2.1 L → va_S (XA E) s.heap H locs → W p l e R s m args below meth c H locs cells slots Q (F0 m pc' ls st') → W p l e R s m args below meth c H locs cells slots Q (F0 m pc ls st)) : SG E I pc o := by
  intro p l e R s m args below meth c C L st h S hS H ls locs cells slots hH hL hs
  obtain ⟨pc', st', rfl, k⟩ := hh p l e R s m args below meth c C L st h S hS
  refine ⟨Nat.le_refl _, Nat.le_refl _, fun Q _ _ kk => k H ls locs cells slots Q hH hL hs ?_⟩
  have := kk H ls locs hH hL hs
  simpa using this
section SGS
variable {E : XE} {I : MI} {pc : Nat}
theorem sg_iconst {n : Int} {v : Int32} (d : decode I.2.1 pc = .ok (.iconst n, 1)) (hv : Int32.ofInt n = v) : SG E I pc (o_ic v (pc + 1)) := by
  refine SG.mv fun p l e R s m args below meth c C L st h S hS => ?_
  simp only [o_ic, Option.some.injEq] at hS; subst hS
  exact ⟨_, _, rfl, fun H ls locs cells slots Q hH hL hs k => lv_iconst C.1 C.2.1 d hv k⟩
theorem sg_bipush {n : Int} {v : Int32} (d : decode I.2.1 pc = .ok (.bipush n, 2)) (hv : (Int8.ofInt n).toInt32 = v) : SG E I pc (o_ic v (pc + 2)) := by
  refine SG.mv fun p l e R s m args below meth c C L st h S hS => ?_
  simp only [o_ic, Option.some.injEq] at hS; subst hS
  exact ⟨_, _, rfl, fun H ls locs cells slots Q hH hL hs k => lv_bipush C.1 C.2.1 d hv k⟩
theorem sg_sipush {n : Int} {v : Int32} (d : decode I.2.1 pc = .ok (.sipush n, 3)) (hv : (Int16.ofInt n).toInt32 = v) : SG E I pc (o_ic v (pc + 3)) := by
  refine SG.mv fun p l e R s m args below meth c C L st h S hS => ?_
  simp only [o_ic, Option.some.injEq] at hS; subst hS
  exact ⟨_, _, rfl, fun H ls locs cells slots Q hH hL hs k => lv_sipush C.1 C.2.1 d hv k⟩
theorem sg_ldc {i : Nat} {v : Int32} (d : decode I.2.1 pc = .ok (.ldc i, 2)) (hw : Cond.constant I.1.cls i v ∈ lwg) : SG E I pc (o_ic v (pc + 2)) := by
  refine SG.mv fun p l e R s m args below meth c C L st h S hS => ?_
  simp only [o_ic, Option.some.injEq] at hS; subst hS
  obtain ⟨hx, hb, hml, hown, hnm, hr, hlk, hts, hK, hbs⟩ := C
  exact ⟨_, _, rfl, fun H ls locs cells slots Q hH hL hs k => lv_ldc hx hb hown (hts _ hw) d k⟩
theorem sg_ldc2 {i : Nat} {v : Int64} (d : decode I.2.1 pc = .ok (.ldc2_w i, 3)) (hw : Cond.constantLong I.1.cls i v ∈ lwg) : SG E I pc (o_lc v (pc + 3)) := by
  refine SG.mv fun p l e R s m args below meth c C L st h S hS => ?_
  simp only [o_lc, Option.some.injEq] at hS; subst hS
  obtain ⟨hx, hb, hml, hown, hnm, hr, hlk, hts, hK, hbs⟩ := C
  exact ⟨_, _, rfl, fun H ls locs cells slots Q hH hL hs k => lv_ldc2 hx hb hown (hts _ hw) d k⟩
theorem sg_lconst {n : Fin 2} {v : Int64} (d : decode I.2.1 pc = .ok (.lconst n, 1)) (hv : Int64.ofNat (n : Nat) = v) : SG E I pc (o_lc v (pc + 1)) := by
  refine SG.mv fun p l e R s m args below meth c C L st h S hS => ?_
  simp only [o_lc, Option.some.injEq] at hS; subst hS
  exact ⟨_, _, rfl, fun H ls locs cells slots Q hH hL hs k => lv_lconst C.1 C.2.1 d hv k⟩
theorem sg_null (d : decode I.2.1 pc = .ok (.aconst_null, 1)) : SG E I pc (o_nul (pc + 1)) := by
  refine SG.mv fun p l e R s m args below meth c C L st h S hS => ?_
  simp only [o_nul, Option.some.injEq] at hS; subst hS
  exact ⟨_, _, rfl, fun H ls locs cells slots Q hH hL hs k => lv_null C.1 C.2.1 d k⟩
theorem sg_iload_n {k : Fin 4} {i : Nat} (d : decode I.2.1 pc = .ok (.iload_n k, 1)) (hi : (k : Nat) = i) : SG E I pc (o_il i (pc + 1)) := by
  refine SG.mv fun p l e R s m args below meth c C L st h S hS => ?_
  simp only [o_il] at hS; split at hS
  next x hx => simp only [Option.some.injEq] at hS; subst hS; exact ⟨_, _, rfl, fun H ls locs cells slots Q hH hL hs k => lv_iload_n C.1 C.2.1 d hi (hL.get hx) k⟩
  all_goals cases hS
theorem sg_iload {i : Nat} (d : decode I.2.1 pc = .ok (.iload i, 2)) : SG E I pc (o_il i (pc + 2)) := by
  refine SG.mv fun p l e R s m args below meth c C L st h S hS => ?_
  simp only [o_il] at hS; split at hS
  next x hx => simp only [Option.some.injEq] at hS; subst hS; exact ⟨_, _, rfl, fun H ls locs cells slots Q hH hL hs k => lv_iload C.1 C.2.1 d (hL.get hx) k⟩
  all_goals cases hS
theorem sg_lload_n {k : Fin 4} {i : Nat} (d : decode I.2.1 pc = .ok (.lload_n k, 1)) (hi : (k : Nat) = i) : SG E I pc (o_ll i (pc + 1)) := by
  refine SG.mv fun p l e R s m args below meth c C L st h S hS => ?_
  simp only [o_ll] at hS; split at hS
  next x hx => simp only [Option.some.injEq] at hS; subst hS; exact ⟨_, _, rfl, fun H ls locs cells slots Q hH hL hs k => lv_lload_n C.1 C.2.1 d hi (hL.get hx) k⟩
  all_goals cases hS
theorem sg_lload {i : Nat} (d : decode I.2.1 pc = .ok (.lload i, 2)) : SG E I pc (o_ll i (pc + 2)) := by
  refine SG.mv fun p l e R s m args below meth c C L st h S hS => ?_
  simp only [o_ll] at hS; split at hS
  next x hx => simp only [Option.some.injEq] at hS; subst hS; exact ⟨_, _, rfl, fun H ls locs cells slots Q hH hL hs k => lv_lload C.1 C.2.1 d (hL.get hx) k⟩
  all_goals cases hS
theorem sg_aload_n {k : Fin 4} {i : Nat} (d : decode I.2.1 pc = .ok (.aload_n k, 1)) (hi : (k : Nat) = i) : SG E I pc (o_al i (pc + 1)) := by
  refine SG.mv fun p l e R s m args below meth c C L st h S hS => ?_
  simp only [o_al] at hS; split at hS
  next x hx => simp only [Option.some.injEq] at hS; subst hS; exact ⟨_, _, rfl, fun H ls locs cells slots Q hH hL hs k => lv_aload_n C.1 C.2.1 d hi (hL.get hx) k⟩
  next hx => simp only [Option.some.injEq] at hS; subst hS; exact ⟨_, _, rfl, fun H ls locs cells slots Q hH hL hs k => lv_aload_nN C.1 C.2.1 d hi (hL.get hx) k⟩
  all_goals cases hS
theorem sg_aload {i : Nat} (d : decode I.2.1 pc = .ok (.aload i, 2)) : SG E I pc (o_al i (pc + 2)) := by
  refine SG.mv fun p l e R s m args below meth c C L st h S hS => ?_
  simp only [o_al] at hS; split at hS
  next x hx => simp only [Option.some.injEq] at hS; subst hS; exact ⟨_, _, rfl, fun H ls locs cells slots Q hH hL hs k => lv_aload C.1 C.2.1 d (hL.get hx) k⟩
  next hx => simp only [Option.some.injEq] at hS; subst hS; exact ⟨_, _, rfl, fun H ls locs cells slots Q hH hL hs k => lv_aloadN C.1 C.2.1 d (hL.get hx) k⟩
  all_goals cases hS
end SGS
