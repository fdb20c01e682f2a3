/-! THE CLAIM OUT OF ONE WALK OF THE LAW'S BODY. Your part is whole_start (and what it stands on); all else here is the same for every law, but numbers. -/
def R_law : String := "ClassPoolsLaw"
def lw_P (b : Addr) (xs : List Int32) (args : Array Value) (s : State) : Prop := args = #[.ref b] ∧ s.IntsAt b xs ∧ xs.length ≤ 3072 ∧ (Jvm.Cond.and given_1 narrow_1).before args s = true
def lw_Q (_ : Array Value) (s : State) (o : Outcome) (t : State) : Prop := o = .returned (some (.int 1)) ∧ Framed s o t [] 603072 7262314
def lw_Z (below : List Frame) (a : Array Value) (s : State) : State → Prop := fun t => ∃ o, t.status = .running ∧ Ended t below o ∧ lw_Q a s o t
/-- the law's own end, with 1 on the stack, nothing written that was there before, its room as the claim has it -/
theorem lw_ret {p : Program} {l : Launch} {e : Env} {s : State} {m : MethodId} {below : List Frame} {meth : Method} {c : Code} {b : Nat} (hx : p.tables.exec = Jvm.exec) (hb : c.code = code) (hr : meth.sig.returnType = ret) (hlocks : meth.locks = false) {pc : Nat} {H : Heap} {ls : Array Slot} (hdg : decode code pc = .ok (.ireturn, 1)) : W p l e room_1 s m #[Value.ref b] below meth c H [] 603072 7262314 (lw_Z below #[Value.ref b] s) (F0 m pc ls [.int 1]) := by
  intro T hT X
  obtain ⟨fs, hret, hrun, hended, hW, hframe⟩ := X.leave (v := some (.int 1)) (hlocks := hlocks) (fun h => by rw [hr] at h; cases h)
  have hmeth' : T.vm.method? m = some meth := X.method'
  refine ⟨T.setFrames fs, ?_, .returned (some (.int 1)), hrun, hended, rfl, ⟨_, rfl⟩, hW, hframe⟩
  jvm_step X.here [X.here.top, hx, hb, hdg, hmeth', hr, ret, narrow_b1]
  (try refine ⟨rfl, ?_⟩); (try refine ⟨rfl, ?_⟩)
  first | (intro acts; rw [hret _ acts rfl rfl rfl]) | rw [hret _ _ rfl rfl rfl]
  exact Steps.refl _
/-- what holds at the law's entry: the machine, the code, the tables' words (any of lw_tbl by 'hts w (by decide +kernel)'), the script of L ints xs at the cell b, what the Statement gives of the start (any of its parts by flat_of_before) -/
def lw_At (p : Program) (s : State) (m : MethodId) (meth : Method) (c : Code) (b L : Nat) (xs : Nat → Int32) : Prop :=
  p.tables.exec = Jvm.exec ∧ c.code = code ∧ meth.sig.returnType = ret ∧ c.maxLocals = 8 ∧ s.vm.findClass R_law = some m.cls ∧ (∀ w ∈ lw_tbl, w.before #[Value.ref b] s = true) ∧ va_X b L xs s s.heap ∧ b < s.heap.size ∧ meth.locks = false ∧ (Jvm.Cond.and given_1 narrow_1).before #[Value.ref b] s = true
/-! the law on the machine -/
theorem W_room {p : Program} {l : Launch} {e : Env} {R R' : Room} {s : State} {m : MethodId} {args : Array Value} {below : List Frame} {meth : Method} {c : Code} {H : Heap} {locs : List Loc} {cells slots : Nat} {Q : State → Prop} {g : JFrame} (hf : R'.frames ≤ R.frames) (hl : R'.locals ≤ R.locals) (hc : R'.cells ≤ R.cells) (hs : R'.slots ≤ R.slots) (k : W p l e R' s m args below meth c H locs cells slots Q g) : W p l e R s m args below meth c H locs cells slots Q g := by
  intro T hT X
  refine k T hT { X with room := ?_ }
  have h := X.room
  simp only [State.hasRoom, Bool.and_eq_true, decide_eq_true_eq] at h ⊢
  obtain ⟨⟨⟨⟨h1, h2, h3, h4, h5, h6⟩, h7⟩, h8⟩, h9⟩ := h
  exact ⟨⟨⟨⟨by omega, by omega, by omega, by omega, by omega, h6⟩, by omega⟩, by omega⟩, h9⟩
theorem law_W {E : XE} {l : Launch} (hl : l.stackTraces = false) {p : Program} {e : Env} {s : State} {m : MethodId} {below : List Frame} {meth : Method} {c : Code} {a0 f : Nat} {h : Hp} {v : Option Value} {h' : Hp} (hx : xexec (prog E.2.1 E.2.2.1) f (prog E.2.1 E.2.2.1 193).1 0 (lpad (prog E.2.1 E.2.2.1 193).2 (lent [.ref a0])) [] h = some (v, h')) (C : XC E (mI 193) (rmO (lvO (mI 193).1) (h'.1 - h.1) (h'.2.1 - h.2.1)) p s m #[.ref a0] meth c) (hH : HR E h s.heap) :
    W p l e (rmO (lvO (mI 193).1) (h'.1 - h.1) (h'.2.1 - h.2.1)) s m #[.ref a0] below meth c s.heap [] 0 0 (MQ below (QcX E v h') #[.ref a0] s (h'.1 - h.1) (h'.2.1 - h.2.1) (XA E)) (entryFrame m ([Value.ref a0] : List Value).toArray 8) := by
  rw [lg_entry_eq]
  have hlv : lvO (mI 193).1 = 14 := by decide +kernel
  have hS : ∀ (f mid : Nat) (As : List Value) (h : Hp) (v : Option Value) (h' : Hp), lvO (mI mid).1 ≤ 8 → xexec (prog E.2.1 E.2.2.1) f (prog E.2.1 E.2.2.1 mid).1 0 (lpad (prog E.2.1 E.2.2.1 mid).2 (lent As)) [] h = some (v, h') → (lent As).length ≤ (prog E.2.1 E.2.2.1 mid).2 → CT E l mid As h v h' ∧ (prog E.2.1 E.2.2.1 mid).2 ≤ 40 := xsound (g_all E) (fun _ => rfl)
  refine xbody (I := mI 193) (P := prog E.2.1 E.2.2.1) (f0 := f) (fun f' _ mid As h v h' hlt hx hlen => ?_) (s_LW_law E) C (fun _ => rfl) 0 _ [] h v h' hx s.heap _ [] 0 0 hH (LV.entry [.ref a0] (Nat.le_of_ble_eq_true rfl)) va_S.rf (Nat.zero_add _) (Nat.zero_add _)
  rcases lv_low mid (by omega) with h8 | rfl
  · exact hS f' mid As h v h' h8 hx hlen
  · exact ct192 rfl (fun f As h v h' hx hlen => ct93 hl rfl hS (fun _ => rfl) hx hlen) (fun _ => rfl) hx hlen
theorem law_end {E : XE} {below : List Frame} {args : Array Value} {s T : State} {h' : Hp} {mc ms : Nat} (hE : E.1 = s.heap.size) (hc : mc ≤ 603072) (hs : ms ≤ 7262314) (h : MQ below (QcX E (some (.int 1)) h') args s mc ms (XA E) T) : lw_Z below args s T := by
  obtain ⟨o, b1, b2, ⟨rfl, -, -⟩, L, hfe, hL⟩ := h
  refine ⟨_, b1, b2, rfl, hfe.1, hfe.2.1, hfe.2.2.weaken (fun y hy hlt => ?_) hc hs⟩
  have := hL y hy
  exact absurd hlt (Nat.not_lt.mpr (by rw [← hE]; exact this))
