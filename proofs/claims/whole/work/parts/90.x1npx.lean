/-! a thrown NullPointerException with a message: the library's laws of its own fill and of Throwable's constructor, put together -/
section NPX
variable {self : Addr}
theorem npx_rooms {e : Env} {V : State} {g : JFrame} (htop : V.topJava?.isSome) (T : ThrowableC) (N : NpeC) (cell : Cell) {t : ThreadId} {lim : Nat × Nat} (hlim : e.platform.stackLimits V.me = lim) (hframes : V.frames.length + 2 < lim.1) (hwords : (stackUse (.java g :: V.frames.tail)).2 + 43 ≤ lim.2) :
    e.platform.stackFull (((V.setTop g).threads[(V.setTop g).cur]?).getD { frames := [] }) (V.setTop g).frames (1 + 2) = false ∧
    e.platform.stackFull ((((npeInside V g N.toNpeT self cell).setTop (fillJ N.fill self 37 [])).threads[((npeInside V g N.toNpeT self cell).setTop (fillJ N.fill self 37 [])).cur]?).getD { frames := [] }) ((npeInside V g N.toNpeT self cell).setTop (fillJ N.fill self 37 [])).frames (1 + 2) = false ∧
    e.platform.stackFull ((((fillInside (npeInside V g N.toNpeT self cell) (fillJ N.fill self 37 []) T.fill self (npeCell N.toNpeT cell t)).setTop (fillJ T.fill self 16 [])).threads[((fillInside (npeInside V g N.toNpeT self cell) (fillJ N.fill self 37 []) T.fill self (npeCell N.toNpeT cell t)).setTop (fillJ T.fill self 16 [])).cur]?).getD { frames := [] }) ((fillInside (npeInside V g N.toNpeT self cell) (fillJ N.fill self 37 []) T.fill self (npeCell N.toNpeT cell t)).setTop (fillJ T.fill self 16 [])).frames (nativeFrameWords "java/lang/Throwable" "fillInStackTrace" 2) = false := by
  obtain ⟨g₀, hg0⟩ := Option.isSome_iff_exists.mp htop
  obtain ⟨tl, htl⟩ := State.topJava?_eq_some.mp hg0
  have hlen : V.frames.length = (Frame.java g :: V.frames.tail).length := by rw [htl]; rfl
  have hfg : (V.setTop g).frames = .java g :: V.frames.tail := by rw [State.frames_setTop _ htl, htl]; rfl
  have hlimg : e.platform.stackLimits (V.setTop g).me = lim := by rw [State.stackLimits_setTop _ htop]; exact hlim
  have hroom := Jvm.roomAbove (pl := e.platform) (u := V.setTop g) (vars := 1 + 2) (pushed := []) (base := .java g :: V.frames.tail) (free := 43) (lim := lim) hfg hlimg (by rw [← hlen]; simp only [List.length_nil]; omega) hwords (by simp only [stackUse_nil]; omega)
  have hw14 : (stackUse [Frame.java (fillJ N.fill self 37 [])]).2 = 14 := by
    rw [stackUse_java, stackUse_nil]
    simp [operandWords]
  have hw28 : (stackUse [Frame.java (fillJ T.fill self 16 []), Frame.java (fillJ N.fill self 37 [])]).2 = 28 := by
    rw [stackUse_java, hw14]
    simp [operandWords]
  have htopE : (V.setCell self (cell.withEntry V.cur)).topJava?.isSome := htop
  have hfN : (npeInside V g N.toNpeT self cell).frames = .java (entryFrameSync N.fill #[.ref self] 1 self) :: .java g :: V.frames.tail := by
    show (fillInside V g N.fill self cell).frames = _
    rw [show (fillInside V g N.fill self cell).frames = _ from frames_entered (g := g) htopE _]
    rfl
  have htopN : (npeInside V g N.toNpeT self cell).topJava?.isSome := by rw [State.topJava?_of_frames hfN]; rfl
  have hlimN : e.platform.stackLimits (npeInside V g N.toNpeT self cell).me = lim := by
    show e.platform.stackLimits (fillInside V g N.fill self cell).me = lim
    rw [State.stackLimits_pushFrame, State.stackLimits_setTop _ htopE]; exact hlim
  have hroom2 := Jvm.roomAbove (pl := e.platform) (u := (npeInside V g N.toNpeT self cell).setTop (fillJ N.fill self 37 [])) (vars := 1 + 2) (pushed := [.java (fillJ N.fill self 37 [])]) (base := .java g :: V.frames.tail) (free := 43) (lim := lim) (State.frames_setTop _ hfN) (by rw [State.stackLimits_setTop _ htopN]; exact hlimN)
      (by rw [← hlen]; simp only [List.length_cons, List.length_nil]; omega) hwords (by rw [hw14]; omega)
  have htopE2 : ((npeInside V g N.toNpeT self cell).setCell self ((npeCell N.toNpeT cell t).withEntry (npeInside V g N.toNpeT self cell).cur)).topJava?.isSome := by rw [State.topJava?_setCell]; exact htopN
  have hfF2 : (fillInside (npeInside V g N.toNpeT self cell) (fillJ N.fill self 37 []) T.fill self (npeCell N.toNpeT cell t)).frames = .java (entryFrameSync T.fill #[.ref self] 1 self) :: .java (fillJ N.fill self 37 []) :: .java g :: V.frames.tail := by
    rw [show (fillInside (npeInside V g N.toNpeT self cell) (fillJ N.fill self 37 []) T.fill self (npeCell N.toNpeT cell t)).frames = _ from frames_entered (g := (fillJ N.fill self 37 [])) htopE2 _]
    show _ :: _ :: ((npeInside V g N.toNpeT self cell).frames).tail = _
    rw [hfN]; rfl
  have htopF2 : (fillInside (npeInside V g N.toNpeT self cell) (fillJ N.fill self 37 []) T.fill self (npeCell N.toNpeT cell t)).topJava?.isSome := by rw [State.topJava?_of_frames hfF2]; rfl
  have hlimF2 : e.platform.stackLimits (fillInside (npeInside V g N.toNpeT self cell) (fillJ N.fill self 37 []) T.fill self (npeCell N.toNpeT cell t)).me = lim := by
    rw [State.stackLimits_pushFrame, State.stackLimits_setTop _ htopE2]; exact hlimN
  have hroomN := Jvm.roomAbove (pl := e.platform) (u := (fillInside (npeInside V g N.toNpeT self cell) (fillJ N.fill self 37 []) T.fill self (npeCell N.toNpeT cell t)).setTop (fillJ T.fill self 16 [])) (vars := (nativeFrameWords "java/lang/Throwable" "fillInStackTrace" 2))
      (pushed := [.java (fillJ T.fill self 16 []), .java (fillJ N.fill self 37 [])]) (base := .java g :: V.frames.tail) (free := 43) (lim := lim) (State.frames_setTop _ hfF2) (by rw [State.stackLimits_setTop _ htopF2]; exact hlimF2)
      (by rw [← hlen]; simp only [List.length_cons, List.length_nil]; omega) hwords (by rw [hw28]; decide)
  exact ⟨hroom, hroom2, hroomN⟩
theorem npx_join (p : Program) {e : Env} {below : List Frame} {s₀ V : State} {g : JFrame} (hexec : p.tables.exec = Jvm.exec)
    (T : ThrowableC) (L : T.Links e.platform s₀) (N : NpeC) (LN : N.Links T e.platform s₀) (hW : s₀.WarmedH V.vm) {t : ThreadId} (ht : V.cur = t)
    {u0 : RefV} {cell cellS : Cell}
    (hlt : self < V.heap.size) (hobj : ∀ k, cell.vm ≠ .statics k) (hknown : cell.vm ≠ .unknown) (hsel0 : selectMethod e.platform s₀.vm cell.cls T.fill0 = .method T.fill0)
    (hvS : cell.slots[T.fStack.slot]? = some u0.v)
    (hcellS : V.heap[T.aS]? = some cellS) (hneS : T.aS ≠ self) (hknownS : cellS.vm ≠ .unknown) (hvU : cellS.slots[T.fUnassigned.slot]? = some u0.v)
    (hneSt : T.fStack.slot ≠ N.fState.slot) (htS : Takes s₀ cell T.fStack u0.v)
    (hskip : SkipFacts T e.platform s₀ (fun u => u) u0 ((npeCell N.toNpeT cell t).withEntry t)) (htr : e.platform.stackTraces = false)
    (hr2 : e.platform.stackFull ((((npeInside V g N.toNpeT self cell).setTop (fillJ N.fill self 37 [])).threads[((npeInside V g N.toNpeT self cell).setTop (fillJ N.fill self 37 [])).cur]?).getD { frames := [] }) ((npeInside V g N.toNpeT self cell).setTop (fillJ N.fill self 37 [])).frames (1 + 2) = false)
    (hrN : ∀ vm, e.platform.stackFull ((((fillInside (npeInside (V.setVm vm) g N.toNpeT self cell) (fillJ N.fill self 37 []) T.fill self (npeCell N.toNpeT cell t)).setTop (fillJ T.fill self 16 [])).threads[((fillInside (npeInside (V.setVm vm) g N.toNpeT self cell) (fillJ N.fill self 37 []) T.fill self (npeCell N.toNpeT cell t)).setTop (fillJ T.fill self 16 [])).cur]?).getD { frames := [] }) ((fillInside (npeInside (V.setVm vm) g N.toNpeT self cell) (fillJ N.fill self 37 []) T.fill self (npeCell N.toNpeT cell t)).setTop (fillJ T.fill self 16 [])).frames (nativeFrameWords "java/lang/Throwable" "fillInStackTrace" 2) = false)
    (hB : At (npeInside V g N.toNpeT self cell) N.fill N.codeFill below) :
    ∃ vm2, s₀.WarmedH vm2 ∧ ∀ t' : State, Steps p.tables e below (((npeInside (V.setVm vm2) g N.toNpeT self cell).setCell self ((((npeCell N.toNpeT cell t).withEntry t).setSlot T.fStack.slot u0.v).left)).setTop (fillJ N.fill self 40 [.ref self])) t' →
      Steps p.tables e below (doInvoke e ((npeInside V g N.toNpeT self cell).setTop (fillJ N.fill self 37 [])) [] T.fill #[.ref self]).1 t' := by
  have hvSN : (npeCell N.toNpeT cell t).slots[T.fStack.slot]? = some u0.v := by
    simp [npeCell, Cell.setSlot, Cell.withEntry, Array.getElem?_setIfInBounds, Ne.symm hneSt, hvS]
  have tk2 : Takes s₀ (npeCell N.toNpeT cell t) T.fStack u0.v := ⟨by simpa [npeCell, Cell.setSlot, Cell.withEntry] using htS.1, htS.2⟩
  have hXvm : ∀ vm, (npeInside V g N.toNpeT self cell).setVm vm = npeInside (V.setVm vm) g N.toNpeT self cell := fun vm => npeInside_setVm _ _ _ _ _ _
  have hXcur : (npeInside V g N.toNpeT self cell).cur = t := ht
  have hc1 : (npeInside V g N.toNpeT self cell).heap[self]? = some (npeCell N.toNpeT cell t) := by
    rw [← ht]
    exact heapAt_setCell_self _ (by show self < (V.heap.setIfInBounds self _).size; simpa using hlt)
  have hc2 : (npeInside V g N.toNpeT self cell).heap[T.aS]? = some cellS := by
    show ((V.heap.setIfInBounds self _).setIfInBounds self _)[T.aS]? = _
    simp [Ne.symm hneS, hcellS]
  have hXW : s₀.WarmedH (npeInside V g N.toNpeT self cell).vm := hW
  simp only [← hXvm] at hrN ⊢
  generalize npeInside V g N.toNpeT self cell = X at hB hXcur hc1 hc2 hr2 hrN hXW ⊢
  have hltX : self < X.heap.size := (Array.getElem?_eq_some_iff.mp hc1).1
  exact Steps.fillColdAnyV p (V := X) (g := (fillJ N.fill self 37 [])) (c := N.codeFill) (self := self) hB hexec T L hXW (Nn := fun u => u) heapOnly_id (fun _ _ => rfl) (fun _ => rfl) (fun u x y => setCell_twice _ _ _ _) (cell := npeCell N.toNpeT cell t) (cellS := cellS) (cN := (npeCell N.toNpeT cell t).withEntry t)
    (u0 := u0) (ig := .invokespecial 24) (len := 3) [] hc1 hobj hknown (Or.inr (by rw [hXcur]; rfl)) hvSN hsel0 hc2 hneS hknownS hvU (by rw [hXcur]; exact fun _ hu => hu) (fun _ hu => hu) rfl rfl (by rw [hXcur]) (by simp [Cell.withEntry]) tk2
    (by rw [LN.fillBytes]; exact LibCode.NullPointerException.Fill.at_37) (fun hne vm3 hW3 hAt t' hs => L.nativeOff p htr hAt hW3 (hrN vm3) hs) hr2 (by rw [hXcur]; exact hskip)
/-- what NullPointerException's fillInStackTrace does, called from any frame, no traces kept -/
theorem npx_fill (p : Program) {e : Env} {below : List Frame} {s₀ V : State} {g : JFrame} {c : Code} (h : At V g.method c below) (hexec : p.tables.exec = Jvm.exec)
    (T : ThrowableC) (L : T.Links e.platform s₀) (N : NpeC) (LN : N.Links T e.platform s₀) (hW : s₀.WarmedH V.vm) {t : ThreadId} (ht : V.cur = t)
    {u0 : RefV} {cell cellS : Cell} {kcell : Class} {ig : Instr} {len : Nat} (acts : List Action)
    (hcell : V.heap[self]? = some cell) (hobj : ∀ k, cell.vm ≠ .statics k) (hknown : cell.vm ≠ .unknown) (hfree : cell.monitor.owner = none)
    (hkcell : s₀.vm.classes[cell.cls]? = some kcell) (hsel0 : selectMethod e.platform s₀.vm cell.cls T.fill0 = .method T.fill0)
    (hvS : cell.slots[T.fStack.slot]? = some u0.v)
    (hcellS : V.heap[T.aS]? = some cellS) (hneS : T.aS ≠ self) (hknownS : cellS.vm ≠ .unknown) (hvU : cellS.slots[T.fUnassigned.slot]? = some u0.v)
    (hv0 : cell.slots[N.fState.slot]? = some (.int 0)) (hneSt : T.fStack.slot ≠ N.fState.slot)
    (htS : Takes s₀ cell T.fStack u0.v) (ht1 : Takes s₀ cell N.fState (.int 1))
    (hskip : SkipFacts T e.platform s₀ (fun u => u) u0 ((npeCell N.toNpeT cell t).withEntry t)) (htr : e.platform.stackTraces = false)
    {lim : Nat × Nat} (hlim : e.platform.stackLimits V.me = lim) (hframes : V.frames.length + 2 < lim.1) (hwords : (stackUse (.java g :: V.frames.tail)).2 + 43 ≤ lim.2)
    (hdg : decode c.code g.pc = .ok (ig, len)) :
    ∃ vm', s₀.WarmedH vm' ∧ ∀ target, Steps p.tables e below (((V.setVm vm').setCell self ((((npeCell N.toNpeT cell t).withEntry t).setSlot T.fStack.slot u0.v).left).left).setTop { g with pc := g.pc + len, stack := .ref self :: g.stack }) target →
      Steps p.tables e below (doInvoke e (V.setTop g) acts N.fill #[.ref self]).1 target := by
  have hlt : self < V.heap.size := (Array.getElem?_eq_some_iff.mp hcell).1
  have hrooms := fun vm => npx_rooms (e := e) (V := V.setVm vm) (g := g) (self := self) (t := t) h.top T N cell hlim hframes hwords
  have hheld : ((npeCell N.toNpeT cell t).withEntry t).left = npeCell N.toNpeT cell t := Cell.left_withEntry_held _ rfl (by show 0 < cell.monitor.count + 1; omega)
  have hFmon : ((((npeCell N.toNpeT cell t).withEntry t).setSlot T.fStack.slot u0.v).left).monitor = (npeCell N.toNpeT cell t).monitor := by
    rw [Cell.left_monitor_congr (y := (npeCell N.toNpeT cell t).withEntry t) (show (((npeCell N.toNpeT cell t).withEntry t).setSlot T.fStack.slot u0.v).monitor = ((npeCell N.toNpeT cell t).withEntry t).monitor from rfl), hheld]
  obtain ⟨vm', hW', st⟩ := Steps.npeFillColdBy p (V := V) (g := g) (c := c) (self := self) h hexec T L N LN hW (Fi := fun u => u.setCell self ((((npeCell N.toNpeT cell t).withEntry t).setSlot T.fStack.slot u0.v).left)) (heapOnly_id.thenSetCell self _)
    (fun u => rfl) (fun u x y => by rw [setCell_twice, setCell_twice, setCell_twice]) (cell := cell) (cFi := ((((npeCell N.toNpeT cell t).withEntry t).setSlot T.fStack.slot u0.v).left)) (kcell := kcell) (ig := ig) (len := len) acts
    hcell hobj hknown hfree hkcell hv0 ht1 (fun u hu => heapAt_setCell_self _ (Array.getElem?_eq_some_iff.mp hu).1) (by rw [ht]; exact hFmon) hdg (fun vm1 hW1 hB => by
      obtain ⟨vm2, hW2, st2⟩ := npx_join p (V := V.setVm vm1) (g := g) hexec T L N LN hW1 (t := t) ht hlt hobj hknown hsel0 hvS hcellS hneS hknownS hvU hneSt htS hskip htr (hrooms vm1).2.1 (fun vm => by rw [State.setVm_twice]; exact (hrooms vm).2.2) hB
      exact ⟨vm2, hW2, fun t' hs => st2 t' (by rw [State.setVm_twice]; exact hs)⟩) (hrooms V.vm).1
  refine ⟨vm', hW', fun target hs => st target ?_⟩
  rw [setCell_twice]
  exact hs
/-- Throwable's constructor with a message, on a NullPointerException -/
theorem npx_init (p : Program) {e : Env} {below : List Frame} {s₀ V : State} {g : JFrame} {c : Code} (h : At V g.method c below) (hexec : p.tables.exec = Jvm.exec)
    (T : ThrowableC) (L : T.Links e.platform s₀) (Z : Init0T) (LZ : Z.LaidS T.toThrowableT) (M : MsgC) (LM : M.Links T e.platform s₀) (N : NpeC) (LN : N.Links T e.platform s₀) (hW : s₀.WarmedH V.vm) {t : ThreadId} (ht : V.cur = t)
    {u0 sen : RefV} {msg : Value} (hmsg : msg.isRef = true) {cell cellS : Cell} {kcell : Class}
    (hcell : V.heap[self]? = some cell) (hobj : ∀ k, cell.vm ≠ .statics k) (hknown : cell.vm ≠ .unknown) (hfree : cell.monitor.owner = none)
    (hkcell : s₀.vm.classes[cell.cls]? = some kcell) (hsel0 : selectMethod e.platform s₀.vm cell.cls T.fill0 = .method T.fill0)
    (hcellS : V.heap[T.aS]? = some cellS) (hneS : T.aS ≠ self) (hknownS : cellS.vm ≠ .unknown) (hvU : cellS.slots[T.fUnassigned.slot]? = some u0.v)
    (hv0 : cell.slots[N.fState.slot]? = some (.int 0)) (hneC : T.fCause.slot ≠ N.fState.slot) (hneSt : T.fStack.slot ≠ N.fState.slot) (hneP : T.fSupp.slot ≠ N.fState.slot)
    (htS : Takes s₀ cell T.fStack u0.v) (ht1 : Takes s₀ cell N.fState (.int 1))
    (hskip : SkipFacts T e.platform s₀ (fun u => u) u0 ((npeCell N.toNpeT (preparedCellV T.toThrowableT cell self u0 sen) t).withEntry t)) (htr : e.platform.stackTraces = false)
    (hselF : selectMethod e.platform s₀.vm cell.cls T.fill = .method N.fill) (hvSen : cellS.slots[T.fSentinel.slot]? = some sen.v)
    (htC : Takes s₀ cell T.fCause (.ref self)) (htP : Takes s₀ cell T.fSupp sen.v) (htM : Takes s₀ cell T.fMsg msg) (hobjLocals : T.codeObj.maxLocals = 1)
    {ig : Instr} {len : Nat} (acts : List Action) {lim : Nat × Nat} (hlim : e.platform.stackLimits V.me = lim) (hframes : V.frames.length + 3 < lim.1) (hwords : (stackUse (.java g :: V.frames.tail)).2 + 56 ≤ lim.2)
    (hdg : decode c.code g.pc = .ok (ig, len)) :
    ∃ vm', s₀.WarmedH vm' ∧ ∀ target, Steps p.tables e below (((V.setVm vm').setCell self ((((((npeCell N.toNpeT (preparedCellV T.toThrowableT cell self u0 sen) t).withEntry t).setSlot T.fStack.slot u0.v).left).left).setSlot T.fMsg.slot msg)).setTop { g with pc := g.pc + len }) target →
      Steps p.tables e below (doInvoke e (V.setTop g) acts (Z.m T.toThrowableT) #[.ref self, msg]).1 target := by
  have hlt : self < V.heap.size := (Array.getElem?_eq_some_iff.mp hcell).1
  obtain ⟨r1, r2, -, -⟩ := plainRoomsV (e := e) (g := g) (self := self) h.top T hobjLocals Z cell u0 sen msg hlim (by omega) (by omega)
  have tk : ∀ {f : Field} {v : Value}, Takes s₀ cell f v → Takes s₀ (preparedCellV T.toThrowableT cell self u0 sen) f v := fun h' => ⟨by simpa [preparedCellV, Cell.setSlot] using h'.1, h'.2⟩
  have hvS : (preparedCellV T.toThrowableT cell self u0 sen).slots[T.fStack.slot]? = some u0.v := by
    have h1 : T.fStack.slot < cell.slots.size := htS.1
    simp [preparedCellV, Cell.setSlot, Ne.symm L.stackApartSupp, h1]
  have hv0P : (preparedCellV T.toThrowableT cell self u0 sen).slots[N.fState.slot]? = some (.int 0) := by
    simp [preparedCellV, Cell.setSlot, hneC, hneSt, hneP, hv0]
  have hw13 : (stackUse [Frame.java (initSJ T.toThrowableT Z self msg 24 [])]).2 = 13 := by
    rw [stackUse_java, stackUse_nil]
    simp [operandWords]
  have hfill : ∀ vm1, s₀.WarmedH vm1 → At ((initSInside (V.setVm vm1) g T.toThrowableT Z self msg).setCell self (preparedCellV T.toThrowableT cell self u0 sen)) (Z.m T.toThrowableT) Z.code below → ∃ vm2, s₀.WarmedH vm2 ∧ ∀ t' : State,
      Steps p.tables e below ((((initSInside (V.setVm vm2) g T.toThrowableT Z self msg).setCell self (preparedCellV T.toThrowableT cell self u0 sen)).setCell self (((((npeCell N.toNpeT (preparedCellV T.toThrowableT cell self u0 sen) t).withEntry t).setSlot T.fStack.slot u0.v).left).left)).setTop (initSJ T.toThrowableT Z self msg 27 [.ref self])) t' →
      Steps p.tables e below (doInvoke e (((initSInside (V.setVm vm1) g T.toThrowableT Z self msg).setCell self (preparedCellV T.toThrowableT cell self u0 sen)).setTop (initSJ T.toThrowableT Z self msg 24 [])) [] N.fill #[.ref self]).1 t' := fun vm1 hW1 hA => by
    have htop1 : (V.setVm vm1).topJava?.isSome := h.top
    have hfU : (initSInside (V.setVm vm1) g T.toThrowableT Z self msg).frames = .java (initSJ T.toThrowableT Z self msg 0 []) :: .java g :: (V.setVm vm1).frames.tail := frames_entered htop1 _
    have hlimU : e.platform.stackLimits (initSInside (V.setVm vm1) g T.toThrowableT Z self msg).me = lim := by rw [State.stackLimits_pushFrame, State.stackLimits_setTop _ htop1]; exact hlim
    have hlen : (initSInside (V.setVm vm1) g T.toThrowableT Z self msg).frames.length = V.frames.length + 1 := by
      rw [hfU]
      obtain ⟨g₀, hg0⟩ := Option.isSome_iff_exists.mp h.top
      obtain ⟨tl, htl⟩ := State.topJava?_eq_some.mp hg0
      rw [show (V.setVm vm1).frames = V.frames from rfl, htl]
      simp only [List.tail_cons, List.length_cons]
    have hwd : (stackUse (.java (initSJ T.toThrowableT Z self msg 24 []) :: (initSInside (V.setVm vm1) g T.toThrowableT Z self msg).frames.tail)).2 = 13 + (stackUse (.java g :: V.frames.tail)).2 := by
      rw [hfU]
      show (stackUse ([.java (initSJ T.toThrowableT Z self msg 24 [])] ++ (.java g :: V.frames.tail))).2 = _
      rw [stackUse_append, hw13]
    have hcU : ((initSInside (V.setVm vm1) g T.toThrowableT Z self msg).setCell self (preparedCellV T.toThrowableT cell self u0 sen)).heap[self]? = some (preparedCellV T.toThrowableT cell self u0 sen) := heapAt_setCell_self (s := initSInside (V.setVm vm1) g T.toThrowableT Z self msg) _ hlt
    have hc2 : ((initSInside (V.setVm vm1) g T.toThrowableT Z self msg).setCell self (preparedCellV T.toThrowableT cell self u0 sen)).heap[T.aS]? = some cellS := by rw [heapAt_setCell_ne _ (Ne.symm hneS)]; exact hcellS
    have hXvm : ∀ vm, ((initSInside (V.setVm vm1) g T.toThrowableT Z self msg).setCell self (preparedCellV T.toThrowableT cell self u0 sen)).setVm vm = ((initSInside (V.setVm vm) g T.toThrowableT Z self msg).setCell self (preparedCellV T.toThrowableT cell self u0 sen)) := fun vm => by rw [State.setCell_setVm, initSInside_setVm, State.setVm_twice]
    obtain ⟨vm2, hW2, st⟩ := npx_fill p (V := (initSInside (V.setVm vm1) g T.toThrowableT Z self msg).setCell self (preparedCellV T.toThrowableT cell self u0 sen)) (g := initSJ T.toThrowableT Z self msg 24 []) (c := Z.code) (self := self) hA hexec T L N LN hW1 (t := t) ht (ig := .invokevirtual 27) (len := 3) [] hcU hobj hknown hfree hkcell hsel0 hvS hc2 hneS hknownS hvU hv0P hneSt (tk htS) (tk ht1) hskip htr
      (lim := lim) hlimU (by show (initSInside (V.setVm vm1) g T.toThrowableT Z self msg).frames.length + 2 < lim.1; rw [hlen]; omega) (by show (stackUse (.java (initSJ T.toThrowableT Z self msg 24 []) :: (initSInside (V.setVm vm1) g T.toThrowableT Z self msg).frames.tail)).2 + 43 ≤ lim.2; rw [hwd]; omega) (by rw [LZ.bytes]; exact LibCode.Throwable.InitS.at_24)
    refine ⟨vm2, hW2, fun t' hs => st t' ?_⟩
    rw [hXvm]
    exact hs
  obtain ⟨vm', hW', st⟩ := Steps.throwableInitSColdByV p h hexec T L Z LZ M LM hW (F := fun u => u.setCell self (((((npeCell N.toNpeT (preparedCellV T.toThrowableT cell self u0 sen) t).withEntry t).setSlot T.fStack.slot u0.v).left).left)) (heapOnly_id.thenSetCell self _) (fun u vm => rfl)
    hmsg (cF := (((((npeCell N.toNpeT (preparedCellV T.toThrowableT cell self u0 sen) t).withEntry t).setSlot T.fStack.slot u0.v).left).left)) hcell hknown (fun u hu => heapAt_setCell_self _ (Array.getElem?_eq_some_iff.mp hu).1) (by rw [Cell.left_cls, Cell.left_cls]; rfl) (by rw [Cell.left_data, Cell.left_data]; rfl)
    (by rw [Cell.left_slots, Cell.left_slots]; simp [npeCell, preparedCellV, Cell.setSlot, Cell.withEntry]) htM hdg (mSel := N.fill) (methSel := N.methFill) (kSel := N.kN) hobj hselF LN.method LN.fillAbstract LN.cls LN.notInterface hfill acts
    hcellS hneS hknownS hvU hvSen htC htS htP r1 r2
  refine ⟨vm', hW', fun target hrest => st target ?_⟩
  rw [setCell_twice, setCell_twice]
  exact hrest
/-- .. through a chain of constructors that pass it on -/
theorem npx_chain (p : Program) {e : Env} {below : List Frame} {s₀ V : State} {g : JFrame} {c : Code} (h : At V g.method c below) (hexec : p.tables.exec = Jvm.exec)
    (T : ThrowableC) (L : T.Links e.platform s₀) (Z : Init0T) (LZ : Z.LaidS T.toThrowableT) (M : MsgC) (LM : M.Links T e.platform s₀) (N : NpeC) (LN : N.Links T e.platform s₀) (hW : s₀.WarmedH V.vm) {t : ThreadId} (ht : V.cur = t)
    {u0 sen : RefV} {msg : Value} (hmsg : msg.isRef = true) {cell cellS : Cell} {kcell : Class}
    (hcell : V.heap[self]? = some cell) (hobj : ∀ k, cell.vm ≠ .statics k) (hknown : cell.vm ≠ .unknown) (hfree : cell.monitor.owner = none)
    (hkcell : s₀.vm.classes[cell.cls]? = some kcell) (hsel0 : selectMethod e.platform s₀.vm cell.cls T.fill0 = .method T.fill0)
    (hcellS : V.heap[T.aS]? = some cellS) (hneS : T.aS ≠ self) (hknownS : cellS.vm ≠ .unknown) (hvU : cellS.slots[T.fUnassigned.slot]? = some u0.v)
    (hv0 : cell.slots[N.fState.slot]? = some (.int 0)) (hneC : T.fCause.slot ≠ N.fState.slot) (hneSt : T.fStack.slot ≠ N.fState.slot) (hneP : T.fSupp.slot ≠ N.fState.slot)
    (htS : Takes s₀ cell T.fStack u0.v) (ht1 : Takes s₀ cell N.fState (.int 1))
    (hskip : SkipFacts T e.platform s₀ (fun u => u) u0 ((npeCell N.toNpeT (preparedCellV T.toThrowableT cell self u0 sen) t).withEntry t)) (htr : e.platform.stackTraces = false)
    (hselF : selectMethod e.platform s₀.vm cell.cls T.fill = .method N.fill) (hvSen : cellS.slots[T.fSentinel.slot]? = some sen.v)
    (htC : Takes s₀ cell T.fCause (.ref self)) (htP : Takes s₀ cell T.fSupp sen.v) (htM : Takes s₀ cell T.fMsg msg) (hobjLocals : T.codeObj.maxLocals = 1)
    (Ps : List PassC) (hL : ∀ P, P ∈ Ps → P.LinksS e.platform s₀) (hlink : PassesOn (Z.m T.toThrowableT) (Ps.map (·.toPassT))) {ig : Instr} {len : Nat} (acts : List Action)
    {lim : Nat × Nat} (hlim : e.platform.stackLimits V.me = lim) (hframes : V.frames.length + Ps.length + 3 < lim.1) (hwords : (stackUse (.java g :: V.frames.tail)).2 + 13 * Ps.length + 56 ≤ lim.2)
    (hdg : decode c.code g.pc = .ok (ig, len)) :
    ∃ vm', s₀.WarmedH vm' ∧ ∀ target, Steps p.tables e below (((V.setVm vm').setCell self ((((((npeCell N.toNpeT (preparedCellV T.toThrowableT cell self u0 sen) t).withEntry t).setSlot T.fStack.slot u0.v).left).left).setSlot T.fMsg.slot msg)).setTop { g with pc := g.pc + len }) target →
      Steps p.tables e below (doInvoke e (V.setTop g) acts (firstOf (Z.m T.toThrowableT) (Ps.map (·.toPassT))) #[.ref self, msg]).1 target := by
  obtain ⟨f1, -, -, f4, f5, f6⟩ := chainEnd_facts e.platform self msg (Ps.map (·.toPassT)) V g h.top
  have fc := chainEnd_cur self msg (Ps.map (·.toPassT)) V g
  rw [List.length_map] at f5 f6
  refine Steps.initChainSCold hexec (H := fun u => u.setCell self ((((((npeCell N.toNpeT (preparedCellV T.toThrowableT cell self u0 sen) t).withEntry t).setSlot T.fStack.slot u0.v).left).left).setSlot T.fMsg.slot msg)) (heapOnly_id.thenSetCell self _) (Z.m T.toThrowableT) hmsg lim Ps V g c ig len acts h hW hL hlink hdg hlim (by omega) (by omega) (fun vm1 hW1 c' ig' len' hA' hdg' => ?_)
  simp only [chainEnd_setVm] at hA' hdg' ⊢
  generalize chainEnd self msg V g (Ps.map (·.toPassT)) = E at f1 f4 f5 f6 fc hA' hdg' ⊢
  obtain ⟨vm2, hW2, st⟩ := npx_init p (V := E.1.setVm vm1) (g := E.2) (self := self) hA' hexec T L Z LZ M LM N LN hW1 (t := t) (fc.trans ht) hmsg
    (by show E.1.heap[self]? = _; rw [f1]; exact hcell) hobj hknown hfree hkcell hsel0 (by show E.1.heap[T.aS]? = _; rw [f1]; exact hcellS) hneS hknownS hvU hv0 hneC hneSt hneP htS ht1 hskip htr
    hselF hvSen htC htP htM hobjLocals [] (lim := lim) (by show e.platform.stackLimits E.1.me = lim; rw [f4]; exact hlim) (by show E.1.frames.length + 3 < lim.1; rw [f5]; omega)
    (by show (stackUse (.java E.2 :: E.1.frames.tail)).2 + 56 ≤ lim.2; rw [f6]; omega) hdg'
  exact ⟨vm2, hW2, fun t' hs => st t' (by rw [State.setVm_twice]; exact hs)⟩
/-- the words of a thrown NullPointerException with a message -/
def npx_at (own : String) (ic : Nat) : List Cond :=
  Bundle.throwableAtoms ++ Bundle.throwableSAtoms ++ Bundle.npeAtoms ++ Bundle.chainSAtoms Bundle.nN [Bundle.rN, Bundle.eN] ++
  [.methodLink own ic (Bundle.initS Bundle.nN), .instantiable Bundle.nN 8, .castable Bundle.nN Bundle.nN, .selects Bundle.nN Bundle.tFill0 Bundle.tFill0, .selects Bundle.nN Bundle.tFill Bundle.nFill,
   .lays Bundle.nN Bundle.tN "cause" "Ljava/lang/Throwable;", .lays Bundle.nN Bundle.tN "stackTrace" Bundle.steD, .lays Bundle.nN Bundle.tN "suppressedExceptions" Bundle.listD, .lays Bundle.nN Bundle.tN "detailMessage" "Ljava/lang/String;",
   .isRef (.static Bundle.tN "UNASSIGNED_STACK" Bundle.steD), .isRef (.static Bundle.tN "SUPPRESSED_SENTINEL" Bundle.listD),
   .fieldLink Bundle.tN 198 Bundle.tN "backtrace" "Ljava/lang/Object;", .lays Bundle.tN Bundle.tN "backtrace" "Ljava/lang/Object;", .lays Bundle.nN Bundle.tN "backtrace" "Ljava/lang/Object;"]
set_option maxHeartbeats 2000000 in
theorem npx_ctor {p : Program} {l : Launch} {e : Env} {R : Room} {s : State} {m₀ : MethodId} {args : Array Value} {below : List Frame} {meth : Method} {c : Code} {W : State} {locs : List Loc} {cells slots : Nat}
    (X : Stand p l e R s m₀ args below meth c W locs cells slots) (hexec : p.tables.exec = Jvm.exec) (htr : e.platform.stackTraces = false) {own : String} {ic : Nat}
    (hown : s.vm.findClass own = some m₀.cls)
    (h : ∀ a ∈ npx_at own ic, a.before args s = true)
    (hlocs : ∀ x ∈ locs, ∀ cell, s.heap[x.base]? = some cell → cell.vm.isStatics = false)
    {a : Addr} {cX : ClassId} {kX : Class} (hfoundX : s.vm.findClass Bundle.nN = some cX) (hkX : s.vm.classes[cX]? = some kX) (hcell : W.heap[a]? = some (freshCell cX kX)) (hnew : s.heap.size ≤ a)
    {msg : Value} (hmsg : msg.isRef = true)
    {g : JFrame} (hg : g.method = m₀) (hsize : g.locals.size = c.maxLocals) (hlocked : g.locked = none) (hentered : g.entered = []) {rest : List Value} (hstack : g.stack = msg :: .ref a :: .ref a :: rest)
    (hd6 : decode c.code g.pc = .ok (.invokespecial ic, 3)) (hd9 : decode c.code (g.pc + 3) = .ok (.athrow, 1)) (hout : ∀ x ∈ c.exceptionTable.toList, covers x (g.pc + 3) = false)
    (hRframes : 6 < R.frames) (hRlocals : 2 * g.monitorRoom + ((Value.ref a :: rest).map fun v => v.category).sum + 95 ≤ R.locals) (hlocks : meth.locks = false) :
    ∃ U : State, Steps p.tables e below (W.setTop g) U ∧ U.status = .running ∧ Ended U below (.threw a) ∧ s.WarmedH U.vm ∧ s.sameButNew ({ U with vm := s.vm } : State) locs cells slots ∧
      ∃ ce, U.heap[a]? = some ce ∧ ce.vm = .none ∧ ce.cls = cX := by
  have howns : e.platform.frameOwnsMonitors = true := by rw [X.admits.platform]
  have hfin : e.platform.finalization = false := by rw [X.admits.platform]
  have hpl : e.platform.magicAccessors = ({} : Platform).magicAccessors := by rw [X.admits.platform]
  have hpl2 : e.platform.arrayCloneIsPublic = true := by rw [X.admits.platform]
  have a' : ∀ x, x ∈ npx_at own ic → x.holds args s none s [] = true := fun x hx => h x hx
  obtain ⟨T, Z0, L, -, Y⟩ := ThrowableC.of_atoms (args := args) howns hfin hpl (fun x hx => h x (by simp [npx_at, hx]))
  obtain ⟨Z, M, LZ, LM, hnZ⟩ := Init0T.ofS_atoms (args := args) hpl L Y (fun x hx => h x (by simp [npx_at, hx]))
  obtain ⟨N, LN, hcN, hnNF, hordN, hffS⟩ := NpeC.of_atoms (args := args) hpl hpl2 L Y (fun x hx => h x (by simp [npx_at, hx]))
  obtain ⟨P1, Ps, hlen, L1, hL, hP1m, hlink1, hlink⟩ := Bundle.chainS (args := args) hpl hnZ [Bundle.rN, Bundle.eN] Bundle.nN (by decide) (by decide) (fun x hx => h x (by simp [npx_at, hx]))
  have hfound : s.vm.findClass Bundle.nN = some P1.m.cls := findClass_of_methodNamed hP1m
  cases Option.some.inj (hfoundX.symm.trans hfound)
  obtain ⟨c1, kX', hc1, hk, hord, -, -, hn8⟩ := Cond.instantiable_spec (a' (.instantiable Bundle.nN 8) (by simp [npx_at]))
  cases Option.some.inj (hc1.symm.trans hfound)
  cases Option.some.inj (hkX.symm.trans hk)
  have hsel0 : selectMethod e.platform s.vm P1.m.cls T.fill0 = .method T.fill0 := by
    obtain ⟨c2, r2, m2, q1, q2, q3, q4, -⟩ := Cond.selects_spec (a' (.selects Bundle.nN Bundle.tFill0 Bundle.tFill0) (by simp [npx_at]))
    cases Option.some.inj (q1.symm.trans hfound)
    cases Option.some.inj (q2.symm.trans (State.methodFound?_of_named Y.fill0 (by decide)))
    cases Option.some.inj (q3.symm.trans Y.fill0)
    rw [Launch.admits_selectMethod X.admits]; exact q4
  have hselF : selectMethod e.platform s.vm P1.m.cls T.fill = .method N.fill := by
    obtain ⟨c2, r2, m2, q1, q2, q3, q4, -⟩ := Cond.selects_spec (a' (.selects Bundle.nN Bundle.tFill Bundle.nFill) (by simp [npx_at]))
    cases Option.some.inj (q1.symm.trans hfound)
    cases Option.some.inj (q2.symm.trans (State.methodFound?_of_named Y.fill (by decide)))
    cases Option.some.inj (q3.symm.trans hnNF)
    rw [Launch.admits_selectMethod X.admits]; exact q4
  obtain ⟨cellS0, hcS0, hiss⟩ := Y.statics
  obtain ⟨u0, hu0⟩ := Cond.staticRefV Y.unassigned L.unassignedStatic L.statics hcS0 hiss (a' (.isRef (.static Bundle.tN "UNASSIGNED_STACK" Bundle.steD)) (by simp [npx_at]))
  obtain ⟨sen, hsen⟩ := Cond.staticRefV Y.sentinel L.sentinelStatic L.statics hcS0 hiss (a' (.isRef (.static Bundle.tN "SUPPRESSED_SENTINEL" Bundle.listD)) (by simp [npx_at]))
  obtain ⟨ci198, i198, fB, hk198, hg198, ha198, hsB, -, hnB, htB, hffB⟩ := Cond.ownField (t := .object "java/lang/Object") Y.found L.cls (by decide +kernel) (a' (.fieldLink Bundle.tN 198 Bundle.tN "backtrace" "Ljava/lang/Object;") (by simp [npx_at])) (a' (.lays Bundle.tN Bundle.tN "backtrace" "Ljava/lang/Object;") (by simp [npx_at])) e.platform hpl
  obtain ⟨cellS, hcS', heS, -, hkeep⟩ := X.same.2.2.2.2.2 T.aS cellS0 hcS0
  have hcellS : W.heap[T.aS]? = some cellS := hcS'
  have hout' : ∀ i, (⟨T.aS, i⟩ : Loc) ∉ locs := fun i hmem => by
    have := hlocs _ hmem cellS0 hcS0
    rw [hiss] at this; cases this
  have hknownS : cellS.vm ≠ .unknown := by
    rw [heS]; intro hu
    rw [show cellS0.vm = .unknown from hu] at hiss
    cases hiss
  have hneS : T.aS ≠ a := Nat.ne_of_lt (Nat.lt_of_lt_of_le (Array.getElem?_eq_some_iff.mp hcS0).1 hnew)
  obtain ⟨iM, hffM⟩ := Y.msg
  obtain ⟨tyC, dC, hdC, hdnC⟩ := Cond.laysAt hfound hk Y.cause (a' (.lays Bundle.nN Bundle.tN "cause" "Ljava/lang/Throwable;") (by simp [npx_at]))
  obtain ⟨tyS, dS, hdS, hdnS⟩ := Cond.laysAt hfound hk Y.stack (a' (.lays Bundle.nN Bundle.tN "stackTrace" Bundle.steD) (by simp [npx_at]))
  obtain ⟨tyP, dP, hdP, hdnP⟩ := Cond.laysAt hfound hk Y.supp (a' (.lays Bundle.nN Bundle.tN "suppressedExceptions" Bundle.listD) (by simp [npx_at]))
  obtain ⟨tyM, dM, hdM, hdnM⟩ := Cond.laysAt hfound hk hffM (a' (.lays Bundle.nN Bundle.tN "detailMessage" "Ljava/lang/String;") (by simp [npx_at]))
  obtain ⟨tyB, dB, hdB, hdnB⟩ := Cond.laysAt hfound hk hffB (a' (.lays Bundle.nN Bundle.tN "backtrace" "Ljava/lang/Object;") (by simp [npx_at]))
  obtain ⟨tyX, dX, hdX, hdnX⟩ := Cond.laysAt hfound hk hffS (a' (.lays Bundle.nN Bundle.nN "extendedMessageState" "I") (by simp [npx_at, Bundle.npeAtoms]))
  obtain ⟨hnX, htX⟩ := State.fieldFound?_type hffS (t := .int) (by decide +kernel)
  have xC := Cond.laysApart hdC hdX hdnC hdnX (by rw [hnX, Y.causeName]; decide)
  have xS := Cond.laysApart hdS hdX hdnS hdnX (by rw [hnX, Y.stackName]; decide)
  have xP := Cond.laysApart hdP hdX hdnP hdnX (by rw [hnX, Y.suppName]; decide)
  have hv0 : (freshCell P1.m.cls kX).slots[N.fState.slot]? = some (.int 0) := by
    have := fresh_default (c := P1.m.cls) tyX
    rw [htX] at this; exact this
  have bC := Cond.laysApart hdB hdC hdnB hdnC (by rw [hnB, Y.causeName]; decide)
  have bS := Cond.laysApart hdB hdS hdnB hdnS (by rw [hnB, Y.stackName]; decide)
  have bP := Cond.laysApart hdB hdP hdnB hdnP (by rw [hnB, Y.suppName]; decide)
  have bX := Cond.laysApart hdB hdX hdnB hdnX (by rw [hnB, hnX]; decide)
  have hbk : ((npeCell N.toNpeT (preparedCellV T.toThrowableT (freshCell P1.m.cls kX) a u0 sen) W.cur).withEntry W.cur).slots[fB.slot]? = some .null := by
    have := fresh_default (c := P1.m.cls) tyB
    rw [htB] at this
    simpa [npeCell, preparedCellV, Cell.setSlot, Cell.withEntry, Array.getElem?_setIfInBounds, bC, bS, bP, bX, bC.symm, bS.symm, bP.symm, bX.symm, defaultValue] using this
  have tkX := Takes.of_laid (v := .int 1) hk hord tyX (by rw [htX]; rfl)
  have hskip : SkipFacts T e.platform s (fun u => u) u0 ((npeCell N.toNpeT (preparedCellV T.toThrowableT (freshCell P1.m.cls kX) a u0 sen) W.cur).withEntry W.cur) := ⟨{ ci198 := ci198, i198 := i198, fBack := fB }, ⟨hk198, hg198, ha198, hsB⟩, hbk, fun _ _ => rfl⟩
  obtain ⟨tm, methC, cdC, kC, vm₁, hnC, -, -, -, -, -, -, -, hW₁, st1⟩ := Steps.initColdS (tb := p.tables) (e := e) (below := below) (s := s) (U := W) X.here hexec X.warmed hpl hown (t := Bundle.initS Bundle.nN) rfl rfl ⟨by decide, by decide⟩
    (a' (.methodLink own ic (Bundle.initS Bundle.nN)) (by simp [npx_at])) (h (.instanceMethod (Bundle.initS Bundle.nN)) (by simp [npx_at, Bundle.chainSAtoms, Bundle.passSAtoms])) (bytes := Bundle.six) (maxL := 2) (h (.code (Bundle.initS Bundle.nN) Bundle.six 2 none) (by simp [npx_at, Bundle.chainSAtoms, Bundle.passSAtoms]))
    (f := g) hg (a := a) (msg := msg) (rest := .ref a :: rest) hstack hd6
  cases Option.some.inj (hnC.symm.trans hP1m)
  have X₁ := X.noted hW₁
  have hP2 : Ps.length = 2 := hlen
  have h1 : At (W.setVm vm₁) ({ g with stack := .ref a :: rest } : JFrame).method c below := by show At _ g.method c below; rw [hg]; exact X₁.here
  have hfr' : (W.setVm vm₁).frames.length + (P1 :: Ps).length + 3 < (e.platform.stackLimits (W.setVm vm₁).me).1 := by have := X₁.framesAbove hRframes; simp only [List.length_cons, hP2]; omega
  have hwd' : (stackUse (.java ({ g with stack := .ref a :: rest } : JFrame) :: (W.setVm vm₁).frames.tail)).2 + 13 * (P1 :: Ps).length + 56 ≤ (e.platform.stackLimits (W.setVm vm₁).me).2 := by
    have := X₁.stackAbove (g := ({ g with stack := .ref a :: rest } : JFrame)) hsize (K := 95) hRlocals
    simp only [List.length_cons, hP2]; omega
  obtain ⟨vm₂, hW₂, st2⟩ := npx_chain p (s₀ := s) (V := W.setVm vm₁) (g := { g with stack := .ref a :: rest }) (self := a) h1 hexec T L Z LZ M LM N LN X₁.warmed (t := W.cur) rfl hmsg (cell := freshCell P1.m.cls kX) (cellS := cellS) (kcell := kX)
    hcell (fun _ => by simp) (by simp) rfl hk hsel0 hcellS hneS hknownS (by rw [hkeep _ (hout' _)]; exact hu0) hv0 xC xS xP
    (Takes.of_laid hk hord tyS (by rw [Y.stackType]; exact fits_refV_array _ u0)) tkX hskip htr hselF (by rw [hkeep _ (hout' _)]; exact hsen)
    (Takes.of_laid hk hord tyC (by rw [Y.causeType]; rfl)) (Takes.of_laid hk hord tyP (by rw [Y.suppType]; exact fits_refV_object _ sen))
    (Takes.of_laid hk hord tyM (by rw [Y.msgType]; exact fits_refV_object _ ⟨msg, hmsg⟩)) Y.objLocals (P1 :: Ps)
    (fun P hP => by rcases List.mem_cons.mp hP with rfl | hP; exact L1; exact hL P hP) ⟨hlink1, hlink⟩ (ig := .invokespecial ic) (len := 3) [] rfl hfr' hwd' hd6
  rw [npeBareV_eq T.toThrowableT N.toNpeT a u0 sen W.cur rfl rfl] at st2
  have X2 := X₁.noted hW₂
  have ha : a < ((W.setVm vm₁).setVm vm₂).heap.size := (Array.getElem?_eq_some_iff.mp hcell).1
  have X3 := (((((X2.stored (a := a) hcell T.fCause.slot (.ref a)).storedAgain ha T.fStack.slot u0.v).storedAgain ha T.fSupp.slot sen.v).storedAgain ha N.fState.slot (.int 1)).storedAgain ha T.fStack.slot u0.v).storedAgain ha T.fMsg.slot msg
  obtain ⟨hwalk, hrun, hended, hWU, hsame⟩ := X3.athrowLeaves hexec (g := { g with stack := .ref a :: rest, pc := g.pc + 3 }) hg hlocked hentered hout (a := a) (rest := rest) rfl hd9
  have hU := heapAt_setCell_self (s := (W.setVm vm₁).setVm vm₂) ((npeBareV T.toThrowableT N.toNpeT (freshCell P1.m.cls kX) a u0 sen).setSlot T.fMsg.slot msg) ha
  refine ⟨_, st1 _ (fun acts => ?_), hrun, hended, hWU, hsame.weaken (fun y hy hlt' => ?_) (Nat.le_refl _) (Nat.le_refl _), _, hU, rfl, rfl⟩
  · rw [doInvoke_state]
    exact st2 _ hwalk
  · simp only [List.append_assoc, List.cons_append, List.nil_append] at hy
    rcases List.mem_append.mp hy with h1 | h1
    · exact h1
    · exfalso
      have hb : y.base = a := by
        simp only [List.mem_cons, List.not_mem_nil, or_false] at h1
        rcases h1 with rfl | rfl | rfl | rfl | rfl | rfl <;> rfl
      rw [hb] at hlt'
      exact Nat.not_lt.mpr hnew hlt'
end NPX
