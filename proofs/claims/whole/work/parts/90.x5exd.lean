/-! ClassPoolsLaw.number: what is thrown is caught and told by a number -/
theorem Met_ofWH {l : Launch} {y : MethodName} {ws ws' : List Cond} {rm : Room} {Pc : Array Value → State → Prop} {Qc : Array Value → State → Outcome → State → Prop} {mc ms : Nat} {free : Addr → Prop} {cc : ByteArray} {maxL : Nat} {ret : Option FieldType} {hh : List (Nat × Nat × Nat × Nat)}
    (hy : plainName y.cls = true) (hw : ws = Cond.codeWith y cc maxL ret hh :: ws')
    (body : ∀ p e s m args below meth c s₁, BodyLoose p l y (headSpec ws rm) cc maxL ret e s m args below meth c s₁ → c.maxLocals = maxL → c.exceptionTable.toList = tableOf hh → Pc args s →
      W p l e (headSpec ws rm).room s m args below meth c s.heap [] 0 0 (MQ below Qc args s mc ms free) (entryFrame m args maxL)) : Met l y ws rm Pc Qc mc ms free := by
  refine MetFree.of_bodyS (code := cc) (maxLocals := maxL) (ret := ret) hy ?_ ?_
  · intro args s m h hn
    obtain ⟨m9, meth, c, hn9, h1, h2, h3, h4, -, h5, h6, -⟩ := Cond.codeWith_spec (atoms_spec (ws := ws) h _ (by rw [hw]; exact List.mem_cons_self))
    cases hn.symm.trans hn9
    exact ⟨meth, c, h1, h2, h3, h4, h5, h6⟩
  · intro p e s m args below meth c s₁ B hml hP _
    have hh0 : s₁.heap = s.heap := by rw [B.state]; rfl
    have ht : c.exceptionTable.toList = tableOf hh := vx_table (x := y) B (atoms_spec (ws := ws) B.pre _ (by rw [hw]; exact List.mem_cons_self))
    obtain ⟨t, a1, o, b1, b2, b3, b4⟩ := body p e s m args below meth c s₁ B hml ht hP s₁ hh0 (Stand.of_body B)
    exact ⟨t, o, a1, b1, b2, b3, b4⟩
/-- a step of a run, taken apart -/
theorem xinv {P : Pg} {f : Nat} {cd : Cd} {pc : Nat} {L : Ls} {st : List Value} {h : Hp} {r : Option Value × Hp} {o : XOp} (hc : cd pc = some o) (hx : xexec P f cd pc L st h = some r) :
    ∃ f', f = f' + 1 ∧ ∃ S, o L st h = some S ∧ (match S with
      | .inl (pc', L', st', h1) => hle h h1 = true ∧ xexec P f' cd pc' L' st' h1 = some r
      | .inr (.inl (v, h1)) => hle h h1 = true ∧ r = (v, h1)
      | .inr (.inr (mid, As, pc', L', st', h1)) => hle h h1 = true ∧ (lent As).length ≤ (P mid).2 ∧ ∃ v2 h2, xexec P f' (P mid).1 0 (lpad (P mid).2 (lent As)) [] h1 = some (v2, h2) ∧ xexec P f' cd pc' L' (v2.toList ++ st') h2 = some r) := by
  cases f with
  | zero => simp [xexec] at hx
  | succ f =>
    refine ⟨f, rfl, ?_⟩
    rw [xexec_eq, hc] at hx
    dsimp only at hx
    split at hx
    next => cases hx
    next pc1 ls1 st1 h1 hS =>
      refine ⟨_, hS, ?_⟩
      cases hb : hle h h1 with
      | false => rw [hb] at hx; cases hx
      | true => rw [hb] at hx; exact ⟨hb, hx⟩
    next v1 h1 hS =>
      refine ⟨_, hS, ?_⟩
      cases hb : hle h h1 with
      | false => rw [hb] at hx; cases hx
      | true => rw [hb] at hx; exact ⟨hb, (Option.some.inj hx).symm⟩
    next mid As pc1 ls1 st1 h1 hS =>
      refine ⟨_, hS, ?_⟩
      cases hb : (hle h h1 && Nat.ble (lent As).length (P mid).2) with
      | false => rw [hb] at hx; cases hx
      | true =>
        rw [hb] at hx
        simp only [Bool.and_eq_true] at hb
        simp only [cond_true] at hx
        split at hx
        next v2 h2 hcall => exact ⟨hb.1, Nat.le_of_ble_eq_true hb.2, v2, h2, hcall, hx⟩
        next => cases hx
theorem al_inv {k nx : Nat} {L : Ls} {st : List Value} {h : Hp} {S : XStp} (e : o_al k nx L st h = some S) : ∃ v, S = .inl (nx, L, v :: st, h) := by
  simp only [o_al] at e; (repeat' split at e) <;> first | (cases e; exact ⟨_, rfl⟩) | cases e
theorem il_inv {k nx : Nat} {L : Ls} {st : List Value} {h : Hp} {S : XStp} (e : o_il k nx L st h = some S) : ∃ v, S = .inl (nx, L, .int v :: st, h) := by
  simp only [o_il] at e; (repeat' split at e) <;> first | (cases e; exact ⟨_, rfl⟩) | cases e
theorem last_inv {nx : Nat} {L : Ls} {x : Int64} {i : Int32} {v : Value} {h : Hp} {S : XStp} (e : o_last nx L [.long x, .int i, v] h = some S) : ∃ h1, S = .inl (nx, L, [], h1) := by
  cases v with
  | ref a =>
    simp only [o_last, Bool.cond_eq_ite] at e
    (repeat' split at e) <;> first | (cases e; exact ⟨_, rfl⟩) | cases e
  | _ => simp [o_last] at e
/-- steps on the machine -/
theorem Wmv {E : XE} {I : MI} {pc : Nat} {o : XOp} {p : Program} {l : Launch} {e : Env} {R : Room} {s : State} {m : MethodId} {args : Array Value} {below : List Frame} {meth : Method} {c : Code} (hsg : SG E I pc o) (C : XC E I R p s m args meth c) {L L1 : Ls} {st st1 : List Value} {h : Hp} {pc1 : Nat} (hS : o L st h = some (.inl (pc1, L1, st1, h))) {H : Heap} {ls : Array Slot} {locs : List Loc} {cells slots : Nat} (hH : HR E h H) (hL : LV ls I.2.2.1 L) (hs : va_S (XA E) s.heap H locs) {Q : State → Prop} (hc : cells ≤ R.cells) (hsl : slots ≤ R.slots)
    (k : ∀ (H' : Heap) (ls' : Array Slot) (locs' : List Loc), HR E h H' → LV ls' I.2.2.1 L1 → va_S (XA E) s.heap H' locs' → W p l e R s m args below meth c H' locs' cells slots Q (F0 m pc1 ls' st1)) : W p l e R s m args below meth c H locs cells slots Q (F0 m pc ls st) := by
  obtain ⟨-, -, kk⟩ := hsg p l e R s m args below meth c C L st h _ hS H ls locs cells slots hH hL hs
  refine kk Q (by omega) (by omega) fun H' ls' locs' q1 q2 q3 => ?_
  have := k H' ls' locs' q1 q2 q3
  rw [Nat.sub_self, Nat.sub_self]
  exact this
def tb192 : List (Nat × Nat × Nat × Nat) := [(0, 9, 12, 13), (0, 9, 16, 15), (0, 9, 20, 17), (0, 9, 24, 19)]
theorem ca_1 {E : XE} {l : Launch} {p : Program} {e : Env} {R : Room} {s : State} {m : MethodId} {args : Array Value} {below : List Frame} {meth : Method} {c : Code} (C : XC E (mI 192) R p s m args meth c) (htb : c.exceptionTable.toList = tableOf tb192) {h : Hp} {H : Heap} {L : Ls} {ls : Array Slot} {locs : List Loc} {cells slots : Nat} (hH : HR E h H) (hL : LV ls (mI 192).2.2.1 L) (hs : va_S (XA E) s.heap H locs) (hc : cells = R.cells) (hsl : slots = R.slots) {q : Nat} {ce : Cell} (hce : H[q]? = some ce) (hcv : ce.vm = .none) (hcl : s.vm.findClass (exC 1) = some ce.cls) {rest : List Value} :
    vx_W p l e R s m args below meth c H locs cells slots (MQ below (QcX E (some (.int 1)) h) args s cells slots (XA E)) (F0 m 5 ls rest) q := by
  have C0 := C
  obtain ⟨hx, hb, hml, hown, hnm', hrt, hlk, hts, hK, hbs, hR⟩ := C
  obtain ⟨-, -, hWc, -, -, hNc, -⟩ := hK.2.2.2.2.2.2.2.2
  rw [ex_1] at hcl
  have k1 : va_Nw (.castable "java/lang/IllegalArgumentException" "java/lang/IllegalArgumentException") s := by
    have := hWc (exC 1, exC 1) (by simp [exWc])
    simp only [ex_1] at this
    exact this
  refine vx_catch (own := "ClassPoolsLaw") (name := "java/lang/IllegalArgumentException") (E := "java/lang/IllegalArgumentException") hown [] ⟨0, 9, 12, 13⟩ [⟨0, 9, 16, 15⟩, ⟨0, 9, 20, 17⟩, ⟨0, 9, 24, 19⟩] (by rw [htb]; rfl) (fun z hz => nomatch hz) (by decide) (by decide) (hts _ w_701) (va_Nw.use rfl k1) hce hcv hcl ?_
  refine Wmv (sg_astore dL_number_12 (by decide)) C0 (L := L) (st := [.ref q]) rfl hH hL hs (by omega) (by omega) fun H1 ls1 locs1 a1 a2 a3 => ?_
  refine Wmv (sg_iconst (v := nI 1) dL_number_14 (by decide)) C0 rfl a1 a2 a3 (by omega) (by omega) fun H2 ls2 locs2 b1 b2 b3 => ?_
  exact W.iret hx hb hrt (fun t ht hW => ⟨rfl, by rw [ht]; exact b1, b3.F ht⟩) b3.2.2 dL_number_15 hlk
theorem ca_2 {E : XE} {l : Launch} {p : Program} {e : Env} {R : Room} {s : State} {m : MethodId} {args : Array Value} {below : List Frame} {meth : Method} {c : Code} (C : XC E (mI 192) R p s m args meth c) (htb : c.exceptionTable.toList = tableOf tb192) {h : Hp} {H : Heap} {L : Ls} {ls : Array Slot} {locs : List Loc} {cells slots : Nat} (hH : HR E h H) (hL : LV ls (mI 192).2.2.1 L) (hs : va_S (XA E) s.heap H locs) (hc : cells = R.cells) (hsl : slots = R.slots) {q : Nat} {ce : Cell} (hce : H[q]? = some ce) (hcv : ce.vm = .none) (hcl : s.vm.findClass (exC 2) = some ce.cls) {rest : List Value} :
    vx_W p l e R s m args below meth c H locs cells slots (MQ below (QcX E (some (.int 2)) h) args s cells slots (XA E)) (F0 m 5 ls rest) q := by
  have C0 := C
  obtain ⟨hx, hb, hml, hown, hnm', hrt, hlk, hts, hK, hbs, hR⟩ := C
  obtain ⟨-, -, hWc, -, -, hNc, -⟩ := hK.2.2.2.2.2.2.2.2
  rw [ex_2] at hcl
  have k1 : va_Nw (.castable "java/lang/IndexOutOfBoundsException" "java/lang/IndexOutOfBoundsException") s := by
    have := hWc (exC 2, exC 2) (by simp [exWc])
    simp only [ex_2] at this
    exact this
  refine vx_catch (own := "ClassPoolsLaw") (name := "java/lang/IndexOutOfBoundsException") (E := "java/lang/IndexOutOfBoundsException") hown [⟨0, 9, 12, 13⟩] ⟨0, 9, 16, 15⟩ [⟨0, 9, 20, 17⟩, ⟨0, 9, 24, 19⟩] (by rw [htb]; rfl) (fun z hz => by
      simp only [List.mem_cons, List.not_mem_nil, or_false] at hz
      rcases hz with rfl
      · exact Or.inr ⟨by decide, _, hts _ w_701, by have := hNc (exC 2, exC 1) (by simp [exN]); simp only [ex_2, ex_1] at this; exact this⟩) (by decide) (by decide) (hts _ w_702) (va_Nw.use rfl k1) hce hcv hcl ?_
  refine Wmv (sg_astore dL_number_16 (by decide)) C0 (L := L) (st := [.ref q]) rfl hH hL hs (by omega) (by omega) fun H1 ls1 locs1 a1 a2 a3 => ?_
  refine Wmv (sg_iconst (v := nI 2) dL_number_18 (by decide)) C0 rfl a1 a2 a3 (by omega) (by omega) fun H2 ls2 locs2 b1 b2 b3 => ?_
  exact W.iret hx hb hrt (fun t ht hW => ⟨rfl, by rw [ht]; exact b1, b3.F ht⟩) b3.2.2 dL_number_19 hlk
theorem ca_3 {E : XE} {l : Launch} {p : Program} {e : Env} {R : Room} {s : State} {m : MethodId} {args : Array Value} {below : List Frame} {meth : Method} {c : Code} (C : XC E (mI 192) R p s m args meth c) (htb : c.exceptionTable.toList = tableOf tb192) {h : Hp} {H : Heap} {L : Ls} {ls : Array Slot} {locs : List Loc} {cells slots : Nat} (hH : HR E h H) (hL : LV ls (mI 192).2.2.1 L) (hs : va_S (XA E) s.heap H locs) (hc : cells = R.cells) (hsl : slots = R.slots) {q : Nat} {ce : Cell} (hce : H[q]? = some ce) (hcv : ce.vm = .none) (hcl : s.vm.findClass (exC 3) = some ce.cls) {rest : List Value} :
    vx_W p l e R s m args below meth c H locs cells slots (MQ below (QcX E (some (.int 3)) h) args s cells slots (XA E)) (F0 m 5 ls rest) q := by
  have C0 := C
  obtain ⟨hx, hb, hml, hown, hnm', hrt, hlk, hts, hK, hbs, hR⟩ := C
  obtain ⟨-, -, hWc, -, -, hNc, -⟩ := hK.2.2.2.2.2.2.2.2
  rw [ex_3] at hcl
  have k1 : va_Nw (.castable "java/lang/NullPointerException" "java/lang/NullPointerException") s := by
    have := hWc (exC 3, exC 3) (by simp [exWc])
    simp only [ex_3] at this
    exact this
  refine vx_catch (own := "ClassPoolsLaw") (name := "java/lang/NullPointerException") (E := "java/lang/NullPointerException") hown [⟨0, 9, 12, 13⟩, ⟨0, 9, 16, 15⟩] ⟨0, 9, 20, 17⟩ [⟨0, 9, 24, 19⟩] (by rw [htb]; rfl) (fun z hz => by
      simp only [List.mem_cons, List.not_mem_nil, or_false] at hz
      rcases hz with rfl | rfl
      · exact Or.inr ⟨by decide, _, hts _ w_701, by have := hNc (exC 3, exC 1) (by simp [exN]); simp only [ex_3, ex_1] at this; exact this⟩
      · exact Or.inr ⟨by decide, _, hts _ w_702, by have := hNc (exC 3, exC 2) (by simp [exN]); simp only [ex_3, ex_2] at this; exact this⟩) (by decide) (by decide) (hts _ w_789) (va_Nw.use rfl k1) hce hcv hcl ?_
  refine Wmv (sg_astore dL_number_20 (by decide)) C0 (L := L) (st := [.ref q]) rfl hH hL hs (by omega) (by omega) fun H1 ls1 locs1 a1 a2 a3 => ?_
  refine Wmv (sg_iconst (v := nI 3) dL_number_22 (by decide)) C0 rfl a1 a2 a3 (by omega) (by omega) fun H2 ls2 locs2 b1 b2 b3 => ?_
  exact W.iret hx hb hrt (fun t ht hW => ⟨rfl, by rw [ht]; exact b1, b3.F ht⟩) b3.2.2 dL_number_23 hlk
theorem ca_4 {E : XE} {l : Launch} {p : Program} {e : Env} {R : Room} {s : State} {m : MethodId} {args : Array Value} {below : List Frame} {meth : Method} {c : Code} (C : XC E (mI 192) R p s m args meth c) (htb : c.exceptionTable.toList = tableOf tb192) {h : Hp} {H : Heap} {L : Ls} {ls : Array Slot} {locs : List Loc} {cells slots : Nat} (hH : HR E h H) (hL : LV ls (mI 192).2.2.1 L) (hs : va_S (XA E) s.heap H locs) (hc : cells = R.cells) (hsl : slots = R.slots) {q : Nat} {ce : Cell} (hce : H[q]? = some ce) (hcv : ce.vm = .none) (hcl : s.vm.findClass (exC 4) = some ce.cls) {rest : List Value} :
    vx_W p l e R s m args below meth c H locs cells slots (MQ below (QcX E (some (.int 4)) h) args s cells slots (XA E)) (F0 m 5 ls rest) q := by
  have C0 := C
  obtain ⟨hx, hb, hml, hown, hnm', hrt, hlk, hts, hK, hbs, hR⟩ := C
  obtain ⟨-, -, hWc, -, -, hNc, -⟩ := hK.2.2.2.2.2.2.2.2
  rw [ex_4] at hcl
  have k1 : va_Nw (.castable "java/lang/ClassCastException" "java/lang/ClassCastException") s := by
    have := hWc (exC 4, exC 4) (by simp [exWc])
    simp only [ex_4] at this
    exact this
  refine vx_catch (own := "ClassPoolsLaw") (name := "java/lang/ClassCastException") (E := "java/lang/ClassCastException") hown [⟨0, 9, 12, 13⟩, ⟨0, 9, 16, 15⟩, ⟨0, 9, 20, 17⟩] ⟨0, 9, 24, 19⟩ [] (by rw [htb]; rfl) (fun z hz => by
      simp only [List.mem_cons, List.not_mem_nil, or_false] at hz
      rcases hz with rfl | rfl | rfl
      · exact Or.inr ⟨by decide, _, hts _ w_701, by have := hNc (exC 4, exC 1) (by simp [exN]); simp only [ex_4, ex_1] at this; exact this⟩
      · exact Or.inr ⟨by decide, _, hts _ w_702, by have := hNc (exC 4, exC 2) (by simp [exN]); simp only [ex_4, ex_2] at this; exact this⟩
      · exact Or.inr ⟨by decide, _, hts _ w_789, by have := hNc (exC 4, exC 3) (by simp [exN]); simp only [ex_4, ex_3] at this; exact this⟩) (by decide) (by decide) (hts _ w_815) (va_Nw.use rfl k1) hce hcv hcl ?_
  refine Wmv (sg_astore dL_number_24 (by decide)) C0 (L := L) (st := [.ref q]) rfl hH hL hs (by omega) (by omega) fun H1 ls1 locs1 a1 a2 a3 => ?_
  refine Wmv (sg_iconst (v := nI 4) dL_number_26 (by decide)) C0 rfl a1 a2 a3 (by omega) (by omega) fun H2 ls2 locs2 b1 b2 b3 => ?_
  exact W.iret hx hb hrt (fun t ht hW => ⟨rfl, by rw [ht]; exact b1, b3.F ht⟩) b3.2.2 dL_number_27 hlk
theorem ct192 {E : XE} {l : Launch} {P : Pg} (hP : (P 192).1 = k_LW_number) (h93 : ∀ (f : Nat) (As : List Value) (h : Hp) (v : Option Value) (h' : Hp), xexec P f (P 93).1 0 (lpad (P 93).2 (lent As)) [] h = some (v, h') → (lent As).length ≤ (P 93).2 → CX E l As h v h') (hP2 : ∀ mid, (P mid).2 = (mI mid).2.2.1) {f : Nat} {As : List Value} {h : Hp} {v : Option Value} {h' : Hp} (hx : xexec P f (P 192).1 0 (lpad (P 192).2 (lent As)) [] h = some (v, h')) (hlen : (lent As).length ≤ (P 192).2) : CT E l 192 As h v h' ∧ (P 192).2 ≤ 40 := by
  refine ⟨?_, by rw [hP2]; decide +kernel⟩
  rw [hP, hP2] at hx
  rw [hP2] at hlen
  unfold CT
  refine Met_ofWH (cc := (mI 192).2.1) (maxL := (mI 192).2.2.1) (ret := (mI 192).2.2.2) (hh := tb192) (by decide +kernel) rfl ?_
  intro p e s m args below meth c s₁ B hml htb hv
  obtain ⟨rfl, hH, hK, hbs⟩ := hv
  have hts := atoms_spec (ws := wsOf 192) B.pre
  have hT : ∀ w ∈ lwg, w.before As.toArray s = true := fun w hw => hts w (List.mem_cons_of_mem _ hw)
  have hown : s.vm.findClass (mI 192).1.cls = some m.cls := findClass_of_methodNamed B.named
  have hin : meth.name = (mI 192).1.name := (name_of_methodNamed B.named B.method).1
  rw [lg_entry_eq]
  have hlv : lvO (mI 192).1 = 13 := by decide +kernel
  have C : XC E (mI 192) (rmO (lvO (mI 192).1) (h'.1 - h.1) (h'.2.1 - h.2.1)) p s m As.toArray meth c := ⟨B.exec, B.bytes, hml, hown, hin, B.returns, B.notSynchronized, hT, hK, hbs, by show 1 ≤ lvO (mI 192).1; omega, by show 64 ≤ 64 * lvO (mI 192).1; omega⟩
  have hL0 : LV _ (mI 192).2.2.1 _ := LV.entry As hlen
  generalize lpad (mI 192).2.2.1 (lent As) = L at hx hL0
  obtain ⟨f1, -, S, hS, hx1⟩ := xinv (o := o_al 3 1) rfl hx
  obtain ⟨v3, rfl⟩ := al_inv hS
  refine Wmv (sg_aload_n dL_number_0 rfl) C hS hH hL0 va_S.rf (Nat.zero_le _) (Nat.zero_le _) fun H1 ls1 locs1 a1 a2 a3 => ?_
  obtain ⟨f2, -, S, hS2, hx2⟩ := xinv (o := o_ic (nI 0) 2) rfl hx1.2
  cases hS2
  refine Wmv (sg_iconst (v := nI 0) dL_number_1 (by decide)) C rfl a1 a2 a3 (Nat.zero_le _) (Nat.zero_le _) fun H2 ls2 locs2 b1 b2 b3 => ?_
  obtain ⟨f3, -, S, hS3, hx3⟩ := xinv (o := o_al 0 3) rfl hx2.2
  obtain ⟨v0, rfl⟩ := al_inv hS3
  refine Wmv (sg_aload_n dL_number_2 rfl) C hS3 b1 b2 b3 (Nat.zero_le _) (Nat.zero_le _) fun H3 ls3 locs3 c1 c2 c3 => ?_
  obtain ⟨f4, -, S, hS4, hx4⟩ := xinv (o := o_il 1 4) rfl hx3.2
  obtain ⟨i1, rfl⟩ := il_inv hS4
  refine Wmv (sg_iload_n dL_number_3 rfl) C hS4 c1 c2 c3 (Nat.zero_le _) (Nat.zero_le _) fun H4 ls4 locs4 d1 d2 d3 => ?_
  obtain ⟨f5, -, S, hS5, hx5⟩ := xinv (o := o_il 2 5) rfl hx4.2
  obtain ⟨i2, rfl⟩ := il_inv hS5
  refine Wmv (sg_iload_n dL_number_4 rfl) C hS5 d1 d2 d3 (Nat.zero_le _) (Nat.zero_le _) fun H5 ls5 locs5 e1 e2 e3 => ?_
  obtain ⟨f6, -, S, hS6, hx6⟩ := xinv (o := o_invV 93 6 2 8) rfl hx5.2
  obtain ⟨As', r, a, w, fs, hst, hn, hcell, h8, rfl⟩ := invV_inv hS6
  obtain ⟨hle6, hlen6, v2, h2, hcall, hx7⟩ := hx6
  obtain ⟨rfl, rfl, rfl⟩ : As' = [.int i1, .int i2] ∧ v0 = .ref a ∧ r = [.int (nI 0), v3] := by
    match As', hn, hst with
    | [x, y], _, hst =>
      simp only [List.reverse_cons, List.reverse_nil, List.nil_append, List.cons_append, List.cons.injEq] at hst
      obtain ⟨rfl, rfl, rfl, rfl⟩ := hst
      exact ⟨rfl, rfl, rfl⟩
  have hCX := h93 f6 _ _ _ _ hcall hlen6
  have m1 := xexec_mono P f6 _ _ _ _ _ v2 h2 hcall
  have m2 := xexec_mono P f6 _ _ _ _ _ v h' hx7
  obtain ⟨gx, gb, gml, gown, gnm, grt, glk, gts, gK, gbs, gR⟩ := id C
  have hrun := vx_runV (nL := (mI 192).2.2.1) (Ts := lwg) (own := (mI 192).1.cls) (C := RX7) (R := rmO (lvO (mI 192).1) (h'.1 - h.1) (h'.2.1 - h.2.1)) (e := e) (below := below) (meth := meth) (locs := locs5) (cells := 0) (slots := 0) (g := F0 m 5 ls5 [.int i2, .int i1, .ref a, .int (nI 0), v3]) (As := [.int i1, .int i2]) (rest := [.int (nI 0), v3]) (b := a) ⟨gx, gb, gml, gown, gts⟩ hCX
    ⟨callB_of 2 gts (good_ws 93 ok_93.1 ok_93.2.1) (wsOf_eq ok_93.1) rfl rfl (gts _ ok_93.2.2.1) (gts _ w_829) ok_93.2.2.2 ⟨by show 12 + 1 ≤ lvO (mI 192).1; omega, by show 8 + (5 + 11) + 64 * 12 ≤ 64 * lvO (mI 192).1; omega⟩, gts _ w_830, gts _ w_831⟩
    ⟨PcX_blind E _ _, (by obtain ⟨r9, -, cell, q1, q2, q3, -, -⟩ := e1.obj hcell; exact ⟨cell, q1, q3, by rw [q2]; exact (gK.1.1 6 _ rfl).2.1⟩), fun U hU hW => ⟨rfl, by rw [hU]; exact e1, by rw [hU]; exact gK.warm hW e3.2.1, by rw [hU]; exact Nat.le_trans gbs e3.1⟩⟩ rfl rfl e2.1.1 rfl (lv_room h8) dL_number_5 ⟨by show 0 + (h2.1 - h.1) ≤ h'.1 - h.1; omega, by show 0 + (h2.2.1 - h.2.1) ≤ h'.2.1 - h.2.1; omega⟩
  intro T hT X
  rcases hrun T hT X with ⟨w9, st₀, t, T', LL, g0, X', hLL, q1, q2, ⟨⟨hv, hH2, hF⟩, x, rfl⟩, stp⟩ | ⟨q, st₀, t, T', LL, Cn, ce, g0, X', hLL, q1, q2, ⟨⟨k, rfl, hk4, rfl⟩, hH2, hF⟩, hce, hcv, hcl, stp⟩
  · have hvw : w9 = some (.long x) := by injection hv
    subst hvw
    rw [← q1] at hH2
    have hs' : va_S (XA E) s.heap T'.heap (locs5 ++ LL) := by
      refine ⟨?_, fun q g1 g2 => ?_, fun z hz => ?_⟩
      · have := hF.1; rw [g0, ← q1] at this; exact Nat.le_trans e3.1 this
      · have := hF.2 q (by rw [g0]; exact Nat.lt_of_lt_of_le g1 e3.1) g2
        rw [g0, ← q1] at this
        rw [this]; exact e3.2.1 q g1 g2
      · rcases List.mem_append.mp hz with g | g
        · exact e3.2.2 z g
        · exact hLL z g
    obtain ⟨f7, -, S, hS7, hx8⟩ := xinv (o := o_lx 9) rfl hx7
    have hS7' : o_last 9 L [.long x, .int (nI 0), v3] h2 = some S := hS7
    obtain ⟨h3, rfl⟩ := last_inv hS7'
    obtain ⟨f8, -, S, hS8, hx9⟩ := xinv (o := o_goto 28) rfl hx8.2
    cases hS8
    obtain ⟨f9, -, S, hS9, hx10⟩ := xinv (o := o_ic (nI 0) 29) rfl hx9.2
    cases hS9
    obtain ⟨f10, -, S, hS10, hx11⟩ := xinv (o := o_iret) rfl hx10.2
    cases hS10
    obtain ⟨-, hr⟩ := hx11
    simp only [Prod.mk.injEq] at hr
    obtain ⟨rfl, rfl⟩ := hr
    have m3 := hle_le hx8.1
    have K : W p l e (rmO (lvO (mI 192).1) (h'.1 - h.1) (h'.2.1 - h.2.1)) s m As.toArray below meth c T'.heap (locs5 ++ LL) (0 + (h2.1 - h.1)) (0 + (h2.2.1 - h.2.1)) (MQ below (QcX E (some (.int (nI 0))) h') As.toArray s (h'.1 - h.1) (h'.2.1 - h.2.1) (XA E)) (F0 m 8 ls5 [.long x, .int (nI 0), v3]) := by
      obtain ⟨-, -, kk⟩ := sg_last dL_number_8 p l e (rmO (lvO (mI 192).1) (h'.1 - h.1) (h'.2.1 - h.2.1)) s m As.toArray below meth c C L _ h2 _ hS7' T'.heap ls5 (locs5 ++ LL) (0 + (h2.1 - h.1)) (0 + (h2.2.1 - h.2.1)) hH2 e2 hs'
      refine kk _ (by show _ ≤ h'.1 - h.1; omega) (by show _ ≤ h'.2.1 - h.2.1; omega) fun H6 ls6 locs6 r1 r2 r3 => ?_
      have ec : 0 + (h2.1 - h.1) + (h'.1 - h2.1) = h'.1 - h.1 := by omega
      have es : 0 + (h2.2.1 - h.2.1) + (h'.2.1 - h2.2.1) = h'.2.1 - h.2.1 := by omega
      rw [ec, es]
      refine Wmv (show SG E (mI 192) 9 (o_goto 28) from sg_goto dL_number_9 (by decide)) C rfl r1 r2 r3 (Nat.le_refl _) (Nat.le_refl _) fun H7 ls7 locs7 s1 s2 s3 => ?_
      refine Wmv (sg_iconst (v := nI 0) dL_number_28 (by decide)) C rfl s1 s2 s3 (Nat.le_refl _) (Nat.le_refl _) fun H8 ls8 locs8 t1 t2 t3 => ?_
      exact W.iret gx gb grt (fun t ht hW => ⟨rfl, by rw [ht]; exact t1, t3.F ht⟩) t3.2.2 dL_number_29 glk
    obtain ⟨t2, u1, u2⟩ := K T' rfl X'
    exact ⟨t2, stp t2 u1, u2⟩
  · rw [← q1] at hH2 hce
    have hs' : va_S (XA E) s.heap T'.heap (locs5 ++ LL) := by
      refine ⟨?_, fun q g1 g2 => ?_, fun z hz => ?_⟩
      · have := hF.1; rw [g0, ← q1] at this; exact Nat.le_trans e3.1 this
      · have := hF.2 q (by rw [g0]; exact Nat.lt_of_lt_of_le g1 e3.1) g2
        rw [g0, ← q1] at this
        rw [this]; exact e3.2.1 q g1 g2
      · rcases List.mem_append.mp hz with g | g
        · exact e3.2.2 z g
        · exact hLL z g
    obtain ⟨f7, -, S, hS7, hx8⟩ := xinv (o := o_lx 9) rfl hx7
    cases hS7
    obtain ⟨-, hr⟩ := hx8
    simp only [Prod.mk.injEq] at hr
    obtain ⟨rfl, rfl⟩ := hr
    have ec : 0 + (h'.1 - h.1) = h'.1 - h.1 := Nat.zero_add _
    have es : 0 + (h'.2.1 - h.2.1) = h'.2.1 - h.2.1 := Nat.zero_add _
    have K : vx_W p l e (rmO (lvO (mI 192).1) (h'.1 - h.1) (h'.2.1 - h.2.1)) s m As.toArray below meth c T'.heap (locs5 ++ LL) (h'.1 - h.1) (h'.2.1 - h.2.1) (MQ below (QcX E (some (.int k)) h') As.toArray s (h'.1 - h.1) (h'.2.1 - h.2.1) (XA E)) (F0 m 5 ls5 [.int (nI 0), v3]) q := by
      rcases hk4 with rfl | rfl | rfl | rfl
      · exact ca_1 C htb hH2 e2 hs' rfl rfl hce hcv hcl
      · exact ca_2 C htb hH2 e2 hs' rfl rfl hce hcv hcl
      · exact ca_3 C htb hH2 e2 hs' rfl rfl hce hcv hcl
      · exact ca_4 C htb hH2 e2 hs' rfl rfl hce hcv hcl
    have X2 : Stand p l e (rmO (lvO (mI 192).1) (h'.1 - h.1) (h'.2.1 - h.2.1)) s m As.toArray below meth c T' (locs5 ++ LL) (h'.1 - h.1) (h'.2.1 - h.2.1) := by rw [← ec, ← es]; rw [ec, es]; rw [ec, es] at X'; exact X'
    obtain ⟨t2, u1, u2⟩ := K T' rfl X2
    exact ⟨t2, stp.trans u1, u2⟩
