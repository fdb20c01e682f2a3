/-! the contract of ClassPools.number -/
def CX (E : XE) (l : Launch) (As : List Value) (h : Hp) (v : Option Value) (h' : Hp) : Prop := vx_Met l (mI 93).1 (wsOf 93) (rmO 12 (h'.1 - h.1) (h'.2.1 - h.2.1)) (PcX E As h) (QL E v h') (XQ E v h') (h'.1 - h.1) (h'.2.1 - h.2.1) (XA E)
theorem ex_1 : exC 1 = "java/lang/IllegalArgumentException" := by decide +kernel
theorem th_1 {E : XE} {l : Launch} {p : Program} {e : Env} {R : Room} {s : State} {m : MethodId} {args : Array Value} {below : List Frame} {meth : Method} {c : Code} (hl : l.stackTraces = false) (C : XC E (mI 93) R p s m args meth c) (hnt : ∀ x ∈ c.exceptionTable.toList, False) (hf : 7 ≤ R.frames) (hlo : 128 ≤ R.locals) {Qc : Array Value → State → Outcome → State → Prop} {h : Hp} {H : Heap} {L : Ls} {ls : Array Slot} {locs : List Loc} {cells slots : Nat} (hH : HR E h H) (hL : LV ls (mI 93).2.2.1 L) (hs : va_S (XA E) s.heap H locs) (hc : cells + 1 ≤ R.cells) (hsl : slots + 6 ≤ R.slots) :
    W p l e R s m args below meth c H locs cells slots (vx_MQ below Qc (XQ E (some (.int 1)) (hskip h 1 6)) args s (cells + 1) (slots + 6) (XA E)) (F0 m 10 ls []) := by
  obtain ⟨hx, hb, hml, hown, hnm', hrt, hlk, hts, hK, hbs, hR⟩ := C
  obtain ⟨hU, hN, hWc, hWd, hSt, -⟩ := hK.2.2.2.2.2.2.2.2
  obtain ⟨a, ha⟩ := hSt (135, "no such file") (by simp [exS])
  have k1 : va_Nw (.castable "java/lang/IllegalArgumentException" "java/lang/IllegalArgumentException") s := by
    have := hWc (exC 1, exC 1) (by simp [exWc])
    simp only [ex_1] at this
    exact this
  have k2 := hWd ⟨exR, "<init>", "(Ljava/lang/String;)V"⟩ (by simp [exWd])
  have k3 := hWd ⟨exX, "<init>", "(Ljava/lang/String;)V"⟩ (by simp [exWd])
  have k4 := hWd ⟨exT, "<init>", "(Ljava/lang/String;)V"⟩ (by simp [exWd])
  have k5 : va_Nw (.castable exR exT) s := hWc (exR, exT) (by simp [exWc])
  exact thrS (cc := (mI 93).2.1) (own := RX7) (cls := "java/lang/IllegalArgumentException") (text := "no such file") (names := [exR, exX]) (ik := 133) (is := 135) (ic := 137) (sa := a) (A := XA E) hx hb hl hown (by decide) (by decide) (hts _ w_833) (hts _ w_28) ha
    (vx_hat (fun w hw => hts w (in_at1 w hw)) no_at1 (vx_c (va_Nw.use rfl k1) (vx_c (va_Nw.use rfl k2) (vx_c (va_Nw.use rfl k3) (vx_c (va_Nw.use rfl k4) vx_n))))) ot_at1 hU hN hs (hL.1.1.trans hml.symm) dX7_number_10 dX7_number_13 dX7_number_14 dX7_number_16 dX7_number_19
    (fun x hx => (hnt x hx).elim) (by show 2 + 3 < R.frames; omega) (by show 0 + (13 * (2 + 1) + 43) ≤ R.locals; omega) hc hsl hlk (fun t _ q1 q2 => by
      have := XQ_of (sl := 6) (k := 1) (by decide) hH hs q1 q2
      rw [ex_1] at this
      exact this) hs.2.2 (Nat.le_refl _) (Nat.le_refl _)
theorem ex_2 : exC 2 = "java/lang/IndexOutOfBoundsException" := by decide +kernel
theorem th_2 {E : XE} {l : Launch} {p : Program} {e : Env} {R : Room} {s : State} {m : MethodId} {args : Array Value} {below : List Frame} {meth : Method} {c : Code} (hl : l.stackTraces = false) (C : XC E (mI 93) R p s m args meth c) (hnt : ∀ x ∈ c.exceptionTable.toList, False) (hf : 7 ≤ R.frames) (hlo : 128 ≤ R.locals) {Qc : Array Value → State → Outcome → State → Prop} {h : Hp} {H : Heap} {L : Ls} {ls : Array Slot} {locs : List Loc} {cells slots : Nat} (hH : HR E h H) (hL : LV ls (mI 93).2.2.1 L) (hs : va_S (XA E) s.heap H locs) (hc : cells + 1 ≤ R.cells) (hsl : slots + 6 ≤ R.slots) :
    W p l e R s m args below meth c H locs cells slots (vx_MQ below Qc (XQ E (some (.int 2)) (hskip h 1 6)) args s (cells + 1) (slots + 6) (XA E)) (F0 m 31 ls []) := by
  obtain ⟨hx, hb, hml, hown, hnm', hrt, hlk, hts, hK, hbs, hR⟩ := C
  obtain ⟨hU, hN, hWc, hWd, hSt, -⟩ := hK.2.2.2.2.2.2.2.2
  obtain ⟨a, ha⟩ := hSt (142, "no such place") (by simp [exS])
  have k1 : va_Nw (.castable "java/lang/IndexOutOfBoundsException" "java/lang/IndexOutOfBoundsException") s := by
    have := hWc (exC 2, exC 2) (by simp [exWc])
    simp only [ex_2] at this
    exact this
  have k2 := hWd ⟨exR, "<init>", "(Ljava/lang/String;)V"⟩ (by simp [exWd])
  have k3 := hWd ⟨exX, "<init>", "(Ljava/lang/String;)V"⟩ (by simp [exWd])
  have k4 := hWd ⟨exT, "<init>", "(Ljava/lang/String;)V"⟩ (by simp [exWd])
  have k5 : va_Nw (.castable exR exT) s := hWc (exR, exT) (by simp [exWc])
  exact thrS (cc := (mI 93).2.1) (own := RX7) (cls := "java/lang/IndexOutOfBoundsException") (text := "no such place") (names := [exR, exX]) (ik := 140) (is := 142) (ic := 144) (sa := a) (A := XA E) hx hb hl hown (by decide) (by decide) (hts _ w_849) (hts _ w_24) ha
    (vx_hat (fun w hw => hts w (in_at2 w hw)) no_at2 (vx_c (va_Nw.use rfl k1) (vx_c (va_Nw.use rfl k2) (vx_c (va_Nw.use rfl k3) (vx_c (va_Nw.use rfl k4) vx_n))))) ot_at2 hU hN hs (hL.1.1.trans hml.symm) dX7_number_31 dX7_number_34 dX7_number_35 dX7_number_37 dX7_number_40
    (fun x hx => (hnt x hx).elim) (by show 2 + 3 < R.frames; omega) (by show 0 + (13 * (2 + 1) + 43) ≤ R.locals; omega) hc hsl hlk (fun t _ q1 q2 => by
      have := XQ_of (sl := 6) (k := 2) (by decide) hH hs q1 q2
      rw [ex_2] at this
      exact this) hs.2.2 (Nat.le_refl _) (Nat.le_refl _)
theorem ex_3 : exC 3 = "java/lang/NullPointerException" := by decide +kernel
theorem th_3 {E : XE} {l : Launch} {p : Program} {e : Env} {R : Room} {s : State} {m : MethodId} {args : Array Value} {below : List Frame} {meth : Method} {c : Code} (hl : l.stackTraces = false) (C : XC E (mI 93) R p s m args meth c) (hnt : ∀ x ∈ c.exceptionTable.toList, False) (hf : 7 ≤ R.frames) (hlo : 128 ≤ R.locals) {Qc : Array Value → State → Outcome → State → Prop} {h : Hp} {H : Heap} {L : Ls} {ls : Array Slot} {locs : List Loc} {cells slots : Nat} (hH : HR E h H) (hL : LV ls (mI 93).2.2.1 L) (hs : va_S (XA E) s.heap H locs) (hc : cells + 1 ≤ R.cells) (hsl : slots + 8 ≤ R.slots) :
    W p l e R s m args below meth c H locs cells slots (vx_MQ below Qc (XQ E (some (.int 3)) (hskip h 1 8)) args s (cells + 1) (slots + 8) (XA E)) (F0 m 56 ls []) := by
  obtain ⟨hx, hb, hml, hown, hnm', hrt, hlk, hts, hK, hbs, hR⟩ := C
  obtain ⟨hU, hN, hWc, hWd, hSt, -⟩ := hK.2.2.2.2.2.2.2.2
  obtain ⟨a, ha⟩ := hSt (147, "the place is empty") (by simp [exS])
  have k1 : va_Nw (.castable "java/lang/NullPointerException" "java/lang/NullPointerException") s := by
    have := hWc (exC 3, exC 3) (by simp [exWc])
    simp only [ex_3] at this
    exact this
  have k2 := hWd ⟨exR, "<init>", "(Ljava/lang/String;)V"⟩ (by simp [exWd])
  have k3 := hWd ⟨exX, "<init>", "(Ljava/lang/String;)V"⟩ (by simp [exWd])
  have k4 := hWd ⟨exT, "<init>", "(Ljava/lang/String;)V"⟩ (by simp [exWd])
  have k5 : va_Nw (.castable exR exT) s := hWc (exR, exT) (by simp [exWc])
  exact thrN (cc := (mI 93).2.1) (own := RX7) (text := "the place is empty") (ik := 145) (is := 147) (ic := 149) (sa := a) (A := XA E) hx hb hl hown (hts _ w_862) (hts _ w_26) ha
    (vx_hat (fun w hw => hts w (in_at3 w hw)) no_at3 (vx_c (va_Nw.use rfl k1) (vx_c (va_Nw.use rfl k5) (vx_c (va_Nw.use rfl k2) (vx_c (va_Nw.use rfl k3) (vx_c (va_Nw.use rfl k4) vx_n)))))) ot_at3 hU hN hs (hL.1.1.trans hml.symm) dX7_number_56 dX7_number_59 dX7_number_60 dX7_number_62 dX7_number_65
    (fun x hx => (hnt x hx).elim) (by omega) (by show 0 + 96 ≤ R.locals; omega) hc hsl hlk (fun t _ q1 q2 => by
      have := XQ_of (sl := 8) (k := 3) (by decide) hH hs q1 q2
      rw [ex_3] at this
      exact this) hs.2.2 (Nat.le_refl _) (Nat.le_refl _)
theorem ex_4 : exC 4 = "java/lang/ClassCastException" := by decide +kernel
theorem th_4 {E : XE} {l : Launch} {p : Program} {e : Env} {R : Room} {s : State} {m : MethodId} {args : Array Value} {below : List Frame} {meth : Method} {c : Code} (hl : l.stackTraces = false) (C : XC E (mI 93) R p s m args meth c) (hnt : ∀ x ∈ c.exceptionTable.toList, False) (hf : 7 ≤ R.frames) (hlo : 128 ≤ R.locals) {Qc : Array Value → State → Outcome → State → Prop} {h : Hp} {H : Heap} {L : Ls} {ls : Array Slot} {locs : List Loc} {cells slots : Nat} (hH : HR E h H) (hL : LV ls (mI 93).2.2.1 L) (hs : va_S (XA E) s.heap H locs) (hc : cells + 1 ≤ R.cells) (hsl : slots + 6 ≤ R.slots) :
    W p l e R s m args below meth c H locs cells slots (vx_MQ below Qc (XQ E (some (.int 4)) (hskip h 1 6)) args s (cells + 1) (slots + 6) (XA E)) (F0 m 74 ls []) := by
  obtain ⟨hx, hb, hml, hown, hnm', hrt, hlk, hts, hK, hbs, hR⟩ := C
  obtain ⟨hU, hN, hWc, hWd, hSt, -⟩ := hK.2.2.2.2.2.2.2.2
  obtain ⟨a, ha⟩ := hSt (155, "no number is there") (by simp [exS])
  have k1 : va_Nw (.castable "java/lang/ClassCastException" "java/lang/ClassCastException") s := by
    have := hWc (exC 4, exC 4) (by simp [exWc])
    simp only [ex_4] at this
    exact this
  have k2 := hWd ⟨exR, "<init>", "(Ljava/lang/String;)V"⟩ (by simp [exWd])
  have k3 := hWd ⟨exX, "<init>", "(Ljava/lang/String;)V"⟩ (by simp [exWd])
  have k4 := hWd ⟨exT, "<init>", "(Ljava/lang/String;)V"⟩ (by simp [exWd])
  have k5 : va_Nw (.castable exR exT) s := hWc (exR, exT) (by simp [exWc])
  exact thrS (cc := (mI 93).2.1) (own := RX7) (cls := "java/lang/ClassCastException") (text := "no number is there") (names := [exR, exX]) (ik := 153) (is := 155) (ic := 157) (sa := a) (A := XA E) hx hb hl hown (by decide) (by decide) (hts _ w_869) (hts _ w_27) ha
    (vx_hat (fun w hw => hts w (in_at4 w hw)) no_at4 (vx_c (va_Nw.use rfl k1) (vx_c (va_Nw.use rfl k2) (vx_c (va_Nw.use rfl k3) (vx_c (va_Nw.use rfl k4) vx_n))))) ot_at4 hU hN hs (hL.1.1.trans hml.symm) dX7_number_74 dX7_number_77 dX7_number_78 dX7_number_80 dX7_number_83
    (fun x hx => (hnt x hx).elim) (by show 2 + 3 < R.frames; omega) (by show 0 + (13 * (2 + 1) + 43) ≤ R.locals; omega) hc hsl hlk (fun t _ q1 q2 => by
      have := XQ_of (sl := 6) (k := 4) (by decide) hH hs q1 q2
      rw [ex_4] at this
      exact this) hs.2.2 (Nat.le_refl _) (Nat.le_refl _)
theorem ct93 {E : XE} {l : Launch} {P : Pg} (hl : l.stackTraces = false) (hP : (P 93).1 = k_CP_number) (IH : ∀ (f mid : Nat) (As : List Value) (h : Hp) (v : Option Value) (h' : Hp), lvO (mI mid).1 ≤ 8 → xexec P f (P mid).1 0 (lpad (P mid).2 (lent As)) [] h = some (v, h') → (lent As).length ≤ (P mid).2 → CT E l mid As h v h' ∧ (P mid).2 ≤ 40) (hP2 : ∀ mid, (P mid).2 = (mI mid).2.2.1) {f : Nat} {As : List Value} {h : Hp} {v : Option Value} {h' : Hp} (hx : xexec P f (P 93).1 0 (lpad (P 93).2 (lent As)) [] h = some (v, h')) (hlen : (lent As).length ≤ (P 93).2) : CX E l As h v h' := by
  rw [hP, hP2] at hx
  rw [hP2] at hlen
  unfold CX
  refine vx_ofW (cc := (mI 93).2.1) (maxL := (mI 93).2.2.1) (ret := (mI 93).2.2.2) (by decide +kernel) (wsOf_eq rfl) ?_
  intro p e s m args below meth c s₁ B hml hnt hv
  obtain ⟨rfl, hH, hK, hbs⟩ := hv
  have hts := atoms_spec (ws := wsOf 93) B.pre
  have hT : ∀ w ∈ lwg, w.before As.toArray s = true := fun w hw => hts w (List.mem_cons_of_mem _ hw)
  have hown : s.vm.findClass (mI 93).1.cls = some m.cls := findClass_of_methodNamed B.named
  have hin : meth.name = (mI 93).1.name := (name_of_methodNamed B.named B.method).1
  rw [lg_entry_eq]
  have C : XC E (mI 93) (rmO 12 (h'.1 - h.1) (h'.2.1 - h.2.1)) p s m As.toArray meth c := ⟨B.exec, B.bytes, hml, hown, hin, B.returns, B.notSynchronized, hT, hK, hbs, by show 1 ≤ 12; decide, by show 64 ≤ 64 * 12; decide⟩
  refine xbodyQ (ok := fun mid => lvO (mI mid).1 ≤ 8) (rt := fun v => ∃ x : Int64, v = some (.long x)) (K := 12) (I := mI 93) (f0 := f) (fun f1 _ mid As h v h' _ hok hx hlen => ⟨(IH f1 mid As h v h' hok hx hlen).1, (IH f1 mid As h v h' hok hx hlen).2, by omega⟩) C hP2 (fun hr T hm => ?_) (fun pc o ho => ?_) (fun pc o ho => ?_) f (Nat.le_refl _) 0 _ [] h hx s.heap _ [] 0 0 hH (LV.entry As hlen) va_S.rf (Nat.zero_add _) (Nat.zero_add _)
  · obtain ⟨o, b1, b2, b3, b4⟩ := hm
    exact ⟨o, b1, b2, Or.inl ⟨⟨b3, hr⟩, b4⟩⟩
  · rcases s93 E pc o ho with ⟨hsg, hr⟩ | ⟨kd, sl, rfl, hmem⟩
    · exact Or.inl ⟨hsg, hr.1⟩
    · refine Or.inr ⟨fun L st h1 S hS => ?_, fun L st h1 hS hle H ls locs cells slots hH1 hL1 hs1 hc1 hsl1 => ?_⟩
      · simp only [o_thx] at hS
        split at hS
        next => cases hS; exact ⟨_, _, rfl⟩
        next => cases hS
      · simp only [o_thx] at hS
        split at hS
        next =>
          simp only [Option.some.injEq, Sum.inr.injEq, Sum.inl.injEq, Prod.mk.injEq] at hS
          obtain ⟨rfl, rfl⟩ := hS
          have hc2 : cells + 1 = (hskip h1 1 sl).1 - h.1 := by rw [← hc1]; show cells + 1 = cells + (h1.1 + 1 - h1.1); omega
          have hs2 : slots + sl = (hskip h1 1 sl).2.1 - h.2.1 := by rw [← hsl1]; show slots + sl = slots + (h1.2.1 + sl - h1.2.1); omega
          rw [← hc2, ← hs2] at C ⊢
          simp only [thL, List.mem_cons, Prod.mk.injEq, List.not_mem_nil, or_false] at hmem
          rcases hmem with ⟨rfl, rfl, rfl⟩ | ⟨rfl, rfl, rfl⟩ | ⟨rfl, rfl, rfl⟩ | ⟨rfl, rfl, rfl⟩
          · exact th_1 hl C hnt (by show 7 ≤ 12; decide) (by show 128 ≤ 64 * 12; decide) hH1 hL1 hs1 (Nat.le_refl _) (Nat.le_refl _)
          · exact th_2 hl C hnt (by show 7 ≤ 12; decide) (by show 128 ≤ 64 * 12; decide) hH1 hL1 hs1 (Nat.le_refl _) (Nat.le_refl _)
          · exact th_3 hl C hnt (by show 7 ≤ 12; decide) (by show 128 ≤ 64 * 12; decide) hH1 hL1 hs1 (Nat.le_refl _) (Nat.le_refl _)
          · exact th_4 hl C hnt (by show 7 ≤ 12; decide) (by show 128 ≤ 64 * 12; decide) hH1 hL1 hs1 (Nat.le_refl _) (Nat.le_refl _)
        next => cases hS
  · intro L st h1 mid As1 pc1 L1 st1 h2 hS
    rcases s93 E pc o ho with ⟨-, hr⟩ | ⟨kd, sl, rfl, -⟩
    · exact hr.2 _ _ _ _ _ _ _ _ _ hS
    · simp only [o_thx] at hS
      split at hS <;> cases hS
