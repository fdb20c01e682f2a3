/-! each step is sound: stores, arithmetic, branches -/
section SGT
variable {E : XE} {I : MI} {pc : Nat}
/-- a step that sets a local -/
theorem SG.lc {o : XOp} (hh : ∀ (p : Program) (l : Launch) (e : Env) (R : Room) (s : State) (m : MethodId) (args : Array Value) (below : List Frame) (meth : Method) (c : Code), XC E I R p s m args meth c → ∀ (L : Ls) (st : List Value) (h : Hp) (S : XStp), o L st h = some S → ∃ (pc' : Nat) (L' : Ls) (st' : List Value), S = .inl (pc', L', st', h) ∧ ∀ (H : Heap) (ls : Array Slot) (locs : List Loc) (cells slots : Nat) (Q : State → Prop), LV ls I.2.2.1 L → (∀ ls' : Array Slot, LV ls' I.2.2.1 L' → W p l e R s m args below meth c H locs cells slots Q (F0 m pc' ls' st')) → W p l e R s m args below meth c H locs cells slots Q (F0 m pc ls st)) : SG E I pc o := by
  intro p l e R s m args below meth c C L st h S hS H ls locs cells slots hH hL hs
  obtain ⟨pc', L', st', rfl, k⟩ := hh p l e R s m args below meth c C L st h S hS
  refine ⟨Nat.le_refl _, Nat.le_refl _, fun Q _ _ kk => k H ls locs cells slots Q hL fun ls' hl' => ?_⟩
  have := kk H ls' locs hH hl' hs
  simpa using this
theorem sg_istore_n {k : Fin 4} {i : Nat} (d : decode I.2.1 pc = .ok (.istore_n k, 1)) (hi : (k : Nat) = i) (hn : i < I.2.2.1) : SG E I pc (o_is i (pc + 1)) := by
  refine SG.lc fun p l e R s m args below meth c C L st h S hS => ?_
  simp only [o_is] at hS; split at hS
  next x r => simp only [Option.some.injEq] at hS; subst hS; exact ⟨_, _, _, rfl, fun H ls locs cells slots Q hL kk => lv_istore_n C.1 C.2.1 d hi hL.1 hn rfl (fun ls' hl' => kk ls' (LV.of1 hL.2 hl'))⟩
  all_goals cases hS
theorem sg_istore {i : Nat} (d : decode I.2.1 pc = .ok (.istore i, 2)) (hn : i < I.2.2.1) : SG E I pc (o_is i (pc + 2)) := by
  refine SG.lc fun p l e R s m args below meth c C L st h S hS => ?_
  simp only [o_is] at hS; split at hS
  next x r => simp only [Option.some.injEq] at hS; subst hS; exact ⟨_, _, _, rfl, fun H ls locs cells slots Q hL kk => lv_istore C.1 C.2.1 d hL.1 hn rfl (fun ls' hl' => kk ls' (LV.of1 hL.2 hl'))⟩
  all_goals cases hS
theorem sg_lstore_n {k : Fin 4} {i : Nat} (d : decode I.2.1 pc = .ok (.lstore_n k, 1)) (hi : (k : Nat) = i) (hn : i + 1 < I.2.2.1) : SG E I pc (o_ls i (pc + 1)) := by
  refine SG.lc fun p l e R s m args below meth c C L st h S hS => ?_
  simp only [o_ls] at hS; split at hS
  next x r => simp only [Option.some.injEq] at hS; subst hS; exact ⟨_, _, _, rfl, fun H ls locs cells slots Q hL kk => lv_lstore_n C.1 C.2.1 d hi hL.1 hn rfl (fun ls' hl' => kk ls' (LV.of2 hL.2 hl'))⟩
  all_goals cases hS
theorem sg_lstore {i : Nat} (d : decode I.2.1 pc = .ok (.lstore i, 2)) (hn : i + 1 < I.2.2.1) : SG E I pc (o_ls i (pc + 2)) := by
  refine SG.lc fun p l e R s m args below meth c C L st h S hS => ?_
  simp only [o_ls] at hS; split at hS
  next x r => simp only [Option.some.injEq] at hS; subst hS; exact ⟨_, _, _, rfl, fun H ls locs cells slots Q hL kk => lv_lstore C.1 C.2.1 d hL.1 hn rfl (fun ls' hl' => kk ls' (LV.of2 hL.2 hl'))⟩
  all_goals cases hS
theorem sg_astore_n {k : Fin 4} {i : Nat} (d : decode I.2.1 pc = .ok (.astore_n k, 1)) (hi : (k : Nat) = i) (hn : i < I.2.2.1) : SG E I pc (o_as i (pc + 1)) := by
  refine SG.lc fun p l e R s m args below meth c C L st h S hS => ?_
  simp only [o_as] at hS; split at hS
  next x r => simp only [Option.some.injEq] at hS; subst hS; exact ⟨_, _, _, rfl, fun H ls locs cells slots Q hL kk => lv_astore_n C.1 C.2.1 d hi hL.1 hn rfl (fun ls' hl' => kk ls' (LV.of1 hL.2 hl'))⟩
  next r => simp only [Option.some.injEq] at hS; subst hS; exact ⟨_, _, _, rfl, fun H ls locs cells slots Q hL kk => lv_astore_nN C.1 C.2.1 d hi hL.1 hn rfl (fun ls' hl' => kk ls' (LV.of1 hL.2 hl'))⟩
  all_goals cases hS
theorem sg_astore {i : Nat} (d : decode I.2.1 pc = .ok (.astore i, 2)) (hn : i < I.2.2.1) : SG E I pc (o_as i (pc + 2)) := by
  refine SG.lc fun p l e R s m args below meth c C L st h S hS => ?_
  simp only [o_as] at hS; split at hS
  next x r => simp only [Option.some.injEq] at hS; subst hS; exact ⟨_, _, _, rfl, fun H ls locs cells slots Q hL kk => lv_astore C.1 C.2.1 d hL.1 hn rfl (fun ls' hl' => kk ls' (LV.of1 hL.2 hl'))⟩
  next r => simp only [Option.some.injEq] at hS; subst hS; exact ⟨_, _, _, rfl, fun H ls locs cells slots Q hL kk => lv_astoreN C.1 C.2.1 d hL.1 hn rfl (fun ls' hl' => kk ls' (LV.of1 hL.2 hl'))⟩
  all_goals cases hS
theorem sg_iinc {i : Nat} {n : Int} {v : Int32} (d : decode I.2.1 pc = .ok (.iinc i n, 3)) (hv : Int32.ofInt n = v) (hn : i < I.2.2.1) : SG E I pc (o_inc i v (pc + 3)) := by
  refine SG.lc fun p l e R s m args below meth c C L st h S hS => ?_
  simp only [o_inc] at hS; split at hS
  next x hx =>
    simp only [Option.some.injEq] at hS; subst hS
    refine ⟨_, _, _, rfl, fun H ls locs cells slots Q hL kk => ?_⟩
    obtain ⟨k, hk⟩ := List.getElem?_of_mem ((toA_mem L 0 (i, .int x)).mpr ⟨i, by simp, hx⟩)
    exact lv_iinc C.1 C.2.1 d hL.1 hk (by rw [hv]) hn rfl (fun ls' hl' => kk ls' (LV.of1 hL.2 hl'))
  all_goals cases hS
theorem sg_iadd (d : decode I.2.1 pc = .ok (.iadd, 1)) : SG E I pc (o_iadd (pc + 1)) := by
  refine SG.mv fun p l e R s m args below meth c C L st h S hS => ?_
  simp only [o_iadd, o_b] at hS; split at hS
  next y x r => simp only [Option.some.injEq] at hS; subst hS; exact ⟨_, _, rfl, fun H ls locs cells slots Q hH hL hs k => lv_iadd C.1 C.2.1 d k⟩
  all_goals cases hS
theorem sg_isub (d : decode I.2.1 pc = .ok (.isub, 1)) : SG E I pc (o_isub (pc + 1)) := by
  refine SG.mv fun p l e R s m args below meth c C L st h S hS => ?_
  simp only [o_isub, o_b] at hS; split at hS
  next y x r => simp only [Option.some.injEq] at hS; subst hS; exact ⟨_, _, rfl, fun H ls locs cells slots Q hH hL hs k => lv_isub C.1 C.2.1 d k⟩
  all_goals cases hS
theorem sg_imul (d : decode I.2.1 pc = .ok (.imul, 1)) : SG E I pc (o_imul (pc + 1)) := by
  refine SG.mv fun p l e R s m args below meth c C L st h S hS => ?_
  simp only [o_imul, o_b] at hS; split at hS
  next y x r => simp only [Option.some.injEq] at hS; subst hS; exact ⟨_, _, rfl, fun H ls locs cells slots Q hH hL hs k => lv_imul C.1 C.2.1 d k⟩
  all_goals cases hS
theorem sg_iand (d : decode I.2.1 pc = .ok (.iand, 1)) : SG E I pc (o_iand (pc + 1)) := by
  refine SG.mv fun p l e R s m args below meth c C L st h S hS => ?_
  simp only [o_iand, o_b] at hS; split at hS
  next y x r => simp only [Option.some.injEq] at hS; subst hS; exact ⟨_, _, rfl, fun H ls locs cells slots Q hH hL hs k => lv_iand C.1 C.2.1 d k⟩
  all_goals cases hS
theorem sg_ior (d : decode I.2.1 pc = .ok (.ior, 1)) : SG E I pc (o_ior (pc + 1)) := by
  refine SG.mv fun p l e R s m args below meth c C L st h S hS => ?_
  simp only [o_ior, o_b] at hS; split at hS
  next y x r => simp only [Option.some.injEq] at hS; subst hS; exact ⟨_, _, rfl, fun H ls locs cells slots Q hH hL hs k => lv_ior C.1 C.2.1 d k⟩
  all_goals cases hS
theorem sg_ishl (d : decode I.2.1 pc = .ok (.ishl, 1)) : SG E I pc (o_ishl (pc + 1)) := by
  refine SG.mv fun p l e R s m args below meth c C L st h S hS => ?_
  simp only [o_ishl, o_b] at hS; split at hS
  next y x r => simp only [Option.some.injEq] at hS; subst hS; exact ⟨_, _, rfl, fun H ls locs cells slots Q hH hL hs k => lv_ishl C.1 C.2.1 d k⟩
  all_goals cases hS
theorem sg_ishr (d : decode I.2.1 pc = .ok (.ishr, 1)) : SG E I pc (o_ishr (pc + 1)) := by
  refine SG.mv fun p l e R s m args below meth c C L st h S hS => ?_
  simp only [o_ishr, o_b] at hS; split at hS
  next y x r => simp only [Option.some.injEq] at hS; subst hS; exact ⟨_, _, rfl, fun H ls locs cells slots Q hH hL hs k => lv_ishr C.1 C.2.1 d k⟩
  all_goals cases hS
theorem sg_ineg (d : decode I.2.1 pc = .ok (.ineg, 1)) : SG E I pc (o_ineg (pc + 1)) := by
  refine SG.mv fun p l e R s m args below meth c C L st h S hS => ?_
  simp only [o_ineg] at hS; split at hS
  next x r => simp only [Option.some.injEq] at hS; subst hS; exact ⟨_, _, rfl, fun H ls locs cells slots Q hH hL hs k => lv_ineg C.1 C.2.1 d k⟩
  all_goals cases hS
theorem sg_i2b (d : decode I.2.1 pc = .ok (.i2b, 1)) : SG E I pc (o_i2b (pc + 1)) := by
  refine SG.mv fun p l e R s m args below meth c C L st h S hS => ?_
  simp only [o_i2b] at hS; split at hS
  next x r => simp only [Option.some.injEq] at hS; subst hS; exact ⟨_, _, rfl, fun H ls locs cells slots Q hH hL hs k => lv_i2b C.1 C.2.1 d rfl k⟩
  all_goals cases hS
theorem sg_i2l (d : decode I.2.1 pc = .ok (.i2l, 1)) : SG E I pc (o_i2l (pc + 1)) := by
  refine SG.mv fun p l e R s m args below meth c C L st h S hS => ?_
  simp only [o_i2l] at hS; split at hS
  next x r => simp only [Option.some.injEq] at hS; subst hS; exact ⟨_, _, rfl, fun H ls locs cells slots Q hH hL hs k => lv_i2l C.1 C.2.1 d rfl k⟩
  all_goals cases hS
theorem sg_l2i (d : decode I.2.1 pc = .ok (.l2i, 1)) : SG E I pc (o_l2i (pc + 1)) := by
  refine SG.mv fun p l e R s m args below meth c C L st h S hS => ?_
  simp only [o_l2i] at hS; split at hS
  next x r => simp only [Option.some.injEq] at hS; subst hS; exact ⟨_, _, rfl, fun H ls locs cells slots Q hH hL hs k => lv_l2i C.1 C.2.1 d rfl k⟩
  all_goals cases hS
theorem sg_land (d : decode I.2.1 pc = .ok (.land, 1)) : SG E I pc (o_land (pc + 1)) := by
  refine SG.mv fun p l e R s m args below meth c C L st h S hS => ?_
  simp only [o_land, o_lb] at hS; split at hS
  next y x r => simp only [Option.some.injEq] at hS; subst hS; exact ⟨_, _, rfl, fun H ls locs cells slots Q hH hL hs k => lv_land C.1 C.2.1 d k⟩
  all_goals cases hS
theorem sg_lor (d : decode I.2.1 pc = .ok (.lor, 1)) : SG E I pc (o_lor (pc + 1)) := by
  refine SG.mv fun p l e R s m args below meth c C L st h S hS => ?_
  simp only [o_lor, o_lb] at hS; split at hS
  next y x r => simp only [Option.some.injEq] at hS; subst hS; exact ⟨_, _, rfl, fun H ls locs cells slots Q hH hL hs k => lv_lor C.1 C.2.1 d k⟩
  all_goals cases hS
theorem sg_lshl (d : decode I.2.1 pc = .ok (.lshl, 1)) : SG E I pc (o_lshl (pc + 1)) := by
  refine SG.mv fun p l e R s m args below meth c C L st h S hS => ?_
  simp only [o_lshl, o_lsh] at hS; split at hS
  next y x r => simp only [Option.some.injEq] at hS; subst hS; exact ⟨_, _, rfl, fun H ls locs cells slots Q hH hL hs k => lv_lshl C.1 C.2.1 d rfl k⟩
  all_goals cases hS
theorem sg_lshr (d : decode I.2.1 pc = .ok (.lshr, 1)) : SG E I pc (o_lshr (pc + 1)) := by
  refine SG.mv fun p l e R s m args below meth c C L st h S hS => ?_
  simp only [o_lshr, o_lsh] at hS; split at hS
  next y x r => simp only [Option.some.injEq] at hS; subst hS; exact ⟨_, _, rfl, fun H ls locs cells slots Q hH hL hs k => lv_lshr C.1 C.2.1 d rfl k⟩
  all_goals cases hS
theorem sg_lcmp (d : decode I.2.1 pc = .ok (.lcmp, 1)) : SG E I pc (o_lcmp (pc + 1)) := by
  refine SG.mv fun p l e R s m args below meth c C L st h S hS => ?_
  simp only [o_lcmp] at hS; split at hS
  next y x r => simp only [Option.some.injEq] at hS; subst hS; exact ⟨_, _, rfl, fun H ls locs cells slots Q hH hL hs k => W.lcmp C.1 C.2.1 d k⟩
  all_goals cases hS
theorem sg_dup (d : decode I.2.1 pc = .ok (.dup, 1)) : SG E I pc (o_dup (pc + 1)) := by
  refine SG.mv fun p l e R s m args below meth c C L st h S hS => ?_
  simp only [o_dup] at hS; split at hS
  next x r => simp only [Option.some.injEq] at hS; subst hS; exact ⟨_, _, rfl, fun H ls locs cells slots Q hH hL hs k => lv_dup C.1 C.2.1 d rfl k⟩
  next x r => simp only [Option.some.injEq] at hS; subst hS; exact ⟨_, _, rfl, fun H ls locs cells slots Q hH hL hs k => lv_dup C.1 C.2.1 d rfl k⟩
  all_goals cases hS
theorem sg_pop (d : decode I.2.1 pc = .ok (.pop, 1)) : SG E I pc (o_pop (pc + 1)) := by
  refine SG.mv fun p l e R s m args below meth c C L st h S hS => ?_
  simp only [o_pop] at hS; split at hS
  next x r => simp only [Option.some.injEq] at hS; subst hS; exact ⟨_, _, rfl, fun H ls locs cells slots Q hH hL hs k => lv_pop C.1 C.2.1 d rfl k⟩
  next x r => simp only [Option.some.injEq] at hS; subst hS; exact ⟨_, _, rfl, fun H ls locs cells slots Q hH hL hs k => lv_pop C.1 C.2.1 d rfl k⟩
  all_goals cases hS
theorem sg_ifeq {off : Int} {t : Nat} (d : decode I.2.1 pc = .ok (.ifCond .eq off, 3)) (ht : (pc : Int) + off = (t : Int)) : SG E I pc (o_ifeq t (pc + 3)) := by
  refine SG.mv fun p l e R s m args below meth c C L st h S hS => ?_
  simp only [o_ifeq, o_if] at hS; split at hS
  next x r =>
    simp only [Option.some.injEq] at hS; subst hS
    refine ⟨_, _, rfl, fun H ls locs cells slots Q hH hL hs k => lv_if_eq C.1 C.2.1 d ht (fun q => ?_) (fun q => ?_)⟩
    · simpa [q] using k
    · simpa [q] using k
  all_goals cases hS
theorem sg_ifne {off : Int} {t : Nat} (d : decode I.2.1 pc = .ok (.ifCond .ne off, 3)) (ht : (pc : Int) + off = (t : Int)) : SG E I pc (o_ifne t (pc + 3)) := by
  refine SG.mv fun p l e R s m args below meth c C L st h S hS => ?_
  simp only [o_ifne, o_if] at hS; split at hS
  next x r =>
    simp only [Option.some.injEq] at hS; subst hS
    refine ⟨_, _, rfl, fun H ls locs cells slots Q hH hL hs k => lv_if_ne C.1 C.2.1 d ht (fun q => ?_) (fun q => ?_)⟩
    · simpa [q] using k
    · simpa [q] using k
  all_goals cases hS
theorem sg_iflt {off : Int} {t : Nat} (d : decode I.2.1 pc = .ok (.ifCond .lt off, 3)) (ht : (pc : Int) + off = (t : Int)) : SG E I pc (o_iflt t (pc + 3)) := by
  refine SG.mv fun p l e R s m args below meth c C L st h S hS => ?_
  simp only [o_iflt, o_if] at hS; split at hS
  next x r =>
    simp only [Option.some.injEq] at hS; subst hS
    refine ⟨_, _, rfl, fun H ls locs cells slots Q hH hL hs k => lv_if_lt C.1 C.2.1 d ht (fun q => ?_) (fun q => ?_)⟩
    · simpa [q] using k
    · simpa [q] using k
  all_goals cases hS
theorem sg_ifge {off : Int} {t : Nat} (d : decode I.2.1 pc = .ok (.ifCond .ge off, 3)) (ht : (pc : Int) + off = (t : Int)) : SG E I pc (o_ifge t (pc + 3)) := by
  refine SG.mv fun p l e R s m args below meth c C L st h S hS => ?_
  simp only [o_ifge, o_if] at hS; split at hS
  next x r =>
    simp only [Option.some.injEq] at hS; subst hS
    refine ⟨_, _, rfl, fun H ls locs cells slots Q hH hL hs k => lv_if_ge C.1 C.2.1 d ht (fun q => ?_) (fun q => ?_)⟩
    · simpa [q] using k
    · simpa [q] using k
  all_goals cases hS
theorem sg_ifgt {off : Int} {t : Nat} (d : decode I.2.1 pc = .ok (.ifCond .gt off, 3)) (ht : (pc : Int) + off = (t : Int)) : SG E I pc (o_ifgt t (pc + 3)) := by
  refine SG.mv fun p l e R s m args below meth c C L st h S hS => ?_
  simp only [o_ifgt, o_if] at hS; split at hS
  next x r =>
    simp only [Option.some.injEq] at hS; subst hS
    refine ⟨_, _, rfl, fun H ls locs cells slots Q hH hL hs k => lv_if_gt C.1 C.2.1 d ht (fun q => ?_) (fun q => ?_)⟩
    · simpa [q] using k
    · simpa [q] using k
  all_goals cases hS
theorem sg_ifle {off : Int} {t : Nat} (d : decode I.2.1 pc = .ok (.ifCond .le off, 3)) (ht : (pc : Int) + off = (t : Int)) : SG E I pc (o_ifle t (pc + 3)) := by
  refine SG.mv fun p l e R s m args below meth c C L st h S hS => ?_
  simp only [o_ifle, o_if] at hS; split at hS
  next x r =>
    simp only [Option.some.injEq] at hS; subst hS
    refine ⟨_, _, rfl, fun H ls locs cells slots Q hH hL hs k => lv_if_le C.1 C.2.1 d ht (fun q => ?_) (fun q => ?_)⟩
    · simpa [q] using k
    · simpa [q] using k
  all_goals cases hS
theorem sg_ceq {off : Int} {t : Nat} (d : decode I.2.1 pc = .ok (.if_icmp .eq off, 3)) (ht : (pc : Int) + off = (t : Int)) : SG E I pc (o_ceq t (pc + 3)) := by
  refine SG.mv fun p l e R s m args below meth c C L st h S hS => ?_
  simp only [o_ceq, o_cmp] at hS; split at hS
  next y x r =>
    simp only [Option.some.injEq] at hS; subst hS
    refine ⟨_, _, rfl, fun H ls locs cells slots Q hH hL hs k => lv_icmp_eq C.1 C.2.1 d ht (fun q => ?_) (fun q => ?_)⟩
    · simpa [q] using k
    · simpa [q] using k
  all_goals cases hS
theorem sg_cne {off : Int} {t : Nat} (d : decode I.2.1 pc = .ok (.if_icmp .ne off, 3)) (ht : (pc : Int) + off = (t : Int)) : SG E I pc (o_cne t (pc + 3)) := by
  refine SG.mv fun p l e R s m args below meth c C L st h S hS => ?_
  simp only [o_cne, o_cmp] at hS; split at hS
  next y x r =>
    simp only [Option.some.injEq] at hS; subst hS
    refine ⟨_, _, rfl, fun H ls locs cells slots Q hH hL hs k => lv_icmp_ne C.1 C.2.1 d ht (fun q => ?_) (fun q => ?_)⟩
    · simpa [q] using k
    · simpa [q] using k
  all_goals cases hS
theorem sg_clt {off : Int} {t : Nat} (d : decode I.2.1 pc = .ok (.if_icmp .lt off, 3)) (ht : (pc : Int) + off = (t : Int)) : SG E I pc (o_clt t (pc + 3)) := by
  refine SG.mv fun p l e R s m args below meth c C L st h S hS => ?_
  simp only [o_clt, o_cmp] at hS; split at hS
  next y x r =>
    simp only [Option.some.injEq] at hS; subst hS
    refine ⟨_, _, rfl, fun H ls locs cells slots Q hH hL hs k => lv_icmp_lt C.1 C.2.1 d ht (fun q => ?_) (fun q => ?_)⟩
    · simpa [q] using k
    · simpa [q] using k
  all_goals cases hS
theorem sg_cge {off : Int} {t : Nat} (d : decode I.2.1 pc = .ok (.if_icmp .ge off, 3)) (ht : (pc : Int) + off = (t : Int)) : SG E I pc (o_cge t (pc + 3)) := by
  refine SG.mv fun p l e R s m args below meth c C L st h S hS => ?_
  simp only [o_cge, o_cmp] at hS; split at hS
  next y x r =>
    simp only [Option.some.injEq] at hS; subst hS
    refine ⟨_, _, rfl, fun H ls locs cells slots Q hH hL hs k => lv_icmp_ge C.1 C.2.1 d ht (fun q => ?_) (fun q => ?_)⟩
    · simpa [q] using k
    · simpa [q] using k
  all_goals cases hS
theorem sg_cgt {off : Int} {t : Nat} (d : decode I.2.1 pc = .ok (.if_icmp .gt off, 3)) (ht : (pc : Int) + off = (t : Int)) : SG E I pc (o_cgt t (pc + 3)) := by
  refine SG.mv fun p l e R s m args below meth c C L st h S hS => ?_
  simp only [o_cgt, o_cmp] at hS; split at hS
  next y x r =>
    simp only [Option.some.injEq] at hS; subst hS
    refine ⟨_, _, rfl, fun H ls locs cells slots Q hH hL hs k => lv_icmp_gt C.1 C.2.1 d ht (fun q => ?_) (fun q => ?_)⟩
    · simpa [q] using k
    · simpa [q] using k
  all_goals cases hS
theorem sg_cle {off : Int} {t : Nat} (d : decode I.2.1 pc = .ok (.if_icmp .le off, 3)) (ht : (pc : Int) + off = (t : Int)) : SG E I pc (o_cle t (pc + 3)) := by
  refine SG.mv fun p l e R s m args below meth c C L st h S hS => ?_
  simp only [o_cle, o_cmp] at hS; split at hS
  next y x r =>
    simp only [Option.some.injEq] at hS; subst hS
    refine ⟨_, _, rfl, fun H ls locs cells slots Q hH hL hs k => lv_icmp_le C.1 C.2.1 d ht (fun q => ?_) (fun q => ?_)⟩
    · simpa [q] using k
    · simpa [q] using k
  all_goals cases hS
theorem sg_goto {off : Int} {t : Nat} (d : decode I.2.1 pc = .ok (.goto off, 3)) (ht : (pc : Int) + off = (t : Int)) : SG E I pc (o_goto t) := by
  refine SG.mv fun p l e R s m args below meth c C L st h S hS => ?_
  simp only [o_goto, Option.some.injEq] at hS; subst hS
  exact ⟨_, _, rfl, fun H ls locs cells slots Q hH hL hs k => lv_goto C.1 C.2.1 d ht k⟩
theorem sg_ifnull {off : Int} {t : Nat} (d : decode I.2.1 pc = .ok (.ifnull off, 3)) (ht : (pc : Int) + off = (t : Int)) : SG E I pc (o_ifn t (pc + 3)) := by
  refine SG.mv fun p l e R s m args below meth c C L st h S hS => ?_
  simp only [o_ifn] at hS; split at hS
  next x r => simp only [Option.some.injEq] at hS; subst hS; exact ⟨_, _, rfl, fun H ls locs cells slots Q hH hL hs k => lv_ifnull C.1 C.2.1 d k⟩
  next r => simp only [Option.some.injEq] at hS; subst hS; exact ⟨_, _, rfl, fun H ls locs cells slots Q hH hL hs k => lv_ifnullN C.1 C.2.1 d ht k⟩
  all_goals cases hS
theorem sg_ifnonnull {off : Int} {t : Nat} (d : decode I.2.1 pc = .ok (.ifnonnull off, 3)) (ht : (pc : Int) + off = (t : Int)) : SG E I pc (o_ifnn t (pc + 3)) := by
  refine SG.mv fun p l e R s m args below meth c C L st h S hS => ?_
  simp only [o_ifnn] at hS; split at hS
  next x r => simp only [Option.some.injEq] at hS; subst hS; exact ⟨_, _, rfl, fun H ls locs cells slots Q hH hL hs k => lv_ifnonnull C.1 C.2.1 d ht k⟩
  next r => simp only [Option.some.injEq] at hS; subst hS; exact ⟨_, _, rfl, fun H ls locs cells slots Q hH hL hs k => lv_ifnonnullN C.1 C.2.1 d k⟩
  all_goals cases hS
/-- the switch by offsets, and by targets -/
theorem swp_lookup (x : Int32) (pc : Nat) : ∀ (qs : List (Int × Int)) (ps : List (Int32 × Nat)) (dflt : Int) (df : Nat), qs.length = ps.length → (∀ (k : Nat) (a : Int × Int) (b : Int32 × Nat), qs[k]? = some a → ps[k]? = some b → a.1 = b.1.toInt ∧ (pc : Int) + a.2 = (b.2 : Int)) → (pc : Int) + dflt = (df : Int) → (pc : Int) + Op.lookupswitch.offset qs dflt x.toInt = (o_swp x ps df : Int)
  | [], [], dflt, df, _, _, hd => by simpa [Op.lookupswitch.offset, o_swp] using hd
  | [], _ :: _, _, _, h, _, _ => by simp at h
  | _ :: _, [], _, _, h, _, _ => by simp at h
  | (a, oa) :: qs, (b, tb) :: ps, dflt, df, hl, hk, hd => by
    have h0 := hk 0 (a, oa) (b, tb) rfl rfl
    have ih := swp_lookup x pc qs ps dflt df (by simpa using hl) (fun k u v hu hv => hk (k + 1) u v (by simpa using hu) (by simpa using hv)) hd
    simp only [o_swp]
    by_cases e : x = b
    · subst e
      rw [Op.lookupswitch.offset_cons, if_pos (show a = x.toInt from h0.1)]
      simpa using h0.2
    · rw [lv_osw e h0.1.symm]
      simpa [e] using ih
theorem sg_lookup {dflt : Int} {qs : Array (Int × Int)} {len : Nat} {ps : List (Int32 × Nat)} {df : Nat} (d : decode I.2.1 pc = .ok (.lookupswitch dflt qs, len)) (hp : (qs.toList.zip (qs.toList.drop 1)).all (fun (a, next) => a.1 < next.1) = true) (hl : qs.toList.length = ps.length) (hk : (qs.toList.zip ps).all (fun (a, b) => decide (a.1 = b.1.toInt) && decide ((pc : Int) + a.2 = (b.2 : Int))) = true) (hd : (pc : Int) + dflt = (df : Int)) : SG E I pc (o_sw ps df) := by
  refine SG.mv fun p l e R s m args below meth c C L st h S hS => ?_
  simp only [o_sw] at hS; split at hS
  next x r =>
    simp only [Option.some.injEq] at hS; subst hS
    refine ⟨_, _, rfl, fun H ls locs cells slots Q hH hL hs k => lv_lookup C.1 C.2.1 d hp rfl (swp_lookup x pc qs.toList ps dflt df hl (fun k a b ha hb => ?_) hd) k⟩
    have hm : (a, b) ∈ qs.toList.zip ps := List.mem_of_getElem? (i := k) (by rw [List.getElem?_zip_eq_some]; exact ⟨ha, hb⟩)
    have := List.all_eq_true.mp hk _ hm
    simpa using this
  all_goals cases hS
theorem swp_at (x : Int32) : ∀ (ps : List (Int32 × Nat)) (df k : Nat) (b : Int32 × Nat), ps[k]? = some b → x = b.1 → (∀ (j : Nat) (b' : Int32 × Nat), j < k → ps[j]? = some b' → ¬ x = b'.1) → o_swp x ps df = b.2
  | [], df, k, b, h, _, _ => by simp at h
  | (u, t) :: ps, df, 0, b, h, hx, _ => by simp at h; subst h; simp [o_swp, hx]
  | (u, t) :: ps, df, k + 1, b, h, hx, hn => by
    have h0 := hn 0 (u, t) (by omega) rfl
    simp only at h0
    simp only [o_swp, h0, decide_false, cond_false]
    exact swp_at x ps df k b (by simpa using h) hx (fun j b' hj hb => hn (j + 1) b' (by omega) (by simpa using hb))
theorem swp_out (x : Int32) : ∀ (ps : List (Int32 × Nat)) (df : Nat), (∀ (j : Nat) (b' : Int32 × Nat), ps[j]? = some b' → ¬ x = b'.1) → o_swp x ps df = df
  | [], df, _ => rfl
  | (u, t) :: ps, df, hn => by
    have h0 := hn 0 (u, t) rfl
    simp only at h0
    simp only [o_swp, h0, decide_false, cond_false]
    exact swp_out x ps df (fun j b' hb => hn (j + 1) b' (by simpa using hb))
theorem sg_table {dflt lo hi : Int} {offs : Array Int} {len : Nat} {ps : List (Int32 × Nat)} {df : Nat} (d : decode I.2.1 pc = .ok (.tableswitch dflt lo hi offs, len)) (hl : offs.toList.length = ps.length) (hh : (ps.length : Int) = hi - lo + 1) (hk : ((offs.toList.zip ps).zip (List.range ps.length)).all (fun (a, k) => decide (a.2.1.toInt = lo + (k : Int)) && decide ((pc : Int) + a.1 = (a.2.2 : Int))) = true) (hd : (pc : Int) + dflt = (df : Int)) : SG E I pc (o_sw ps df) := by
  have key : ∀ (k : Nat) (b : Int32 × Nat), ps[k]? = some b → b.1.toInt = lo + (k : Int) ∧ ∃ a, offs.toList[k]? = some a ∧ (pc : Int) + a = (b.2 : Int) := by
    intro k b hb
    have hkl : k < ps.length := (List.getElem?_eq_some_iff.mp hb).1
    have ho : offs.toList[k]? = some (offs.toList[k]'(by omega)) := List.getElem?_eq_getElem (by omega)
    have hm : ((offs.toList[k]'(by omega), b), k) ∈ (offs.toList.zip ps).zip (List.range ps.length) := List.mem_of_getElem? (i := k) (by rw [List.getElem?_zip_eq_some, List.getElem?_zip_eq_some]; exact ⟨⟨ho, hb⟩, by simp [hkl]⟩)
    have := List.all_eq_true.mp hk _ hm
    simp only [Bool.and_eq_true, decide_eq_true_eq] at this
    exact ⟨this.1, _, ho, this.2⟩
  refine SG.mv fun p l e R s m args below meth c C L st h S hS => ?_
  simp only [o_sw] at hS; split at hS
  next x r =>
    simp only [Option.some.injEq] at hS; subst hS
    refine ⟨_, _, rfl, fun H ls locs cells slots Q hH hL hs k => ?_⟩
    by_cases hout : x.toInt < lo ∨ hi < x.toInt
    · have e : o_swp x ps df = df := swp_out x ps df fun j b hb hx => by
        have h1 := (key j b hb).1
        have h2 : j < ps.length := (List.getElem?_eq_some_iff.mp hb).1
        rw [← hx] at h1
        omega
      rw [e] at k
      exact lv_tableOut C.1 C.2.1 d hout hd k
    · have hj : (x.toInt - lo).toNat < ps.length := by omega
      obtain ⟨b, hb⟩ : ∃ b, ps[(x.toInt - lo).toNat]? = some b := ⟨_, List.getElem?_eq_getElem hj⟩
      obtain ⟨h1, a, h2, h3⟩ := key _ b hb
      have e : o_swp x ps df = b.2 := swp_at x ps df _ b hb (Int32.toInt_inj.mp (by omega)) fun j b' hjl hb' hx => by
        have h4 := (key j b' hb').1
        rw [← hx] at h4
        omega
      rw [e] at k
      exact lv_tableIn C.1 C.2.1 d (fun q => hout (Or.inl q)) (fun q => hout (Or.inr q)) (by rw [← Array.getElem?_toList]; exact h2) h3 k
  all_goals cases hS
end SGT
