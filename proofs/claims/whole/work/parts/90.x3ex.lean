/-! ClassPools.number: returns or throws -/
theorem dX7_number_0 : decode cX7_number 0 = .ok (.aload_n 0, 1) := by decide +kernel
theorem dX7_number_1 : decode cX7_number 1 = .ok (.iload_n 1, 1) := by decide +kernel
theorem dX7_number_2 : decode cX7_number 2 = .ok (.invokevirtual 85, 3) := by decide +kernel
theorem dX7_number_5 : decode cX7_number 5 = .ok (.astore_n 3, 1) := by decide +kernel
theorem dX7_number_6 : decode cX7_number 6 = .ok (.aload_n 3, 1) := by decide +kernel
theorem dX7_number_7 : decode cX7_number 7 = .ok (.ifnonnull 13, 3) := by decide +kernel
theorem dX7_number_10 : decode cX7_number 10 = .ok (.new 133, 3) := by decide +kernel
theorem dX7_number_13 : decode cX7_number 13 = .ok (.dup, 1) := by decide +kernel
theorem dX7_number_14 : decode cX7_number 14 = .ok (.ldc 135, 2) := by decide +kernel
theorem dX7_number_16 : decode cX7_number 16 = .ok (.invokespecial 137, 3) := by decide +kernel
theorem dX7_number_19 : decode cX7_number 19 = .ok (.athrow, 1) := by decide +kernel
theorem dX7_number_20 : decode cX7_number 20 = .ok (.aload_n 3, 1) := by decide +kernel
theorem dX7_number_21 : decode cX7_number 21 = .ok (.getfield 96, 3) := by decide +kernel
theorem dX7_number_24 : decode cX7_number 24 = .ok (.iload_n 2, 1) := by decide +kernel
theorem dX7_number_25 : decode cX7_number 25 = .ok (.invokevirtual 117, 3) := by decide +kernel
theorem dX7_number_28 : decode cX7_number 28 = .ok (.ifCond .ne 13, 3) := by decide +kernel
theorem dX7_number_31 : decode cX7_number 31 = .ok (.new 140, 3) := by decide +kernel
theorem dX7_number_34 : decode cX7_number 34 = .ok (.dup, 1) := by decide +kernel
theorem dX7_number_35 : decode cX7_number 35 = .ok (.ldc 142, 2) := by decide +kernel
theorem dX7_number_37 : decode cX7_number 37 = .ok (.invokespecial 144, 3) := by decide +kernel
theorem dX7_number_40 : decode cX7_number 40 = .ok (.athrow, 1) := by decide +kernel
theorem dX7_number_41 : decode cX7_number 41 = .ok (.aload_n 3, 1) := by decide +kernel
theorem dX7_number_42 : decode cX7_number 42 = .ok (.getfield 96, 3) := by decide +kernel
theorem dX7_number_45 : decode cX7_number 45 = .ok (.iload_n 2, 1) := by decide +kernel
theorem dX7_number_46 : decode cX7_number 46 = .ok (.invokevirtual 121, 3) := by decide +kernel
theorem dX7_number_49 : decode cX7_number 49 = .ok (.istore 4, 2) := by decide +kernel
theorem dX7_number_51 : decode cX7_number 51 = .ok (.iload 4, 2) := by decide +kernel
theorem dX7_number_53 : decode cX7_number 53 = .ok (.ifCond .ne 13, 3) := by decide +kernel
theorem dX7_number_56 : decode cX7_number 56 = .ok (.new 145, 3) := by decide +kernel
theorem dX7_number_59 : decode cX7_number 59 = .ok (.dup, 1) := by decide +kernel
theorem dX7_number_60 : decode cX7_number 60 = .ok (.ldc 147, 2) := by decide +kernel
theorem dX7_number_62 : decode cX7_number 62 = .ok (.invokespecial 149, 3) := by decide +kernel
theorem dX7_number_65 : decode cX7_number 65 = .ok (.athrow, 1) := by decide +kernel
theorem dX7_number_66 : decode cX7_number 66 = .ok (.iload 4, 2) := by decide +kernel
theorem dX7_number_68 : decode cX7_number 68 = .ok (.invokestatic 150, 3) := by decide +kernel
theorem dX7_number_71 : decode cX7_number 71 = .ok (.ifCond .ne 13, 3) := by decide +kernel
theorem dX7_number_74 : decode cX7_number 74 = .ok (.new 153, 3) := by decide +kernel
theorem dX7_number_77 : decode cX7_number 77 = .ok (.dup, 1) := by decide +kernel
theorem dX7_number_78 : decode cX7_number 78 = .ok (.ldc 155, 2) := by decide +kernel
theorem dX7_number_80 : decode cX7_number 80 = .ok (.invokespecial 157, 3) := by decide +kernel
theorem dX7_number_83 : decode cX7_number 83 = .ok (.athrow, 1) := by decide +kernel
theorem dX7_number_84 : decode cX7_number 84 = .ok (.aload_n 3, 1) := by decide +kernel
theorem dX7_number_85 : decode cX7_number 85 = .ok (.getfield 96, 3) := by decide +kernel
theorem dX7_number_88 : decode cX7_number 88 = .ok (.iload_n 2, 1) := by decide +kernel
theorem dX7_number_89 : decode cX7_number 89 = .ok (.invokevirtual 158, 3) := by decide +kernel
theorem dX7_number_92 : decode cX7_number 92 = .ok (.lreturn, 1) := by decide +kernel
theorem dL_number_0 : decode cL_number 0 = .ok (.aload_n 3, 1) := by decide +kernel
theorem dL_number_1 : decode cL_number 1 = .ok (.iconst 0, 1) := by decide +kernel
theorem dL_number_2 : decode cL_number 2 = .ok (.aload_n 0, 1) := by decide +kernel
theorem dL_number_3 : decode cL_number 3 = .ok (.iload_n 1, 1) := by decide +kernel
theorem dL_number_4 : decode cL_number 4 = .ok (.iload_n 2, 1) := by decide +kernel
theorem dL_number_5 : decode cL_number 5 = .ok (.invokevirtual 7, 3) := by decide +kernel
theorem dL_number_8 : decode cL_number 8 = .ok (.lastore, 1) := by decide +kernel
theorem dL_number_9 : decode cL_number 9 = .ok (.goto 19, 3) := by decide +kernel
theorem dL_number_12 : decode cL_number 12 = .ok (.astore 4, 2) := by decide +kernel
theorem dL_number_14 : decode cL_number 14 = .ok (.iconst 1, 1) := by decide +kernel
theorem dL_number_15 : decode cL_number 15 = .ok (.ireturn, 1) := by decide +kernel
theorem dL_number_16 : decode cL_number 16 = .ok (.astore 4, 2) := by decide +kernel
theorem dL_number_18 : decode cL_number 18 = .ok (.iconst 2, 1) := by decide +kernel
theorem dL_number_19 : decode cL_number 19 = .ok (.ireturn, 1) := by decide +kernel
theorem dL_number_20 : decode cL_number 20 = .ok (.astore 4, 2) := by decide +kernel
theorem dL_number_22 : decode cL_number 22 = .ok (.iconst 3, 1) := by decide +kernel
theorem dL_number_23 : decode cL_number 23 = .ok (.ireturn, 1) := by decide +kernel
theorem dL_number_24 : decode cL_number 24 = .ok (.astore 4, 2) := by decide +kernel
theorem dL_number_26 : decode cL_number 26 = .ok (.iconst 4, 1) := by decide +kernel
theorem dL_number_27 : decode cL_number 27 = .ok (.ireturn, 1) := by decide +kernel
theorem dL_number_28 : decode cL_number 28 = .ok (.iconst 0, 1) := by decide +kernel
theorem dL_number_29 : decode cL_number 29 = .ok (.ireturn, 1) := by decide +kernel
theorem w_24 : (Jvm.Cond.initialized "java/lang/IndexOutOfBoundsException") ∈ lwg := lwg_1 _ 24 (by decide +kernel) (by decide +kernel)
theorem w_26 : (Jvm.Cond.initialized "java/lang/NullPointerException") ∈ lwg := lwg_1 _ 26 (by decide +kernel) (by decide +kernel)
theorem w_27 : (Jvm.Cond.initialized "java/lang/ClassCastException") ∈ lwg := lwg_1 _ 27 (by decide +kernel) (by decide +kernel)
theorem w_28 : (Jvm.Cond.initialized "java/lang/IllegalArgumentException") ∈ lwg := lwg_1 _ 28 (by decide +kernel) (by decide +kernel)
theorem w_701 : (Jvm.Cond.classLink "ClassPoolsLaw" (13 : Nat) "java/lang/IllegalArgumentException") ∈ lwg := lwg_3 _ 221 (by decide +kernel) (by decide +kernel)
theorem w_702 : (Jvm.Cond.classLink "ClassPoolsLaw" (15 : Nat) "java/lang/IndexOutOfBoundsException") ∈ lwg := lwg_3 _ 222 (by decide +kernel) (by decide +kernel)
theorem w_789 : (Jvm.Cond.classLink "ClassPoolsLaw" (17 : Nat) "java/lang/NullPointerException") ∈ lwg := lwg_4 _ 69 (by decide +kernel) (by decide +kernel)
theorem w_815 : (Jvm.Cond.classLink "ClassPoolsLaw" (19 : Nat) "java/lang/ClassCastException") ∈ lwg := lwg_4 _ 95 (by decide +kernel) (by decide +kernel)
theorem w_829 : (Jvm.Cond.methodLink "ClassPoolsLaw" (7 : Nat) ({ cls := "ClassPools", name := "number", desc := "(II)J" } : Jvm.MethodName)) ∈ lwg := lwg_4 _ 109 (by decide +kernel) (by decide +kernel)
theorem w_830 : (Jvm.Cond.instanceMethod ({ cls := "ClassPools", name := "number", desc := "(II)J" } : Jvm.MethodName)) ∈ lwg := lwg_4 _ 110 (by decide +kernel) (by decide +kernel)
theorem w_831 : (Jvm.Cond.selects "ClassPools" ({ cls := "ClassPools", name := "number", desc := "(II)J" } : Jvm.MethodName) ({ cls := "ClassPools", name := "number", desc := "(II)J" } : Jvm.MethodName)) ∈ lwg := lwg_4 _ 111 (by decide +kernel) (by decide +kernel)
theorem w_833 : (Jvm.Cond.classLink "ClassPools" (133 : Nat) "java/lang/IllegalArgumentException") ∈ lwg := lwg_4 _ 113 (by decide +kernel) (by decide +kernel)
theorem w_849 : (Jvm.Cond.classLink "ClassPools" (140 : Nat) "java/lang/IndexOutOfBoundsException") ∈ lwg := lwg_4 _ 129 (by decide +kernel) (by decide +kernel)
theorem w_862 : (Jvm.Cond.classLink "ClassPools" (145 : Nat) "java/lang/NullPointerException") ∈ lwg := lwg_4 _ 142 (by decide +kernel) (by decide +kernel)
theorem w_868 : (Jvm.Cond.methodLink "ClassPools" (150 : Nat) ({ cls := "ClassPools", name := "isNumber", desc := "(I)Z" } : Jvm.MethodName)) ∈ lwg := lwg_4 _ 148 (by decide +kernel) (by decide +kernel)
theorem w_869 : (Jvm.Cond.classLink "ClassPools" (153 : Nat) "java/lang/ClassCastException") ∈ lwg := lwg_4 _ 149 (by decide +kernel) (by decide +kernel)
theorem w_872 : (Jvm.Cond.methodLink "ClassPools" (158 : Nat) ({ cls := "ClassPools$Pool", name := "bits", desc := "(I)J" } : Jvm.MethodName)) ∈ lwg := lwg_4 _ 152 (by decide +kernel) (by decide +kernel)
theorem ok_93 : cOK 93 2 := ⟨rfl, lwg_4 _ 112 (by decide +kernel) (by decide +kernel), lwg_1 _ 1 (by decide +kernel) (by decide +kernel), by decide +kernel⟩
def Al (Pq : Nat → XOp → Prop) (cd : Cd) : Prop := ∀ (pc : Nat) (o : XOp), cd pc = some o → Pq pc o
theorem Al_nd {Pq : Nat → XOp → Prop} {k : Nat} {f g : Cd} (hf : Al Pq f) (hg : Al Pq g) : Al Pq (nd k f g) := by
  intro pc o h
  simp only [nd] at h
  cases hb : Nat.blt pc k with
  | true => rw [hb] at h; exact hf pc o h
  | false => rw [hb] at h; exact hg pc o h
theorem Al_lf {Pq : Nat → XOp → Prop} {k : Nat} {o : XOp} (h : Pq k o) : Al Pq (lf k o) := by
  intro pc o' h'
  simp only [lf] at h'
  cases hb : Nat.beq pc k with
  | false => rw [hb] at h'; cases h'
  | true =>
    rw [hb] at h'
    have e : pc = k := Nat.eq_of_beq_eq_true hb
    subst e
    simp only [cond_true, Option.some.injEq] at h'
    subst h'
    exact h
/-- what comes back is a long; what is called is of low level -/
def NR (o : XOp) : Prop := (∀ (L : Ls) (st : List Value) (h : Hp) (v1 : Option Value) (h1 : Hp), o L st h = some (.inr (.inl (v1, h1))) → ∃ x : Int64, v1 = some (.long x)) ∧ ∀ (L : Ls) (st : List Value) (h : Hp) (mid : Nat) (As : List Value) (pc1 : Nat) (L1 : Ls) (st1 : List Value) (h1 : Hp), o L st h = some (.inr (.inr (mid, As, pc1, L1, st1, h1))) → lvO (mI mid).1 ≤ 8
theorem NR_mv {o : XOp} (hh : ∀ (L : Ls) (st : List Value) (h : Hp) (S : XStp), o L st h = some S → ∃ q, S = .inl q) : NR o := by
  refine ⟨fun L st h v1 h1 e => ?_, fun L st h mid As pc1 L1 st1 h1 e => ?_⟩
  · obtain ⟨_, q⟩ := hh _ _ _ _ e; cases q
  · obtain ⟨_, q⟩ := hh _ _ _ _ e; cases q
theorem NR_al {k nx : Nat} : NR (o_al k nx) := NR_mv fun L st h S e => by
  simp only [o_al] at e; (repeat' split at e) <;> first | (cases e; exact ⟨_, rfl⟩) | cases e
theorem NR_il {k nx : Nat} : NR (o_il k nx) := NR_mv fun L st h S e => by
  simp only [o_il] at e; (repeat' split at e) <;> first | (cases e; exact ⟨_, rfl⟩) | cases e
theorem NR_as {k nx : Nat} : NR (o_as k nx) := NR_mv fun L st h S e => by
  simp only [o_as] at e; (repeat' split at e) <;> first | (cases e; exact ⟨_, rfl⟩) | cases e
theorem NR_is {k nx : Nat} : NR (o_is k nx) := NR_mv fun L st h S e => by
  simp only [o_is] at e; (repeat' split at e) <;> first | (cases e; exact ⟨_, rfl⟩) | cases e
theorem NR_ifnn {k nx : Nat} : NR (o_ifnn k nx) := NR_mv fun L st h S e => by
  simp only [o_ifnn] at e; (repeat' split at e) <;> first | (cases e; exact ⟨_, rfl⟩) | cases e
theorem NR_ifne {k nx : Nat} : NR (o_ifne k nx) := NR_mv fun L st h S e => by
  simp only [o_ifne, o_if] at e; (repeat' split at e) <;> first | (cases e; exact ⟨_, rfl⟩) | cases e
theorem NR_getf {c k nx : Nat} : NR (o_getf c k nx) := NR_mv fun L st h S e => by
  simp only [o_getf, Bool.cond_eq_ite] at e; (repeat' split at e) <;> first | (cases e; exact ⟨_, rfl⟩) | cases e
theorem NR_inv {mid n nx : Nat} (hm : lvO (mI mid).1 ≤ 8) : NR (o_inv mid n nx) := by
  refine ⟨fun L st h v1 h1 e => ?_, fun L st h mid As pc1 L1 st1 h1 e => ?_⟩
  · obtain ⟨_, _, -, -, -, q⟩ := inv_inv e; cases q
  · obtain ⟨_, _, -, -, -, q⟩ := inv_inv e; cases q; exact hm
theorem NR_invV {mid ci n nx : Nat} (hm : lvO (mI mid).1 ≤ 8) : NR (o_invV mid ci n nx) := by
  refine ⟨fun L st h v1 h1 e => ?_, fun L st h mid As pc1 L1 st1 h1 e => ?_⟩
  · obtain ⟨_, _, _, _, _, -, -, -, -, q⟩ := invV_inv e; cases q
  · obtain ⟨_, _, _, _, _, -, -, -, -, q⟩ := invV_inv e; cases q; exact hm
theorem NR_lret : NR o_lret := by
  refine ⟨fun L st h v1 h1 e => ?_, fun L st h mid As pc1 L1 st1 h1 e => ?_⟩
  · simp only [o_lret, o_ret] at e; (repeat' split at e) <;> first | (cases e; exact ⟨_, rfl⟩) | cases e
  · simp only [o_lret, o_ret] at e; (repeat' split at e) <;> cases e
def thL : List (Nat × Int32 × Nat) := [(10, 1, 6), (31, 2, 6), (56, 3, 8), (74, 4, 6)]
def D93 (E : XE) (pc : Nat) (o : XOp) : Prop := (SG E (mI 93) pc o ∧ NR o) ∨ ∃ (kd : Int32) (sl : Nat), o = o_thx kd sl ∧ (pc, kd, sl) ∈ thL
set_option maxRecDepth 20000 in
theorem s93 (E : XE) : Al (D93 E) k_CP_number := (Al_nd (Al_nd (Al_nd (Al_nd (Al_lf (Or.inl ⟨sg_aload_n dX7_number_0 rfl, NR_al⟩)) (Al_nd (Al_lf (Or.inl ⟨sg_iload_n dX7_number_1 rfl, NR_il⟩)) (Al_lf (Or.inl ⟨sg_invV (mid := 105) (ci := 6) (by decide +kernel) dX7_number_2 ok_105 rfl w_429 w_431 ws_12, NR_invV (by decide +kernel)⟩)))) (Al_nd (Al_nd (Al_lf (Or.inl ⟨sg_astore_n dX7_number_5 rfl (by decide), NR_as⟩)) (Al_lf (Or.inl ⟨sg_aload_n dX7_number_6 rfl, NR_al⟩))) (Al_nd (Al_lf (Or.inl ⟨sg_ifnonnull dX7_number_7 (by decide), NR_ifnn⟩)) (Al_lf (Or.inr ⟨1, 6, rfl, by decide⟩))))) (Al_nd (Al_nd (Al_nd (Al_lf (Or.inl ⟨sg_aload_n dX7_number_20 rfl, NR_al⟩)) (Al_lf (Or.inl ⟨sg_getf dX7_number_21 rfl inX0 (by decide) w_124, NR_getf⟩))) (Al_nd (Al_lf (Or.inl ⟨sg_iload_n dX7_number_24 rfl, NR_il⟩)) (Al_lf (Or.inl ⟨sg_invV (mid := 17) (ci := 1) (by decide +kernel) dX7_number_25 ok_17 rfl w_452 w_300 w_301, NR_invV (by decide +kernel)⟩)))) (Al_nd (Al_nd (Al_lf (Or.inl ⟨sg_ifne dX7_number_28 (by decide), NR_ifne⟩)) (Al_lf (Or.inr ⟨2, 6, rfl, by decide⟩))) (Al_nd (Al_lf (Or.inl ⟨sg_aload_n dX7_number_41 rfl, NR_al⟩)) (Al_lf (Or.inl ⟨sg_getf dX7_number_42 rfl inX0 (by decide) w_124, NR_getf⟩)))))) (Al_nd (Al_nd (Al_nd (Al_lf (Or.inl ⟨sg_iload_n dX7_number_45 rfl, NR_il⟩)) (Al_nd (Al_lf (Or.inl ⟨sg_invV (mid := 22) (ci := 1) (by decide +kernel) dX7_number_46 ok_22 rfl w_453 w_374 w_375, NR_invV (by decide +kernel)⟩)) (Al_lf (Or.inl ⟨sg_istore dX7_number_49 (by decide), NR_is⟩)))) (Al_nd (Al_nd (Al_lf (Or.inl ⟨sg_iload dX7_number_51, NR_il⟩)) (Al_lf (Or.inl ⟨sg_ifne dX7_number_53 (by decide), NR_ifne⟩))) (Al_nd (Al_lf (Or.inr ⟨3, 8, rfl, by decide⟩)) (Al_lf (Or.inl ⟨sg_iload dX7_number_66, NR_il⟩))))) (Al_nd (Al_nd (Al_nd (Al_lf (Or.inl ⟨sg_inv (mid := 109) (by decide +kernel) dX7_number_68 ok_109 w_868 w_318, NR_inv (by decide +kernel)⟩)) (Al_lf (Or.inl ⟨sg_ifne dX7_number_71 (by decide), NR_ifne⟩))) (Al_nd (Al_lf (Or.inr ⟨4, 6, rfl, by decide⟩)) (Al_lf (Or.inl ⟨sg_aload_n dX7_number_84 rfl, NR_al⟩)))) (Al_nd (Al_nd (Al_lf (Or.inl ⟨sg_getf dX7_number_85 rfl inX0 (by decide) w_124, NR_getf⟩)) (Al_lf (Or.inl ⟨sg_iload_n dX7_number_88 rfl, NR_il⟩))) (Al_nd (Al_lf (Or.inl ⟨sg_invV (mid := 28) (ci := 1) (by decide +kernel) dX7_number_89 ok_28 rfl w_872 w_566 w_567, NR_invV (by decide +kernel)⟩)) (Al_lf (Or.inl ⟨sg_lret dX7_number_92 rfl, NR_lret⟩)))))))
/-- what was thrown, and the heap behind it -/
def XQ (E : XE) (v : Option Value) (h' : Hp) : String → State → State → Prop := fun C st t => (∃ k : Int32, v = some (.int k) ∧ (k = 1 ∨ k = 2 ∨ k = 3 ∨ k = 4) ∧ C = exC k) ∧ HR E h' t.heap ∧ va_F (XA E) st t
def QL (E : XE) (v : Option Value) (h' : Hp) : Array Value → State → Outcome → State → Prop := fun a st o t => QcX E v h' a st o t ∧ ∃ x : Int64, v = some (.long x)
theorem in_lwg (ws : List Cond) (h : ws.all (fun w => decide (w ∈ tables_1) && goodWord w) = true) : ∀ w ∈ ws, w ∈ lwg := by
  intro w hw
  have h1 := List.all_eq_true.mp h w hw
  simp only [Bool.and_eq_true, decide_eq_true_eq] at h1
  exact List.mem_filter.mpr ⟨List.mem_append_right _ h1.1, h1.2⟩
theorem XQ_of {E : XE} {h : Hp} {H : Heap} {s t : State} {locs : List Loc} {sl : Nat} {k : Int32} (hk : k = 1 ∨ k = 2 ∨ k = 3 ∨ k = 4) (hH : HR E h H) (hs : va_S (XA E) s.heap H locs) (h1 : t.heap.size = H.size + 1) (h2 : ∀ q : Nat, q < H.size → t.heap[q]? = H[q]?) : XQ E (some (.int k)) (hskip h 1 sl) (exC k) s t := by
  refine ⟨⟨k, rfl, hk, rfl⟩, ⟨by rw [h1, hH.1]; rfl, fun b w d hbd => ?_⟩, ?_, fun q q1 q2 => ?_⟩
  · obtain ⟨g1, g2, g3⟩ := hH.2 b w d hbd
    exact ⟨g1.kept (h2 b g1.lt), g2, g3⟩
  · have := hs.1; omega
  · rw [h2 q (Nat.lt_of_lt_of_le q1 hs.1)]; exact hs.2.1 q q1 q2
theorem in_at1 : ∀ w ∈ (vx_atS RX7 137 "java/lang/IllegalArgumentException" [exR, exX]).filter goodWord, w ∈ lwg := in_lwg _ (by decide +kernel)
theorem no_at1 : ∀ w ∈ (vx_atS RX7 137 "java/lang/IllegalArgumentException" [exR, exX]).filter (fun w => !goodWord w), w ∈ [Cond.castable "java/lang/IllegalArgumentException" "java/lang/IllegalArgumentException", Cond.declares ⟨exR, "<init>", "(Ljava/lang/String;)V"⟩, Cond.declares ⟨exX, "<init>", "(Ljava/lang/String;)V"⟩, Cond.declares ⟨exT, "<init>", "(Ljava/lang/String;)V"⟩] := by decide +kernel
theorem ot_at1 : ∀ w ∈ Cond.classLink RX7 133 "java/lang/IllegalArgumentException" :: Cond.initialized "java/lang/IllegalArgumentException" :: vx_atS RX7 137 "java/lang/IllegalArgumentException" [exR, exX], vx_ot w = true := by decide +kernel
theorem in_at2 : ∀ w ∈ (vx_atS RX7 144 "java/lang/IndexOutOfBoundsException" [exR, exX]).filter goodWord, w ∈ lwg := in_lwg _ (by decide +kernel)
theorem no_at2 : ∀ w ∈ (vx_atS RX7 144 "java/lang/IndexOutOfBoundsException" [exR, exX]).filter (fun w => !goodWord w), w ∈ [Cond.castable "java/lang/IndexOutOfBoundsException" "java/lang/IndexOutOfBoundsException", Cond.declares ⟨exR, "<init>", "(Ljava/lang/String;)V"⟩, Cond.declares ⟨exX, "<init>", "(Ljava/lang/String;)V"⟩, Cond.declares ⟨exT, "<init>", "(Ljava/lang/String;)V"⟩] := by decide +kernel
theorem ot_at2 : ∀ w ∈ Cond.classLink RX7 140 "java/lang/IndexOutOfBoundsException" :: Cond.initialized "java/lang/IndexOutOfBoundsException" :: vx_atS RX7 144 "java/lang/IndexOutOfBoundsException" [exR, exX], vx_ot w = true := by decide +kernel
theorem in_at3 : ∀ w ∈ ((npx_at RX7 149).filter vx_no).filter goodWord, w ∈ lwg := in_lwg _ (by decide +kernel)
theorem no_at3 : ∀ w ∈ ((npx_at RX7 149).filter vx_no).filter (fun w => !goodWord w), w ∈ [Cond.castable "java/lang/NullPointerException" "java/lang/NullPointerException", Cond.castable exR exT, Cond.declares ⟨exR, "<init>", "(Ljava/lang/String;)V"⟩, Cond.declares ⟨exX, "<init>", "(Ljava/lang/String;)V"⟩, Cond.declares ⟨exT, "<init>", "(Ljava/lang/String;)V"⟩] := by decide +kernel
theorem ot_at3 : ∀ w ∈ Cond.classLink RX7 145 "java/lang/NullPointerException" :: Cond.initialized "java/lang/NullPointerException" :: (npx_at RX7 149).filter vx_no, vx_ot w = true := by decide +kernel
theorem in_at4 : ∀ w ∈ (vx_atS RX7 157 "java/lang/ClassCastException" [exR, exX]).filter goodWord, w ∈ lwg := in_lwg _ (by decide +kernel)
theorem no_at4 : ∀ w ∈ (vx_atS RX7 157 "java/lang/ClassCastException" [exR, exX]).filter (fun w => !goodWord w), w ∈ [Cond.castable "java/lang/ClassCastException" "java/lang/ClassCastException", Cond.declares ⟨exR, "<init>", "(Ljava/lang/String;)V"⟩, Cond.declares ⟨exX, "<init>", "(Ljava/lang/String;)V"⟩, Cond.declares ⟨exT, "<init>", "(Ljava/lang/String;)V"⟩] := by decide +kernel
theorem ot_at4 : ∀ w ∈ Cond.classLink RX7 153 "java/lang/ClassCastException" :: Cond.initialized "java/lang/ClassCastException" :: vx_atS RX7 157 "java/lang/ClassCastException" [exR, exX], vx_ot w = true := by decide +kernel
