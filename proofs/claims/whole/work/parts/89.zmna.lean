/-! new int[2][12] -/
section MNA
variable {E : XE} {I : MI} {pc : Nat}
/-- new int[2][12] -/
theorem sg_mna {i : Nat} (d : decode I.2.1 pc = .ok (.multianewarray i 2, 4)) (hw1 : Cond.classLink I.1.cls i ("[" ++ (FieldType.array .int).toString) ∈ lwg) (hw3 : Cond.arrayClass .int ∈ lwg) : SG E I pc (o_mna (pc + 4)) := by
  intro p l e R s m args below meth c C L st h S hS H ls locs cells slots hH hL hs
  obtain ⟨hx, hb, hml, hown, hnm', hrt, hlk, hts, hK, hbs, hR⟩ := C
  simp only [o_mna] at hS; split at hS
  next k n r =>
    cases hbe : (decide (n = 2) && decide (k = 12)) with
    | false => rw [hbe] at hS; cases hS
    | true =>
      rw [hbe] at hS
      simp only [Bool.and_eq_true, decide_eq_true_eq] at hbe
      obtain ⟨rfl, rfl⟩ := hbe
      simp only [cond_true, Option.some.injEq] at hS; subst hS
      refine ⟨?_, ?_, fun Q hc1 hc2 kk => ?_⟩
      · show h.1 ≤ h.1 + 1 + 1 + 1; omega
      · show h.2.1 ≤ h.2.1 + 2 + 12 + 12; omega
      have hc1' : cells + (h.1 + 1 + 1 + 1 - h.1) ≤ R.cells := hc1
      have hc2' : slots + (h.2.1 + 2 + 12 + 12 - h.2.1) ≤ R.slots := hc2
      have n2 : (2 : Int32).toNatClampNeg = 2 := by decide
      have n12 : (12 : Int32).toNatClampNeg = 12 := by decide
      intro T hT Xs
      obtain ⟨vm₁, cA, comp, -, fA, fC, hO, -, X', step⟩ := Xs.multianewarray2F hx hown (hts _ hw1) (over_moved (Vm.Alike.refl _) (hK.2.2.2.2.2.2.2.1 .int (by simp [overA]))) (hts _ hw3) (g := F0 m pc ls (.int 12 :: .int 2 :: r)) rfl (by rw [hb]; exact d) rfl (n := 2) (k := 12) (by decide) (by decide) (by decide) (by decide) (by decide) (by decide) (by decide) (by rw [n2]; omega) (by rw [n2, n12]; omega)
      have eA : cA = E.2.2.2.2 3 := Option.some.inj (fA.symm.trans (hK.1.2 3 _ rfl).2)
      subst eA
      have eC : comp = E.2.2.2.2 1 := Option.some.inj (fC.symm.trans (hK.1.2 1 _ rfl).2)
      subst eC
      rw [n2, n12] at X' step
      generalize hF : Jvm.Free.Multi.fill (T.setVm vm₁) (E.2.2.2.2 3) (E.2.2.2.2 1) 2 12 (defaultValue .int) 2 = F at X' step
      have hTh : (T.setVm vm₁).heap = H := hT
      obtain ⟨f1, f2, -, -⟩ := Jvm.Free.Multi.fill_facts (T.setVm vm₁) (E.2.2.2.2 3) (E.2.2.2.2 1) 2 12 (defaultValue .int) 2
      rw [hF, hTh] at f1 f2
      have hold : ∀ x : Nat, x < H.size → F.heap[x]? = H[x]? := fun x hx => by
        have := Jvm.Free.Multi.fill_old (T.setVm vm₁) (E.2.2.2.2 3) (E.2.2.2.2 1) 2 12 (defaultValue .int) (a := x) (by rw [hTh]; exact hx) 2
        rw [hF, hTh] at this
        exact this
      have hrw : ∀ j : Nat, j < 2 → F.heap[H.size + 1 + j]? = some (vp_cell (E.2.2.2.2 1) (12, .inl (fun _ => 0))) := fun j hj => by
        have := Jvm.Free.Multi.fill_inner (T.setVm vm₁) (E.2.2.2.2 3) (E.2.2.2.2 1) 2 12 (defaultValue .int) 2 j hj
        rw [hF, hTh] at this
        rw [this, vp_cell_i]
        show some ({ cls := _, slots := Array.replicate 12 _, vm := .none } : Cell) = _
        rw [arrV_new]
        rfl
      have hout : F.heap[H.size]? = some (vp_cell (E.2.2.2.2 3) (2, .inr (.inr (.inr (.inr (fun i => if i < 2 then some (H.size + 1 + i) else none)))))) := by
        rw [f2]
        show some (((({ cls := E.2.2.2.2 3, slots := Array.replicate 2 .null, vm := .none } : Cell).setSlot 0 (.ref (H.size + 1 + 0))).setSlot 1 (.ref (H.size + 1 + 1)))) = _
        have e0 : ({ cls := E.2.2.2.2 3, slots := Array.replicate 2 .null, vm := .none } : Cell) = vp_cell (E.2.2.2.2 3) (2, .inr (.inr (.inr (.inr (fun _ => none))))) := by
          rw [vp_cell_q, arrV_new]; rfl
        rw [e0]
        have e1 := cell_updQ (c := E.2.2.2.2 3) (n := 2) (k := 0) (f := fun _ => none) (x := some (H.size + 1 + 0))
        have e2 := cell_updQ (c := E.2.2.2.2 3) (n := 2) (k := 1) (f := va_up (fun _ => none) 0 (some (H.size + 1 + 0))) (x := some (H.size + 1 + 1))
        have e1' : (vp_cell (E.2.2.2.2 3) (2, .inr (.inr (.inr (.inr (fun _ => none)))))).setSlot 0 (.ref (H.size + 1 + 0)) = _ := e1
        have e2' : (vp_cell (E.2.2.2.2 3) (2, .inr (.inr (.inr (.inr (va_up (fun _ => none) 0 (some (H.size + 1 + 0)))))))).setSlot 1 (.ref (H.size + 1 + 1)) = _ := e2
        rw [e1', e2']
        have ef : va_up (va_up (fun _ => none) 0 (some (H.size + 1 + 0))) 1 (some (H.size + 1 + 1)) = (fun i => if i < 2 then some (H.size + 1 + i) else none) := by
          funext i
          unfold va_up
          by_cases i1 : i = 1
          · subst i1; simp
          · by_cases i0 : i = 0
            · subst i0; simp
            · rw [if_neg i1, if_neg i0, if_neg (by omega)]
        rw [ef]
      have hHR : HR E (hrow 12 (hrow 12 (hnew h 2 (.inl (3, 2, .inr (.inr (.inr (.inr (fun i => if i < 2 then some (h.1 + 1 + i) else none))))))))) F.heap := by
        refine ⟨by rw [f1, hH.1]; rfl, fun b w d hbd => ?_⟩
        have hbs' : E.1 ≤ h.1 := by rw [← hH.1]; exact Nat.le_trans hbs hs.1
        change (if b = h.1 + 1 + 1 then some (true, (.inl (1, 12, .inl (fun _ => 0)) : Ce)) else if b = h.1 + 1 then some (true, (.inl (1, 12, .inl (fun _ => 0)) : Ce)) else if b = h.1 then some (true, (.inl (3, 2, .inr (.inr (.inr (.inr (fun i => if i < 2 then some (h.1 + 1 + i) else none))))) : Ce)) else h.2.2 b) = some (w, d) at hbd
        by_cases b2 : b = h.1 + 1 + 1
        · rw [if_pos b2] at hbd
          simp only [Option.some.injEq, Prod.mk.injEq] at hbd
          obtain ⟨rfl, rfl⟩ := hbd
          refine ⟨PaA.of (old_t _) ?_, fun _ => by omega, fun q => by cases q⟩
          show F.heap[b]? = some (vp_cell _ _)
          rw [b2, ← hH.1]
          exact hrw 1 (by decide)
        · rw [if_neg b2] at hbd
          by_cases b1 : b = h.1 + 1
          · rw [if_pos b1] at hbd
            simp only [Option.some.injEq, Prod.mk.injEq] at hbd
            obtain ⟨rfl, rfl⟩ := hbd
            refine ⟨PaA.of (old_t _) ?_, fun _ => by omega, fun q => by cases q⟩
            show F.heap[b]? = some (vp_cell _ _)
            rw [b1, ← hH.1]
            exact hrw 0 (by decide)
          · rw [if_neg b1] at hbd
            by_cases b0 : b = h.1
            · rw [if_pos b0] at hbd
              simp only [Option.some.injEq, Prod.mk.injEq] at hbd
              obtain ⟨rfl, rfl⟩ := hbd
              refine ⟨PaA.of (old_t _) ?_, fun _ => by omega, trivial⟩
              show F.heap[b]? = some (vp_cell _ _)
              rw [b0, ← hH.1]
              exact hout
            · rw [if_neg b0] at hbd
              obtain ⟨g1, g2, g3⟩ := hH.2 b w d hbd
              exact ⟨g1.kept (hold b g1.lt), g2, g3⟩
      have hSF : va_S (XA E) s.heap F.heap locs := ⟨Nat.le_trans hs.1 (by rw [f1]; omega), fun x h1 h2 => (hold x (Nat.lt_of_lt_of_le h1 hs.1)).trans (hs.2.1 x h1 h2), hs.2.2⟩
      have hcc : cells + (h.1 + 1 + 1 + 1 - h.1) = cells + 1 + 2 := by omega
      have hss : slots + (h.2.1 + 2 + 12 + 12 - h.2.1) = slots + 2 + 2 * 12 := by omega
      have K := kk F.heap ls locs hHR hL hSF
      have K' : W p l e R s m args below meth c F.heap locs (cells + 1 + 2) (slots + 2 + 2 * 12) Q (F0 m (pc + 4) ls (.ref h.1 :: r)) := by rw [← hcc, ← hss]; exact K
      obtain ⟨t, a1, b1⟩ := K' F rfl X'
      rw [← hH.1] at a1
      have hTs : T.heap.size = H.size := by rw [hT]
      rw [hTs] at step
      exact ⟨t, step t a1, b1⟩
  all_goals cases hS
end MNA
