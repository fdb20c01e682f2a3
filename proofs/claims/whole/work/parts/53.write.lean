/-! write -/
noncomputable def wMs (z : Fl) : List Mng := (addS z.1 z.2.1 z.2.2.1 (z.2.2.1 - 1) 1 []).getD []
noncomputable def wB (z : Fl) : List Nat := sl z.1 0 8 ++ (tw2 (hpM (wMs z) (wMs z).length) ++ (((wMs z).map (eOM (wMs z))).flatten ++ outT (mvP (wMs z) z.1 z.2.1 z.2.2.1) (sTok z.1 z.2.2.2.1)))
noncomputable def q_write (z : Fl) (w : Int32) (O : List Nat) : Int32 × List Nat := if w = 0 then shw z.1 else if w = 1 then shw (wB z) else (-2, O)
section WRITE0
variable {z : Fl}
theorem wMs_ok (hG : GG z.1 z.2) : addS z.1 z.2.1 z.2.2.1 (z.2.2.1 - 1) 1 [] = some (wMs z) ∧ SoM (wMs z) ∧ (∀ j, tg z.1 z.2.1 z.2.2.1 j ≠ 0 → mng z.1 z.2.1 z.2.2.1 j ∈ wMs z) ∧ (∀ m ∈ wMs z, ∃ j, tg z.1 z.2.1 z.2.2.1 j ≠ 0 ∧ m = mng z.1 z.2.1 z.2.2.1 j) := by
  have hn : z.2.2.1 ≤ 61 := hG.1.2.2.1
  obtain ⟨M, a1, a2, a3, a4, a5⟩ := addS_some (B := z.1) (S := z.2.1) (n := z.2.2.1) (z.2.2.1 - 1) 1 [] trivial (by simp; omega)
  have e : wMs z = M := by unfold wMs; rw [a1]; rfl
  rw [e]
  refine ⟨a1, a2, fun j hj => ?_, fun m hm => ?_⟩
  · obtain ⟨h1, h2, h3, h4⟩ := tg_at rfl hj
    have hj1 : 1 ≤ j := by
      rcases Nat.eq_zero_or_pos j with q | q
      · subst q; exact absurd hG.1.1.1 h2
      · exact q
    exact a4 j hj1 (by omega) hj
  · rcases a5 m hm with q | ⟨j, q1, q2, q3, q4⟩
    · cases q
    · exact ⟨j, q3, q4⟩
theorem wP {P : List Nat} (hG : GG z.1 z.2) (hP : P.map (mng z.1 z.2.1 z.2.2.1) = wMs z) : P.Nodup ∧ (∀ i ∈ P, tg z.1 z.2.1 z.2.2.1 i ≠ 0 ∧ 1 ≤ i ∧ i < z.2.2.1) ∧ 10 + sBof z.1 z.2.1 z.2.2.1 P ≤ z.2.2.2.1 ∧ hpM (wMs z) (wMs z).length ≤ z.2.2.1 := by
  obtain ⟨a1, a2, a3, a4⟩ := wMs_ok hG
  have hnd : P.Nodup := nodup_of_map P (by rw [hP]; exact SoM_nodup _ a2)
  have hi : ∀ i ∈ P, tg z.1 z.2.1 z.2.2.1 i ≠ 0 ∧ 1 ≤ i ∧ i < z.2.2.1 := by
    intro i hi
    have hm : mng z.1 z.2.1 z.2.2.1 i ∈ wMs z := by rw [← hP]; exact List.mem_map.mpr ⟨i, hi, rfl⟩
    obtain ⟨j, j1, j2⟩ := a4 _ hm
    have ht : tg z.1 z.2.1 z.2.2.1 i ≠ 0 := by
      have := congrArg (fun m : Mng => m.1) j2
      have e : tg z.1 z.2.1 z.2.2.1 i = tg z.1 z.2.1 z.2.2.1 j := this
      rw [e]; exact j1
    obtain ⟨h1, h2, h3, h4⟩ := tg_at rfl ht
    refine ⟨ht, ?_, h1⟩
    rcases Nat.eq_zero_or_pos i with q | q
    · subst q; exact absurd hG.1.1.1 h2
    · exact q
  have hEn := hG.1.1
  obtain ⟨g0, g1, g2, g3, g4, g5, g6, g7⟩ := hEn
  refine ⟨hnd, hi, ?_, ?_⟩
  · have h1 : sBof z.1 z.2.1 z.2.2.1 P = sumF (fun i => if z.2.1 i = 0 then 0 else eSz z.1 (z.2.1 i)) P := sBof_sum P (fun i hh => by
      obtain ⟨t1, t2, t3⟩ := hi i hh
      rw [if_neg (tg_at rfl t1).2.1]
      exact (hG.sz t1).2.2)
    have h2 := sumF_le (fun i => if z.2.1 i = 0 then 0 else eSz z.1 (z.2.1 i)) (z.2.2.1 - 1) P hnd (fun i hh => by have := hi i hh; omega)
    rw [← zS_sum] at h2
    omega
  · rw [hpM_sum, ← hP]
    have h1 : ((P.map (mng z.1 z.2.1 z.2.2.1)).map (fun m => wst m.1)).sum = sumF (fun i => if z.2.1 i = 0 then 0 else wst (b1 z.1 (z.2.1 i))) P := sumF_map P (fun i hh => by
      obtain ⟨t1, t2, t3⟩ := hi i hh
      obtain ⟨q1, q2, q3, q4⟩ := tg_at rfl t1
      rw [if_neg q2, q3]; rfl)
    have h2 := sumF_le (fun i => if z.2.1 i = 0 then 0 else wst (b1 z.1 (z.2.1 i))) (z.2.2.1 - 1) P hnd (fun i hh => by have := hi i hh; omega)
    rw [← zW_sum] at h2
    rw [h1]
    omega
theorem eOs_M {P : List Nat} (hG : GG z.1 z.2) (hB : ∀ y ∈ z.1, y < 256) (M : List Mng) : (∀ i ∈ P, tg z.1 z.2.1 z.2.2.1 i ≠ 0) → eOs z.1 z.2.1 z.2.2.1 (mvP M z.1 z.2.1 z.2.2.1) P = ((P.map (mng z.1 z.2.1 z.2.2.1)).map (eOM M)).flatten := by
  induction P with
  | nil => intro _; rfl
  | cons i P ih =>
    intro h
    rw [eOs, ih (fun j hj => h j (List.mem_cons_of_mem _ hj)), eO_eq hG hB M (h i List.mem_cons_self)]
    rfl
theorem pl_pos (hG : GG z.1 z.2) {p t : Nat} (h : tg z.1 z.2.1 z.2.2.1 p = t) (ht : t ≠ 0) : 1 ≤ p ∧ p < z.2.2.1 := by
  obtain ⟨h1, h2, h3, h4⟩ := tg_at h ht
  refine ⟨?_, h1⟩
  rcases Nat.eq_zero_or_pos p with q | q
  · subst q; exact absurd hG.1.1.1 h2
  · exact q
theorem wOk_of (hG : GG z.1 z.2) {g : Nat → Int32} {mv : Nat → Nat} (hg : ∀ j, 1 ≤ j → j < z.2.2.1 → g j = nI (mv j)) {i : Nat} (ht : tg z.1 z.2.1 z.2.2.1 i ≠ 0) : wOk z.1 z.2.1 z.2.2.1 mv g i := by
  have hn : z.2.2.1 ≤ 61 := hG.1.2.2.1
  have hbl := hG.bh_le
  have hsz := hG.sz ht
  have h12 := hG.tg12 i
  refine ⟨(tg_at rfl ht).1, by omega, by omega, fun h7 => ?_, fun h9 => ?_⟩
  · have e : fst1 z.1 z.2.1 z.2.2.1 i = tw z.1 z.2.1 z.2.2.1 i 1 := if_pos h7
    rw [e]
    have : ∃ t, t ≠ 0 ∧ tg z.1 z.2.1 z.2.2.1 (tw z.1 z.2.1 z.2.2.1 i 1) = t := by
      by_cases a : tg z.1 z.2.1 z.2.2.1 i = 7 ∨ tg z.1 z.2.1 z.2.2.1 i = 8
      · exact ⟨1, by decide, (hG.p7 a).2⟩
      · by_cases b : tg z.1 z.2.1 z.2.2.1 i = 12
        · exact ⟨1, by decide, (hG.p12 b).1.2⟩
        · exact ⟨7, by decide, (hG.p9 (i := i) (by omega)).1.2⟩
    obtain ⟨t, t1, t2⟩ := this
    obtain ⟨q1, q2⟩ := pl_pos hG t2 t1
    exact ⟨by omega, hg _ q1 q2⟩
  · have e : snd1 z.1 z.2.1 z.2.2.1 i = tw z.1 z.2.1 z.2.2.1 i 3 := if_pos h9
    rw [e]
    have : ∃ t, t ≠ 0 ∧ tg z.1 z.2.1 z.2.2.1 (tw z.1 z.2.1 z.2.2.1 i 3) = t := by
      by_cases b : tg z.1 z.2.1 z.2.2.1 i = 12
      · exact ⟨1, by decide, (hG.p12 b).2.2⟩
      · exact ⟨12, by decide, (hG.p9 (i := i) (by omega)).2.2⟩
    obtain ⟨t, t1, t2⟩ := this
    obtain ⟨q1, q2⟩ := pl_pos hG t2 t1
    exact ⟨by omega, hg _ q1 q2⟩
theorem bT_pl (hG : GG z.1 z.2) {q : Nat} (hq : q ∈ (bT z.1 z.2.2.2.1).map (·.1)) : 1 ≤ b2 z.1 q ∧ b2 z.1 q < z.2.2.1 ∧ tg z.1 z.2.1 z.2.2.1 (b2 z.1 q) ≠ 0 := by
  obtain ⟨p, hp, rfl⟩ := List.mem_map.mp hq
  have hm : p ∈ z.2.2.2.2.2.2.2 := by
    rw [hG.1.2.2.2.2.2.2.2.2.2.2.2.2.2.2.2.2.2.2]
    exact List.mem_append_right _ hp
  obtain ⟨h1, h2, h3⟩ := wrg0 (hG.2.1 p hm)
  obtain ⟨q1, q2⟩ := pl_pos hG h2 h3
  exact ⟨q1, q2, by rw [h2]; exact h3⟩
end WRITE0
section WRITE
variable {nb sa : Nat} {h : Hp} {c0 : Nat} {s : Sg}
theorem c_CP_write (hS : CPs h c0 s) (hG : SgG s) (f w : Int32) : EvQ (prog nb sa) m_CP_write [.ref c0, .int f, .int w] h (fun v h' => v = some (.int (match fA s.2.2.1 f with | none => (-1, s.2.1) | some z => q_write z w s.2.1).1) ∧ CPs h' c0 (s.1, (match fA s.2.2.1 f with | none => (-1, s.2.1) | some z => q_write z w s.2.1).2, s.2.2) ∧ FC c0 h h') := by
  obtain ⟨kr, kt, hc⟩ := hS.cell
  obtain ⟨hT, hO⟩ := hS.rows
  obtain ⟨f3, hr3, -⟩ := id hO
  rcases c_CP_fileAt (nb := nb) (sa := sa) hS f with ⟨e0, e1⟩ | ⟨z, c, e0, e1, hC, h1, h2, hz⟩
  · rw [e0]
    refine EvQ_of k_CP_write 5 [some (.ref c0), some (.int f), some (.int w), none, none] rfl (Nat.le_of_ble_eq_true rfl) rfl ?_
    refine Ex_mv rfl rfl ?_; refine Ex_mv rfl rfl ?_; refine Ex_invV rfl (by rfl) (by rfl) (by assumption) (by rfl) (e1) ?_; refine Ex_mv rfl rfl ?_; refine Ex_mv rfl rfl ?_; refine Ex_mv rfl rfl ?_; refine Ex_mv rfl rfl ?_
    refine Ex_rt rfl rfl ?_
    exact ⟨rfl, hS, FC.rf⟩
  · rw [e0]
    simp only
    have hGz := hG.1 z hz
    have hcc := hC.1
    have hrow : RW h (c + 2) z.1 := CF.row hC
    have hl := hrow.len
    obtain ⟨f2, hr2, -⟩ := id hrow
    unfold q_write
    by_cases w0 : w = 0
    · rw [if_pos w0]
      obtain ⟨_, h3, e3, rfl, R3, F3⟩ := c_RW_take (nb := nb) (sa := sa) hO hrow (by omega) (k := 0) (n := z.1.length) (by omega)
      rw [show sl z.1 0 z.1.length = z.1 by simp [sl]] at R3
      refine EvQ_of k_CP_write 5 [some (.ref c0), some (.int f), some (.int w), none, none] rfl (Nat.le_of_ble_eq_true rfl) rfl ?_
      refine Ex_mv rfl rfl ?_; refine Ex_mv rfl rfl ?_; refine Ex_invV rfl (by rfl) (by rfl) (by assumption) (by rfl) (e1) ?_; refine Ex_mv rfl rfl ?_; refine Ex_mv rfl rfl ?_; refine Ex_mv rfl rfl ?_; refine Ex_mv rfl rfl ?_; refine Ex_mv rfl rfl ?_; refine Ex_iff (not_not_intro w0) ?_; refine Ex_mv rfl rfl ?_; refine Ex_getf rfl (by assumption) rfl ?_; refine Ex_mv rfl rfl ?_; refine Ex_getf rfl (by assumption) rfl ?_; refine Ex_mv rfl rfl ?_; refine Ex_mv rfl rfl ?_; refine Ex_getf rfl (by assumption) rfl ?_; refine Ex_invV rfl (by rfl) (by rfl) (by assumption) (by rfl) (c_RW_size hrow) ?_; refine Ex_invV rfl (by rfl) (by rfl) (by assumption) (by rfl) (e3) ?_
      refine Ex_rt rfl rfl ?_
      exact ⟨rfl, hS.shown R3 F3, FC.of F3 (by omega) (by omega)⟩
    · rw [if_neg w0]
      by_cases w1 : w = 1
      · rw [if_pos w1]
        obtain ⟨hkk, -, ⟨Q, pc, L, hK⟩, ⟨fw, gw, hw⟩, hre, -⟩ := hS.re hc
        obtain ⟨m1, m2, m3, m4⟩ := wMs_ok hGz
        have hn61 : z.2.2.1 ≤ 61 := hGz.1.2.2.1
        obtain ⟨_, ha, ea, rfl, Ka, Fa⟩ := c_RK_clear (nb := nb) (sa := sa) hK
        have Ca : CFs ha c z.1 z.2 := CF.fr hC Fa (by omega)
        obtain ⟨vb, hb, eb, Ab, Fb⟩ := c_RK_add (nb := nb) (sa := sa) Ka (CF.po Ca) hGz.tv (by omega) (by decide) trivial
        rw [show mgs Q [] = [] from rfl, m1] at Ab
        obtain ⟨rfl, L', Kb, hmL, -⟩ := Ab
        have Cb : CFs hb c z.1 z.2 := CF.fr Ca Fb (by omega)
        have Fab := Fa.tr Fb
        have hP : (L'.map (·.2)).map (mng z.1 z.2.1 z.2.2.1) = wMs z := by
          rw [← hmL, List.map_map]
          unfold mgs
          refine List.map_congr_left (fun o ho => ?_)
          have : o.1 = 0 := by have := (Kb.2.2.2.2.2.2.2.1 o ho).1; omega
          unfold mg upQ
          rw [this, if_pos rfl]
          rfl
        obtain ⟨w1', w2', w3', w4'⟩ := wP hGz hP
        have hlM : L'.length = (wMs z).length := by rw [← hmL, mgs_len]
        have hl61 : L'.length ≤ 61 := by
          have h5 := hpM_sum (wMs z)
          have h6 : (wMs z).length ≤ ((wMs z).map (fun m => wst m.1)).sum := by
            generalize wMs z = M
            induction M with
            | nil => exact Nat.le_refl _
            | cons m M ih => rw [List.map_cons, List.sum_cons, List.length_cons]; have := (wst_b m.1).1; omega
          omega
        obtain ⟨_, hcx, ec, rfl, Fc, f', g', Wc, hg'⟩ := c_WR_movePlaces (nb := nb) (sa := sa) hl61 Kb Cb (by omega) (by omega) (hw.fr Fab (by omega)) hGz.tv (by rw [hmL]; exact m2) (fun j hj => by rw [hmL]; exact m3 j hj)
        rw [hmL] at hg'
        have hmv : ∀ j, mvP (wMs z) z.1 z.2.1 z.2.2.1 j < 65536 := by
          intro j
          unfold mvP
          split
          · decide
          · have := hpM_mono (wMs z) (lowM (wMs z) (mng z.1 z.2.1 z.2.2.1 j)); omega
        have Cc : CFs hcx c z.1 z.2 := CF.fr Cb Fc (by omega)
        have Oc : RW hcx (c0 + 3) s.2.1 := (hO.fr Fab (by omega)).fr Fc (by omega)
        have Kc := Kb.fr Fc (by omega)
        have hInc := hGz.inc
        have hgt : ∀ q ∈ tB z.2.2.2.2.2.2.2 z.2.2.2.1, b2 z.1 q < 61 ∧ g' (b2 z.1 q) = nI (mvP (wMs z) z.1 z.2.1 z.2.2.1 (b2 z.1 q)) := by
          intro q hq
          rw [tB_eq hGz.1] at hq
          obtain ⟨q1, q2, -⟩ := bT_pl hGz hq
          exact ⟨by omega, hg' _ q1 q2⟩
        have hbh := hGz.bh_le
        obtain ⟨_, hd, ed, rfl, Rd, Fd⟩ := c_WR_push (nb := nb) (sa := sa) (pl := hpM (wMs z) (wMs z).length) (by omega) hmv (by omega) (by omega) (by omega) (by omega) hbh.1 hInc hgt Kc Wc Cc Oc (fun i hi => wOk_of hGz hg' (w2' i hi).1) w3'
        have hX : sl z.1 0 8 ++ ([hpM (wMs z) (wMs z).length / 256, hpM (wMs z) (wMs z).length % 256] ++ (eOs z.1 z.2.1 z.2.2.1 (mvP (wMs z) z.1 z.2.1 z.2.2.1) (L'.map (·.2)) ++ pR z.1 (mvP (wMs z) z.1 z.2.1 z.2.2.1) z.2.2.2.1 (tB z.2.2.2.2.2.2.2 z.2.2.2.1) (sl z.1 z.2.2.2.1 (z.1.length - z.2.2.2.1)))) = wB z := by
          unfold wB
          rw [eOs_M hGz hrow.lt (wMs z) (fun i hi => (w2' i hi).1), hP, tB_eq hGz.1]
          have := pR_out (mv := mvP (wMs z) z.1 z.2.1 z.2.2.1) (bh := z.2.2.2.1) ((bT z.1 z.2.2.2.1).map (·.1)) z.2.2.2.1 [] (bT_inc hGz.1) (Nat.le_refl _) (by simp)
          rw [List.nil_append, List.nil_append] at this
          rw [this, tok_all hGz.1]
          rfl
        have hlen : 10 + sBof z.1 z.2.1 z.2.2.1 (L'.map (·.2)) + (z.1.length - z.2.2.2.1) = (wB z).length := by
          rw [← hX]
          simp only [List.length_append, List.length_cons, List.length_nil]
          rw [sl_len (by omega), eOs_len _ (fun i hi => wOk_of hGz hg' (w2' i hi).1), pR_len, sl_len (by omega)]
          omega
        rw [hX] at Rd
        rw [hlen] at ed
        rw [hmL, hlM] at ec
        have hca := Fa.at hc (by omega)
        have hcb := Fb.at hca (by omega)
        have hcc2 := Fc.at hcb (by omega)
        have hcca := Ca.1
        have hkt0 := hK.1
        have hkta := Ka.1
        have hwb := (hw.fr Fab (by omega)).1
        have hwc := Wc.1
        have F3 : FrI (c0 + 3) (c0 + 65) h hd := ((Fab.wd (by omega) (by omega)).tr (Fc.wd (by omega) (by omega))).tr (Fd.wd (by omega) (by omega))
        have hfin : CPs hd c0 (s.1, wB z, s.2.2) := hre hd (wB z) (fun q q1 q2 q3 => by rw [Fd.2.2 q (by omega), Fc.2.2 q (by omega), Fab.2.2 q (by omega)]) Rd ⟨_, _, _, Kc.fr Fd (by omega)⟩ ⟨_, _, Wc.fr Fd (by omega)⟩
        refine EvQ_of k_CP_write 5 [some (.ref c0), some (.int f), some (.int w), none, none] rfl (Nat.le_of_ble_eq_true rfl) rfl ?_
        refine Ex_mv rfl rfl ?_; refine Ex_mv rfl rfl ?_; refine Ex_invV rfl (by rfl) (by rfl) (by assumption) (by rfl) (e1) ?_; refine Ex_mv rfl rfl ?_; refine Ex_mv rfl rfl ?_; refine Ex_mv rfl rfl ?_; refine Ex_mv rfl rfl ?_; refine Ex_mv rfl rfl ?_; refine Ex_ift w0 ?_; refine Ex_mv rfl rfl ?_; refine Ex_mv rfl rfl ?_; refine Ex_mv rfl rfl ?_; refine Ex_ift w1 ?_; refine Ex_mv rfl rfl ?_; refine Ex_getf rfl (by assumption) rfl ?_; refine Ex_invV rfl (by rfl) (by rfl) (by assumption) (by rfl) (ea) ?_; refine Ex_mv rfl rfl ?_; refine Ex_getf rfl (by assumption) rfl ?_; refine Ex_mv rfl rfl ?_; refine Ex_getf rfl (by assumption) rfl ?_; refine Ex_invV rfl (by rfl) (by rfl) (by assumption) (by rfl) (eb) ?_; refine Ex_mv rfl rfl ?_; refine Ex_mv rfl rfl ?_; refine Ex_getf rfl (by assumption) rfl ?_; refine Ex_mv rfl rfl ?_; refine Ex_mv rfl rfl ?_; refine Ex_getf rfl (by assumption) rfl ?_; refine Ex_invV rfl (by rfl) (by rfl) (by assumption) (by rfl) (ec) ?_; refine Ex_mv rfl rfl ?_; refine Ex_mv rfl rfl ?_; refine Ex_getf rfl (by assumption) rfl ?_; refine Ex_mv rfl rfl ?_; refine Ex_mv rfl rfl ?_; refine Ex_getf rfl (by assumption) rfl ?_; refine Ex_mv rfl rfl ?_; refine Ex_mv rfl rfl ?_; refine Ex_getf rfl (by assumption) rfl ?_; refine Ex_invV rfl (by rfl) (by rfl) (by assumption) (by rfl) (ed) ?_
        refine Ex_rt rfl rfl ?_
        exact ⟨rfl, hfin, FC.of F3 (by omega) (by omega)⟩
      · rw [if_neg w1]
        refine EvQ_of k_CP_write 5 [some (.ref c0), some (.int f), some (.int w), none, none] rfl (Nat.le_of_ble_eq_true rfl) rfl ?_
        refine Ex_mv rfl rfl ?_; refine Ex_mv rfl rfl ?_; refine Ex_invV rfl (by rfl) (by rfl) (by assumption) (by rfl) (e1) ?_; refine Ex_mv rfl rfl ?_; refine Ex_mv rfl rfl ?_; refine Ex_mv rfl rfl ?_; refine Ex_mv rfl rfl ?_; refine Ex_mv rfl rfl ?_; refine Ex_ift w0 ?_; refine Ex_mv rfl rfl ?_; refine Ex_mv rfl rfl ?_; refine Ex_mv rfl rfl ?_; refine Ex_iff w1 ?_; refine Ex_mv rfl rfl ?_
        refine Ex_rt rfl rfl ?_
        exact ⟨rfl, hS, FC.rf⟩
end WRITE
