/-! the other side: joined, meaning -/
section REFU
variable {nb sa : Nat} {m0 : Nat} {h : Hp} {s : Sg} {c : Nat}
def enI (FL : List Fl) (f i : Int32) : Nat := match fA FL f with
  | none => 0
  | some z => if i < 0 then 0 else if tg z.1 z.2.1 z.2.2.1 i.toNatClampNeg = 0 then 0 else 1
theorem tg_out {B : List Nat} {S : Nat → Nat} {n i : Nat} (h : n ≤ i) : tg B S n i = 0 := by
  have e : st S n i = 0 := if_neg (by omega)
  unfold tg
  rw [if_pos e]
theorem c_MO_isEntry (hS : MOs h m0 nb sa s c) (hG : SgG s) (f i : Int32) : ∃ h1, Ev (prog nb sa) m_MO_isEntry [.ref m0, .int f, .int i] h (some (.int (nI (enI s.2.2.1 f i)))) h1 ∧ MOs h1 m0 nb sa s 0 ∧ FX m0 h h1 0 0 := by
  obtain ⟨h1, e1, k2, k3⟩ := c_MO_isFile (nb := nb) hS hG.2.2.2.1 f
  obtain ⟨O0, J0, nw0, a0, fl0, ms0, od0, oc0, hc0⟩ := hS.cell
  refine ⟨h1, ?_, k2, k3⟩
  refine Ev_ofL k_MO_isEntry 3 [some (.ref m0), some (.int f), some (.int i)] rfl (Nat.le_of_ble_eq_true rfl) rfl ?_
  unfold enI
  rcases okF_cases s.2.2.1 f with ⟨z1, z2⟩ | ⟨k, z, rfl, hk, hk2, z3, z1, z2⟩
  · rw [z1]
    rw [z2] at e1
    refine Ex_mv rfl rfl ?_; refine Ex_mv rfl rfl ?_; refine Ex_invV rfl (by rfl) (by rfl) (by assumption) (by rfl) (e1) ?_; refine Ex_mv rfl rfl ?_; refine Ex_ift (show nI 0 = 0 from rfl) ?_; refine Ex_mv rfl rfl ?_
    exact Ex_rt rfl rfl ⟨rfl, rfl⟩
  · rw [z1]
    rw [z2] at e1
    simp only
    obtain ⟨O, J, nw, a', fl, ms, od, oc, gF, f, hc, hF1, hF2, hF⟩ := k2.file z3 hk2
    have hl6 := hG.2.2.2.1
    have hGz := hG.1 z (List.mem_of_getElem? z3)
    have hF' : HF (muM m0) h1 f (z.1, z.2) := hF
    have hlt := hF'.lt.1
    have hn61 : z.2.2.1 ≤ 61 := hGz.1.2.2.1
    have n1 := hGz.1.1.2.2.2.2.2.2.2
    obtain ⟨b5, t15, t25, t35, t75, t85, ow5, gt, ga, r1, r3, -, r4, -, wb, gb, r2⟩ := hF'.en
    have hin := c_MO_isIdx (nb := nb) (sa := sa) (h := h1) (v := i) (n := z.2.2.1) (by omega)
    rw [show nI z.2.2.1 - nI 1 = nI (z.2.2.1 - 1) from pk_sub n1] at hin
    rcases i32_cases i with hn | ⟨j, hj, rfl⟩
    · rw [if_pos hn] at hin ⊢
      refine Ex_mv rfl rfl ?_; refine Ex_mv rfl rfl ?_; refine Ex_invV rfl (by rfl) (by rfl) (by assumption) (by rfl) (e1) ?_; refine Ex_mv rfl rfl ?_; refine Ex_iff (show ¬ nI 1 = 0 by decide) ?_; refine Ex_mv rfl rfl ?_; refine Ex_mv rfl rfl ?_; refine Ex_mv rfl rfl ?_; refine Ex_getf rfl hc rfl ?_; refine Ex_mv rfl rfl ?_; refine Ex_aald rfl hF1 rfl (vp_in_nI (by omega) (by decide)) hF2 ?_; refine Ex_getf rfl r1 rfl ?_; refine Ex_mv rfl rfl ?_; (first | refine Ex_subN rfl (by omega) ?_ | refine Ex_mv rfl rfl ?_); refine Ex_inv rfl (by rfl) (by rfl) (by rfl) (hin) ?_; refine Ex_mv rfl rfl ?_; refine Ex_ift (show nI 0 = 0 from rfl) ?_; refine Ex_mv rfl rfl ?_
      exact Ex_rt rfl rfl ⟨rfl, rfl⟩
    · rw [if_neg (nI_pos hj), nI_clamp hj] at hin ⊢
      by_cases hjn : j < z.2.2.1
      · rw [if_pos hjn] at hin
        have eg : gt (nI j).toNatClampNeg = nI (tg z.1 z.2.1 z.2.2.1 j) := by rw [nI_clamp hj]; exact r4 j (by omega)
        have htl := tg_lt (S := z.2.1) (n := z.2.2.1) hlt j
        by_cases t0 : tg z.1 z.2.1 z.2.2.1 j = 0
        · rw [if_pos t0]
          rw [t0] at eg
          refine Ex_mv rfl rfl ?_; refine Ex_mv rfl rfl ?_; refine Ex_invV rfl (by rfl) (by rfl) (by assumption) (by rfl) (e1) ?_; refine Ex_mv rfl rfl ?_; refine Ex_iff (show ¬ nI 1 = 0 by decide) ?_; refine Ex_mv rfl rfl ?_; refine Ex_mv rfl rfl ?_; refine Ex_mv rfl rfl ?_; refine Ex_getf rfl hc rfl ?_; refine Ex_mv rfl rfl ?_; refine Ex_aald rfl hF1 rfl (vp_in_nI (by omega) (by decide)) hF2 ?_; refine Ex_getf rfl r1 rfl ?_; refine Ex_mv rfl rfl ?_; (first | refine Ex_subN rfl (by omega) ?_ | refine Ex_mv rfl rfl ?_); refine Ex_inv rfl (by rfl) (by rfl) (by rfl) (hin) ?_; refine Ex_mv rfl rfl ?_; refine Ex_iff (show ¬ nI 1 = 0 by decide) ?_; refine Ex_mv rfl rfl ?_; refine Ex_getf rfl hc rfl ?_; refine Ex_mv rfl rfl ?_; refine Ex_aald rfl hF1 rfl (vp_in_nI (by omega) (by decide)) hF2 ?_; refine Ex_getf rfl r1 rfl ?_; refine Ex_mv rfl rfl ?_; refine Ex_iald rfl r3 (vp_in_nI (by omega) (by decide)) ?_
          rw [eg]
          refine Ex_mv rfl rfl ?_; refine Ex_ift (show nI 0 = 0 from rfl) ?_; refine Ex_mv rfl rfl ?_
          exact Ex_rt rfl rfl ⟨rfl, rfl⟩
        · rw [if_neg t0]
          refine Ex_mv rfl rfl ?_; refine Ex_mv rfl rfl ?_; refine Ex_invV rfl (by rfl) (by rfl) (by assumption) (by rfl) (e1) ?_; refine Ex_mv rfl rfl ?_; refine Ex_iff (show ¬ nI 1 = 0 by decide) ?_; refine Ex_mv rfl rfl ?_; refine Ex_mv rfl rfl ?_; refine Ex_mv rfl rfl ?_; refine Ex_getf rfl hc rfl ?_; refine Ex_mv rfl rfl ?_; refine Ex_aald rfl hF1 rfl (vp_in_nI (by omega) (by decide)) hF2 ?_; refine Ex_getf rfl r1 rfl ?_; refine Ex_mv rfl rfl ?_; (first | refine Ex_subN rfl (by omega) ?_ | refine Ex_mv rfl rfl ?_); refine Ex_inv rfl (by rfl) (by rfl) (by rfl) (hin) ?_; refine Ex_mv rfl rfl ?_; refine Ex_iff (show ¬ nI 1 = 0 by decide) ?_; refine Ex_mv rfl rfl ?_; refine Ex_getf rfl hc rfl ?_; refine Ex_mv rfl rfl ?_; refine Ex_aald rfl hF1 rfl (vp_in_nI (by omega) (by decide)) hF2 ?_; refine Ex_getf rfl r1 rfl ?_; refine Ex_mv rfl rfl ?_; refine Ex_iald rfl r3 (vp_in_nI (by omega) (by decide)) ?_
          rw [eg]
          refine Ex_mv rfl rfl ?_; refine Ex_iff (nI_nz t0 (by omega)) ?_; refine Ex_mv rfl rfl ?_; refine Ex_mv rfl rfl ?_
          exact Ex_rt rfl rfl ⟨rfl, rfl⟩
      · rw [if_neg hjn] at hin
        rw [if_pos (tg_out (by omega))]
        refine Ex_mv rfl rfl ?_; refine Ex_mv rfl rfl ?_; refine Ex_invV rfl (by rfl) (by rfl) (by assumption) (by rfl) (e1) ?_; refine Ex_mv rfl rfl ?_; refine Ex_iff (show ¬ nI 1 = 0 by decide) ?_; refine Ex_mv rfl rfl ?_; refine Ex_mv rfl rfl ?_; refine Ex_mv rfl rfl ?_; refine Ex_getf rfl hc rfl ?_; refine Ex_mv rfl rfl ?_; refine Ex_aald rfl hF1 rfl (vp_in_nI (by omega) (by decide)) hF2 ?_; refine Ex_getf rfl r1 rfl ?_; refine Ex_mv rfl rfl ?_; (first | refine Ex_subN rfl (by omega) ?_ | refine Ex_mv rfl rfl ?_); refine Ex_inv rfl (by rfl) (by rfl) (by rfl) (hin) ?_; refine Ex_mv rfl rfl ?_; refine Ex_ift (show nI 0 = 0 from rfl) ?_; refine Ex_mv rfl rfl ?_
        exact Ex_rt rfl rfl ⟨rfl, rfl⟩
theorem muM_lt {q : Nat} (h7 : m0 + 8 ≤ h.1) (hq : muM m0 q) : q < h.1 := by simp only [muM] at hq; omega
theorem fd_lt : ∀ k, k < 200 → ¬ (-1 : Int32) < -(nI k) - nI 1 := by decide +kernel
theorem c_MO_joined (hS : MOs h m0 nb sa s c) (hG : SgG s) (f i : Int32) : EvQ (prog nb sa) m_MO_joined [.ref m0, .int f, .int i] h (fun v h' => v = some (.int (match fA s.2.2.1 f with | none => -1 | some z => q_joined z s.2.2.2.2 i)) ∧ MOs h' m0 nb sa s 0 ∧ FX m0 h h' 1 5) := by
  obtain ⟨h1, e1, k2, k3⟩ := c_MO_isEntry (nb := nb) hS hG f i
  obtain ⟨O0, J0, nw0, a0, fl0, ms0, od0, oc0, hc0⟩ := hS.cell
  have k3' : FX m0 h h1 1 5 := k3.mono (by omega) (by omega)
  refine EvQ_of k_MO_joined 3 [some (.ref m0), some (.int f), some (.int i)] rfl (Nat.le_of_ble_eq_true rfl) rfl ?_
  have bad : enI s.2.2.1 f i = 0 → (match fA s.2.2.1 f with | none => (-1 : Int32) | some z => q_joined z s.2.2.2.2 i) = -1 → Ex (prog nb sa) k_MO_joined 0 [some (.ref m0), some (.int f), some (.int i)] [] h (fun v h' => v = some (.int (match fA s.2.2.1 f with | none => -1 | some z => q_joined z s.2.2.2.2 i)) ∧ MOs h' m0 nb sa s 0 ∧ FX m0 h h' 1 5) := by
    intro q1 q2
    rw [q2]
    rw [q1] at e1
    refine Ex_mv rfl rfl ?_; refine Ex_mv rfl rfl ?_; refine Ex_mv rfl rfl ?_; refine Ex_invV rfl (by rfl) (by rfl) (by assumption) (by rfl) (e1) ?_; refine Ex_mv rfl rfl ?_; refine Ex_ift (show nI 0 = 0 from rfl) ?_; refine Ex_mv rfl rfl ?_
    refine Ex_rt rfl rfl ?_
    exact ⟨rfl, k2, k3'⟩
  rcases okF_cases s.2.2.1 f with ⟨z1, z2⟩ | ⟨k, z, rfl, hk, hk2, z3, z1, z2⟩
  · exact bad (by unfold enI; rw [z1]) (by rw [z1])
  · rcases i32_cases i with hn | ⟨j, hj, rfl⟩
    · exact bad (by unfold enI; rw [z1]; exact if_pos hn) (by rw [z1]; exact if_pos hn)
    · by_cases t0 : tg z.1 z.2.1 z.2.2.1 j = 0
      · exact bad (by unfold enI; rw [z1]; simp only; rw [if_neg (nI_pos hj), nI_clamp hj, if_pos t0]) (by rw [z1]; simp only [q_joined]; rw [if_neg (nI_pos hj), nI_clamp hj, if_pos t0])
      · have en : enI s.2.2.1 (nI k) (nI j) = 1 := by unfold enI; rw [z1]; simp only; rw [if_neg (nI_pos hj), nI_clamp hj, if_neg t0]
        rw [en] at e1
        rw [z1]
        simp only [q_joined]
        rw [if_neg (nI_pos hj), nI_clamp hj, if_neg t0]
        obtain ⟨O, J, nw, a', fl, ms, od, oc, hc, hR⟩ := id k2
        obtain ⟨⟨gF, a1, a2⟩, _, _, hML, _, _, h7, hnb, _⟩ := id hR
        obtain ⟨f, f1, f2⟩ := a2 k z z3
        have ef : gF (nI k).toNatClampNeg = some f := by rw [nI_clamp hk2]; exact f1
        have hl6 := hG.2.2.2.1
        have hGz := hG.1 z (List.mem_of_getElem? z3)
        obtain ⟨JL, gJ, m1, m2, m3, m4, m5⟩ := hML
        obtain ⟨_, h2, e2, rfl, G2, s1, s2, s3⟩ := c_MO_meaningOf (nb := nb) (sa := sa) (m0 := m0) (f := f) (B := z.1) (x := z.2) f2 hGz hnb (fun q hq => muM_lt h7 hq) (i := j) t0
        have P2 : PF (muM m0) h1 h2 := ⟨by omega, by omega, fun q hq => s3 q hq.1⟩
        have S2 := k2.grow (h' := h2) (by omega) (by omega) s3
        have FF : FX m0 h h2 1 5 := k3.tr (FX.gr (by omega) (by omega) s3 (by omega) (by omega) : FX m0 h1 h2 1 5)
        have hA2 : AR (muM m0) h2 J JL s.2.2.2.2 := ⟨gJ, P2.at m1 m2, fun j m hm => by
          obtain ⟨u, q1, q2⟩ := m5 j m hm
          exact ⟨u, q1, q2.pf P2⟩⟩
        have hso := hG.2.1
        have fd := c_MO_find (nb := nb) (sa := sa) hA2 m3 m4 G2 hso
        have hlow := lowM_le s.2.2.2.2 (mng z.1 z.2.1 z.2.2.1 j)
        have h150 := hG.2.2.2.2.2.2.2.2.1
        unfold fndM
        unfold fdI at fd
        by_cases hm : mng z.1 z.2.1 z.2.2.1 j ∈ s.2.2.2.2
        · rw [if_pos hm] at fd ⊢
          have mx : Ev (prog nb sa) m_JM_max [.int (-1), .int (nI (lowM s.2.2.2.2 (mng z.1 z.2.1 z.2.2.1 j)))] h2 (some (.int (nI (lowM s.2.2.2.2 (mng z.1 z.2.1 z.2.2.1 j))))) h2 := by
            refine Ev_ofL k_JM_max 2 [some (.int (-1)), some (.int (nI (lowM s.2.2.2.2 (mng z.1 z.2.1 z.2.2.1 j))))] rfl (Nat.le_of_ble_eq_true rfl) rfl ?_
            refine Ex_mv rfl rfl ?_; refine Ex_mv rfl rfl ?_; refine Ex_mv rfl rfl ?_; refine Ex_ift (Int32.lt_of_lt_of_le (show (-1 : Int32) < 0 by decide) (nI_pos' (by omega))) ?_; refine Ex_mv rfl rfl ?_
            exact Ex_rt rfl rfl ⟨rfl, rfl⟩
          refine Ex_mv rfl rfl ?_; refine Ex_mv rfl rfl ?_; refine Ex_mv rfl rfl ?_; refine Ex_invV rfl (by rfl) (by rfl) (by assumption) (by rfl) (e1) ?_; refine Ex_mv rfl rfl ?_; refine Ex_iff (show ¬ nI 1 = 0 by decide) ?_; refine Ex_mv rfl rfl ?_; refine Ex_mv rfl rfl ?_; refine Ex_getf rfl hc rfl ?_; refine Ex_mv rfl rfl ?_; refine Ex_getf rfl hc rfl ?_; refine Ex_mv rfl rfl ?_; refine Ex_mv rfl rfl ?_; refine Ex_getf rfl hc rfl ?_; refine Ex_mv rfl rfl ?_; refine Ex_aald rfl a1 rfl (vp_in_nI (by omega) (by decide)) ef ?_; refine Ex_mv rfl rfl ?_; refine Ex_invV rfl (by rfl) (by rfl) hc (by rfl) (e2) ?_; refine Ex_inv rfl (by rfl) (by rfl) (by rfl) (fd) ?_; refine Ex_inv rfl (by rfl) (by rfl) (by rfl) (mx) ?_; refine Ex_mv rfl rfl ?_
          refine Ex_rt rfl rfl ?_
          exact ⟨by rw [oI0], S2, FF⟩
        · rw [if_neg hm] at fd ⊢
          have mx : Ev (prog nb sa) m_JM_max [.int (-1), .int (-(nI (lowM s.2.2.2.2 (mng z.1 z.2.1 z.2.2.1 j))) - nI 1)] h2 (some (.int (-1))) h2 := by
            refine Ev_ofL k_JM_max 2 [some (.int (-1)), some (.int (-(nI (lowM s.2.2.2.2 (mng z.1 z.2.1 z.2.2.1 j))) - nI 1))] rfl (Nat.le_of_ble_eq_true rfl) rfl ?_
            refine Ex_mv rfl rfl ?_; refine Ex_mv rfl rfl ?_; refine Ex_mv rfl rfl ?_; refine Ex_iff (fd_lt _ (by omega)) ?_; refine Ex_mv rfl rfl ?_; refine Ex_mv rfl rfl ?_
            exact Ex_rt rfl rfl ⟨rfl, rfl⟩
          refine Ex_mv rfl rfl ?_; refine Ex_mv rfl rfl ?_; refine Ex_mv rfl rfl ?_; refine Ex_invV rfl (by rfl) (by rfl) (by assumption) (by rfl) (e1) ?_; refine Ex_mv rfl rfl ?_; refine Ex_iff (show ¬ nI 1 = 0 by decide) ?_; refine Ex_mv rfl rfl ?_; refine Ex_mv rfl rfl ?_; refine Ex_getf rfl hc rfl ?_; refine Ex_mv rfl rfl ?_; refine Ex_getf rfl hc rfl ?_; refine Ex_mv rfl rfl ?_; refine Ex_mv rfl rfl ?_; refine Ex_getf rfl hc rfl ?_; refine Ex_mv rfl rfl ?_; refine Ex_aald rfl a1 rfl (vp_in_nI (by omega) (by decide)) ef ?_; refine Ex_mv rfl rfl ?_; refine Ex_invV rfl (by rfl) (by rfl) hc (by rfl) (e2) ?_; refine Ex_inv rfl (by rfl) (by rfl) (by rfl) (fd) ?_; refine Ex_inv rfl (by rfl) (by rfl) (by rfl) (mx) ?_; refine Ex_mv rfl rfl ?_
          refine Ex_rt rfl rfl ?_
          exact ⟨rfl, S2, FF⟩
/-- counting, over a file's places -/
theorem MO_meaning_in {k f J JL j u : Nat} {m : Mng} {z : Fl} {gF gJ : Nat → Option Nat} {cl : List Value} {x2 : Int32} (h1c : cl[1]? = some (.ref (m0 + 1))) (h10c : cl[10]? = some (.ref J)) (hGz : GG z.1 z.2) (hk : k < 6) (hf : gF k = some f) (hu : gJ j = some u) (hj : j < 152) (hm0 : m.1 ≠ 0) {R : Option Value → Hp → Prop} : ∀ (d i a : Nat) (h : Hp), (i + d = z.2.2.1 ∨ d = 0 ∧ z.2.2.1 ≤ i) → 1 ≤ i → i < 100 → h.2.2 m0 = some (true, .inr (11, cl)) → h.2.2 (m0 + 1) = some (true, .inl (7, 6, .inr (.inr (.inr (.inr gF))))) → h.2.2 J = some (true, .inl (10, JL, .inr (.inr (.inr (.inr gJ))))) → j < JL → JL ≤ 152 → J < h.1 → m0 + 8 ≤ h.1 → HF (muM m0) h f z → BAk (muM m0) h nb [] → MGk (muM m0) h u m → (∀ (h' : Hp) (i' : Nat), h'.1 ≤ h.1 + d → h'.2.1 ≤ h.2.1 + 5 * d → h.1 ≤ h'.1 → h.2.1 ≤ h'.2.1 → (∀ q, q < h.1 → h'.2.2 q = h.2.2 q) → Ex (prog nb sa) k_MO_meaning 130 [some (.ref m0), some (.int (nI j)), some (.int x2), some (.int (nI (a + talS z.1 z.2.1 z.2.2.1 m d i))), some (.int (nI k)), some (.int (nI i'))] [] h' R) → Ex (prog nb sa) k_MO_meaning 60 [some (.ref m0), some (.int (nI j)), some (.int x2), some (.int (nI a)), some (.int (nI k)), some (.int (nI i))] [] h R
  | 0, i, a, h, hd, h1, hi, hc, hc1, hcJ, hjl, hJL, hJ1, h7, hF, hnb, hmu, K => by
    have hn : z.2.2.1 ≤ 61 := hGz.1.2.2.1
    have hF' : HF (muM m0) h f (z.1, z.2) := hF
    obtain ⟨b, t1, t2, t3, t7, t8, ow, c1, -⟩ := hF'.ow
    have ef : gF (nI k).toNatClampNeg = some f := by rw [nI_clamp (by omega)]; exact hf
    have f0 := K h i (by omega) (by omega) (Nat.le_refl _) (Nat.le_refl _) (fun _ _ => rfl)
    refine Ex_mv rfl rfl ?_; refine Ex_mv rfl rfl ?_; refine Ex_getf rfl hc h1c ?_; refine Ex_mv rfl rfl ?_
    refine Ex_aald rfl hc1 rfl (vp_in_nI (by omega) (by decide)) ef ?_
    refine Ex_getf rfl c1 rfl ?_; refine Ex_mv rfl rfl ?_; refine Ex_ift (nI_le (by omega) (by omega)) ?_
    exact f0
  | d + 1, i, a, h, hd, h1, hi, hc, hc1, hcJ, hjl, hJL, hJ1, h7, hF, hnb, hmu, K => by
    have hn : z.2.2.1 ≤ 61 := hGz.1.2.2.1
    have hF' : HF (muM m0) h f (z.1, z.2) := hF
    have hlt := hF'.lt.1
    obtain ⟨b, t1, t2, t3, t7, t8, ow, gt, gx, c1, c2, c3, c4, c5, l1, l3, lf⟩ := HFx2 hF'
    have eg : gt (nI i).toNatClampNeg = nI (tg z.1 z.2.1 z.2.2.1 i) := by rw [nI_clamp (by omega)]; exact c4 i (by omega)
    have htl := tg_lt (S := z.2.1) (n := z.2.2.1) hlt i
    have ef : gF (nI k).toNatClampNeg = some f := by rw [nI_clamp (by omega)]; exact hf
    have ej : gJ (nI j).toNatClampNeg = some u := by rw [nI_clamp (by omega)]; exact hu
    unfold talS at K
    refine Ex_mv rfl rfl ?_; refine Ex_mv rfl rfl ?_; refine Ex_getf rfl hc h1c ?_; refine Ex_mv rfl rfl ?_
    refine Ex_aald rfl hc1 rfl (vp_in_nI (by omega) (by decide)) ef ?_
    refine Ex_getf rfl c1 rfl ?_; refine Ex_mv rfl rfl ?_; refine Ex_iff (nI_ge (by omega) (by omega)) ?_
    refine Ex_mv rfl rfl ?_; refine Ex_mv rfl rfl ?_; refine Ex_getf rfl hc h1c ?_; refine Ex_mv rfl rfl ?_
    refine Ex_aald rfl hc1 rfl (vp_in_nI (by omega) (by decide)) ef ?_
    refine Ex_getf rfl c1 rfl ?_; refine Ex_mv rfl rfl ?_
    refine Ex_iald rfl c2 (vp_in_nI (by omega) (by decide)) ?_
    rw [eg]
    by_cases t0 : tg z.1 z.2.1 z.2.2.1 i = 0
    · have ne : ¬ m = mng z.1 z.2.1 z.2.2.1 i := fun e => hm0 (by rw [e]; exact t0)
      rw [if_neg ne, Nat.zero_add] at K
      have ih := MO_meaning_in (x2 := x2) h1c h10c hGz hk hf hu hj hm0 d (i + 1) a h (by omega) (by omega) (by omega) hc hc1 hcJ hjl hJL hJ1 h7 hF hnb hmu (fun h' i' z1 z2 z3 z4 z5 => K h' i' (by omega) (by omega) z3 z4 z5)
      rw [t0]
      refine Ex_mv rfl rfl ?_; refine Ex_ift (show nI 0 = 0 from rfl) ?_
      refine Ex_mv rfl rfl ?_; refine Ex_addN rfl ?_; refine Ex_mv rfl rfl ?_; refine Ex_incN rfl rfl ?_; refine Ex_mv rfl rfl ?_
      exact ih
    · refine Ex_mv rfl rfl ?_; refine Ex_iff (nI_nz t0 (by omega)) ?_
      obtain ⟨_, h2, e2, rfl, G2, s1, s2, s3⟩ := c_MO_meaningOf (nb := nb) (sa := sa) (m0 := m0) hF' hGz hnb (fun q hq => muM_lt h7 hq) (i := i) t0
      have P2 : PF (muM m0) h h2 := ⟨by omega, by omega, fun q hq => s3 q hq.1⟩
      have hcJ2 : h2.2.2 J = _ := (s3 J hJ1).trans hcJ
      have hc2 : h2.2.2 m0 = _ := (s3 m0 (by omega)).trans hc
      have cm := c_MO_compare_ (nb := nb) (sa := sa) G2 (hmu.pf P2)
      refine Ex_mv rfl rfl ?_; refine Ex_mv rfl rfl ?_; refine Ex_getf rfl hc h1c ?_; refine Ex_mv rfl rfl ?_
      refine Ex_aald rfl hc1 rfl (vp_in_nI (by omega) (by decide)) ef ?_
      refine Ex_mv rfl rfl ?_; refine Ex_invV rfl (by rfl) (by rfl) hc (by rfl) e2 ?_
      refine Ex_mv rfl rfl ?_; refine Ex_getf rfl hc2 h10c ?_; refine Ex_mv rfl rfl ?_
      refine Ex_aald rfl hcJ2 rfl (vp_in_nI (by omega) (by omega)) ej ?_
      refine Ex_inv rfl (by rfl) (by rfl) (by rfl) cm ?_
      have ih := fun a => MO_meaning_in (x2 := x2) (R := R) h1c h10c hGz hk hf hu hj hm0 d (i + 1) a h2 (by omega) (by omega) (by omega) hc2 ((s3 _ (by omega)).trans hc1) hcJ2 hjl hJL (by omega) (by omega) (hF.pf P2) (hnb.pf P2) (hmu.pf P2)
      by_cases e0 : cmpM (mng z.1 z.2.1 z.2.2.1 i) m = nI 0
      · have eqm : m = mng z.1 z.2.1 z.2.2.1 i := (cmpM_eq.mp e0).symm
        rw [if_pos eqm] at K
        refine Ex_mv rfl rfl ?_; refine Ex_iff (not_not_intro e0) ?_
        refine Ex_mv rfl rfl ?_; refine Ex_mv rfl rfl ?_; refine Ex_addN rfl ?_; refine Ex_mv rfl rfl ?_; refine Ex_incN rfl rfl ?_; refine Ex_mv rfl rfl ?_
        exact ih (a + 1) (fun h' i' z1 z2 z3 z4 z5 => by
          rw [Nat.add_assoc]
          exact K h' i' (by omega) (by omega) (by omega) (by omega) (fun q hq => (z5 q (by omega)).trans (s3 q hq)))
      · have nem : ¬ m = mng z.1 z.2.1 z.2.2.1 i := fun e => e0 (cmpM_eq.mpr e.symm)
        rw [if_neg nem, Nat.zero_add] at K
        refine Ex_mv rfl rfl ?_; refine Ex_ift e0 ?_
        refine Ex_mv rfl rfl ?_; refine Ex_addN rfl ?_; refine Ex_mv rfl rfl ?_; refine Ex_incN rfl rfl ?_; refine Ex_mv rfl rfl ?_
        exact ih a (fun h' i' z1 z2 z3 z4 z5 => K h' i' (by omega) (by omega) (by omega) (by omega) (fun q hq => (z5 q (by omega)).trans (s3 q hq)))
theorem MO_meaning_out {J JL j u : Nat} {m : Mng} {FL : List Fl} {gF gJ : Nat → Option Nat} {cl : List Value} {x2 : Int32} (h1c : cl[1]? = some (.ref (m0 + 1))) (h2c : cl[2]? = some (.int (nI FL.length))) (h10c : cl[10]? = some (.ref J)) (hG : ∀ z ∈ FL, GG z.1 z.2) (hl6 : FL.length ≤ 6) (hu : gJ j = some u) (hj : j < 152) (hm0 : m.1 ≠ 0) {R : Option Value → Hp → Prop} : ∀ (Lr : List Fl) (k a : Nat) (x5 : Option Value) (h : Hp), k + Lr.length = FL.length → FL.drop k = Lr → h.2.2 m0 = some (true, .inr (11, cl)) → h.2.2 (m0 + 1) = some (true, .inl (7, 6, .inr (.inr (.inr (.inr gF))))) → h.2.2 J = some (true, .inl (10, JL, .inr (.inr (.inr (.inr gJ))))) → j < JL → JL ≤ 152 → J < h.1 → m0 + 8 ≤ h.1 → (∀ i z, FL[i]? = some z → ∃ f, gF i = some f ∧ HF (muM m0) h f z) → BAk (muM m0) h nb [] → MGk (muM m0) h u m → (∀ (h' : Hp), h'.1 ≤ h.1 + 60 * Lr.length → h'.2.1 ≤ h.2.1 + 300 * Lr.length → h.1 ≤ h'.1 → h.2.1 ≤ h'.2.1 → (∀ q, q < h.1 → h'.2.2 q = h.2.2 q) → R (some (.int (nI (a + talA m Lr)))) h') → Ex (prog nb sa) k_MO_meaning 48 [some (.ref m0), some (.int (nI j)), some (.int x2), some (.int (nI a)), some (.int (nI k)), x5] [] h R
  | [], k, a, x5, h, hk, hd, hc, hc1, hcJ, hjl, hJL, hJ1, h7, hF, hnb, hmu, K => by
    have hk' : k = FL.length := by simpa using hk
    have f0 := K h (by omega) (by omega) (Nat.le_refl _) (Nat.le_refl _) (fun _ _ => rfl)
    refine Ex_mv rfl rfl ?_; refine Ex_mv rfl rfl ?_; refine Ex_getf rfl hc h2c ?_; refine Ex_mv rfl rfl ?_; refine Ex_ift (nI_le (by omega) (by omega)) ?_
    refine Ex_mv rfl rfl ?_
    exact Ex_rt rfl rfl f0
  | z :: Lr, k, a, x5, h, hk, hd, hc, hc1, hcJ, hjl, hJL, hJ1, h7, hF, hnb, hmu, K => by
    have hk' : k + (Lr.length + 1) = FL.length := by simpa using hk
    have hz : FL[k]? = some z := by
      have := congrArg (fun l => l[0]?) hd
      simpa [List.getElem?_drop] using this
    have hdr : FL.drop (k + 1) = Lr := by
      have e5 : FL.drop (k + 1) = (FL.drop k).drop 1 := by rw [List.drop_drop]
      rw [e5, hd]; rfl
    have hGz := hG z (List.mem_of_getElem? hz)
    have n1 := hGz.1.1.2.2.2.2.2.2.2
    have hn : z.2.2.1 ≤ 61 := hGz.1.2.2.1
    obtain ⟨f, f1, f2⟩ := hF k z hz
    unfold talA at K
    refine Ex_mv rfl rfl ?_; refine Ex_mv rfl rfl ?_; refine Ex_getf rfl hc h2c ?_; refine Ex_mv rfl rfl ?_; refine Ex_iff (nI_ge (by omega) (by omega)) ?_
    refine Ex_mv rfl rfl ?_; refine Ex_mv rfl rfl ?_
    refine MO_meaning_in h1c h10c hGz (by omega) f1 hu hj hm0 (z.2.2.1 - 1) 1 a h (by omega) (by decide) (by decide) hc hc1 hcJ hjl hJL hJ1 h7 f2 hnb hmu ?_
    intro h2 i' y1 y2 y3 y4 y5
    have P2 : PF (muM m0) h h2 := ⟨y3, y4, fun q hq => y5 q hq.1⟩
    refine Ex_incN rfl rfl ?_; refine Ex_mv rfl rfl ?_
    refine MO_meaning_out h1c h2c h10c hG hl6 hu hj hm0 Lr (k + 1) _ _ h2 (by omega) hdr ((y5 _ (by omega)).trans hc) ((y5 _ (by omega)).trans hc1) ((y5 _ hJ1).trans hcJ) hjl hJL (by omega) (by omega) (fun i z hz => by
      obtain ⟨f, q1, q2⟩ := hF i z hz
      exact ⟨f, q1, q2.pf P2⟩) (hnb.pf P2) (hmu.pf P2) ?_
    intro h3 w1 w2 w3 w4 w5
    rw [Nat.add_assoc]
    exact K h3 (by simp only [List.length_cons]; omega) (by simp only [List.length_cons]; omega) (by omega) (by omega) (fun q hq => (w5 q (by omega)).trans (y5 q hq))
theorem c_MO_meaning (hS : MOs h m0 nb sa s c) (hG : SgG s) (j w : Int32) : EvQ (prog nb sa) m_MO_meaning [.ref m0, .int j, .int w] h (fun v h' => v = some (.int (q_meaning s.2.2.1 s.2.2.2.2 j w)) ∧ MOs h' m0 nb sa s 0 ∧ FX m0 h h' 360 1800) := by
  obtain ⟨h1, k1, k2, k3⟩ := hS.code
  obtain ⟨O, J0, nw, a', fl, ms, od, oc, hc, hR⟩ := hS
  have hh := k1 _ _ _ _ _ _ _ _ hc
  obtain ⟨O', J, nw', a2', fl', ms', od', oc', hc1, hR1⟩ := id k2
  have h7 := k2.h7
  have hl6 := hG.2.2.2.1
  have h150 := hG.2.2.2.2.2.2.2.2.1
  obtain ⟨⟨gF, a1, a2⟩, _, _, hML, _, _, _, hnb, _⟩ := id hR1
  obtain ⟨JL, gJ, m1, m2, m3, m4, m5⟩ := hML
  have k3' : FX m0 h h1 360 1800 := k3.mono (by omega) (by omega)
  have hin := c_MO_isIdx (nb := nb) (sa := sa) (h := h1) (v := j) (n := s.2.2.2.2.length) (by omega)
  refine EvQ_of k_MO_meaning 6 [some (.ref m0), some (.int j), some (.int w), none, none, none] rfl (Nat.le_of_ble_eq_true rfl) rfl ?_
  refine Ex_mv rfl rfl ?_; refine Ex_mv rfl rfl ?_; refine Ex_putf rfl hc rfl rfl ?_
  have hh' : hset h m0 (.inr (11, (MOl m0 c s O J0 nw a' fl ms od oc).set 0 (.int (nI 0)))) = h1 := hh.symm
  rw [hh']
  clear hh hh'
  unfold q_meaning
  rcases i32_cases j with hn | ⟨jj, hj, rfl⟩
  · rw [if_pos hn] at hin ⊢
    refine Ex_mv rfl rfl ?_; refine Ex_mv rfl rfl ?_; refine Ex_mv rfl rfl ?_; refine Ex_getf rfl hc1 rfl ?_; refine Ex_mv rfl rfl ?_; (first | refine Ex_subN rfl (by omega) ?_ | refine Ex_mv rfl rfl ?_); refine Ex_inv rfl (by rfl) (by rfl) (by rfl) (hin) ?_; refine Ex_mv rfl rfl ?_; refine Ex_iff (not_not_intro (show nI 0 = 0 from rfl)) ?_; refine Ex_mv rfl rfl ?_
    refine Ex_rt rfl rfl ?_
    exact ⟨rfl, k2, k3'⟩
  · rw [if_neg (nI_pos hj), nI_clamp hj] at hin ⊢
    by_cases hjl : jj < s.2.2.2.2.length
    · rw [if_pos hjl] at hin
      rw [show nI s.2.2.2.2.length - nI 1 = nI (s.2.2.2.2.length - 1) from pk_sub (by omega)] at hin
      rw [List.getElem?_eq_getElem hjl]
      simp only
      obtain ⟨u, u1, u2⟩ := m5 jj _ (List.getElem?_eq_getElem hjl)
      have ej : gJ (nI jj).toNatClampNeg = some u := by rw [nI_clamp hj]; exact u1
      obtain ⟨ta, tb, tc, uc, -⟩ := id u2
      have hm0 : s.2.2.2.2[jj].1 ≠ 0 := hG.2.2.1 _ (List.getElem_mem hjl)
      by_cases w0 : w = 0
      · rw [if_pos w0]
        refine Ex_mv rfl rfl ?_; refine Ex_mv rfl rfl ?_; refine Ex_mv rfl rfl ?_; refine Ex_getf rfl hc1 rfl ?_; refine Ex_mv rfl rfl ?_; (first | refine Ex_subN rfl (by omega) ?_ | refine Ex_mv rfl rfl ?_); refine Ex_inv rfl (by rfl) (by rfl) (by rfl) (hin) ?_; refine Ex_mv rfl rfl ?_; refine Ex_ift (show ¬ nI 1 = 0 by decide) ?_; refine Ex_mv rfl rfl ?_; refine Ex_mv rfl rfl ?_; refine Ex_iff (not_not_intro w0) ?_; refine Ex_mv rfl rfl ?_; refine Ex_getf rfl hc1 rfl ?_; refine Ex_mv rfl rfl ?_; refine Ex_aald rfl m1 rfl (vp_in_nI (by omega) (by omega)) ej ?_; refine Ex_getf rfl uc rfl ?_
        refine Ex_rt rfl rfl ?_
        exact ⟨rfl, k2, k3'⟩
      · rw [if_neg w0]
        by_cases w1 : w = 1
        · rw [if_pos w1]
          have lp := MO_meaning_out (nb := nb) (sa := sa) (m0 := m0) (J := J) (JL := JL) (j := jj) (u := u) (m := s.2.2.2.2[jj]) (FL := s.2.2.1) (gF := gF) (gJ := gJ) (cl := MOl m0 0 s O' J nw' a2' fl' ms' od' oc') (x2 := w) rfl rfl rfl (fun z hz => hG.1 z hz) hl6 u1 (by omega) hm0 (R := fun v h' => v = some (.int (nI (talA s.2.2.2.2[jj] s.2.2.1))) ∧ MOs h' m0 nb sa s 0 ∧ FX m0 h h' 360 1800) s.2.2.1 0 0 none h1 (by omega) (by simp) hc1 a1 m1 (by omega) m4 m2.1 h7 a2 hnb u2 (fun h' y1 y2 y3 y4 y5 => ⟨by rw [Nat.zero_add], k2.grow y3 y4 y5, k3.tr (FX.gr y3 y4 y5 (by omega) (by omega) : FX m0 h1 h' 360 1800)⟩)
          refine Ex_mv rfl rfl ?_; refine Ex_mv rfl rfl ?_; refine Ex_mv rfl rfl ?_; refine Ex_getf rfl hc1 rfl ?_; refine Ex_mv rfl rfl ?_; (first | refine Ex_subN rfl (by omega) ?_ | refine Ex_mv rfl rfl ?_); refine Ex_inv rfl (by rfl) (by rfl) (by rfl) (hin) ?_; refine Ex_mv rfl rfl ?_; refine Ex_ift (show ¬ nI 1 = 0 by decide) ?_; refine Ex_mv rfl rfl ?_; refine Ex_mv rfl rfl ?_; refine Ex_ift w0 ?_; refine Ex_mv rfl rfl ?_; refine Ex_mv rfl rfl ?_; refine Ex_mv rfl rfl ?_; refine Ex_ift w1 ?_; refine Ex_mv rfl rfl ?_; refine Ex_mv rfl rfl ?_; refine Ex_mv rfl rfl ?_; refine Ex_mv rfl rfl ?_
          exact lp
        · rw [if_neg w1]
          refine Ex_mv rfl rfl ?_; refine Ex_mv rfl rfl ?_; refine Ex_mv rfl rfl ?_; refine Ex_getf rfl hc1 rfl ?_; refine Ex_mv rfl rfl ?_; (first | refine Ex_subN rfl (by omega) ?_ | refine Ex_mv rfl rfl ?_); refine Ex_inv rfl (by rfl) (by rfl) (by rfl) (hin) ?_; refine Ex_mv rfl rfl ?_; refine Ex_ift (show ¬ nI 1 = 0 by decide) ?_; refine Ex_mv rfl rfl ?_; refine Ex_mv rfl rfl ?_; refine Ex_ift w0 ?_; refine Ex_mv rfl rfl ?_; refine Ex_mv rfl rfl ?_; refine Ex_mv rfl rfl ?_; refine Ex_iff w1 ?_; refine Ex_mv rfl rfl ?_
          refine Ex_rt rfl rfl ?_
          exact ⟨rfl, k2, k3'⟩
    · rw [if_neg hjl] at hin
      rw [List.getElem?_eq_none (by omega)]
      refine Ex_mv rfl rfl ?_; refine Ex_mv rfl rfl ?_; refine Ex_mv rfl rfl ?_; refine Ex_getf rfl hc1 rfl ?_; refine Ex_mv rfl rfl ?_; (first | refine Ex_subN rfl (by omega) ?_ | refine Ex_mv rfl rfl ?_); refine Ex_inv rfl (by rfl) (by rfl) (by rfl) (hin) ?_; refine Ex_mv rfl rfl ?_; refine Ex_iff (not_not_intro (show nI 0 = 0 from rfl)) ?_; refine Ex_mv rfl rfl ?_
      refine Ex_rt rfl rfl ?_
      exact ⟨rfl, k2, k3'⟩
end REFU
