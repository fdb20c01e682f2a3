/-! the other side: its state -/
/-- its own cells that change -/
abbrev muN (m0 : Nat) : Nat → Prop := fun q => q = m0 ∨ q = m0 + 1 ∨ q = m0 + 2 ∨ q = m0 + 5 ∨ q = m0 + 6
/-- and those that others change -/
abbrev muM (m0 : Nat) : Nat → Prop := fun q => q = m0 ∨ q = m0 + 1 ∨ q = m0 + 2 ∨ q = m0 + 5 ∨ q = m0 + 6 ∨ q = m0 + 7 ∨ (m0 ≤ q + 131 ∧ q < m0)
theorem muN.mu {m0 q : Nat} (h : muN m0 q) : muM m0 q := by simp only [muN, muM] at h ⊢; omega
def MGk (mu : Nat → Prop) (h : Hp) (u : Nat) (m : Mng) : Prop := ∃ ta tb tc, h.2.2 u = some (true, .inr (9, [.int (nI m.1), .long m.2.1, .ref ta, .ref tb, .ref tc])) ∧ BAk mu h ta m.2.2.1 ∧ BAk mu h tb m.2.2.2.1 ∧ BAk mu h tc m.2.2.2.2 ∧ okA mu h u ∧ m.1 < 256
theorem MGk.pf {mu : Nat → Prop} {u : Nat} {m : Mng} {h h' : Hp} (a : MGk mu h u m) (F : PF mu h h') : MGk mu h' u m := by
  obtain ⟨ta, tb, tc, h1, h2, h3, h4, h5, h6⟩ := a
  exact ⟨ta, tb, tc, F.at h1 h5, h2.pf F, h3.pf F, h4.pf F, h5.pf F, h6⟩
def MLs (mu : Nat → Prop) (h : Hp) (J : Nat) (M : List Mng) : Prop := ∃ JL gJ, h.2.2 J = some (true, .inl (10, JL, .inr (.inr (.inr (.inr gJ))))) ∧ okA mu h J ∧ M.length ≤ JL ∧ JL ≤ 152 ∧ ∀ j m, M[j]? = some m → ∃ u, gJ j = some u ∧ MGk mu h u m
theorem MLs.pf {mu : Nat → Prop} {J : Nat} {M : List Mng} {h h' : Hp} (a : MLs mu h J M) (F : PF mu h h') : MLs mu h' J M := by
  obtain ⟨JL, gJ, h1, h2, h3, h4, h5⟩ := a
  refine ⟨JL, gJ, F.at h1 h2, h2.pf F, h3, h4, fun j m e => ?_⟩
  obtain ⟨u, q1, q2⟩ := h5 j m e
  exact ⟨u, q1, q2.pf F⟩
def SAk (mu : Nat → Prop) (h : Hp) (sa : Nat) : Prop := ∃ w sv r w' g, h.2.2 sa = some (w, .inr (12, .ref sv :: .int (nI 0) :: r)) ∧ h.2.2 sv = some (w', .inl (0, 8, .inl g)) ∧ (∀ j, j < 8 → g j = nI (LB j)) ∧ okA mu h sa ∧ okA mu h sv
theorem SAk.pf {mu : Nat → Prop} {sa : Nat} {h h' : Hp} (a : SAk mu h sa) (F : PF mu h h') : SAk mu h' sa := by
  obtain ⟨w, sv, r, w', g, h1, h2, h3, h4, h5⟩ := a
  exact ⟨w, sv, r, w', g, F.at h1 h4, F.at h2 h5, h3, h4.pf F, h5.pf F⟩
theorem SAk.sa {mu : Nat → Prop} {sa : Nat} {h : Hp} (a : SAk mu h sa) : SA h sa := by
  obtain ⟨w, sv, r, w', g, h1, h2, h3, -⟩ := a
  exact ⟨w, sv, r, w', g, h1, h2, h3⟩
def MOr (h : Hp) (m0 nb sa : Nat) (s : Sg) (O J : Nat) : Prop :=
  (∃ gF, h.2.2 (m0 + 1) = some (true, .inl (7, 6, .inr (.inr (.inr (.inr gF))))) ∧ ∀ i z, s.2.2.1[i]? = some z → ∃ f, gF i = some f ∧ HF (muM m0) h f z) ∧ (∃ gT, h.2.2 (m0 + 2) = some (true, .inl (0, 400, .inl gT)) ∧ ∀ j, j < s.1.length → gT j = sb_b (s.1.getD j 0)) ∧ BAk (muM m0) h O s.2.1 ∧ MLs (muM m0) h J s.2.2.2.2 ∧ (∃ g, h.2.2 (m0 + 5) = some (true, .inl (0, 408, .inl g))) ∧ (∃ g, h.2.2 (m0 + 6) = some (true, .inl (1, 152, .inl g))) ∧ m0 + 8 ≤ h.1 ∧ BAk (muM m0) h nb [] ∧ SAk (muM m0) h sa
abbrev MOl (m0 c : Nat) (s : Sg) (O J : Nat) (nw : Value) (at' fl : Int32) (ms : Int32) (od : Value) (oc : Int32) : List Value := [.int (nI c), .ref (m0 + 1), .int (nI s.2.2.1.length), .ref (m0 + 2), .int (nI s.1.length), .ref O, nw, .int at', .int fl, .int s.2.2.2.1, .ref J, .int (nI s.2.2.2.2.length), .ref (m0 + 5), .int ms, od, .int oc, .ref (m0 + 6)]
def MOs (h : Hp) (m0 nb sa : Nat) (s : Sg) (c : Nat) : Prop := ∃ O J nw a' fl ms od oc, h.2.2 m0 = some (true, .inr (11, MOl m0 c s O J nw a' fl ms od oc)) ∧ MOr h m0 nb sa s O J
theorem MOr.eq {h h' : Hp} {m0 nb sa O J : Nat} {s : Sg} (hR : MOr h m0 nb sa s O J) (F : PF (muM m0) h h') (e1 : h'.2.2 (m0 + 1) = h.2.2 (m0 + 1)) (e2 : h'.2.2 (m0 + 2) = h.2.2 (m0 + 2)) (e5 : h'.2.2 (m0 + 5) = h.2.2 (m0 + 5)) (e6 : h'.2.2 (m0 + 6) = h.2.2 (m0 + 6)) : MOr h' m0 nb sa s O J := by
  obtain ⟨⟨gF, a1, a2⟩, ⟨gT, b1, b2⟩, c, d, ⟨g5, e⟩, ⟨g6, f⟩, g, i, j⟩ := hR
  refine ⟨⟨gF, e1.trans a1, fun i z hz => ?_⟩, ⟨gT, e2.trans b1, b2⟩, c.pf F, d.pf F, ⟨g5, e5.trans e⟩, ⟨g6, e6.trans f⟩, Nat.le_trans g F.1, i.pf F, j.pf F⟩
  obtain ⟨f, q1, q2⟩ := a2 i z hz
  exact ⟨f, q1, q2.pf F⟩
theorem MOr.m0 {h : Hp} {m0 nb sa O J : Nat} {s : Sg} {c : Ce} (hR : MOr h m0 nb sa s O J) : MOr (hset h m0 c) m0 nb sa s O J := hR.eq (PF.rf.set (Or.inl rfl)) (if_neg (by omega)) (if_neg (by omega)) (if_neg (by omega)) (if_neg (by omega))
theorem MOr.sh {h : Hp} {m0 nb sa O J O' : Nat} {s : Sg} {T' : List Nat} (hR : MOr h m0 nb sa s O J) (hO : BAk (muM m0) h O' T') : MOr h m0 nb sa (s.1, T', s.2.2) O' J := by
  obtain ⟨a, b, c, d⟩ := hR
  exact ⟨a, b, hO, d⟩
theorem MOr.pl {h : Hp} {m0 nb sa O J : Nat} {s : Sg} {w : Int32} (hR : MOr h m0 nb sa s O J) : MOr h m0 nb sa (s.1, s.2.1, s.2.2.1, w, s.2.2.2.2) O J := hR
/-- what a call may change, and make -/
def LO (m0 : Nat) (h h' : Hp) : Prop := ∀ q, q < h.1 → (q < m0 ∨ q = m0 + 7) → h'.2.2 q = h.2.2 q
def FX (m0 : Nat) (h h' : Hp) (c s : Nat) : Prop := (PF (muM m0) h h' ∧ LO m0 h h') ∧ h'.1 ≤ h.1 + c ∧ h'.2.1 ≤ h.2.1 + s
theorem FX.tr {m0 c s c' s' : Nat} {h h1 h2 : Hp} (u : FX m0 h h1 c s) (v : FX m0 h1 h2 c' s') : FX m0 h h2 (c + c') (s + s') := ⟨⟨u.1.1.tr v.1.1, fun q h1 h2 => (v.1.2 q (Nat.lt_of_lt_of_le h1 u.1.1.1) h2).trans (u.1.2 q h1 h2)⟩, by have := u.2.1; have := v.2.1; omega, by have := u.2.2; have := v.2.2; omega⟩
theorem FX.mono {m0 c s c' s' : Nat} {h h1 : Hp} (u : FX m0 h h1 c s) (h1' : c ≤ c') (h2 : s ≤ s') : FX m0 h h1 c' s' := ⟨u.1, by have := u.2.1; omega, by have := u.2.2; omega⟩
theorem FX.rf {m0 : Nat} {h : Hp} : FX m0 h h 0 0 := ⟨⟨PF.rf, fun _ _ _ => rfl⟩, by omega, by omega⟩
theorem FX.set {m0 q n k : Nat} {h h1 : Hp} {c : Ce} (u : FX m0 h h1 n k) (hq : muN m0 q) : FX m0 h (hset h1 q c) n k := ⟨⟨u.1.1.set hq.mu, fun p h1 h2 => (if_neg (fun e => by simp only [muN] at hq; omega)).trans (u.1.2 p h1 h2)⟩, u.2.1, u.2.2⟩
theorem FX.m {m0 : Nat} {h : Hp} {c : Ce} : FX m0 h (hset h m0 c) 0 0 := FX.rf.set (Or.inl rfl)
theorem FX.gr {m0 c s : Nat} {h h' : Hp} (h1 : h.1 ≤ h'.1) (h2 : h.2.1 ≤ h'.2.1) (h3 : ∀ q, q < h.1 → h'.2.2 q = h.2.2 q) (h4 : h'.1 ≤ h.1 + c) (h5 : h'.2.1 ≤ h.2.1 + s) : FX m0 h h' c s := ⟨⟨⟨h1, h2, fun q hq => h3 q hq.1⟩, fun q hq _ => h3 q hq⟩, h4, h5⟩
def okF (FL : List Fl) (i : Int32) : Nat := if i < 0 then 0 else if i.toNatClampNeg < FL.length then 1 else 0
theorem okF_cases (FL : List Fl) (i : Int32) : (fA FL i = none ∧ okF FL i = 0) ∨ ∃ k z, i = nI k ∧ k < FL.length ∧ k < 2 ^ 31 ∧ FL[k]? = some z ∧ fA FL i = some z ∧ okF FL i = 1 := by
  rcases i32_cases i with hn | ⟨k, hk, rfl⟩
  · exact Or.inl ⟨if_pos hn, if_pos hn⟩
  · rw [fA_nI hk]
    unfold okF
    rw [if_neg (nI_pos hk), nI_clamp hk]
    by_cases hkl : k < FL.length
    · exact Or.inr ⟨k, FL[k], rfl, hkl, hk, List.getElem?_eq_getElem hkl, List.getElem?_eq_getElem hkl, if_pos hkl⟩
    · exact Or.inl ⟨List.getElem?_eq_none (by omega), if_neg hkl⟩
section REFH
variable {nb sa : Nat} {h : Hp} {m0 : Nat} {s : Sg} {c : Nat}
theorem MOs.code (hS : MOs h m0 nb sa s c) : ∃ h1, (∀ O J nw a' fl ms od oc, h.2.2 m0 = some (true, .inr (11, MOl m0 c s O J nw a' fl ms od oc)) → h1 = hset h m0 (.inr (11, MOl m0 0 s O J nw a' fl ms od oc))) ∧ MOs h1 m0 nb sa s 0 ∧ FX m0 h h1 0 0 := by
  obtain ⟨O, J, nw, a', fl, ms, od, oc, h1, h2⟩ := hS
  refine ⟨_, fun O' J' nw' a'' fl' ms' od' oc' e => ?_, ⟨O, J, nw, a', fl, ms, od, oc, hs_at, h2.m0⟩, FX.m⟩
  rw [h1] at e
  simp only [Option.some.injEq, Prod.mk.injEq, Sum.inr.injEq, true_and, List.cons.injEq, Value.int.injEq, Value.ref.injEq, and_true] at e
  obtain ⟨y0, y1, y2, y3, y4, y5, y6, y7⟩ := e
  rw [y0, y1, y2, y3, y4, y5, y6, y7]
theorem c_MO_isFile (hS : MOs h m0 nb sa s c) (hl : s.2.2.1.length ≤ 6) (i : Int32) : ∃ h1, Ev (prog nb sa) m_MO_isFile [.ref m0, .int i] h (some (.int (nI (okF s.2.2.1 i)))) h1 ∧ MOs h1 m0 nb sa s 0 ∧ FX m0 h h1 0 0 := by
  obtain ⟨h1, k1, k2, k3⟩ := hS.code
  obtain ⟨O, J, nw, a', fl, ms, od, oc, hc, hR⟩ := hS
  have := k1 _ _ _ _ _ _ _ _ hc
  subst this
  refine ⟨_, ?_, k2, k3⟩
  have hin := c_MO_isIdx (nb := nb) (sa := sa) (h := hset h m0 (.inr (11, MOl m0 0 s O J nw a' fl ms od oc))) (v := i) (n := s.2.2.1.length) (by omega)
  change Ev _ _ _ _ (some (.int (nI (okF s.2.2.1 i)))) _ at hin
  have h01 : okF s.2.2.1 i = 0 ∨ okF s.2.2.1 i = 1 := by
    rcases okF_cases s.2.2.1 i with ⟨_, z⟩ | ⟨_, _, _, _, _, _, _, z⟩
    · exact Or.inl z
    · exact Or.inr z
  refine Ev_ofL k_MO_isFile 2 [some (.ref m0), some (.int i)] rfl (Nat.le_of_ble_eq_true rfl) rfl ?_
  rcases h01 with z | z
  · rw [z] at hin ⊢
    refine Ex_mv rfl rfl ?_; refine Ex_mv rfl rfl ?_; refine Ex_putf rfl hc rfl rfl ?_; refine Ex_mv rfl rfl ?_; refine Ex_mv rfl rfl ?_; refine Ex_mv rfl rfl ?_; refine Ex_getf rfl hs_at rfl ?_; refine Ex_mv rfl rfl ?_; (first | refine Ex_subN rfl (by omega) ?_ | refine Ex_mv rfl rfl ?_); refine Ex_inv rfl (by rfl) (by rfl) (by rfl) (hin) ?_
    exact Ex_rt rfl rfl ⟨rfl, rfl⟩
  · rw [z] at hin ⊢
    refine Ex_mv rfl rfl ?_; refine Ex_mv rfl rfl ?_; refine Ex_putf rfl hc rfl rfl ?_; refine Ex_mv rfl rfl ?_; refine Ex_mv rfl rfl ?_; refine Ex_mv rfl rfl ?_; refine Ex_getf rfl hs_at rfl ?_; refine Ex_mv rfl rfl ?_; (first | refine Ex_subN rfl (by omega) ?_ | refine Ex_mv rfl rfl ?_); refine Ex_inv rfl (by rfl) (by rfl) (by rfl) (hin) ?_
    exact Ex_rt rfl rfl ⟨rfl, rfl⟩
theorem MOs.cell (hS : MOs h m0 nb sa s c) : ∃ O J nw a' fl ms od oc, h.2.2 m0 = some (true, .inr (11, MOl m0 c s O J nw a' fl ms od oc)) := by
  obtain ⟨O, J, nw, a', fl, ms, od, oc, hc, hR⟩ := hS
  exact ⟨O, J, nw, a', fl, ms, od, oc, hc⟩
theorem MOs.file (hS : MOs h m0 nb sa s c) {k : Nat} {z : Fl} (hz : s.2.2.1[k]? = some z) (hk : k < 2 ^ 31) : ∃ O J nw a' fl ms od oc gF f, h.2.2 m0 = some (true, .inr (11, MOl m0 c s O J nw a' fl ms od oc)) ∧ h.2.2 (m0 + 1) = some (true, .inl (7, 6, .inr (.inr (.inr (.inr gF))))) ∧ gF (nI k).toNatClampNeg = some f ∧ HF (muM m0) h f z := by
  obtain ⟨O, J, nw, a', fl, ms, od, oc, hc, ⟨gF, a1, a2⟩, -⟩ := hS
  obtain ⟨f, q1, q2⟩ := a2 k z hz
  exact ⟨O, J, nw, a', fl, ms, od, oc, gF, f, hc, a1, by rw [nI_clamp hk]; exact q1, q2⟩
theorem c_MO_place_ (hS : MOs h m0 nb sa s c) : EvQ (prog nb sa) m_MO_place_ [.ref m0] h (fun v h' => v = some (.int s.2.2.2.1) ∧ MOs h' m0 nb sa s 0 ∧ FX m0 h h' 0 0) := by
  obtain ⟨h1, k1, k2, k3⟩ := hS.code
  obtain ⟨O, J, nw, a', fl, ms, od, oc, hc, hR⟩ := hS
  have := k1 _ _ _ _ _ _ _ _ hc
  subst this
  refine EvQ_of k_MO_place_ 1 [some (.ref m0)] rfl (Nat.le_of_ble_eq_true rfl) rfl ?_
  refine Ex_mv rfl rfl ?_; refine Ex_mv rfl rfl ?_; refine Ex_putf rfl hc rfl rfl ?_; refine Ex_mv rfl rfl ?_; refine Ex_getf rfl hs_at rfl ?_
  refine Ex_rt rfl rfl ?_
  exact ⟨rfl, k2, k3⟩
theorem c_MO_thrown (hS : MOs h m0 nb sa s c) : Ev (prog nb sa) m_MO_thrown [.ref m0] h (some (.int (nI c))) h := by
  obtain ⟨O, J, nw, a', fl, ms, od, oc, hc, hR⟩ := hS
  refine Ev_ofL k_MO_thrown 1 [some (.ref m0)] rfl (Nat.le_of_ble_eq_true rfl) rfl ?_
  refine Ex_mv rfl rfl ?_; refine Ex_getf rfl (by assumption) rfl ?_
  exact Ex_rt rfl rfl ⟨rfl, rfl⟩
theorem c_MO_out (hS : MOs h m0 nb sa s c) (i : Int32) : EvQ (prog nb sa) m_MO_out [.ref m0, .int i] h (fun v h' => v = some (.int (q_out s.2.1 i)) ∧ MOs h' m0 nb sa s 0 ∧ FX m0 h h' 0 0) := by
  obtain ⟨h1, k1, k2, k3⟩ := hS.code
  obtain ⟨O, J, nw, a', fl, ms, od, oc, hc, hR⟩ := hS
  have := k1 _ _ _ _ _ _ _ _ hc
  subst this
  obtain ⟨⟨w, g, o1, o2, o3, o4⟩, o5⟩ := hR.m0 (c := .inr (11, MOl m0 0 s O J nw a' fl ms od oc)) |>.2.2.1
  have hin := c_MO_isIdx (nb := nb) (sa := sa) (h := hset h m0 (.inr (11, MOl m0 0 s O J nw a' fl ms od oc))) (v := i) (n := s.2.1.length) (by omega)
  refine EvQ_of k_MO_out 2 [some (.ref m0), some (.int i)] rfl (Nat.le_of_ble_eq_true rfl) rfl ?_
  unfold q_out
  rcases i32_cases i with hn | ⟨k, hk, rfl⟩
  · rw [if_pos hn] at hin ⊢
    refine Ex_mv rfl rfl ?_; refine Ex_mv rfl rfl ?_; refine Ex_putf rfl hc rfl rfl ?_; refine Ex_mv rfl rfl ?_; refine Ex_mv rfl rfl ?_; refine Ex_mv rfl rfl ?_; refine Ex_getf rfl hs_at rfl ?_; refine Ex_alen rfl o1 rfl ?_; refine Ex_mv rfl rfl ?_; (first | refine Ex_subN rfl (by omega) ?_ | refine Ex_mv rfl rfl ?_); refine Ex_inv rfl (by rfl) (by rfl) (by rfl) (hin) ?_; refine Ex_mv rfl rfl ?_; refine Ex_ift (show nI 0 = 0 from rfl) ?_; refine Ex_mv rfl rfl ?_
    refine Ex_rt rfl rfl ?_
    exact ⟨rfl, k2, k3⟩
  · rw [if_neg (nI_pos hk), nI_clamp hk] at hin ⊢
    by_cases hkl : k < s.2.1.length
    · rw [if_pos hkl] at hin ⊢
      have eg := BA.at (h := h) (t := O) o2 o3 o4 hkl
      rw [show nI s.2.1.length - nI 1 = nI (s.2.1.length - 1) from pk_sub (by omega)] at hin
      refine Ex_mv rfl rfl ?_; refine Ex_mv rfl rfl ?_; refine Ex_putf rfl hc rfl rfl ?_; refine Ex_mv rfl rfl ?_; refine Ex_mv rfl rfl ?_; refine Ex_mv rfl rfl ?_; refine Ex_getf rfl hs_at rfl ?_; refine Ex_alen rfl o1 rfl ?_; refine Ex_mv rfl rfl ?_; (first | refine Ex_subN rfl (by omega) ?_ | refine Ex_mv rfl rfl ?_); refine Ex_inv rfl (by rfl) (by rfl) (by rfl) (hin) ?_; refine Ex_mv rfl rfl ?_; refine Ex_iff (show ¬ nI 1 = 0 by decide) ?_; refine Ex_mv rfl rfl ?_; refine Ex_getf rfl hs_at rfl ?_; refine Ex_mv rfl rfl ?_; refine Ex_iald rfl o1 (vp_in_nI (by omega) (by omega)) ?_; refine Ex_mv rfl rfl ?_; refine Ex_iand rfl ?_; refine Ex_mv rfl rfl ?_
      refine Ex_rt rfl rfl ?_
      exact ⟨by rw [eg], k2, k3⟩
    · rw [if_neg hkl] at hin ⊢
      refine Ex_mv rfl rfl ?_; refine Ex_mv rfl rfl ?_; refine Ex_putf rfl hc rfl rfl ?_; refine Ex_mv rfl rfl ?_; refine Ex_mv rfl rfl ?_; refine Ex_mv rfl rfl ?_; refine Ex_getf rfl hs_at rfl ?_; refine Ex_alen rfl o1 rfl ?_; refine Ex_mv rfl rfl ?_; (first | refine Ex_subN rfl (by omega) ?_ | refine Ex_mv rfl rfl ?_); refine Ex_inv rfl (by rfl) (by rfl) (by rfl) (hin) ?_; refine Ex_mv rfl rfl ?_; refine Ex_ift (show nI 0 = 0 from rfl) ?_; refine Ex_mv rfl rfl ?_
      refine Ex_rt rfl rfl ?_
      exact ⟨rfl, k2, k3⟩
end REFH
