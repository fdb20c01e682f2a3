/-! the object and its state -/
abbrev Fl : Type := List Nat × Fs
/-- tape, what is shown, files, the fault's place, joined meanings -/
abbrev Sg : Type := List Nat × List Nat × List Fl × Int32 × List Mng
/-- the file of a number -/
def fA (FL : List Fl) (f : Int32) : Option Fl := if f < 0 then none else FL[f.toNatClampNeg]?
def CPs (h : Hp) (c0 : Nat) (s : Sg) : Prop := ∃ (P : Nat → Nat) (Fn : Nat → Fl) (kr kt : Nat) (g : Nat → Option Nat),
  h.2.2 c0 = some (true, .inr (6, [.ref (c0 + 1), .ref (c0 + 3), .ref (c0 + 5), .int (nI s.2.2.1.length), .int s.2.2.2.1, .ref kr, .ref kt, .ref (c0 + 62)])) ∧ (kr = c0 + 6 ∧ kt = c0 + 34 ∨ kr = c0 + 34 ∧ kt = c0 + 6) ∧ RW h (c0 + 1) s.1 ∧ RW h (c0 + 3) s.2.1 ∧ h.2.2 (c0 + 5) = some (true, .inl (5, 6, .inr (.inr (.inr (.inr g))))) ∧ (∀ i, i < 6 → g i = some (c0 + 65 + 11 * P i) ∧ P i < 6) ∧ (∀ i j, i < 6 → j < 6 → P i = P j → i = j) ∧ (∀ i, i < 6 → CFs h (c0 + 65 + 11 * P i) (Fn i).1 (Fn i).2) ∧ (∀ i, i < s.2.2.1.length → s.2.2.1[i]? = some (Fn i)) ∧ (∃ Q pc L, RK h kr Q pc L ∧ mgs Q L = s.2.2.2.2) ∧ (∃ Q pc L, RK h kt Q pc L) ∧ (∃ f g, WR h (c0 + 62) f g) ∧ s.2.2.1.length ≤ 6
/-- a good state -/
def SgG (s : Sg) : Prop := (∀ z ∈ s.2.2.1, GG z.1 z.2) ∧ SoM s.2.2.2.2 ∧ (∀ m ∈ s.2.2.2.2, m.1 ≠ 0) ∧ s.2.2.1.length ≤ 6 ∧ s.1.length ≤ 400 ∧ s.2.1.length ≤ 400 ∧ (∀ x ∈ s.1, x < 256) ∧ (∀ x ∈ s.2.1, x < 256) ∧ s.2.2.2.2.length ≤ 150 ∧ ∀ z ∈ s.2.2.1, z.1.length ≤ 400 ∧ ∀ x ∈ z.1, x < 256
/-- nothing but the object's cells changed; what was made -/
def FC (c0 : Nat) (h h' : Hp) : Prop := h.1 ≤ h'.1 ∧ h'.1 ≤ h.1 + 1 ∧ h.2.1 ≤ h'.2.1 ∧ h'.2.1 ≤ h.2.1 + 8 ∧ ∀ q, q < h.1 → (q < c0 ∨ c0 + 131 ≤ q) → h'.2.2 q = h.2.2 q
theorem FC.rf {c0 : Nat} {h : Hp} : FC c0 h h := ⟨Nat.le_refl _, by omega, Nat.le_refl _, by omega, fun _ _ _ => rfl⟩
theorem FC.of {c0 lo hi : Nat} {h h' : Hp} (F : FrI lo hi h h') (h1 : c0 ≤ lo) (h2 : hi ≤ c0 + 131) : FC c0 h h' := ⟨by rw [F.1]; exact Nat.le_refl _, by rw [F.1]; omega, by rw [F.2.1]; exact Nat.le_refl _, by rw [F.2.1]; omega, fun q _ hq => F.2.2 q (by omega)⟩
theorem i32_cases (x : Int32) : x < 0 ∨ ∃ k, k < 2 ^ 31 ∧ x = nI k := by
  by_cases h : x < 0
  · exact Or.inl h
  · refine Or.inr ⟨x.toNatClampNeg, ?_, ?_⟩
    · have := x.toInt_lt
      unfold Int32.toNatClampNeg
      omega
    · have h0 : 0 ≤ x.toInt := by
        have hnl : ¬ x.toInt < (0 : Int32).toInt := fun z => h (Int32.lt_iff_toInt_lt.mpr z)
        rw [show (0 : Int32).toInt = 0 by decide] at hnl
        omega
      apply Int32.toInt_inj.mp
      have := x.toInt_lt
      rw [nI_toInt (by unfold Int32.toNatClampNeg; omega)]
      unfold Int32.toNatClampNeg
      omega
theorem fA_nI {FL : List Fl} {k : Nat} (hk : k < 2 ^ 31) : fA FL (nI k) = FL[k]? := by
  unfold fA
  rw [if_neg (nI_pos hk), nI_clamp hk]
section STATE
variable {nb sa : Nat} {h : Hp} {c0 : Nat} {s : Sg}
theorem c_CP_fileAt (hS : CPs h c0 s) (f : Int32) : (fA s.2.2.1 f = none ∧ Ev (prog nb sa) m_CP_fileAt [.ref c0, .int f] h (some .null) h) ∨ ∃ z c, fA s.2.2.1 f = some z ∧ Ev (prog nb sa) m_CP_fileAt [.ref c0, .int f] h (some (.ref c)) h ∧ CFs h c z.1 z.2 ∧ c0 + 65 ≤ c ∧ c + 11 ≤ c0 + 131 ∧ z ∈ s.2.2.1 := by
  obtain ⟨P, Fn, kr, kt, g, hc, hkk, hT, hO, hF, hg, hP, hCF, hFn, hr, ht, hw, hl⟩ := hS
  rcases i32_cases f with hn | ⟨k, hk, rfl⟩
  · refine Or.inl ⟨if_pos hn, ?_⟩
    refine Ev_ofL k_CP_fileAt 2 [some (.ref c0), some (.int f)] rfl (Nat.le_of_ble_eq_true rfl) rfl ?_
    refine Ex_mv rfl rfl ?_; refine Ex_mv rfl rfl ?_; refine Ex_ift hn ?_; refine Ex_mv rfl rfl ?_
    exact Ex_rt rfl rfl ⟨rfl, rfl⟩
  · rw [fA_nI hk]
    by_cases hkl : k < s.2.2.1.length
    · have hp6 := (hg k (by omega)).2
      have hb1 : c0 + 65 ≤ c0 + 65 + 11 * P k := by omega
      have hb2 : c0 + 65 + 11 * P k + 11 ≤ c0 + 131 := by omega
      refine Or.inr ⟨Fn k, c0 + 65 + 11 * P k, hFn k hkl, ?_, hCF k (by omega), hb1, hb2, ?_⟩
      · have e : g (nI k).toNatClampNeg = some (c0 + 65 + 11 * P k) := by rw [nI_clamp hk]; exact (hg k (by omega)).1
        refine Ev_ofL k_CP_fileAt 2 [some (.ref c0), some (.int (nI k))] rfl (Nat.le_of_ble_eq_true rfl) rfl ?_
        refine Ex_mv rfl rfl ?_; refine Ex_mv rfl rfl ?_; refine Ex_lt0 (by omega) ?_; refine Ex_mv rfl rfl ?_; refine Ex_mv rfl rfl ?_; refine Ex_getf rfl (by assumption) rfl ?_; refine Ex_mv rfl rfl ?_; refine Ex_iff (nI_ge (by omega) (by omega)) ?_; refine Ex_mv rfl rfl ?_; refine Ex_mv rfl rfl ?_; refine Ex_getf rfl (by assumption) rfl ?_; refine Ex_alen rfl (by assumption) rfl ?_; refine Ex_mv rfl rfl ?_; refine Ex_iff (nI_ge (by omega) (by omega)) ?_; refine Ex_mv rfl rfl ?_; refine Ex_getf rfl (by assumption) rfl ?_; refine Ex_mv rfl rfl ?_; refine Ex_aald rfl (by assumption) rfl (vp_in_nI (by omega) (by decide)) e ?_; refine Ex_mv rfl rfl ?_
        exact Ex_rt rfl rfl ⟨rfl, rfl⟩
      · have := hFn k hkl
        exact List.mem_of_getElem? this
    · refine Or.inl ⟨List.getElem?_eq_none (by omega), ?_⟩
      refine Ev_ofL k_CP_fileAt 2 [some (.ref c0), some (.int (nI k))] rfl (Nat.le_of_ble_eq_true rfl) rfl ?_
      refine Ex_mv rfl rfl ?_; refine Ex_mv rfl rfl ?_; refine Ex_lt0 (by omega) ?_; refine Ex_mv rfl rfl ?_; refine Ex_mv rfl rfl ?_; refine Ex_getf rfl (by assumption) rfl ?_; refine Ex_mv rfl rfl ?_; refine Ex_ift (nI_le (by omega) (by omega)) ?_; refine Ex_mv rfl rfl ?_
      exact Ex_rt rfl rfl ⟨rfl, rfl⟩
theorem CPs.cell (hS : CPs h c0 s) : ∃ kr kt, h.2.2 c0 = some (true, .inr (6, [.ref (c0 + 1), .ref (c0 + 3), .ref (c0 + 5), .int (nI s.2.2.1.length), .int s.2.2.2.1, .ref kr, .ref kt, .ref (c0 + 62)])) := by
  obtain ⟨P, Fn, kr, kt, g, hc, -⟩ := hS
  exact ⟨kr, kt, hc⟩
/-- a change of what is shown alone -/
theorem CPs.shown {h' : Hp} {O' : List Nat} (hS : CPs h c0 s) (hO : RW h' (c0 + 3) O') (F : FrI (c0 + 3) (c0 + 5) h h') : CPs h' c0 (s.1, O', s.2.2) := by
  obtain ⟨P, Fn, kr, kt, g, hc, hkk, hT, hO0, hF, hg, hP, hCF, hFn, ⟨Q1, pc1, L1, hr, hr2⟩, ⟨Q2, pc2, L2, ht⟩, ⟨f, g2, hw⟩, hl⟩ := hS
  exact ⟨P, Fn, kr, kt, g, F.at hc (by omega), hkk, hT.fr F (by omega), hO, F.at hF (by omega), hg, hP, fun i hi => CF.fr (hCF i hi) F (by omega), hFn, ⟨Q1, pc1, L1, hr.fr F (by omega), hr2⟩, ⟨Q2, pc2, L2, ht.fr F (by omega)⟩, ⟨f, g2, hw.fr F (by omega)⟩, hl⟩
/-- a change of the tape alone -/
theorem CPs.tape {h' : Hp} {T' : List Nat} (hS : CPs h c0 s) (hT' : RW h' (c0 + 1) T') (F : FrI (c0 + 1) (c0 + 3) h h') : CPs h' c0 (T', s.2) := by
  obtain ⟨P, Fn, kr, kt, g, hc, hkk, hT, hO0, hF, hg, hP, hCF, hFn, ⟨Q1, pc1, L1, hr, hr2⟩, ⟨Q2, pc2, L2, ht⟩, ⟨f, g2, hw⟩, hl⟩ := hS
  exact ⟨P, Fn, kr, kt, g, F.at hc (by omega), hkk, hT', hO0.fr F (by omega), F.at hF (by omega), hg, hP, fun i hi => CF.fr (hCF i hi) F (by omega), hFn, ⟨Q1, pc1, L1, hr.fr F (by omega), hr2⟩, ⟨Q2, pc2, L2, ht.fr F (by omega)⟩, ⟨f, g2, hw.fr F (by omega)⟩, hl⟩
theorem CPs.rows (hS : CPs h c0 s) : RW h (c0 + 1) s.1 ∧ RW h (c0 + 3) s.2.1 := by
  obtain ⟨P, Fn, kr, kt, g, hc, hkk, hT, hO0, -⟩ := hS
  exact ⟨hT, hO0⟩
theorem c_CP_place (hS : CPs h c0 s) : Ev (prog nb sa) m_CP_place [.ref c0] h (some (.int s.2.2.2.1)) h := by
  obtain ⟨kr, kt, hc⟩ := hS.cell
  refine Ev_ofL k_CP_place 1 [some (.ref c0)] rfl (Nat.le_of_ble_eq_true rfl) rfl ?_
  refine Ex_mv rfl rfl ?_; refine Ex_getf rfl (by assumption) rfl ?_
  exact Ex_rt rfl rfl ⟨rfl, rfl⟩
theorem c_CP_back (hS : CPs h c0 s) : EvQ (prog nb sa) m_CP_back [.ref c0] h (fun v h' => v = some (.int (nI s.2.1.length)) ∧ CPs h' c0 (s.2.1, s.2) ∧ FC c0 h h') := by
  obtain ⟨kr, kt, hc⟩ := hS.cell
  obtain ⟨hT, hO⟩ := hS.rows
  obtain ⟨_, h1, e1, rfl, R1, F1⟩ := c_RW_take (nb := nb) (sa := sa) hT hO (by omega) (k := 0) (n := s.2.1.length) (by omega)
  rw [show sl s.2.1 0 s.2.1.length = s.2.1 by simp [sl]] at R1
  obtain ⟨f1, hr1, -⟩ := id hT
  obtain ⟨f2, hr2, -⟩ := id hO
  refine EvQ_of k_CP_back 1 [some (.ref c0)] rfl (Nat.le_of_ble_eq_true rfl) rfl ?_
  refine Ex_mv rfl rfl ?_; refine Ex_getf rfl (by assumption) rfl ?_; refine Ex_mv rfl rfl ?_; refine Ex_getf rfl (by assumption) rfl ?_; refine Ex_mv rfl rfl ?_; refine Ex_mv rfl rfl ?_; refine Ex_getf rfl (by assumption) rfl ?_; refine Ex_invV rfl (by rfl) (by rfl) (by assumption) (by rfl) (c_RW_size hO) ?_; refine Ex_invV rfl (by rfl) (by rfl) (by assumption) (by rfl) (e1) ?_
  refine Ex_rt rfl rfl ?_
  exact ⟨rfl, hS.tape R1 F1, FC.of F1 (by omega) (by omega)⟩
/-- what out answers -/
def q_out (O : List Nat) (i : Int32) : Int32 := if i < 0 then -1 else if i.toNatClampNeg < O.length then nI (b1 O i.toNatClampNeg) else -1
theorem c_CP_out (hS : CPs h c0 s) (i : Int32) : Ev (prog nb sa) m_CP_out [.ref c0, .int i] h (some (.int (q_out s.2.1 i))) h := by
  obtain ⟨kr, kt, hc⟩ := hS.cell
  obtain ⟨hT, hO⟩ := hS.rows
  obtain ⟨f2, hr2, -⟩ := id hO
  have hl := hO.len
  unfold q_out
  rcases i32_cases i with hn | ⟨k, hk, rfl⟩
  · rw [if_pos hn]
    refine Ev_ofL k_CP_out 2 [some (.ref c0), some (.int i)] rfl (Nat.le_of_ble_eq_true rfl) rfl ?_
    refine Ex_mv rfl rfl ?_; refine Ex_getf rfl (by assumption) rfl ?_; refine Ex_mv rfl rfl ?_; refine Ex_mv rfl rfl ?_; refine Ex_invV rfl (by rfl) (by rfl) (by assumption) (by rfl) (c_RW_hasN hO hn) ?_; refine Ex_mv rfl rfl ?_; refine Ex_ift (by decide) ?_; refine Ex_mv rfl rfl ?_
    exact Ex_rt rfl rfl ⟨rfl, rfl⟩
  · rw [if_neg (nI_pos hk), nI_clamp hk]
    refine Ev_ofL k_CP_out 2 [some (.ref c0), some (.int (nI k))] rfl (Nat.le_of_ble_eq_true rfl) rfl ?_
    by_cases hkl : k + 1 ≤ s.2.1.length
    · rw [if_pos (by omega)]
      refine Ex_mv rfl rfl ?_; refine Ex_getf rfl (by assumption) rfl ?_; refine Ex_mv rfl rfl ?_; refine Ex_mv rfl rfl ?_; refine Ex_invV rfl (by rfl) (by rfl) (by assumption) (by rfl) (c_RW_has hO hk (by decide)) ?_
      rw [if_pos hkl]
      refine Ex_mv rfl rfl ?_; refine Ex_iff (by decide) ?_; refine Ex_mv rfl rfl ?_; refine Ex_getf rfl (by assumption) rfl ?_; refine Ex_mv rfl rfl ?_; refine Ex_invV rfl (by rfl) (by rfl) (by assumption) (by rfl) (c_RW_one hO hk) ?_; refine Ex_mv rfl rfl ?_
      exact Ex_rt rfl rfl ⟨rfl, rfl⟩
    · rw [if_neg (by omega)]
      refine Ex_mv rfl rfl ?_; refine Ex_getf rfl (by assumption) rfl ?_; refine Ex_mv rfl rfl ?_; refine Ex_mv rfl rfl ?_; refine Ex_invV rfl (by rfl) (by rfl) (by assumption) (by rfl) (c_RW_has hO hk (by decide)) ?_
      rw [if_neg hkl]
      refine Ex_mv rfl rfl ?_; refine Ex_ift (by decide) ?_; refine Ex_mv rfl rfl ?_
      exact Ex_rt rfl rfl ⟨rfl, rfl⟩
/-- the bytes that feed puts -/
def fdB (w : Int64) : Nat → List Nat
  | 0 => []
  | d + 1 => lowb (w >>> ((nI (8 * d)).toInt64 &&& 63)).toInt32 :: fdB w d
theorem CP_feed_loop {w : Int64} {n : Int32} : ∀ (d : Nat) (h : Hp) (s : Sg), CPs h c0 s → s.1.length + d ≤ 400 → d ≤ 8 → ∀ x4 : Int32, x4 = nI d - nI 1 → Ex (prog nb sa) k_CP_feed 37 [some (.ref c0), some (.long w), none, some (.int n), some (.int x4)] [] h (fun v h' => v = some (.int (nI (s.1 ++ fdB w d).length)) ∧ CPs h' c0 (s.1 ++ fdB w d, s.2) ∧ FrI (c0 + 1) (c0 + 3) h h')
  | 0, h, s, hS, hl, h8, x4, hx => by
    obtain ⟨kr, kt, hc⟩ := hS.cell
    obtain ⟨hT, hO⟩ := hS.rows
    obtain ⟨f1, hr1, -⟩ := id hT
    have hx2 : x4 = -1 := by rw [hx]; decide
    subst hx2
    rw [fdB, List.append_nil]
    refine Ex_mv rfl rfl ?_; refine Ex_mv rfl rfl ?_; refine Ex_ift (by decide) ?_; refine Ex_mv rfl rfl ?_; refine Ex_getf rfl (by assumption) rfl ?_; refine Ex_invV rfl (by rfl) (by rfl) (by assumption) (by rfl) (c_RW_size hT) ?_
    refine Ex_rt rfl rfl ?_
    exact ⟨rfl, hS, FrI.rf⟩
  | d + 1, h, s, hS, hl, h8, x4, hx => by
    obtain ⟨kr, kt, hc⟩ := hS.cell
    obtain ⟨hT, hO⟩ := hS.rows
    obtain ⟨f1, hr1, -⟩ := id hT
    have hx2 : x4 = nI d := by rw [hx, pk_sub (by omega)]; rfl
    subst hx2
    obtain ⟨_, h1, e1, rfl, R1, F1⟩ := c_RW_push (nb := nb) (sa := sa) hT (x := (w >>> ((nI (8 * d)).toInt64 &&& 63)).toInt32) (by omega)
    have hS1 := hS.tape R1 F1
    have ih := CP_feed_loop (w := w) (n := n) d h1 _ hS1 (by simp; omega) (by omega) (nI d + -1) (by rw [show nI 1 = 1 from rfl, Int32.sub_eq_add_neg])
    refine Ex_mv rfl rfl ?_; refine Ex_mv rfl rfl ?_; refine Ex_lt0 (by omega) ?_; refine Ex_mv rfl rfl ?_; refine Ex_getf rfl (by assumption) rfl ?_; refine Ex_mv rfl rfl ?_; refine Ex_mv rfl rfl ?_; refine Ex_mv rfl rfl ?_; (first | refine Ex_mulN rfl ?_ | refine Ex_mv rfl rfl ?_); refine Ex_lshr rfl ?_; refine Ex_mv rfl rfl ?_; refine Ex_invV rfl (by rfl) (by rfl) (by assumption) (by rfl) (e1) ?_
    refine Ex_mv rfl rfl ?_
    refine Ex_mv rfl rfl ?_
    refine Ex_mono ih ?_
    rintro v h' ⟨rfl, q1, q2⟩
    rw [fdB]
    simp only [List.append_assoc, List.cons_append, List.nil_append] at q1 ⊢
    exact ⟨trivial, q1, F1.tr q2⟩
/-- what feed answers -/
def q_feed (T : List Nat) (w : Int64) (n : Int32) : Int32 × List Nat := if n < 1 ∨ nI 8 < n then (-2, T) else if 400 < T.length + n.toNatClampNeg then (-3, T) else (nI (T ++ fdB w n.toNatClampNeg).length, T ++ fdB w n.toNatClampNeg)
theorem c_CP_feed (hS : CPs h c0 s) (w : Int64) (n : Int32) : EvQ (prog nb sa) m_CP_feed [.ref c0, .long w, .int n] h (fun v h' => v = some (.int (q_feed s.1 w n).1) ∧ CPs h' c0 ((q_feed s.1 w n).2, s.2) ∧ FC c0 h h') := by
  obtain ⟨kr, kt, hc⟩ := hS.cell
  obtain ⟨hT, hO⟩ := hS.rows
  obtain ⟨f1, hr1, -⟩ := id hT
  have hl := hT.len
  unfold q_feed
  refine EvQ_of k_CP_feed 5 [some (.ref c0), some (.long w), none, some (.int n), none] rfl (Nat.le_of_ble_eq_true rfl) rfl ?_
  by_cases h1 : n < 1
  · rw [if_pos (Or.inl h1)]
    refine Ex_mv rfl rfl ?_; refine Ex_mv rfl rfl ?_; refine Ex_mv rfl rfl ?_; refine Ex_ift h1 ?_; refine Ex_mv rfl rfl ?_
    refine Ex_rt rfl rfl ?_
    exact ⟨rfl, hS, FC.rf⟩
  · by_cases h2 : n ≤ nI 8
    · rw [if_neg (fun z => z.elim h1 (fun q => absurd (Int32.lt_of_lt_of_le q h2) Int32.lt_irrefl))]
      have hk : ∃ k, k < 2 ^ 31 ∧ n = nI k := by
        rcases i32_cases n with z | z
        · exact absurd (Int32.lt_trans z (by decide)) h1
        · exact z
      obtain ⟨k, hk, rfl⟩ := hk
      have hk8 : k ≤ 8 := (nI_leI hk (by decide)).mp h2
      rw [nI_clamp hk]
      by_cases h3 : 400 < s.1.length + k
      · rw [if_pos h3]
        refine Ex_mv rfl rfl ?_; refine Ex_mv rfl rfl ?_; refine Ex_mv rfl rfl ?_; refine Ex_iff h1 ?_; refine Ex_mv rfl rfl ?_; refine Ex_mv rfl rfl ?_; refine Ex_mv rfl rfl ?_; refine Ex_ift h2 ?_; refine Ex_mv rfl rfl ?_; refine Ex_mv rfl rfl ?_; refine Ex_mv rfl rfl ?_; refine Ex_getf rfl (by assumption) rfl ?_; refine Ex_invV rfl (by rfl) (by rfl) (by assumption) (by rfl) (c_RW_size hT) ?_; (first | refine Ex_subN rfl (by omega) ?_ | refine Ex_mv rfl rfl ?_); refine Ex_mv rfl rfl ?_; refine Ex_iff (nI_ge (by omega) (by omega)) ?_; refine Ex_mv rfl rfl ?_
        refine Ex_rt rfl rfl ?_
        exact ⟨rfl, hS, FC.rf⟩
      · rw [if_neg h3]
        have key : ∀ x4 : Int32, x4 = nI k - nI 1 → Ex (prog nb sa) k_CP_feed 37 [some (.ref c0), some (.long w), none, some (.int (nI k)), some (.int x4)] [] h (fun v h' => v = some (.int (nI (s.1 ++ fdB w k).length)) ∧ CPs h' c0 (s.1 ++ fdB w k, s.2) ∧ FC c0 h h') := by
          intro x4 hx4
          refine Ex_mono (CP_feed_loop k h s hS (by omega) hk8 x4 hx4) ?_
          rintro v h' ⟨rfl, q1, q2⟩
          exact ⟨rfl, q1, FC.of q2 (by omega) (by omega)⟩
        have hk1 : 1 ≤ k := by
          rcases Nat.eq_zero_or_pos k with z | z
          · subst z; exact absurd (by decide) h1
          · exact z
        refine Ex_mv rfl rfl ?_; refine Ex_mv rfl rfl ?_; refine Ex_mv rfl rfl ?_; refine Ex_iff h1 ?_; refine Ex_mv rfl rfl ?_; refine Ex_mv rfl rfl ?_; refine Ex_mv rfl rfl ?_; refine Ex_ift h2 ?_; refine Ex_mv rfl rfl ?_; refine Ex_mv rfl rfl ?_; refine Ex_mv rfl rfl ?_; refine Ex_getf rfl (by assumption) rfl ?_; refine Ex_invV rfl (by rfl) (by rfl) (by assumption) (by rfl) (c_RW_size hT) ?_; (first | refine Ex_subN rfl (by omega) ?_ | refine Ex_mv rfl rfl ?_); refine Ex_mv rfl rfl ?_; refine Ex_ift (nI_le (by omega) (by omega)) ?_; refine Ex_mv rfl rfl ?_; refine Ex_mv rfl rfl ?_; (first | refine Ex_subN rfl (by omega) ?_ | refine Ex_mv rfl rfl ?_); refine Ex_mv rfl rfl ?_
        exact key _ (by rw [pk_sub hk1])
    · have h4 : nI 8 < n := by
        rcases Int32.le_total n (nI 8) with z | z
        · exact absurd z h2
        · exact Int32.lt_of_le_of_ne z (fun q => h2 (by rw [← q]; exact Int32.le_refl _))
      rw [if_pos (Or.inr h4)]
      refine Ex_mv rfl rfl ?_; refine Ex_mv rfl rfl ?_; refine Ex_mv rfl rfl ?_; refine Ex_iff h1 ?_; refine Ex_mv rfl rfl ?_; refine Ex_mv rfl rfl ?_; refine Ex_mv rfl rfl ?_; refine Ex_iff h2 ?_; refine Ex_mv rfl rfl ?_
      refine Ex_rt rfl rfl ?_
      exact ⟨rfl, hS, FC.rf⟩
end STATE
