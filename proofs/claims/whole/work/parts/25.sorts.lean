/-! Sorts: types and methods' sorts as bytes -/
def sbr (T : List Nat) : Nat → Nat → Nat
  | 0, q => q
  | d + 1, q => if b1 T q = 91 then sbr T d (q + 1) else q
def snm (T : List Nat) : Nat → Nat → Option Nat
  | 0, _ => none
  | d + 1, q => if b1 T q = 59 then some q else snm T d (q + 1)
def isB (c : Nat) : Bool := decide (c = 66) || decide (c = 67) || decide (c = 68) || decide (c = 70) || decide (c = 73) || decide (c = 74) || decide (c = 83) || decide (c = 90)
/-- the end of a name that begins at q: behind its ; -/
def nmE (T : List Nat) (q : Nat) : Option Nat := match snm T (T.length - q) q with
  | none => none
  | some e => if e = q then none else some (e + 1)
/-- the end of the TYPE that begins at p -/
def tyE (T : List Nat) (p : Nat) : Option Nat :=
  if T.length ≤ sbr T (T.length - p) p ∨ 255 < sbr T (T.length - p) p - p then none
  else if isB (b1 T (sbr T (T.length - p) p)) then some (sbr T (T.length - p) p + 1)
  else if b1 T (sbr T (T.length - p) p) = 76 then nmE T (sbr T (T.length - p) p + 1) else none
theorem sbr_ge (T : List Nat) : ∀ d q, q ≤ sbr T d q
  | 0, q => Nat.le_refl _
  | d + 1, q => by
    unfold sbr
    split
    · have := sbr_ge T d (q + 1); omega
    · exact Nat.le_refl _
theorem sbr_le (T : List Nat) : ∀ d q, sbr T d q ≤ q + d
  | 0, q => Nat.le_refl _
  | d + 1, q => by
    unfold sbr
    split
    · have := sbr_le T d (q + 1); omega
    · omega
theorem snm_b (T : List Nat) : ∀ d q e, snm T d q = some e → q ≤ e ∧ e < q + d ∧ b1 T e = 59
  | 0, q, e, h => by simp [snm] at h
  | d + 1, q, e, h => by
    unfold snm at h
    split at h
    · simp at h; subst h; exact ⟨Nat.le_refl _, by omega, by assumption⟩
    · have := snm_b T d (q + 1) e h; exact ⟨by omega, by omega, this.2.2⟩
theorem nmE_b {T : List Nat} {q e : Nat} (h : nmE T q = some e) : q + 1 < e ∧ e ≤ T.length := by
  unfold nmE at h
  split at h
  · cases h
  · next x hx =>
    have := snm_b T _ _ _ hx
    split at h
    · cases h
    · simp at h; omega
/-- a type has an end behind its beginning, within -/
theorem tyE_b {T : List Nat} {p e : Nat} (h : tyE T p = some e) : p < e ∧ e ≤ T.length := by
  have := sbr_ge T (T.length - p) p
  unfold tyE at h
  split at h
  · cases h
  · split at h
    · simp at h; omega
    · split at h
      · have := nmE_b h; omega
      · cases h
def oI (a : Nat) (o : Option Nat) : Int32 := match o with
  | some q => nI (a + q)
  | none => -1
theorem nI_nm1 {n : Nat} (h : n < 2 ^ 31) : ¬ nI n = -1 := by
  intro e
  have := congrArg Int32.toInt e
  rw [nI_toInt h] at this
  have h2 : (-1 : Int32).toInt = -1 := by decide
  omega
theorem m1_lt {n : Nat} (h : n < 2 ^ 31) : ¬ nI n ≤ -1 := by
  rw [Int32.le_iff_toInt_le, nI_toInt h]
  have h2 : (-1 : Int32).toInt = -1 := by decide
  omega
theorem b1_sl {B : List Nat} {a n j : Nat} (h : j < n) : b1 (sl B a n) j = b1 B (a + j) := sl_get h
section SORTS
variable {nb sa : Nat} {h : Hp} {r a : Nat} {B T : List Nat}
/-- a text that lies in a row -/
def TI (h : Hp) (r : Nat) (B T : List Nat) (a : Nat) : Prop := RW h r B ∧ T = sl B a T.length ∧ a + T.length ≤ B.length
theorem TI.b (hT : TI h r B T a) {j : Nat} (hj : j < T.length) : b1 B (a + j) = b1 T j := by
  rw [hT.2.1, b1_sl hj]
theorem TI.lt (hT : TI h r B T a) (j : Nat) : b1 T j < 256 := by
  by_cases hj : j < T.length
  · rw [← hT.b hj]; exact b1_lt hT.1.lt _
  · rw [b1_out (by omega)]; decide
theorem SO_nameEnd_loop (hT : TI h r B T a) {p : Nat} : ∀ (d q : Nat), q + d = T.length → p ≤ q → Ex (prog nb sa) k_SO_nameEnd 2 [some (.ref r), some (.int (nI (a + p))), some (.int (nI (a + T.length))), some (.int (nI (a + q)))] [] h (fun v h' => v = some (.int (oI a (match snm T d q with | none => none | some e => if e = p then none else some (e + 1)))) ∧ h' = h)
  | 0, q, hd, hp => by
    have := hT.1.len; have := hT.2.2
    refine Ex_mv rfl rfl ?_; refine Ex_mv rfl rfl ?_; refine Ex_mv rfl rfl ?_; refine Ex_ift (nI_le (by omega) (by omega)) ?_; refine Ex_mv rfl rfl ?_
    exact Ex_rt rfl rfl ⟨rfl, rfl⟩
  | d + 1, q, hd, hp => by
    have := hT.1.len; have := hT.2.2
    obtain ⟨f, hr, ha, hB⟩ := id hT.1
    have hb := hT.b (j := q) (by omega)
    have hl := hT.lt q
    unfold snm
    by_cases e : b1 T q = 59
    · rw [if_pos e]
      by_cases e2 : q = p
      · refine Ex_mv rfl rfl ?_; refine Ex_mv rfl rfl ?_; refine Ex_mv rfl rfl ?_; refine Ex_iff (nI_ge (by omega) (by omega)) ?_; refine Ex_mv rfl rfl ?_; refine Ex_mv rfl rfl ?_; refine Ex_invV rfl (by rfl) (by rfl) (by assumption) (by rfl) (c_RW_one hT.1 (by omega)) ?_; refine Ex_mv rfl rfl ?_; refine Ex_mv rfl rfl ?_; refine Ex_iff (by rw [hb, e]; decide) ?_; refine Ex_mv rfl rfl ?_; refine Ex_mv rfl rfl ?_; refine Ex_mv rfl rfl ?_; refine Ex_iff (by rw [e2]; exact not_not_intro rfl) ?_; refine Ex_mv rfl rfl ?_; refine Ex_mv rfl rfl ?_
        refine Ex_rt rfl rfl ⟨?_, rfl⟩
        simp [e2, oI]
      · refine Ex_mv rfl rfl ?_; refine Ex_mv rfl rfl ?_; refine Ex_mv rfl rfl ?_; refine Ex_iff (nI_ge (by omega) (by omega)) ?_; refine Ex_mv rfl rfl ?_; refine Ex_mv rfl rfl ?_; refine Ex_invV rfl (by rfl) (by rfl) (by assumption) (by rfl) (c_RW_one hT.1 (by omega)) ?_; refine Ex_mv rfl rfl ?_; refine Ex_mv rfl rfl ?_; refine Ex_iff (by rw [hb, e]; decide) ?_; refine Ex_mv rfl rfl ?_; refine Ex_mv rfl rfl ?_; refine Ex_mv rfl rfl ?_; refine Ex_ift (fun z => absurd ((nI_eq (by omega) (by omega)).mp z) (by omega)) ?_; refine Ex_mv rfl rfl ?_; refine Ex_mv rfl rfl ?_; (first | refine Ex_addN rfl ?_ | refine Ex_mv rfl rfl ?_)
        refine Ex_rt rfl rfl ⟨?_, rfl⟩
        simp [e2, oI, Nat.add_assoc]
    · rw [if_neg e]
      refine Ex_mv rfl rfl ?_; refine Ex_mv rfl rfl ?_; refine Ex_mv rfl rfl ?_; refine Ex_iff (nI_ge (by omega) (by omega)) ?_; refine Ex_mv rfl rfl ?_; refine Ex_mv rfl rfl ?_; refine Ex_invV rfl (by rfl) (by rfl) (by assumption) (by rfl) (c_RW_one hT.1 (by omega)) ?_; refine Ex_mv rfl rfl ?_; refine Ex_mv rfl rfl ?_; refine Ex_ift (fun z => e (by rw [← hb]; exact (nI_eq (by omega) (by decide)).mp z)) ?_; (first | refine Ex_incN rfl rfl ?_ | refine Ex_mv rfl rfl ?_); refine Ex_mv rfl rfl ?_
      rw [Nat.add_assoc]
      exact SO_nameEnd_loop hT d (q + 1) (by omega) (by omega)
theorem c_SO_nameEnd (hT : TI h r B T a) {p : Nat} (hp : p ≤ T.length) : Ev (prog nb sa) m_SO_nameEnd [.ref r, .int (nI (a + p)), .int (nI (a + T.length))] h (some (.int (oI a (nmE T p)))) h := by
  refine Ev_ofL k_SO_nameEnd 4 [some (.ref r), some (.int (nI (a + p))), some (.int (nI (a + T.length))), none] rfl (Nat.le_of_ble_eq_true rfl) rfl ?_
  refine Ex_mv rfl rfl ?_; refine Ex_mv rfl rfl ?_
  exact SO_nameEnd_loop hT (T.length - p) p (by omega) (Nat.le_refl _)
theorem SO_typeEnd_loop (hT : TI h r B T a) {p : Nat} {R : Option Value → Hp → Prop} : ∀ (d q : Nat), q + d = T.length → (Ex (prog nb sa) k_SO_typeEnd 23 [some (.ref r), some (.int (nI (a + p))), some (.int (nI (a + T.length))), some (.int (nI (a + sbr T d q)))] [] h R) → Ex (prog nb sa) k_SO_typeEnd 2 [some (.ref r), some (.int (nI (a + p))), some (.int (nI (a + T.length))), some (.int (nI (a + q)))] [] h R
  | 0, q, hd, K => by
    have := hT.1.len; have := hT.2.2
    refine Ex_mv rfl rfl ?_; refine Ex_mv rfl rfl ?_; refine Ex_mv rfl rfl ?_; refine Ex_ift (nI_le (by omega) (by omega)) ?_
    exact K
  | d + 1, q, hd, K => by
    have := hT.1.len; have := hT.2.2
    obtain ⟨f, hr, ha, hB⟩ := id hT.1
    have hb := hT.b (j := q) (by omega)
    have hl := hT.lt q
    unfold sbr at K
    by_cases e : b1 T q = 91
    · rw [if_pos e] at K
      refine Ex_mv rfl rfl ?_; refine Ex_mv rfl rfl ?_; refine Ex_mv rfl rfl ?_; refine Ex_iff (nI_ge (by omega) (by omega)) ?_; refine Ex_mv rfl rfl ?_; refine Ex_mv rfl rfl ?_; refine Ex_invV rfl (by rfl) (by rfl) (by assumption) (by rfl) (c_RW_one hT.1 (by omega)) ?_; refine Ex_mv rfl rfl ?_; refine Ex_mv rfl rfl ?_; refine Ex_iff (by rw [hb, e]; decide) ?_; (first | refine Ex_incN rfl rfl ?_ | refine Ex_mv rfl rfl ?_); refine Ex_mv rfl rfl ?_
      rw [Nat.add_assoc]
      exact SO_typeEnd_loop hT d (q + 1) (by omega) K
    · rw [if_neg e] at K
      refine Ex_mv rfl rfl ?_; refine Ex_mv rfl rfl ?_; refine Ex_mv rfl rfl ?_; refine Ex_iff (nI_ge (by omega) (by omega)) ?_; refine Ex_mv rfl rfl ?_; refine Ex_mv rfl rfl ?_; refine Ex_invV rfl (by rfl) (by rfl) (by assumption) (by rfl) (c_RW_one hT.1 (by omega)) ?_; refine Ex_mv rfl rfl ?_; refine Ex_mv rfl rfl ?_; refine Ex_ift (fun z => e (by rw [← hb]; exact (nI_eq (by omega) (by decide)).mp z)) ?_
      exact K
theorem c_SO_typeEnd (hT : TI h r B T a) {p : Nat} (hp : p ≤ T.length) : Ev (prog nb sa) m_SO_typeEnd [.ref r, .int (nI (a + p)), .int (nI (a + T.length))] h (some (.int (oI a (tyE T p)))) h := by
  have hz := hT.1.len; have hz2 := hT.2.2
  obtain ⟨f, hr, ha, hB⟩ := id hT.1
  have g1 := sbr_ge T (T.length - p) p
  have g2 := sbr_le T (T.length - p) p
  refine Ev_ofL k_SO_typeEnd 4 [some (.ref r), some (.int (nI (a + p))), some (.int (nI (a + T.length))), none] rfl (Nat.le_of_ble_eq_true rfl) rfl ?_
  refine Ex_mv rfl rfl ?_; refine Ex_mv rfl rfl ?_
  refine SO_typeEnd_loop hT (T.length - p) p (by omega) ?_
  unfold tyE
  generalize sbr T (T.length - p) p = q at g1 g2 ⊢
  by_cases h1 : T.length ≤ q ∨ 255 < q - p
  · rw [if_pos h1]
    refine Ex_mv rfl rfl ?_; refine Ex_mv rfl rfl ?_; refine Ex_mv rfl rfl ?_; (first | refine Ex_leN (by omega) (by omega) (fun b25 => ?_) (fun b25 => ?_) | refine Ex_if (fun b25 => ?_) (fun b25 => ?_))
    · refine Ex_mv rfl rfl ?_
      refine Ex_rt rfl rfl ⟨?_, rfl⟩
      first | rfl | (exfalso; omega)
    · refine Ex_mv rfl rfl ?_; refine Ex_mv rfl rfl ?_; (first | refine Ex_subN rfl (by omega) ?_ | refine Ex_mv rfl rfl ?_); refine Ex_mv rfl rfl ?_; refine Ex_mv rfl rfl ?_; (first | refine Ex_leN (by omega) (by omega) (fun b34 => ?_) (fun b34 => ?_) | refine Ex_if (fun b34 => ?_) (fun b34 => ?_))
      · exfalso; omega
      · refine Ex_mv rfl rfl ?_
        refine Ex_rt rfl rfl ⟨?_, rfl⟩
        first | rfl | (exfalso; omega)
  · rw [if_neg h1]
    have hb := hT.b (j := q) (by omega)
    have hl := hT.lt q
    refine Ex_mv rfl rfl ?_; refine Ex_mv rfl rfl ?_; refine Ex_mv rfl rfl ?_; refine Ex_iff (nI_ge (by omega) (by omega)) ?_
    refine Ex_mv rfl rfl ?_; refine Ex_mv rfl rfl ?_; refine Ex_subN rfl (by omega) ?_; refine Ex_mv rfl rfl ?_; refine Ex_mv rfl rfl ?_; refine Ex_ift (nI_le (by omega) (by omega)) ?_
    refine Ex_mv rfl rfl ?_; refine Ex_mv rfl rfl ?_; refine Ex_invV rfl (by rfl) (by rfl) (by assumption) (by rfl) (c_RW_one hT.1 (by omega)) ?_
    rw [hb]
    refine Ex_mv rfl rfl ?_
    (first | refine Ex_swN (k := 66) rfl (by omega) (by omega) (fun b44 => ?_) (fun b44_66 => ?_) | refine Ex_sw (fun b44 => ?_) (fun b44_66 => ?_))
    · refine Ex_mv rfl rfl ?_; refine Ex_mv rfl rfl ?_; (first | refine Ex_addN rfl ?_ | refine Ex_mv rfl rfl ?_)
      refine Ex_rt rfl rfl ⟨?_, rfl⟩
      first | (rw [if_pos (by simp [isB]; omega)]; simp [oI, Nat.add_assoc]; done) | (rw [if_neg (by simp [isB]; omega), if_pos (by omega)]; done) | (rw [if_neg (by simp [isB]; omega), if_neg (by omega)]; rfl)
    (first | refine Ex_swN (k := 67) rfl (by omega) (by omega) (fun b44 => ?_) (fun b44_67 => ?_) | refine Ex_sw (fun b44 => ?_) (fun b44_67 => ?_))
    · refine Ex_mv rfl rfl ?_; refine Ex_mv rfl rfl ?_; (first | refine Ex_addN rfl ?_ | refine Ex_mv rfl rfl ?_)
      refine Ex_rt rfl rfl ⟨?_, rfl⟩
      first | (rw [if_pos (by simp [isB]; omega)]; simp [oI, Nat.add_assoc]; done) | (rw [if_neg (by simp [isB]; omega), if_pos (by omega)]; done) | (rw [if_neg (by simp [isB]; omega), if_neg (by omega)]; rfl)
    (first | refine Ex_swN (k := 68) rfl (by omega) (by omega) (fun b44 => ?_) (fun b44_68 => ?_) | refine Ex_sw (fun b44 => ?_) (fun b44_68 => ?_))
    · refine Ex_mv rfl rfl ?_; refine Ex_mv rfl rfl ?_; (first | refine Ex_addN rfl ?_ | refine Ex_mv rfl rfl ?_)
      refine Ex_rt rfl rfl ⟨?_, rfl⟩
      first | (rw [if_pos (by simp [isB]; omega)]; simp [oI, Nat.add_assoc]; done) | (rw [if_neg (by simp [isB]; omega), if_pos (by omega)]; done) | (rw [if_neg (by simp [isB]; omega), if_neg (by omega)]; rfl)
    (first | refine Ex_swN (k := 69) rfl (by omega) (by omega) (fun b44 => ?_) (fun b44_69 => ?_) | refine Ex_sw (fun b44 => ?_) (fun b44_69 => ?_))
    · refine Ex_mv rfl rfl ?_
      refine Ex_rt rfl rfl ⟨?_, rfl⟩
      first | (rw [if_pos (by simp [isB]; omega)]; simp [oI, Nat.add_assoc]; done) | (rw [if_neg (by simp [isB]; omega), if_pos (by omega)]; done) | (rw [if_neg (by simp [isB]; omega), if_neg (by omega)]; rfl)
    (first | refine Ex_swN (k := 70) rfl (by omega) (by omega) (fun b44 => ?_) (fun b44_70 => ?_) | refine Ex_sw (fun b44 => ?_) (fun b44_70 => ?_))
    · refine Ex_mv rfl rfl ?_; refine Ex_mv rfl rfl ?_; (first | refine Ex_addN rfl ?_ | refine Ex_mv rfl rfl ?_)
      refine Ex_rt rfl rfl ⟨?_, rfl⟩
      first | (rw [if_pos (by simp [isB]; omega)]; simp [oI, Nat.add_assoc]; done) | (rw [if_neg (by simp [isB]; omega), if_pos (by omega)]; done) | (rw [if_neg (by simp [isB]; omega), if_neg (by omega)]; rfl)
    (first | refine Ex_swN (k := 71) rfl (by omega) (by omega) (fun b44 => ?_) (fun b44_71 => ?_) | refine Ex_sw (fun b44 => ?_) (fun b44_71 => ?_))
    · refine Ex_mv rfl rfl ?_
      refine Ex_rt rfl rfl ⟨?_, rfl⟩
      first | (rw [if_pos (by simp [isB]; omega)]; simp [oI, Nat.add_assoc]; done) | (rw [if_neg (by simp [isB]; omega), if_pos (by omega)]; done) | (rw [if_neg (by simp [isB]; omega), if_neg (by omega)]; rfl)
    (first | refine Ex_swN (k := 72) rfl (by omega) (by omega) (fun b44 => ?_) (fun b44_72 => ?_) | refine Ex_sw (fun b44 => ?_) (fun b44_72 => ?_))
    · refine Ex_mv rfl rfl ?_
      refine Ex_rt rfl rfl ⟨?_, rfl⟩
      first | (rw [if_pos (by simp [isB]; omega)]; simp [oI, Nat.add_assoc]; done) | (rw [if_neg (by simp [isB]; omega), if_pos (by omega)]; done) | (rw [if_neg (by simp [isB]; omega), if_neg (by omega)]; rfl)
    (first | refine Ex_swN (k := 73) rfl (by omega) (by omega) (fun b44 => ?_) (fun b44_73 => ?_) | refine Ex_sw (fun b44 => ?_) (fun b44_73 => ?_))
    · refine Ex_mv rfl rfl ?_; refine Ex_mv rfl rfl ?_; (first | refine Ex_addN rfl ?_ | refine Ex_mv rfl rfl ?_)
      refine Ex_rt rfl rfl ⟨?_, rfl⟩
      first | (rw [if_pos (by simp [isB]; omega)]; simp [oI, Nat.add_assoc]; done) | (rw [if_neg (by simp [isB]; omega), if_pos (by omega)]; done) | (rw [if_neg (by simp [isB]; omega), if_neg (by omega)]; rfl)
    (first | refine Ex_swN (k := 74) rfl (by omega) (by omega) (fun b44 => ?_) (fun b44_74 => ?_) | refine Ex_sw (fun b44 => ?_) (fun b44_74 => ?_))
    · refine Ex_mv rfl rfl ?_; refine Ex_mv rfl rfl ?_; (first | refine Ex_addN rfl ?_ | refine Ex_mv rfl rfl ?_)
      refine Ex_rt rfl rfl ⟨?_, rfl⟩
      first | (rw [if_pos (by simp [isB]; omega)]; simp [oI, Nat.add_assoc]; done) | (rw [if_neg (by simp [isB]; omega), if_pos (by omega)]; done) | (rw [if_neg (by simp [isB]; omega), if_neg (by omega)]; rfl)
    (first | refine Ex_swN (k := 75) rfl (by omega) (by omega) (fun b44 => ?_) (fun b44_75 => ?_) | refine Ex_sw (fun b44 => ?_) (fun b44_75 => ?_))
    · refine Ex_mv rfl rfl ?_
      refine Ex_rt rfl rfl ⟨?_, rfl⟩
      first | (rw [if_pos (by simp [isB]; omega)]; simp [oI, Nat.add_assoc]; done) | (rw [if_neg (by simp [isB]; omega), if_pos (by omega)]; done) | (rw [if_neg (by simp [isB]; omega), if_neg (by omega)]; rfl)
    (first | refine Ex_swN (k := 76) rfl (by omega) (by omega) (fun b44 => ?_) (fun b44_76 => ?_) | refine Ex_sw (fun b44 => ?_) (fun b44_76 => ?_))
    · refine Ex_mv rfl rfl ?_; refine Ex_mv rfl rfl ?_; refine Ex_mv rfl rfl ?_; (first | refine Ex_addN rfl ?_ | refine Ex_mv rfl rfl ?_); refine Ex_mv rfl rfl ?_
      rw [Nat.add_assoc a q 1]
      refine Ex_inv rfl (by rfl) (by rfl) (by rfl) (c_SO_nameEnd hT (by omega)) ?_
      refine Ex_rt rfl rfl ⟨?_, rfl⟩
      first | (rw [if_pos (by simp [isB]; omega)]; simp [oI, Nat.add_assoc]; done) | (rw [if_neg (by simp [isB]; omega), if_pos (by omega)]; done) | (rw [if_neg (by simp [isB]; omega), if_neg (by omega)]; rfl)
    (first | refine Ex_swN (k := 77) rfl (by omega) (by omega) (fun b44 => ?_) (fun b44_77 => ?_) | refine Ex_sw (fun b44 => ?_) (fun b44_77 => ?_))
    · refine Ex_mv rfl rfl ?_
      refine Ex_rt rfl rfl ⟨?_, rfl⟩
      first | (rw [if_pos (by simp [isB]; omega)]; simp [oI, Nat.add_assoc]; done) | (rw [if_neg (by simp [isB]; omega), if_pos (by omega)]; done) | (rw [if_neg (by simp [isB]; omega), if_neg (by omega)]; rfl)
    (first | refine Ex_swN (k := 78) rfl (by omega) (by omega) (fun b44 => ?_) (fun b44_78 => ?_) | refine Ex_sw (fun b44 => ?_) (fun b44_78 => ?_))
    · refine Ex_mv rfl rfl ?_
      refine Ex_rt rfl rfl ⟨?_, rfl⟩
      first | (rw [if_pos (by simp [isB]; omega)]; simp [oI, Nat.add_assoc]; done) | (rw [if_neg (by simp [isB]; omega), if_pos (by omega)]; done) | (rw [if_neg (by simp [isB]; omega), if_neg (by omega)]; rfl)
    (first | refine Ex_swN (k := 79) rfl (by omega) (by omega) (fun b44 => ?_) (fun b44_79 => ?_) | refine Ex_sw (fun b44 => ?_) (fun b44_79 => ?_))
    · refine Ex_mv rfl rfl ?_
      refine Ex_rt rfl rfl ⟨?_, rfl⟩
      first | (rw [if_pos (by simp [isB]; omega)]; simp [oI, Nat.add_assoc]; done) | (rw [if_neg (by simp [isB]; omega), if_pos (by omega)]; done) | (rw [if_neg (by simp [isB]; omega), if_neg (by omega)]; rfl)
    (first | refine Ex_swN (k := 80) rfl (by omega) (by omega) (fun b44 => ?_) (fun b44_80 => ?_) | refine Ex_sw (fun b44 => ?_) (fun b44_80 => ?_))
    · refine Ex_mv rfl rfl ?_
      refine Ex_rt rfl rfl ⟨?_, rfl⟩
      first | (rw [if_pos (by simp [isB]; omega)]; simp [oI, Nat.add_assoc]; done) | (rw [if_neg (by simp [isB]; omega), if_pos (by omega)]; done) | (rw [if_neg (by simp [isB]; omega), if_neg (by omega)]; rfl)
    (first | refine Ex_swN (k := 81) rfl (by omega) (by omega) (fun b44 => ?_) (fun b44_81 => ?_) | refine Ex_sw (fun b44 => ?_) (fun b44_81 => ?_))
    · refine Ex_mv rfl rfl ?_
      refine Ex_rt rfl rfl ⟨?_, rfl⟩
      first | (rw [if_pos (by simp [isB]; omega)]; simp [oI, Nat.add_assoc]; done) | (rw [if_neg (by simp [isB]; omega), if_pos (by omega)]; done) | (rw [if_neg (by simp [isB]; omega), if_neg (by omega)]; rfl)
    (first | refine Ex_swN (k := 82) rfl (by omega) (by omega) (fun b44 => ?_) (fun b44_82 => ?_) | refine Ex_sw (fun b44 => ?_) (fun b44_82 => ?_))
    · refine Ex_mv rfl rfl ?_
      refine Ex_rt rfl rfl ⟨?_, rfl⟩
      first | (rw [if_pos (by simp [isB]; omega)]; simp [oI, Nat.add_assoc]; done) | (rw [if_neg (by simp [isB]; omega), if_pos (by omega)]; done) | (rw [if_neg (by simp [isB]; omega), if_neg (by omega)]; rfl)
    (first | refine Ex_swN (k := 83) rfl (by omega) (by omega) (fun b44 => ?_) (fun b44_83 => ?_) | refine Ex_sw (fun b44 => ?_) (fun b44_83 => ?_))
    · refine Ex_mv rfl rfl ?_; refine Ex_mv rfl rfl ?_; (first | refine Ex_addN rfl ?_ | refine Ex_mv rfl rfl ?_)
      refine Ex_rt rfl rfl ⟨?_, rfl⟩
      first | (rw [if_pos (by simp [isB]; omega)]; simp [oI, Nat.add_assoc]; done) | (rw [if_neg (by simp [isB]; omega), if_pos (by omega)]; done) | (rw [if_neg (by simp [isB]; omega), if_neg (by omega)]; rfl)
    (first | refine Ex_swN (k := 84) rfl (by omega) (by omega) (fun b44 => ?_) (fun b44_84 => ?_) | refine Ex_sw (fun b44 => ?_) (fun b44_84 => ?_))
    · refine Ex_mv rfl rfl ?_
      refine Ex_rt rfl rfl ⟨?_, rfl⟩
      first | (rw [if_pos (by simp [isB]; omega)]; simp [oI, Nat.add_assoc]; done) | (rw [if_neg (by simp [isB]; omega), if_pos (by omega)]; done) | (rw [if_neg (by simp [isB]; omega), if_neg (by omega)]; rfl)
    (first | refine Ex_swN (k := 85) rfl (by omega) (by omega) (fun b44 => ?_) (fun b44_85 => ?_) | refine Ex_sw (fun b44 => ?_) (fun b44_85 => ?_))
    · refine Ex_mv rfl rfl ?_
      refine Ex_rt rfl rfl ⟨?_, rfl⟩
      first | (rw [if_pos (by simp [isB]; omega)]; simp [oI, Nat.add_assoc]; done) | (rw [if_neg (by simp [isB]; omega), if_pos (by omega)]; done) | (rw [if_neg (by simp [isB]; omega), if_neg (by omega)]; rfl)
    (first | refine Ex_swN (k := 86) rfl (by omega) (by omega) (fun b44 => ?_) (fun b44_86 => ?_) | refine Ex_sw (fun b44 => ?_) (fun b44_86 => ?_))
    · refine Ex_mv rfl rfl ?_
      refine Ex_rt rfl rfl ⟨?_, rfl⟩
      first | (rw [if_pos (by simp [isB]; omega)]; simp [oI, Nat.add_assoc]; done) | (rw [if_neg (by simp [isB]; omega), if_pos (by omega)]; done) | (rw [if_neg (by simp [isB]; omega), if_neg (by omega)]; rfl)
    (first | refine Ex_swN (k := 87) rfl (by omega) (by omega) (fun b44 => ?_) (fun b44_87 => ?_) | refine Ex_sw (fun b44 => ?_) (fun b44_87 => ?_))
    · refine Ex_mv rfl rfl ?_
      refine Ex_rt rfl rfl ⟨?_, rfl⟩
      first | (rw [if_pos (by simp [isB]; omega)]; simp [oI, Nat.add_assoc]; done) | (rw [if_neg (by simp [isB]; omega), if_pos (by omega)]; done) | (rw [if_neg (by simp [isB]; omega), if_neg (by omega)]; rfl)
    (first | refine Ex_swN (k := 88) rfl (by omega) (by omega) (fun b44 => ?_) (fun b44_88 => ?_) | refine Ex_sw (fun b44 => ?_) (fun b44_88 => ?_))
    · refine Ex_mv rfl rfl ?_
      refine Ex_rt rfl rfl ⟨?_, rfl⟩
      first | (rw [if_pos (by simp [isB]; omega)]; simp [oI, Nat.add_assoc]; done) | (rw [if_neg (by simp [isB]; omega), if_pos (by omega)]; done) | (rw [if_neg (by simp [isB]; omega), if_neg (by omega)]; rfl)
    (first | refine Ex_swN (k := 89) rfl (by omega) (by omega) (fun b44 => ?_) (fun b44_89 => ?_) | refine Ex_sw (fun b44 => ?_) (fun b44_89 => ?_))
    · refine Ex_mv rfl rfl ?_
      refine Ex_rt rfl rfl ⟨?_, rfl⟩
      first | (rw [if_pos (by simp [isB]; omega)]; simp [oI, Nat.add_assoc]; done) | (rw [if_neg (by simp [isB]; omega), if_pos (by omega)]; done) | (rw [if_neg (by simp [isB]; omega), if_neg (by omega)]; rfl)
    (first | refine Ex_swN (k := 90) rfl (by omega) (by omega) (fun b44 => ?_) (fun b44_90 => ?_) | refine Ex_sw (fun b44 => ?_) (fun b44_90 => ?_))
    · refine Ex_mv rfl rfl ?_; refine Ex_mv rfl rfl ?_; (first | refine Ex_addN rfl ?_ | refine Ex_mv rfl rfl ?_)
      refine Ex_rt rfl rfl ⟨?_, rfl⟩
      first | (rw [if_pos (by simp [isB]; omega)]; simp [oI, Nat.add_assoc]; done) | (rw [if_neg (by simp [isB]; omega), if_pos (by omega)]; done) | (rw [if_neg (by simp [isB]; omega), if_neg (by omega)]; rfl)
    refine Ex_sw0 ?_
    refine Ex_mv rfl rfl ?_
    refine Ex_rt rfl rfl ⟨?_, rfl⟩
    first | (rw [if_pos (by simp [isB]; omega)]; simp [oI, Nat.add_assoc]; done) | (rw [if_neg (by simp [isB]; omega), if_pos (by omega)]; done) | (rw [if_neg (by simp [isB]; omega), if_neg (by omega)]; rfl)
/-! methods' sorts -/
def clo (T : List Nat) : Nat → Nat → Option Nat
  | 0, _ => none
  | f + 1, p => if p < T.length then (if b1 T p = 41 then some p else match tyE T p with
    | none => none
    | some q => clo T f q) else none
/-- the place of the ) behind ( TYPES -/
def cloT (T : List Nat) : Option Nat := if 0 < T.length ∧ b1 T 0 = 40 then clo T T.length 1 else none
def mthT (T : List Nat) : Bool := match cloT T with
  | none => false
  | some c => (decide (c + 2 = T.length) && decide (b1 T (c + 1) = 86)) || decide (tyE T (c + 1) = some T.length)
def wdT (c : Nat) : Nat := if c = 74 ∨ c = 68 then 2 else 1
/-- slots and types from a place on, up to the ) -/
def sumT (T : List Nat) : Nat → Nat → Nat × Nat
  | 0, _ => (0, 0)
  | f + 1, p => if b1 T p = 41 then (0, 0) else match tyE T p with
    | none => (0, 0)
    | some q => ((sumT T f q).1 + wdT (b1 T p), (sumT T f q).2 + 1)
theorem clo_b (T : List Nat) : ∀ f p c, clo T f p = some c → p ≤ c ∧ c < T.length ∧ b1 T c = 41
  | 0, p, c, h => by simp [clo] at h
  | f + 1, p, c, h => by
    unfold clo at h
    split at h
    · split at h
      · simp at h; subst h; exact ⟨Nat.le_refl _, by assumption, by assumption⟩
      · split at h
        · cases h
        · next q hq =>
          have h1 := clo_b T f q c h
          have h2 := tyE_b hq
          exact ⟨by omega, h1.2⟩
    · cases h
theorem cloT_b {T : List Nat} {c : Nat} (h : cloT T = some c) : 1 ≤ c ∧ c < T.length ∧ b1 T c = 41 := by
  unfold cloT at h
  split at h
  · exact clo_b T _ _ _ h
  · cases h
theorem c_SO_isType (hT : TI h r B T a) {p : Nat} (hp : p ≤ T.length) : Ev (prog nb sa) m_SO_isType [.ref r, .int (nI (a + p)), .int (nI (a + T.length))] h (some (.int (nI (if tyE T p = some T.length then 1 else 0)))) h := by
  have hz := hT.1.len; have hz2 := hT.2.2
  refine Ev_ofL k_SO_isType 3 [some (.ref r), some (.int (nI (a + p))), some (.int (nI (a + T.length)))] rfl (Nat.le_of_ble_eq_true rfl) rfl ?_
  cases e : tyE T p with
  | none =>
    refine Ex_mv rfl rfl ?_; refine Ex_mv rfl rfl ?_; refine Ex_mv rfl rfl ?_; refine Ex_inv rfl (by rfl) (by rfl) (by rfl) (c_SO_typeEnd hT hp) ?_
    rw [e]
    refine Ex_mv rfl rfl ?_; refine Ex_mv rfl rfl ?_; refine Ex_ift (fun z => nI_nm1 (by omega) z.symm) ?_; refine Ex_mv rfl rfl ?_
    refine Ex_rt rfl rfl ⟨?_, rfl⟩
    simp
  | some q =>
    have := tyE_b e
    by_cases hq : q = T.length
    · refine Ex_mv rfl rfl ?_; refine Ex_mv rfl rfl ?_; refine Ex_mv rfl rfl ?_; refine Ex_inv rfl (by rfl) (by rfl) (by rfl) (c_SO_typeEnd hT hp) ?_
      rw [e, hq]
      refine Ex_mv rfl rfl ?_; refine Ex_mv rfl rfl ?_; refine Ex_iff (not_not_intro rfl) ?_; refine Ex_mv rfl rfl ?_; refine Ex_mv rfl rfl ?_
      refine Ex_rt rfl rfl ⟨?_, rfl⟩
      simp [hq]
    · refine Ex_mv rfl rfl ?_; refine Ex_mv rfl rfl ?_; refine Ex_mv rfl rfl ?_; refine Ex_inv rfl (by rfl) (by rfl) (by rfl) (c_SO_typeEnd hT hp) ?_
      rw [e]
      refine Ex_mv rfl rfl ?_; refine Ex_mv rfl rfl ?_; refine Ex_ift (fun z => hq (by have := (nI_eq (a := a + q) (b := a + T.length) (by omega) (by omega)).mp z; omega)) ?_; refine Ex_mv rfl rfl ?_
      refine Ex_rt rfl rfl ⟨?_, rfl⟩
      simp [hq]
theorem c_SO_width (hT : TI h r B T a) {p : Nat} (hp : p < T.length) : Ev (prog nb sa) m_SO_width [.ref r, .int (nI (a + p))] h (some (.int (nI (wdT (b1 T p))))) h := by
  have hz := hT.1.len; have hz2 := hT.2.2
  obtain ⟨f, hr, ha, hB⟩ := id hT.1
  have hb := hT.b hp
  have hl := hT.lt p
  refine Ev_ofL k_SO_width 3 [some (.ref r), some (.int (nI (a + p))), none] rfl (Nat.le_of_ble_eq_true rfl) rfl ?_
  refine Ex_mv rfl rfl ?_; refine Ex_mv rfl rfl ?_; refine Ex_invV rfl (by rfl) (by rfl) (by assumption) (by rfl) (c_RW_one hT.1 (by omega)) ?_
  rw [hb]
  refine Ex_mv rfl rfl ?_; refine Ex_mv rfl rfl ?_; refine Ex_mv rfl rfl ?_; refine Ex_mv rfl rfl ?_; (first | refine Ex_eqN (by omega) (by omega) (fun b9 => ?_) (fun b9 => ?_) | refine Ex_if (fun b9 => ?_) (fun b9 => ?_))
  · refine Ex_mv rfl rfl ?_; refine Ex_mv rfl rfl ?_
    refine Ex_rt rfl rfl ⟨?_, rfl⟩
    first | (rw [wdT, if_pos (by omega)]; done) | (rw [wdT, if_neg (by omega)]; done)
  · refine Ex_mv rfl rfl ?_; refine Ex_mv rfl rfl ?_; refine Ex_mv rfl rfl ?_; (first | refine Ex_neN (by omega) (by omega) (fun b15 => ?_) (fun b15 => ?_) | refine Ex_if (fun b15 => ?_) (fun b15 => ?_))
    · refine Ex_mv rfl rfl ?_
      refine Ex_rt rfl rfl ⟨?_, rfl⟩
      first | (rw [wdT, if_pos (by omega)]; done) | (rw [wdT, if_neg (by omega)]; done)
    · refine Ex_mv rfl rfl ?_; refine Ex_mv rfl rfl ?_
      refine Ex_rt rfl rfl ⟨?_, rfl⟩
      first | (rw [wdT, if_pos (by omega)]; done) | (rw [wdT, if_neg (by omega)]; done)
theorem SO_closing_loop (hT : TI h r B T a) : ∀ (f p i : Nat), i < p → p ≤ T.length → T.length + 1 ≤ p + f → Ex (prog nb sa) k_SO_closing 26 [some (.ref r), some (.int (nI (a + 0))), some (.int (nI (a + T.length))), some (.int (nI (a + p))), some (.int (nI i))] [] h (fun v h' => v = some (.int (oI a (clo T f p))) ∧ h' = h)
  | 0, p, i, h1, h2, h3 => by omega
  | f + 1, p, i, h1, h2, h3 => by
    have hz := hT.1.len; have hz2 := hT.2.2
    obtain ⟨fb, hr, ha, hB⟩ := id hT.1
    have hl := hT.lt p
    unfold clo
    by_cases e1 : p < T.length
    · have hb := hT.b e1
      rw [if_pos e1]
      by_cases e2 : b1 T p = 41
      · rw [if_pos e2]
        refine Ex_mv rfl rfl ?_; refine Ex_mv rfl rfl ?_; refine Ex_mv rfl rfl ?_; refine Ex_iff (nI_ge (by omega) (by decide)) ?_; refine Ex_mv rfl rfl ?_; refine Ex_mv rfl rfl ?_; refine Ex_mv rfl rfl ?_; refine Ex_iff (nI_nm1 (by omega)) ?_; refine Ex_mv rfl rfl ?_; refine Ex_mv rfl rfl ?_; refine Ex_mv rfl rfl ?_; refine Ex_iff (nI_ge (by omega) (by omega)) ?_; refine Ex_mv rfl rfl ?_; refine Ex_mv rfl rfl ?_; refine Ex_invV rfl (by rfl) (by rfl) (by assumption) (by rfl) (c_RW_one hT.1 (by omega)) ?_
        rw [hb, e2]
        refine Ex_mv rfl rfl ?_; refine Ex_mv rfl rfl ?_; refine Ex_ift rfl ?_; refine Ex_mv rfl rfl ?_; refine Ex_mv rfl rfl ?_; refine Ex_mv rfl rfl ?_; refine Ex_iff (nI_ge (by omega) (by omega)) ?_; refine Ex_mv rfl rfl ?_; refine Ex_mv rfl rfl ?_
        exact Ex_rt rfl rfl ⟨rfl, rfl⟩
      · rw [if_neg e2]
        cases e3 : tyE T p with
        | none =>
          refine Ex_mv rfl rfl ?_; refine Ex_mv rfl rfl ?_; refine Ex_mv rfl rfl ?_; refine Ex_iff (nI_ge (by omega) (by decide)) ?_; refine Ex_mv rfl rfl ?_; refine Ex_mv rfl rfl ?_; refine Ex_mv rfl rfl ?_; refine Ex_iff (nI_nm1 (by omega)) ?_; refine Ex_mv rfl rfl ?_; refine Ex_mv rfl rfl ?_; refine Ex_mv rfl rfl ?_; refine Ex_iff (nI_ge (by omega) (by omega)) ?_
          refine Ex_mv rfl rfl ?_; refine Ex_mv rfl rfl ?_; refine Ex_invV rfl (by rfl) (by rfl) (by assumption) (by rfl) (c_RW_one hT.1 (by omega)) ?_
          rw [hb]
          refine Ex_mv rfl rfl ?_; refine Ex_mv rfl rfl ?_; refine Ex_iff (fun z => e2 ((nI_eq (by omega) (by decide)).mp z)) ?_; refine Ex_mv rfl rfl ?_; refine Ex_mv rfl rfl ?_; refine Ex_mv rfl rfl ?_; refine Ex_inv rfl (by rfl) (by rfl) (by rfl) (c_SO_typeEnd hT (by omega)) ?_
          rw [e3]
          refine Ex_mv rfl rfl ?_; (first | refine Ex_incN rfl rfl ?_ | refine Ex_mv rfl rfl ?_); refine Ex_mv rfl rfl ?_; refine Ex_mv rfl rfl ?_; refine Ex_mv rfl rfl ?_; refine Ex_mv rfl rfl ?_; refine Ex_iff (nI_ge (by omega) (by decide)) ?_; refine Ex_mv rfl rfl ?_; refine Ex_mv rfl rfl ?_; refine Ex_mv rfl rfl ?_; refine Ex_ift rfl ?_; refine Ex_mv rfl rfl ?_; refine Ex_mv rfl rfl ?_; refine Ex_mv rfl rfl ?_; refine Ex_iff (m1_lt (by omega)) ?_; refine Ex_mv rfl rfl ?_; refine Ex_mv rfl rfl ?_
          exact Ex_rt rfl rfl ⟨rfl, rfl⟩
        | some q =>
          have := tyE_b e3
          refine Ex_mv rfl rfl ?_; refine Ex_mv rfl rfl ?_; refine Ex_mv rfl rfl ?_; refine Ex_iff (nI_ge (by omega) (by decide)) ?_; refine Ex_mv rfl rfl ?_; refine Ex_mv rfl rfl ?_; refine Ex_mv rfl rfl ?_; refine Ex_iff (nI_nm1 (by omega)) ?_; refine Ex_mv rfl rfl ?_; refine Ex_mv rfl rfl ?_; refine Ex_mv rfl rfl ?_; refine Ex_iff (nI_ge (by omega) (by omega)) ?_; refine Ex_mv rfl rfl ?_; refine Ex_mv rfl rfl ?_; refine Ex_invV rfl (by rfl) (by rfl) (by assumption) (by rfl) (c_RW_one hT.1 (by omega)) ?_
          rw [hb]
          refine Ex_mv rfl rfl ?_; refine Ex_mv rfl rfl ?_; refine Ex_iff (fun z => e2 ((nI_eq (by omega) (by decide)).mp z)) ?_; refine Ex_mv rfl rfl ?_; refine Ex_mv rfl rfl ?_; refine Ex_mv rfl rfl ?_; refine Ex_inv rfl (by rfl) (by rfl) (by rfl) (c_SO_typeEnd hT (by omega)) ?_
          rw [e3]
          refine Ex_mv rfl rfl ?_; (first | refine Ex_incN rfl rfl ?_ | refine Ex_mv rfl rfl ?_); refine Ex_mv rfl rfl ?_
          exact SO_closing_loop hT f q (i + 1) (by omega) (by omega) (by omega)
    · rw [if_neg e1]
      refine Ex_mv rfl rfl ?_; refine Ex_mv rfl rfl ?_; refine Ex_mv rfl rfl ?_; refine Ex_iff (nI_ge (by omega) (by decide)) ?_; refine Ex_mv rfl rfl ?_; refine Ex_mv rfl rfl ?_; refine Ex_mv rfl rfl ?_; refine Ex_iff (nI_nm1 (by omega)) ?_; refine Ex_mv rfl rfl ?_; refine Ex_mv rfl rfl ?_; refine Ex_mv rfl rfl ?_; refine Ex_ift (nI_le (by omega) (by omega)) ?_; refine Ex_mv rfl rfl ?_; refine Ex_mv rfl rfl ?_; refine Ex_mv rfl rfl ?_; refine Ex_ift (nI_le (by omega) (by omega)) ?_; refine Ex_mv rfl rfl ?_
      exact Ex_rt rfl rfl ⟨rfl, rfl⟩
theorem c_SO_closing (hT : TI h r B T a) : Ev (prog nb sa) m_SO_closing [.ref r, .int (nI (a + 0)), .int (nI (a + T.length))] h (some (.int (oI a (cloT T)))) h := by
  have hz := hT.1.len; have hz2 := hT.2.2
  obtain ⟨f, hr, ha, hB⟩ := id hT.1
  have hl := hT.lt 0
  unfold cloT
  refine Ev_ofL k_SO_closing 5 [some (.ref r), some (.int (nI (a + 0))), some (.int (nI (a + T.length))), none, none] rfl (Nat.le_of_ble_eq_true rfl) rfl ?_
  by_cases e : 0 < T.length ∧ b1 T 0 = 40
  · rw [if_pos e]
    have hb := hT.b e.1
    refine Ex_mv rfl rfl ?_; refine Ex_mv rfl rfl ?_; refine Ex_mv rfl rfl ?_; refine Ex_iff (nI_ge (by omega) (by omega)) ?_; refine Ex_mv rfl rfl ?_; refine Ex_mv rfl rfl ?_; refine Ex_invV rfl (by rfl) (by rfl) (by assumption) (by rfl) (c_RW_one hT.1 (by omega)) ?_
    rw [hb, e.2]
    refine Ex_mv rfl rfl ?_; refine Ex_mv rfl rfl ?_; refine Ex_iff (not_not_intro rfl) ?_; refine Ex_mv rfl rfl ?_; refine Ex_mv rfl rfl ?_; (first | refine Ex_addN rfl ?_ | refine Ex_mv rfl rfl ?_); refine Ex_mv rfl rfl ?_; refine Ex_mv rfl rfl ?_; refine Ex_mv rfl rfl ?_; refine Ex_mv rfl rfl ?_
    exact SO_closing_loop hT T.length 1 0 (by omega) (by omega) (by omega)
  · rw [if_neg e]
    by_cases e1 : 0 < T.length
    · have hb := hT.b e1
      refine Ex_mv rfl rfl ?_; refine Ex_mv rfl rfl ?_; refine Ex_mv rfl rfl ?_; refine Ex_iff (nI_ge (by omega) (by omega)) ?_; refine Ex_mv rfl rfl ?_; refine Ex_mv rfl rfl ?_; refine Ex_invV rfl (by rfl) (by rfl) (by assumption) (by rfl) (c_RW_one hT.1 (by omega)) ?_
      rw [hb]
      refine Ex_mv rfl rfl ?_; refine Ex_mv rfl rfl ?_; refine Ex_ift (fun z => e ⟨e1, (nI_eq (by omega) (by decide)).mp z⟩) ?_; refine Ex_mv rfl rfl ?_; refine Ex_mv rfl rfl ?_; refine Ex_mv rfl rfl ?_; refine Ex_mv rfl rfl ?_; refine Ex_mv rfl rfl ?_; refine Ex_mv rfl rfl ?_; refine Ex_mv rfl rfl ?_; refine Ex_iff (by decide) ?_; refine Ex_mv rfl rfl ?_; refine Ex_mv rfl rfl ?_; refine Ex_mv rfl rfl ?_; refine Ex_ift rfl ?_; refine Ex_mv rfl rfl ?_; refine Ex_mv rfl rfl ?_; refine Ex_mv rfl rfl ?_; refine Ex_iff (m1_lt (by omega)) ?_; refine Ex_mv rfl rfl ?_; refine Ex_mv rfl rfl ?_
      exact Ex_rt rfl rfl ⟨rfl, rfl⟩
    · refine Ex_mv rfl rfl ?_; refine Ex_mv rfl rfl ?_; refine Ex_mv rfl rfl ?_; refine Ex_ift (nI_le (by omega) (by omega)) ?_; refine Ex_mv rfl rfl ?_; refine Ex_mv rfl rfl ?_; refine Ex_mv rfl rfl ?_; refine Ex_mv rfl rfl ?_; refine Ex_mv rfl rfl ?_; refine Ex_mv rfl rfl ?_; refine Ex_mv rfl rfl ?_; refine Ex_iff (by decide) ?_; refine Ex_mv rfl rfl ?_; refine Ex_mv rfl rfl ?_; refine Ex_mv rfl rfl ?_; refine Ex_ift rfl ?_; refine Ex_mv rfl rfl ?_; refine Ex_mv rfl rfl ?_; refine Ex_mv rfl rfl ?_; refine Ex_iff (m1_lt (by omega)) ?_; refine Ex_mv rfl rfl ?_; refine Ex_mv rfl rfl ?_
      exact Ex_rt rfl rfl ⟨rfl, rfl⟩
theorem c_SO_isMethod (hT : TI h r B T a) : Ev (prog nb sa) m_SO_isMethod [.ref r, .int (nI (a + 0)), .int (nI (a + T.length))] h (some (.int (nI (if mthT T then 1 else 0)))) h := by
  have hz := hT.1.len; have hz2 := hT.2.2
  obtain ⟨f, hr, ha, hB⟩ := id hT.1
  unfold mthT
  refine Ev_ofL k_SO_isMethod 5 [some (.ref r), some (.int (nI (a + 0))), some (.int (nI (a + T.length))), none, none] rfl (Nat.le_of_ble_eq_true rfl) rfl ?_
  cases e : cloT T with
  | none =>
    refine Ex_mv rfl rfl ?_; refine Ex_mv rfl rfl ?_; refine Ex_mv rfl rfl ?_; refine Ex_inv rfl (by rfl) (by rfl) (by rfl) (c_SO_closing hT) ?_
    rw [e]
    refine Ex_mv rfl rfl ?_; refine Ex_mv rfl rfl ?_; refine Ex_mv rfl rfl ?_; refine Ex_mv rfl rfl ?_; refine Ex_iff (not_not_intro rfl) ?_; refine Ex_mv rfl rfl ?_
    exact Ex_rt rfl rfl ⟨rfl, rfl⟩
  | some c =>
    have hc := cloT_b e
    have hl := hT.lt (c + 1)
    have key : ∀ x4 : Nat, x4 ≤ 1 → Ex (prog nb sa) k_SO_isMethod 40 [some (.ref r), some (.int (nI (a + 0))), some (.int (nI (a + T.length))), some (.int (nI (a + c))), some (.int (nI x4))] [] h (fun v h' => v = some (.int (nI (if x4 = 1 ∨ tyE T (c + 1) = some T.length then 1 else 0))) ∧ h' = h) := by
      intro x4 hx4
      by_cases hx : x4 = 1
      · subst hx
        refine Ex_mv rfl rfl ?_; refine Ex_mv rfl rfl ?_; refine Ex_ift (by decide) ?_; refine Ex_mv rfl rfl ?_; refine Ex_mv rfl rfl ?_
        refine Ex_rt rfl rfl ⟨?_, rfl⟩
        simp
      · have hx0 : x4 = 0 := by omega
        subst hx0
        by_cases ht : tyE T (c + 1) = some T.length
        · refine Ex_mv rfl rfl ?_; refine Ex_mv rfl rfl ?_; refine Ex_iff (by decide) ?_; refine Ex_mv rfl rfl ?_; refine Ex_mv rfl rfl ?_; refine Ex_mv rfl rfl ?_; (first | refine Ex_addN rfl ?_ | refine Ex_mv rfl rfl ?_)
          rw [Nat.add_assoc]
          refine Ex_mv rfl rfl ?_; refine Ex_inv rfl (by rfl) (by rfl) (by rfl) (c_SO_isType hT (by omega)) ?_
          rw [if_pos ht]
          refine Ex_mv rfl rfl ?_; refine Ex_iff (by decide) ?_; refine Ex_mv rfl rfl ?_; refine Ex_mv rfl rfl ?_
          refine Ex_rt rfl rfl ⟨?_, rfl⟩
          simp [ht]
        · refine Ex_mv rfl rfl ?_; refine Ex_mv rfl rfl ?_; refine Ex_iff (by decide) ?_; refine Ex_mv rfl rfl ?_; refine Ex_mv rfl rfl ?_; refine Ex_mv rfl rfl ?_; (first | refine Ex_addN rfl ?_ | refine Ex_mv rfl rfl ?_)
          rw [Nat.add_assoc]
          refine Ex_mv rfl rfl ?_; refine Ex_inv rfl (by rfl) (by rfl) (by rfl) (c_SO_isType hT (by omega)) ?_
          rw [if_neg ht]
          refine Ex_mv rfl rfl ?_; refine Ex_ift (by decide) ?_; refine Ex_mv rfl rfl ?_
          refine Ex_rt rfl rfl ⟨?_, rfl⟩
          simp [ht]
    by_cases h1 : c + 2 = T.length
    · have hb := hT.b (j := c + 1) (by omega)
      by_cases h2 : b1 T (c + 1) = 86
      · refine Ex_mv rfl rfl ?_; refine Ex_mv rfl rfl ?_; refine Ex_mv rfl rfl ?_; refine Ex_inv rfl (by rfl) (by rfl) (by rfl) (c_SO_closing hT) ?_
        rw [e]
        refine Ex_mv rfl rfl ?_; refine Ex_mv rfl rfl ?_; refine Ex_mv rfl rfl ?_; refine Ex_mv rfl rfl ?_; refine Ex_ift (nI_nm1 (by omega)) ?_; refine Ex_mv rfl rfl ?_; refine Ex_mv rfl rfl ?_; (first | refine Ex_addN rfl ?_ | refine Ex_mv rfl rfl ?_); refine Ex_mv rfl rfl ?_; refine Ex_mv rfl rfl ?_; refine Ex_iff (by rw [Nat.add_assoc, h1]; exact not_not_intro rfl) ?_; refine Ex_mv rfl rfl ?_; refine Ex_mv rfl rfl ?_; refine Ex_mv rfl rfl ?_; (first | refine Ex_addN rfl ?_ | refine Ex_mv rfl rfl ?_); refine Ex_invV rfl (by rfl) (by rfl) (by assumption) (by rfl) (c_RW_one hT.1 (by omega)) ?_
        rw [Nat.add_assoc, hb, h2]
        refine Ex_mv rfl rfl ?_; refine Ex_mv rfl rfl ?_; refine Ex_iff (not_not_intro rfl) ?_; refine Ex_mv rfl rfl ?_; refine Ex_mv rfl rfl ?_; refine Ex_mv rfl rfl ?_
        refine Ex_mono (key 1 (by decide)) ?_
        rintro v h' ⟨rfl, rfl⟩
        simp [h1, h2]
      · refine Ex_mv rfl rfl ?_; refine Ex_mv rfl rfl ?_; refine Ex_mv rfl rfl ?_; refine Ex_inv rfl (by rfl) (by rfl) (by rfl) (c_SO_closing hT) ?_
        rw [e]
        refine Ex_mv rfl rfl ?_; refine Ex_mv rfl rfl ?_; refine Ex_mv rfl rfl ?_; refine Ex_mv rfl rfl ?_; refine Ex_ift (nI_nm1 (by omega)) ?_; refine Ex_mv rfl rfl ?_; refine Ex_mv rfl rfl ?_; (first | refine Ex_addN rfl ?_ | refine Ex_mv rfl rfl ?_); refine Ex_mv rfl rfl ?_; refine Ex_mv rfl rfl ?_; refine Ex_iff (by rw [Nat.add_assoc, h1]; exact not_not_intro rfl) ?_; refine Ex_mv rfl rfl ?_; refine Ex_mv rfl rfl ?_; refine Ex_mv rfl rfl ?_; (first | refine Ex_addN rfl ?_ | refine Ex_mv rfl rfl ?_); refine Ex_invV rfl (by rfl) (by rfl) (by assumption) (by rfl) (c_RW_one hT.1 (by omega)) ?_
        rw [Nat.add_assoc, hb]
        refine Ex_mv rfl rfl ?_; refine Ex_mv rfl rfl ?_; refine Ex_ift (fun z => h2 ((nI_eq (by omega) (by decide)).mp z)) ?_; refine Ex_mv rfl rfl ?_; refine Ex_mv rfl rfl ?_
        refine Ex_mono (key 0 (by decide)) ?_
        rintro v h' ⟨rfl, rfl⟩
        simp [h2]
    · refine Ex_mv rfl rfl ?_; refine Ex_mv rfl rfl ?_; refine Ex_mv rfl rfl ?_; refine Ex_inv rfl (by rfl) (by rfl) (by rfl) (c_SO_closing hT) ?_
      rw [e]
      refine Ex_mv rfl rfl ?_; refine Ex_mv rfl rfl ?_; refine Ex_mv rfl rfl ?_; refine Ex_mv rfl rfl ?_; refine Ex_ift (nI_nm1 (by omega)) ?_; refine Ex_mv rfl rfl ?_; refine Ex_mv rfl rfl ?_; (first | refine Ex_addN rfl ?_ | refine Ex_mv rfl rfl ?_); refine Ex_mv rfl rfl ?_; refine Ex_mv rfl rfl ?_; refine Ex_ift (fun z => h1 (by have := (nI_eq (a := a + c + 2) (b := a + T.length) (by omega) (by omega)).mp z; omega)) ?_; refine Ex_mv rfl rfl ?_; refine Ex_mv rfl rfl ?_
      refine Ex_mono (key 0 (by decide)) ?_
      rintro v h' ⟨rfl, rfl⟩
      simp [h1]
/-- slots or types of a method's sort -/
def pick (w : Bool) (x : Nat × Nat) : Nat := if w then x.1 else x.2
theorem SO_sum_loop (hT : TI h r B T a) {w : Bool} : ∀ (f p i s c : Nat), clo T f p = some c → i < p → s ≤ 2 * p → Ex (prog nb sa) k_SO_sum 11 [some (.ref r), some (.int (nI (a + 0))), some (.int (nI (a + T.length))), some (.int (nI (if w then 1 else 0))), some (.int (nI s)), some (.int (nI (a + p))), some (.int (nI i))] [] h (fun v h' => v = some (.int (nI (s + pick w (sumT T f p)))) ∧ h' = h)
  | 0, p, i, s, c, hc, h1, h2 => by simp [clo] at hc
  | f + 1, p, i, s, c, hc, h1, h2 => by
    have hz := hT.1.len; have hz2 := hT.2.2
    obtain ⟨fb, hr, ha, hB⟩ := id hT.1
    have hl := hT.lt p
    have hcb := clo_b T _ _ _ hc
    have hb := hT.b (j := p) (by omega)
    unfold clo at hc
    rw [if_pos (by omega)] at hc
    unfold sumT
    by_cases e2 : b1 T p = 41
    · rw [if_pos e2]
      refine Ex_mv rfl rfl ?_; refine Ex_mv rfl rfl ?_; refine Ex_mv rfl rfl ?_; refine Ex_iff (nI_ge (by omega) (by decide)) ?_; refine Ex_mv rfl rfl ?_; refine Ex_mv rfl rfl ?_; refine Ex_mv rfl rfl ?_; refine Ex_iff (nI_nm1 (by omega)) ?_; refine Ex_mv rfl rfl ?_; refine Ex_mv rfl rfl ?_; refine Ex_invV rfl (by rfl) (by rfl) (by assumption) (by rfl) (c_RW_one hT.1 (by omega)) ?_
      rw [hb, e2]
      refine Ex_mv rfl rfl ?_; refine Ex_mv rfl rfl ?_; refine Ex_ift rfl ?_; refine Ex_mv rfl rfl ?_
      refine Ex_rt rfl rfl ⟨?_, rfl⟩
      cases w <;> rfl
    · rw [if_neg e2] at hc ⊢
      cases e3 : tyE T p with
      | none => rw [e3] at hc; cases hc
      | some q =>
        rw [e3] at hc
        have hq := tyE_b e3
        have hwd : wdT (b1 T p) ≤ 2 := by unfold wdT; split <;> omega
        cases w with
        | true =>
          refine Ex_mv rfl rfl ?_; refine Ex_mv rfl rfl ?_; refine Ex_mv rfl rfl ?_; refine Ex_iff (nI_ge (by omega) (by decide)) ?_; refine Ex_mv rfl rfl ?_; refine Ex_mv rfl rfl ?_; refine Ex_mv rfl rfl ?_; refine Ex_iff (nI_nm1 (by omega)) ?_; refine Ex_mv rfl rfl ?_; refine Ex_mv rfl rfl ?_; refine Ex_invV rfl (by rfl) (by rfl) (by assumption) (by rfl) (c_RW_one hT.1 (by omega)) ?_
          rw [hb]
          refine Ex_mv rfl rfl ?_; refine Ex_mv rfl rfl ?_; refine Ex_iff (fun z => e2 ((nI_eq (by omega) (by decide)).mp z)) ?_; refine Ex_mv rfl rfl ?_; refine Ex_mv rfl rfl ?_; refine Ex_mv rfl rfl ?_; refine Ex_iff (by decide) ?_; refine Ex_mv rfl rfl ?_; refine Ex_mv rfl rfl ?_; refine Ex_inv rfl (by rfl) (by rfl) (by rfl) (c_SO_width hT (by omega)) ?_; refine Ex_mv rfl rfl ?_; (first | refine Ex_addN rfl ?_ | refine Ex_mv rfl rfl ?_); refine Ex_mv rfl rfl ?_; refine Ex_mv rfl rfl ?_; refine Ex_mv rfl rfl ?_; refine Ex_mv rfl rfl ?_; refine Ex_inv rfl (by rfl) (by rfl) (by rfl) (c_SO_typeEnd hT (by omega)) ?_
          rw [e3]
          refine Ex_mv rfl rfl ?_; (first | refine Ex_incN rfl rfl ?_ | refine Ex_mv rfl rfl ?_); refine Ex_mv rfl rfl ?_
          refine Ex_mono (SO_sum_loop hT (w := true) f q (i + 1) (s + wdT (b1 T p)) c hc (by omega) (by omega)) ?_
          rintro v h' ⟨rfl, rfl⟩
          simp only [pick, if_true]
          refine ⟨?_, trivial⟩
          congr 3
          omega
        | false =>
          refine Ex_mv rfl rfl ?_; refine Ex_mv rfl rfl ?_; refine Ex_mv rfl rfl ?_; refine Ex_iff (nI_ge (by omega) (by decide)) ?_; refine Ex_mv rfl rfl ?_; refine Ex_mv rfl rfl ?_; refine Ex_mv rfl rfl ?_; refine Ex_iff (nI_nm1 (by omega)) ?_; refine Ex_mv rfl rfl ?_; refine Ex_mv rfl rfl ?_; refine Ex_invV rfl (by rfl) (by rfl) (by assumption) (by rfl) (c_RW_one hT.1 (by omega)) ?_
          rw [hb]
          refine Ex_mv rfl rfl ?_; refine Ex_mv rfl rfl ?_; refine Ex_iff (fun z => e2 ((nI_eq (by omega) (by decide)).mp z)) ?_; refine Ex_mv rfl rfl ?_; refine Ex_mv rfl rfl ?_; refine Ex_mv rfl rfl ?_; refine Ex_ift (by decide) ?_; refine Ex_mv rfl rfl ?_; (first | refine Ex_addN rfl ?_ | refine Ex_mv rfl rfl ?_); refine Ex_mv rfl rfl ?_; refine Ex_mv rfl rfl ?_; refine Ex_mv rfl rfl ?_; refine Ex_mv rfl rfl ?_; refine Ex_inv rfl (by rfl) (by rfl) (by rfl) (c_SO_typeEnd hT (by omega)) ?_
          rw [e3]
          refine Ex_mv rfl rfl ?_; (first | refine Ex_incN rfl rfl ?_ | refine Ex_mv rfl rfl ?_); refine Ex_mv rfl rfl ?_
          refine Ex_mono (SO_sum_loop hT (w := false) f q (i + 1) (s + 1) c hc (by omega) (by omega)) ?_
          rintro v h' ⟨rfl, rfl⟩
          simp only [pick]
          refine ⟨?_, trivial⟩
          simp only [Bool.false_eq_true, if_false]
          congr 3
          omega
/-- slots and types of a method's sort -/
def sumM (T : List Nat) : Nat × Nat := sumT T T.length 1
theorem c_SO_sum (hT : TI h r B T a) {w : Bool} {c : Nat} (hc : cloT T = some c) : Ev (prog nb sa) m_SO_sum [.ref r, .int (nI (a + 0)), .int (nI (a + T.length)), .int (nI (if w then 1 else 0))] h (some (.int (nI (pick w (sumM T))))) h := by
  have hc2 : clo T T.length 1 = some c := by unfold cloT at hc; split at hc <;> first | exact hc | cases hc
  refine Ev_ofL k_SO_sum 7 [some (.ref r), some (.int (nI (a + 0))), some (.int (nI (a + T.length))), some (.int (nI (if w then 1 else 0))), none, none, none] rfl (Nat.le_of_ble_eq_true rfl) rfl ?_
  refine Ex_mv rfl rfl ?_; refine Ex_mv rfl rfl ?_; refine Ex_mv rfl rfl ?_; refine Ex_mv rfl rfl ?_; (first | refine Ex_addN rfl ?_ | refine Ex_mv rfl rfl ?_); refine Ex_mv rfl rfl ?_; refine Ex_mv rfl rfl ?_; refine Ex_mv rfl rfl ?_
  refine Ex_mono (SO_sum_loop hT T.length 1 0 0 c hc2 (by omega) (by omega)) ?_
  rintro v h' ⟨rfl, rfl⟩
  rw [Nat.zero_add]
  exact ⟨rfl, rfl⟩
end SORTS
