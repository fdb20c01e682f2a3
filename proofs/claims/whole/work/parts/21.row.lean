/-! bytes, rows -/
theorem nI_or (a b : Nat) : nI a ||| nI b = nI (a ||| b) := by
  apply Int32.toBitVec_inj.mp
  show BitVec.ofNat 32 a ||| BitVec.ofNat 32 b = BitVec.ofNat 32 (a ||| b)
  rw [BitVec.ofNat_or]
theorem or8 {a b : Nat} (hb : b < 256) : nI (a * 256) ||| nI b = nI (256 * a + b) := by
  rw [nI_or, Nat.mul_comm a 256]
  have := Nat.two_pow_add_eq_or_of_lt (i := 8) (b := b) hb a
  rw [show (2 ^ 8 : Nat) = 256 from rfl] at this
  rw [this]
theorem or16 {a b : Nat} (hb : b < 65536) : nI (a * 65536) ||| nI b = nI (65536 * a + b) := by
  rw [nI_or, Nat.mul_comm a 65536]
  have := Nat.two_pow_add_eq_or_of_lt (i := 16) (b := b) hb a
  rw [show (2 ^ 16 : Nat) = 65536 from rfl] at this
  rw [this]
theorem shl8 {a : Nat} (h : a < 256) : nI a <<< (nI 8 &&& 31) = nI (a * 256) := pk_shlN _ 8 (by decide) (by omega)
theorem shl16 {a : Nat} (h : a < 65536) : nI a <<< (nI 16 &&& 31) = nI (a * 65536) := pk_shlN _ 16 (by decide) (by omega)
theorem shr8 {a : Nat} (h : a < 2 ^ 31) : nI a >>> (nI 8 &&& 31) = nI (a / 256) := pk_shrN h _ 8 (by decide)
/-- the lowest byte -/
def lowb (x : Int32) : Nat := x.toBitVec.toNat % 256
theorem lowb_lt (x : Int32) : lowb x < 256 := Nat.mod_lt _ (by decide)
theorem sb_low (x : Int32) : x.toInt8.toInt32 = sb_b (lowb x) := by
  unfold sb_b lowb
  congr 1
  apply Int8.toBitVec_inj.mp
  show x.toBitVec.signExtend 8 = (nI (x.toBitVec.toNat % 256)).toBitVec.signExtend 8
  apply BitVec.eq_of_toNat_eq
  rw [BitVec.signExtend_eq_setWidth_of_le _ (by decide), BitVec.signExtend_eq_setWidth_of_le _ (by decide)]
  simp only [BitVec.toNat_setWidth]
  show _ = (BitVec.ofNat 32 _).toNat % _
  simp only [BitVec.toNat_ofNat]
  omega
theorem sb_low2 (x : Int32) : x.toInt8.toInt32.toInt8.toInt32 = sb_b (lowb x) := by
  rw [show x.toInt8.toInt32.toInt8 = x.toInt8 from by simp]; exact sb_low x
theorem lowb_nI (v : Nat) : lowb (nI v) = v % 256 := by
  unfold lowb
  show (BitVec.ofNat 32 v).toNat % 256 = v % 256
  simp only [BitVec.toNat_ofNat]
  omega
/-- the heap, but cells from lo to hi, is the same -/
def FrI (lo hi : Nat) (h h' : Hp) : Prop := h'.1 = h.1 ∧ h'.2.1 = h.2.1 ∧ ∀ q, (q < lo ∨ hi ≤ q) → h'.2.2 q = h.2.2 q
theorem FrI.rf {lo hi : Nat} {h : Hp} : FrI lo hi h h := ⟨rfl, rfl, fun _ _ => rfl⟩
theorem FrI.tr {lo hi : Nat} {h h1 h2 : Hp} (a : FrI lo hi h h1) (b : FrI lo hi h1 h2) : FrI lo hi h h2 := ⟨b.1.trans a.1, b.2.1.trans a.2.1, fun q hq => (b.2.2 q hq).trans (a.2.2 q hq)⟩
theorem FrI.wd {lo hi lo' hi' : Nat} {h h1 : Hp} (a : FrI lo hi h h1) (g1 : lo' ≤ lo) (g2 : hi ≤ hi') : FrI lo' hi' h h1 := ⟨a.1, a.2.1, fun q hq => a.2.2 q (by omega)⟩
theorem FrI.at {lo hi q : Nat} {h h1 : Hp} {x : Option (Bool × Ce)} (a : FrI lo hi h h1) (hx : h.2.2 q = x) (hq : q < lo ∨ hi ≤ q) : h1.2.2 q = x := (a.2.2 q hq).trans hx
theorem FrI.set {lo hi a : Nat} {h h1 : Hp} {c : Ce} (f : FrI lo hi h h1) (h1' : lo ≤ a) (h2 : a < hi) : FrI lo hi h (hset h1 a c) := ⟨f.1, f.2.1, fun q hq => by
  show (if q = a then _ else _) = _
  rw [if_neg (by omega)]; exact f.2.2 q hq⟩
theorem hs_at {h : Hp} {a : Nat} {c : Ce} : (hset h a c).2.2 a = some (true, c) := if_pos rfl
theorem hs_ne {h : Hp} {a q : Nat} {c : Ce} {x : Option (Bool × Ce)} (hq : q ≠ a) (hx : h.2.2 q = x) : (hset h a c).2.2 q = x := (if_neg hq).trans hx
/-- bytes as a row holds them -/
def BR (f : Nat → Int32) (B : List Nat) : Prop := B.length ≤ 400 ∧ (∀ j, j < B.length → f j = sb_b (B.getD j 0)) ∧ ∀ x ∈ B, x < 256
def b1 (B : List Nat) (k : Nat) : Nat := B.getD k 0
def b2 (B : List Nat) (k : Nat) : Nat := if k + 1 < B.length then 256 * b1 B k + b1 B (k + 1) else 0
def b4 (B : List Nat) (k : Nat) : Nat := 65536 * b2 B k + b2 B (k + 2)
theorem b1_lt {B : List Nat} (hB : ∀ x ∈ B, x < 256) (k : Nat) : b1 B k < 256 := by
  unfold b1
  by_cases hk : k < B.length
  · rw [List.getD_eq_getElem?_getD, List.getElem?_eq_getElem hk]; exact hB _ (List.getElem_mem hk)
  · rw [List.getD_eq_getElem?_getD, List.getElem?_eq_none (by omega)]; decide
theorem b1_out {B : List Nat} {k : Nat} (h : B.length ≤ k) : b1 B k = 0 := by
  unfold b1; rw [List.getD_eq_getElem?_getD, List.getElem?_eq_none h]; rfl
theorem b2_lt {B : List Nat} (hB : ∀ x ∈ B, x < 256) (k : Nat) : b2 B k < 65536 := by
  unfold b2
  have h1 := b1_lt hB k
  have h2 := b1_lt hB (k + 1)
  split <;> omega
theorem b4_lt {B : List Nat} (hB : ∀ x ∈ B, x < 256) (k : Nat) : b4 B k < 2 ^ 32 := by
  unfold b4
  have h1 := b2_lt hB k
  have h2 := b2_lt hB (k + 2)
  omega
theorem sb_and {c : Nat} (h : c < 256) : sb_b c &&& nI 255 = nI c := (sb_byte c h).1
theorem BR.at {f : Nat → Int32} {B : List Nat} (hB : BR f B) {k : Nat} (hk : k < B.length) : f (nI k).toNatClampNeg &&& nI 255 = nI (b1 B k) := by
  have := hB.1
  rw [nI_clamp (by omega), hB.2.1 k hk]
  exact sb_and (b1_lt hB.2.2 k)
theorem BR.push {f : Nat → Int32} {B : List Nat} (hB : BR f B) {c : Nat} (hc : c < 256) (hn : B.length < 400) {x : Int32} (hx : x = sb_b c) : BR (upd f (nI B.length).toNatClampNeg x) (B ++ [c]) := by
  rw [nI_clamp (by omega), hx]
  refine ⟨by simp; omega, fun j hj => ?_, fun y hy => ?_⟩
  · simp only [List.length_append, List.length_cons, List.length_nil] at hj
    by_cases e : j = B.length
    · subst e; simp [upd]
    · rw [List.getD_eq_getElem?_getD, List.getElem?_append_left (by omega), ← List.getD_eq_getElem?_getD]
      simp only [upd, e, if_false]
      exact hB.2.1 j (by omega)
  · rcases List.mem_append.mp hy with h | h
    · exact hB.2.2 y h
    · simp at h; omega
theorem getD_set {B : List Nat} {k c j : Nat} (hk : k < B.length) : (B.set k c).getD j 0 = if j = k then c else B.getD j 0 := by
  rw [List.getD_eq_getElem?_getD, List.getD_eq_getElem?_getD, List.getElem?_set]
  by_cases e : j = k
  · subst e; simp [hk]
  · rw [if_neg (fun q => e q.symm), if_neg e]
theorem BR.set {f : Nat → Int32} {B : List Nat} (hB : BR f B) {k c : Nat} (hc : c < 256) (hk : k < B.length) {x : Int32} (hx : x = sb_b c) : BR (upd f (nI k).toNatClampNeg x) (B.set k c) := by
  have := hB.1
  rw [nI_clamp (by omega), hx]
  refine ⟨by simpa using hB.1, fun j hj => ?_, fun y hy => ?_⟩
  · rw [getD_set hk]
    by_cases e : j = k
    · simp [upd, e]
    · simp only [upd, e, if_false]
      exact hB.2.1 j (by simpa using hj)
  · rcases List.mem_or_eq_of_mem_set hy with h | h
    · exact hB.2.2 y h
    · omega
section ROW
variable {nb sa : Nat} {h : Hp}
/-- a row: its object, its bytes just behind it -/
abbrev RO (h : Hp) (r n : Nat) : Prop := h.2.2 r = some (true, .inr (4, [.ref (r + 1), .int (nI n)]))
abbrev RB (h : Hp) (r : Nat) (f : Nat → Int32) : Prop := h.2.2 (r + 1) = some (true, .inl (0, 400, .inl f))
def RW (h : Hp) (r : Nat) (B : List Nat) : Prop := ∃ f, RO h r B.length ∧ RB h r f ∧ BR f B
theorem RW.len {r : Nat} {B : List Nat} (h1 : RW h r B) : B.length ≤ 400 := by obtain ⟨f, -, -, hB⟩ := h1; exact hB.1
theorem RW.lt {r : Nat} {B : List Nat} (h1 : RW h r B) : ∀ x ∈ B, x < 256 := by obtain ⟨f, -, -, hB⟩ := h1; exact hB.2.2
theorem RW.fr {r lo hi : Nat} {B : List Nat} {h' : Hp} (h1 : RW h r B) (f : FrI lo hi h h') (hq : r + 2 ≤ lo ∨ hi ≤ r) : RW h' r B := by
  obtain ⟨g, a, b, c⟩ := h1
  exact ⟨g, f.at a (by omega), f.at b (by omega), c⟩
theorem c_RW_size {r : Nat} {B : List Nat} (hR : RW h r B) : Ev (prog nb sa) m_RW_size [.ref r] h (some (.int (nI B.length))) h := by
  obtain ⟨f, hr, ha, hB⟩ := hR
  refine Ev_of k_RW_size 1 rfl (Nat.le_of_ble_eq_true rfl) ?_
  refine Ex_mv rfl rfl ?_; refine Ex_getf rfl (by assumption) rfl ?_
  exact Ex_rt rfl rfl ⟨rfl, rfl⟩
theorem c_RW_one {r : Nat} {B : List Nat} (hR : RW h r B) {k : Nat} (hk : k < 2 ^ 31) : Ev (prog nb sa) m_RW_one [.ref r, .int (nI k)] h (some (.int (nI (b1 B k)))) h := by
  obtain ⟨f, hr, ha, hB⟩ := hR
  have hl := hB.1
  refine Ev_of k_RW_one 2 rfl (Nat.le_of_ble_eq_true rfl) ?_
  refine Ex_mv rfl rfl ?_; refine Ex_mv rfl rfl ?_; refine Ex_lt0 (by omega) ?_; refine Ex_mv rfl rfl ?_; refine Ex_mv rfl rfl ?_; refine Ex_getf rfl (by assumption) rfl ?_; refine Ex_mv rfl rfl ?_; (first | refine Ex_leN (by omega) (by omega) (fun b9 => ?_) (fun b9 => ?_) | refine Ex_if (fun b9 => ?_) (fun b9 => ?_))
  · refine Ex_mv rfl rfl ?_
    refine Ex_rt rfl rfl ⟨?_, rfl⟩
    first | (rw [hB.at (by omega)]; done) | (rw [b1_out (by omega)]; done) | (exfalso; omega)
  · refine Ex_mv rfl rfl ?_; refine Ex_mv rfl rfl ?_; refine Ex_getf rfl (by assumption) rfl ?_; refine Ex_alen rfl (by assumption) rfl ?_; refine Ex_mv rfl rfl ?_; (first | refine Ex_leN (by omega) (by omega) (fun b18 => ?_) (fun b18 => ?_) | refine Ex_if (fun b18 => ?_) (fun b18 => ?_))
    · refine Ex_mv rfl rfl ?_
      refine Ex_rt rfl rfl ⟨?_, rfl⟩
      first | (rw [hB.at (by omega)]; done) | (rw [b1_out (by omega)]; done) | (exfalso; omega)
    · refine Ex_mv rfl rfl ?_; refine Ex_getf rfl (by assumption) rfl ?_; refine Ex_mv rfl rfl ?_; refine Ex_iald rfl (by assumption) (by first | assumption | exact vp_in_nI (by omega) (by omega)) ?_; refine Ex_mv rfl rfl ?_; refine Ex_iand rfl ?_; refine Ex_mv rfl rfl ?_
      refine Ex_rt rfl rfl ⟨?_, rfl⟩
      first | (rw [hB.at (by omega)]; done) | (rw [b1_out (by omega)]; done) | (exfalso; omega)
theorem c_RW_has {r : Nat} {B : List Nat} (hR : RW h r B) {k n : Nat} (hk : k < 2 ^ 31) (hn : n < 2 ^ 31) : Ev (prog nb sa) m_RW_has [.ref r, .int (nI k), .int (nI n)] h (some (.int (nI (if k + n ≤ B.length then 1 else 0)))) h := by
  obtain ⟨f, hr, ha, hB⟩ := hR
  have hl := hB.1
  refine Ev_of k_RW_has 3 rfl (Nat.le_of_ble_eq_true rfl) ?_
  refine Ex_mv rfl rfl ?_; refine Ex_mv rfl rfl ?_; refine Ex_lt0 (by omega) ?_; refine Ex_mv rfl rfl ?_; refine Ex_mv rfl rfl ?_; refine Ex_lt0 (by omega) ?_; refine Ex_mv rfl rfl ?_; refine Ex_mv rfl rfl ?_; refine Ex_getf rfl (by assumption) rfl ?_; refine Ex_mv rfl rfl ?_; (first | refine Ex_ltN (by omega) (by omega) (fun b13 => ?_) (fun b13 => ?_) | refine Ex_if (fun b13 => ?_) (fun b13 => ?_))
  · refine Ex_mv rfl rfl ?_
    refine Ex_rt rfl rfl ⟨?_, rfl⟩
    first | (rw [if_pos (by omega)]; done) | (rw [if_neg (by omega)]; done)
  · refine Ex_mv rfl rfl ?_; refine Ex_mv rfl rfl ?_; refine Ex_getf rfl (by assumption) rfl ?_; refine Ex_mv rfl rfl ?_; (first | refine Ex_subN rfl (by omega) ?_ | refine Ex_mv rfl rfl ?_); refine Ex_mv rfl rfl ?_; (first | refine Ex_ltN (by omega) (by omega) (fun b23 => ?_) (fun b23 => ?_) | refine Ex_if (fun b23 => ?_) (fun b23 => ?_))
    · refine Ex_mv rfl rfl ?_
      refine Ex_rt rfl rfl ⟨?_, rfl⟩
      first | (rw [if_pos (by omega)]; done) | (rw [if_neg (by omega)]; done)
    · refine Ex_mv rfl rfl ?_; refine Ex_mv rfl rfl ?_
      refine Ex_rt rfl rfl ⟨?_, rfl⟩
      first | (rw [if_pos (by omega)]; done) | (rw [if_neg (by omega)]; done)
theorem c_RW_hasN {r : Nat} {B : List Nat} (hR : RW h r B) {i n : Int32} (hi : i < 0) : Ev (prog nb sa) m_RW_has [.ref r, .int i, .int n] h (some (.int (nI 0))) h := by
  obtain ⟨f, hr, ha, hB⟩ := hR
  refine Ev_of k_RW_has 3 rfl (Nat.le_of_ble_eq_true rfl) ?_
  refine Ex_mv rfl rfl ?_; refine Ex_mv rfl rfl ?_; refine Ex_ift hi ?_; refine Ex_mv rfl rfl ?_
  exact Ex_rt rfl rfl ⟨rfl, rfl⟩
theorem two_of {x y : Nat} (hx : x < 256) (hy : y < 256) : nI x <<< (nI 8 &&& 31) ||| nI y = nI (256 * x + y) := by rw [shl8 hx, or8 hy]
theorem c_RW_two {r : Nat} {B : List Nat} (hR : RW h r B) {k : Nat} (hk : k < 2 ^ 31) : Ev (prog nb sa) m_RW_two [.ref r, .int (nI k)] h (some (.int (nI (b2 B k)))) h := by
  obtain ⟨f, hr, ha, hB⟩ := hR
  have hl := hB.1
  refine Ev_of k_RW_two 2 rfl (Nat.le_of_ble_eq_true rfl) ?_
  by_cases hz : B.length = 0
  · rw [hz] at hr
    refine Ex_mv rfl rfl ?_; refine Ex_mv rfl rfl ?_; refine Ex_lt0 (by omega) ?_; refine Ex_mv rfl rfl ?_; refine Ex_mv rfl rfl ?_; refine Ex_getf rfl (by assumption) rfl ?_; refine Ex_mv rfl rfl ?_; (first | refine Ex_subN rfl (by omega) ?_ | refine Ex_mv rfl rfl ?_); refine Ex_mv rfl rfl ?_; refine Ex_ift (Int32.le_of_lt (Int32.lt_of_lt_of_le (pk_sneg (by decide) (by decide)) (nI_pos' (by omega)))) ?_; refine Ex_mv rfl rfl ?_
    refine Ex_rt rfl rfl ⟨?_, rfl⟩
    rw [b2, if_neg (by omega)]
  · refine Ex_mv rfl rfl ?_; refine Ex_mv rfl rfl ?_; refine Ex_lt0 (by omega) ?_; refine Ex_mv rfl rfl ?_; refine Ex_mv rfl rfl ?_; refine Ex_getf rfl (by assumption) rfl ?_; refine Ex_mv rfl rfl ?_; (first | refine Ex_subN rfl (by omega) ?_ | refine Ex_mv rfl rfl ?_); refine Ex_mv rfl rfl ?_; (first | refine Ex_leN (by omega) (by omega) (fun b11 => ?_) (fun b11 => ?_) | refine Ex_if (fun b11 => ?_) (fun b11 => ?_))
    · refine Ex_mv rfl rfl ?_
      refine Ex_rt rfl rfl ⟨?_, rfl⟩
      rw [b2, if_neg (by omega)]
    · refine Ex_mv rfl rfl ?_; refine Ex_mv rfl rfl ?_; refine Ex_getf rfl (by assumption) rfl ?_; refine Ex_alen rfl (by assumption) rfl ?_; refine Ex_mv rfl rfl ?_; (first | refine Ex_subN rfl (by omega) ?_ | refine Ex_mv rfl rfl ?_); refine Ex_mv rfl rfl ?_; (first | refine Ex_ltN (by omega) (by omega) (fun b22 => ?_) (fun b22 => ?_) | refine Ex_if (fun b22 => ?_) (fun b22 => ?_))
      · refine Ex_mv rfl rfl ?_; refine Ex_getf rfl (by assumption) rfl ?_; refine Ex_mv rfl rfl ?_; refine Ex_iald rfl (by assumption) (vp_in_nI (by omega) (by decide)) ?_; refine Ex_mv rfl rfl ?_; refine Ex_iand rfl ?_; refine Ex_mv rfl rfl ?_; refine Ex_ishl rfl ?_; refine Ex_mv rfl rfl ?_; refine Ex_getf rfl (by assumption) rfl ?_; refine Ex_mv rfl rfl ?_; refine Ex_mv rfl rfl ?_; (first | refine Ex_addN rfl ?_ | refine Ex_mv rfl rfl ?_); refine Ex_iald rfl (by assumption) (vp_in_nI (by omega) (by decide)) ?_; refine Ex_mv rfl rfl ?_; refine Ex_iand rfl ?_; refine Ex_ior rfl ?_
        refine Ex_rt rfl rfl ⟨?_, rfl⟩
        rw [hB.at (by omega), hB.at (by omega), b2, if_pos (by omega), two_of (b1_lt hB.2.2 _) (b1_lt hB.2.2 _)]
      · refine Ex_mv rfl rfl ?_
        refine Ex_rt rfl rfl ⟨?_, rfl⟩
        rw [b2, if_neg (by omega)]
theorem c_RW_four {r : Nat} {B : List Nat} (hR : RW h r B) {k : Nat} (hk : k < 2 ^ 30) : Ev (prog nb sa) m_RW_four [.ref r, .int (nI k)] h (some (.int (nI (b4 B k)))) h := by
  obtain ⟨f, hr, ha, hB⟩ := id hR
  refine Ev_of k_RW_four 2 rfl (Nat.le_of_ble_eq_true rfl) ?_
  refine Ex_mv rfl rfl ?_; refine Ex_mv rfl rfl ?_; refine Ex_invV rfl (by rfl) (by rfl) (by assumption) (by rfl) (c_RW_two hR (by omega)) ?_; refine Ex_mv rfl rfl ?_; refine Ex_ishl rfl ?_; refine Ex_mv rfl rfl ?_; refine Ex_mv rfl rfl ?_; refine Ex_mv rfl rfl ?_; (first | refine Ex_addN rfl ?_ | refine Ex_mv rfl rfl ?_); refine Ex_invV rfl (by rfl) (by rfl) (by assumption) (by rfl) (c_RW_two hR (by omega)) ?_; refine Ex_ior rfl ?_
  refine Ex_rt rfl rfl ⟨?_, rfl⟩
  rw [b4, ← or16 (b2_lt hB.2.2 _), ← shl16 (b2_lt hB.2.2 _)]
theorem c_RW_clear {r : Nat} {B : List Nat} (hR : RW h r B) : EvQ (prog nb sa) m_RW_clear [.ref r] h (fun v h' => v = none ∧ RW h' r [] ∧ FrI r (r + 2) h h') := by
  obtain ⟨f, hr, ha, hB⟩ := hR
  refine EvQ_of k_RW_clear 1 [some (.ref r)] rfl (Nat.le_of_ble_eq_true rfl) rfl ?_
  refine Ex_mv rfl rfl ?_; refine Ex_mv rfl rfl ?_; refine Ex_putf rfl (by assumption) rfl rfl ?_
  refine Ex_rt rfl rfl ?_
  exact ⟨rfl, ⟨f, hs_at, hs_ne (by omega) ha, by simp, by simp, by simp⟩, FrI.rf.set (by omega) (by omega)⟩
theorem c_RW_push {r : Nat} {B : List Nat} (hR : RW h r B) {x : Int32} (hn : B.length < 400) : EvQ (prog nb sa) m_RW_push [.ref r, .int x] h (fun v h' => v = none ∧ RW h' r (B ++ [lowb x]) ∧ FrI r (r + 2) h h') := by
  obtain ⟨f, hr, ha, hB⟩ := hR
  have hr1 : ∀ c, (hset h (r + 1) c).2.2 r = _ := fun c => hs_ne (by omega) hr
  refine EvQ_of k_RW_push 2 [some (.ref r), some (.int x)] rfl (Nat.le_of_ble_eq_true rfl) rfl ?_
  refine Ex_mv rfl rfl ?_; refine Ex_getf rfl (by assumption) rfl ?_; refine Ex_mv rfl rfl ?_; refine Ex_lt0 (by omega) ?_; refine Ex_mv rfl rfl ?_; refine Ex_getf rfl (by assumption) rfl ?_; refine Ex_mv rfl rfl ?_; refine Ex_getf rfl (by assumption) rfl ?_; refine Ex_alen rfl (by assumption) rfl ?_; refine Ex_mv rfl rfl ?_; refine Ex_iff (nI_ge (by omega) (by decide)) ?_; refine Ex_mv rfl rfl ?_; refine Ex_getf rfl (by assumption) rfl ?_; refine Ex_mv rfl rfl ?_; refine Ex_getf rfl (by assumption) rfl ?_; refine Ex_mv rfl rfl ?_; refine Ex_mv rfl rfl ?_; refine Ex_bast rfl (by assumption) (vp_in_nI (by omega) (by decide)) ?_; refine Ex_mv rfl rfl ?_; refine Ex_mv rfl rfl ?_; refine Ex_getf rfl (hr1 _) rfl ?_; refine Ex_mv rfl rfl ?_; (first | refine Ex_addN rfl ?_ | refine Ex_mv rfl rfl ?_); refine Ex_putf rfl (hr1 _) rfl rfl ?_
  refine Ex_rt rfl rfl ?_
  refine ⟨rfl, ⟨_, ?_, hs_ne (by omega) hs_at, hB.push (lowb_lt x) hn (sb_low2 x)⟩, (FrI.rf.set (by omega) (by omega)).set (by omega) (by omega)⟩
  rw [List.length_append]
  exact hs_at
theorem c_RW_pushTwo {r : Nat} {B : List Nat} (hR : RW h r B) {v : Nat} (hv : v < 65536) (hn : B.length + 1 < 400) : EvQ (prog nb sa) m_RW_pushTwo [.ref r, .int (nI v)] h (fun v' h' => v' = none ∧ RW h' r (B ++ [v / 256, v % 256]) ∧ FrI r (r + 2) h h') := by
  obtain ⟨_, h1, e1, rfl, R1, F1⟩ := c_RW_push hR (nb := nb) (sa := sa) (x := nI (v / 256)) (by omega)
  obtain ⟨_, h2, e2, rfl, R2, F2⟩ := c_RW_push R1 (nb := nb) (sa := sa) (x := nI v) (by simp; omega)
  obtain ⟨f, hr, ha, hB⟩ := hR
  obtain ⟨f1, hr1, ha1, hB1⟩ := id R1
  rw [lowb_nI, lowb_nI, List.append_assoc, show v / 256 % 256 = v / 256 by omega] at R2
  refine EvQ_of k_RW_pushTwo 2 [some (.ref r), some (.int (nI v))] rfl (Nat.le_of_ble_eq_true rfl) rfl ?_
  refine Ex_mv rfl rfl ?_; refine Ex_mv rfl rfl ?_; refine Ex_mv rfl rfl ?_; refine Ex_ishr rfl ?_
  rw [shr8 (by omega)]
  refine Ex_invV rfl (by rfl) (by rfl) (by assumption) (by rfl) (e1) ?_; refine Ex_mv rfl rfl ?_; refine Ex_mv rfl rfl ?_; refine Ex_invV rfl (by rfl) (by rfl) (by assumption) (by rfl) (e2) ?_
  refine Ex_rt rfl rfl ?_
  exact ⟨rfl, R2, F1.tr F2⟩
theorem c_RW_putTwo {r : Nat} {B : List Nat} (hR : RW h r B) {k v : Nat} (hv : v < 65536) (hk : k + 1 < B.length) : EvQ (prog nb sa) m_RW_putTwo [.ref r, .int (nI k), .int (nI v)] h (fun v' h' => v' = none ∧ RW h' r ((B.set k (v / 256)).set (k + 1) (v % 256)) ∧ FrI r (r + 2) h h') := by
  obtain ⟨f, hr, ha, hB⟩ := id hR
  have hl := hB.1
  have hr1 : ∀ c, (hset h (r + 1) c).2.2 r = _ := fun c => hs_ne (by omega) hr
  refine EvQ_of k_RW_putTwo 3 [some (.ref r), some (.int (nI k)), some (.int (nI v))] rfl (Nat.le_of_ble_eq_true rfl) rfl ?_
  refine Ex_mv rfl rfl ?_; refine Ex_mv rfl rfl ?_; refine Ex_mv rfl rfl ?_; refine Ex_invV rfl (by rfl) (by rfl) (by assumption) (by rfl) (c_RW_has hR (by omega) (by omega)) ?_
  rw [if_pos (by omega)]
  refine Ex_mv rfl rfl ?_; refine Ex_iff (by decide) ?_; refine Ex_mv rfl rfl ?_; refine Ex_mv rfl rfl ?_; (first | refine Ex_addN rfl ?_ | refine Ex_mv rfl rfl ?_); refine Ex_mv rfl rfl ?_; refine Ex_getf rfl (by assumption) rfl ?_; refine Ex_alen rfl (by assumption) rfl ?_; refine Ex_mv rfl rfl ?_; refine Ex_iff (nI_ge (by omega) (by decide)) ?_; refine Ex_mv rfl rfl ?_; refine Ex_getf rfl (by assumption) rfl ?_; refine Ex_mv rfl rfl ?_; refine Ex_mv rfl rfl ?_; refine Ex_mv rfl rfl ?_; refine Ex_ishr rfl ?_
  rw [shr8 (by omega)]
  refine Ex_mv rfl rfl ?_; refine Ex_bast rfl (by assumption) (vp_in_nI (by omega) (by decide)) ?_; refine Ex_mv rfl rfl ?_; refine Ex_getf rfl (hr1 _) rfl ?_; refine Ex_mv rfl rfl ?_; refine Ex_mv rfl rfl ?_; (first | refine Ex_addN rfl ?_ | refine Ex_mv rfl rfl ?_); refine Ex_mv rfl rfl ?_; refine Ex_mv rfl rfl ?_; refine Ex_bast rfl hs_at (vp_in_nI (by omega) (by decide)) ?_
  refine Ex_rt rfl rfl ?_
  refine ⟨rfl, ⟨_, ?_, hs_at, (hB.set (c := v / 256) (by omega) (by omega) ?_).set (c := v % 256) (by omega) (by simp; omega) ?_⟩, (FrI.rf.set (by omega) (by omega)).set (by omega) (by omega)⟩
  · simp only [List.length_set]; exact hs_ne (by omega) (hs_ne (by omega) hr)
  · rw [sb_low2, lowb_nI, show v / 256 % 256 = v / 256 by omega]
  · rw [sb_low2, lowb_nI]
/-- a part of the bytes -/
def sl (B : List Nat) (k n : Nat) : List Nat := (B.drop k).take n
theorem sl_len {B : List Nat} {k n : Nat} (h : k + n ≤ B.length) : (sl B k n).length = n := by simp [sl]; omega
theorem sl_get {B : List Nat} {k n j : Nat} (hj : j < n) : (sl B k n).getD j 0 = B.getD (k + j) 0 := by
  simp only [sl, List.getD_eq_getElem?_getD, List.getElem?_take, List.getElem?_drop, hj, if_true]
theorem BR.app {f g : Nat → Int32} {A B : List Nat} (hA : BR f A) (hB : BR g B) {k n : Nat} (h1 : k + n ≤ A.length) (h2 : B.length + n ≤ 400) : BR (va_cpy f g (nI k).toNatClampNeg (nI B.length).toNatClampNeg (nI n).toNatClampNeg) (B ++ sl A k n) := by
  have := hA.1
  rw [nI_clamp (by omega), nI_clamp (by omega), nI_clamp (by omega)]
  refine ⟨by rw [List.length_append, sl_len h1]; omega, fun j hj => ?_, fun y hy => ?_⟩
  · rw [List.length_append, sl_len h1] at hj
    by_cases e : j < B.length
    · rw [pk_cpy_out (Or.inl e), List.getD_eq_getElem?_getD, List.getElem?_append_left e, ← List.getD_eq_getElem?_getD]
      exact hB.2.1 j e
    · rw [pk_cpy_in (by omega) (by omega), List.getD_eq_getElem?_getD, List.getElem?_append_right (by omega), ← List.getD_eq_getElem?_getD, sl_get (by omega)]
      exact hA.2.1 _ (by omega)
  · rcases List.mem_append.mp hy with h | h
    · exact hB.2.2 y h
    · exact hA.2.2 y (List.mem_of_mem_drop (List.mem_of_mem_take h))
theorem c_RW_append {r s : Nat} {A B : List Nat} (hR : RW h r B) (hS : RW h s A) (hd : s + 2 ≤ r ∨ r + 2 ≤ s) {k n : Nat} (hk : k + n ≤ A.length) (hn : B.length + n ≤ 400) : EvQ (prog nb sa) m_RW_append [.ref r, .ref s, .int (nI k), .int (nI n)] h (fun v h' => v = none ∧ RW h' r (B ++ sl A k n) ∧ FrI r (r + 2) h h') := by
  obtain ⟨f, hr, ha, hB⟩ := id hR
  obtain ⟨g, hs, hsa, hA⟩ := id hS
  have hl := hB.1
  have hl2 := hA.1
  have hr1 : ∀ c, (hset h (r + 1) c).2.2 r = _ := fun c => hs_ne (by omega) hr
  refine EvQ_of k_RW_append 4 [some (.ref r), some (.ref s), some (.int (nI k)), some (.int (nI n))] rfl (Nat.le_of_ble_eq_true rfl) rfl ?_
  refine Ex_mv rfl rfl ?_; refine Ex_mv rfl rfl ?_; refine Ex_mv rfl rfl ?_; refine Ex_invV rfl (by rfl) (by rfl) (by assumption) (by rfl) (c_RW_has hS (by omega) (by omega)) ?_
  rw [if_pos (by omega)]
  refine Ex_mv rfl rfl ?_; refine Ex_iff (by decide) ?_; refine Ex_mv rfl rfl ?_; refine Ex_mv rfl rfl ?_; refine Ex_getf rfl (by assumption) rfl ?_; refine Ex_alen rfl (by assumption) rfl ?_; refine Ex_mv rfl rfl ?_; refine Ex_getf rfl (by assumption) rfl ?_; (first | refine Ex_subN rfl (by omega) ?_ | refine Ex_mv rfl rfl ?_); refine Ex_mv rfl rfl ?_; refine Ex_iff (nI_nlt (by omega) (by omega)) ?_; refine Ex_mv rfl rfl ?_; refine Ex_getf rfl (by assumption) rfl ?_; refine Ex_mv rfl rfl ?_; refine Ex_mv rfl rfl ?_; refine Ex_getf rfl (by assumption) rfl ?_; refine Ex_mv rfl rfl ?_; refine Ex_getf rfl (by assumption) rfl ?_; refine Ex_mv rfl rfl ?_; refine Ex_acp rfl rfl hsa ha rfl (nI_pos (by omega)) (nI_pos (by omega)) (nI_pos (by omega)) (by rw [nI_clamp (by omega), nI_clamp (by omega)]; omega) (by rw [nI_clamp (by omega), nI_clamp (by omega)]; omega) ?_; refine Ex_mv rfl rfl ?_; refine Ex_mv rfl rfl ?_; refine Ex_getf rfl (hr1 _) rfl ?_; refine Ex_mv rfl rfl ?_; (first | refine Ex_addN rfl ?_ | refine Ex_mv rfl rfl ?_); refine Ex_putf rfl (hr1 _) rfl rfl ?_
  refine Ex_rt rfl rfl ?_
  refine ⟨rfl, ⟨_, ?_, hs_ne (by omega) hs_at, hA.app hB hk hn⟩, (FrI.rf.set (by omega) (by omega)).set (by omega) (by omega)⟩
  rw [List.length_append, sl_len hk]
  exact hs_at
theorem c_RW_take {r s : Nat} {A B : List Nat} (hR : RW h r B) (hS : RW h s A) (hd : s + 2 ≤ r ∨ r + 2 ≤ s) {k n : Nat} (hk : k + n ≤ A.length) : EvQ (prog nb sa) m_RW_take [.ref r, .ref s, .int (nI k), .int (nI n)] h (fun v h' => v = some (.int (nI n)) ∧ RW h' r (sl A k n) ∧ FrI r (r + 2) h h') := by
  obtain ⟨_, h1, e1, rfl, R1, F1⟩ := c_RW_clear hR (nb := nb) (sa := sa)
  obtain ⟨_, h2, e2, rfl, R2, F2⟩ := c_RW_append R1 (hS.fr F1 (by omega)) (nb := nb) (sa := sa) hd hk (by have := hS.len; simp; omega)
  obtain ⟨f, hr, ha, hB⟩ := hR
  obtain ⟨f1, hr1, ha1, hB1⟩ := id R1
  obtain ⟨f2, hr2, ha2, hB2⟩ := id R2
  rw [List.nil_append] at R2
  rw [List.nil_append, sl_len hk] at hr2
  refine EvQ_of k_RW_take 4 [some (.ref r), some (.ref s), some (.int (nI k)), some (.int (nI n))] rfl (Nat.le_of_ble_eq_true rfl) rfl ?_
  refine Ex_mv rfl rfl ?_; refine Ex_invV rfl (by rfl) (by rfl) (by assumption) (by rfl) (e1) ?_; refine Ex_mv rfl rfl ?_; refine Ex_mv rfl rfl ?_; refine Ex_mv rfl rfl ?_; refine Ex_mv rfl rfl ?_; refine Ex_invV rfl (by rfl) (by rfl) (by assumption) (by rfl) (e2) ?_; refine Ex_mv rfl rfl ?_; refine Ex_getf rfl (by assumption) rfl ?_
  refine Ex_rt rfl rfl ?_
  exact ⟨rfl, R2, F1.tr F2⟩
end ROW
