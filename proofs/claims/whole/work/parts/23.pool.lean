/-! Pool: places, tags, what they lead to -/
/-- where the entry of a place begins (0: empty), its tag, a TWO of it -/
def st (S : Nat → Nat) (n i : Nat) : Nat := if i < n then S i else 0
def tg (B : List Nat) (S : Nat → Nat) (n i : Nat) : Nat := if st S n i = 0 then 0 else b1 B (st S n i)
def tw (B : List Nat) (S : Nat → Nat) (n i k : Nat) : Nat := if st S n i = 0 then 0 else b2 B (st S n i + k)
def tz (B : List Nat) (S : Nat → Nat) (n i : Nat) : Nat := if tg B S n i = 1 then tw B S n i 1 else 0
/-- the bytes of a TEXT -/
def tx (B : List Nat) (S : Nat → Nat) (n i : Nat) : List Nat := sl B (st S n i + 3) (tz B S n i)
def bt64 (hi lo : Int32) : Int64 := (hi.toInt64 <<< ((nI 32).toInt64 &&& 63)) ||| (lo.toInt64 &&& 4294967295)
def bts (B : List Nat) (S : Nat → Nat) (n i : Nat) : Int64 := if 3 ≤ tg B S n i ∧ tg B S n i ≤ 6 then (if 5 ≤ tg B S n i then bt64 (nI (b4 B (st S n i + 1))) (nI (b4 B (st S n i + 5))) else (nI (b4 B (st S n i + 1))).toInt64) else 0
/-- the place of a TEXT to which a place leads -/
def tof (B : List Nat) (S : Nat → Nat) (n i k : Nat) : Nat :=
  if tg B S n i = 1 then i
  else if tg B S n i = 7 ∨ tg B S n i = 8 then tw B S n i 1
  else if tg B S n i = 12 then tw B S n i (if k = 0 then 1 else 3)
  else if 9 ≤ tg B S n i ∧ tg B S n i ≤ 11 then (if k = 0 then tw B S n (tw B S n i 1) 1 else tw B S n (tw B S n i 3) (if k = 1 then 1 else 3))
  else 0
/-- a pool: its object, its row just behind it, its starts behind that -/
def PO (h : Hp) (p : Nat) (B : List Nat) (S : Nat → Nat) (n : Nat) : Prop := h.2.2 p = some (true, .inr (1, [.ref (p + 1), .ref (p + 3), .int (nI n)])) ∧ RW h (p + 1) B ∧ (∃ g, h.2.2 (p + 3) = some (true, .inl (1, 61, .inl g)) ∧ ∀ j, j < 61 → g j = nI (S j)) ∧ n ≤ 61 ∧ ∀ j, S j ≤ 400
theorem PO.fr {h h' : Hp} {p lo hi n : Nat} {B : List Nat} {S : Nat → Nat} (h1 : PO h p B S n) (f : FrI lo hi h h') (hq : p + 4 ≤ lo ∨ hi ≤ p) : PO h' p B S n := by
  obtain ⟨a, b, ⟨g, c, d⟩, e, k⟩ := h1
  exact ⟨f.at a (by omega), b.fr f (by omega), ⟨g, f.at c (by omega), d⟩, e, k⟩
theorem st_le {S : Nat → Nat} {n : Nat} (hS : ∀ j, S j ≤ 400) (i : Nat) : st S n i ≤ 400 := by
  unfold st
  split
  · exact hS i
  · omega
section POOL
variable {nb sa : Nat} {h : Hp} {p n : Nat} {B : List Nat} {S : Nat → Nat}
theorem tg_lt (hB : ∀ x ∈ B, x < 256) (i : Nat) : tg B S n i < 256 := by
  unfold tg
  split
  · decide
  · exact b1_lt hB _
theorem tw_lt (hB : ∀ x ∈ B, x < 256) (i k : Nat) : tw B S n i k < 65536 := by
  unfold tw
  split
  · decide
  · exact b2_lt hB _
theorem tz_lt (hB : ∀ x ∈ B, x < 256) (i : Nat) : tz B S n i < 65536 := by
  unfold tz
  split
  · exact tw_lt hB _ _
  · decide
theorem tof_lt (hB : ∀ x ∈ B, x < 256) {i : Nat} (hi : i < 2 ^ 30) (k : Nat) : tof B S n i k < 2 ^ 30 := by
  have h1 : ∀ a b, tw B S n a b < 2 ^ 30 := fun a b => Nat.lt_trans (tw_lt hB a b) (by decide)
  unfold tof
  repeat' split
  all_goals first | exact hi | exact h1 _ _ | decide
theorem c_PL_places (hP : PO h p B S n) : Ev (prog nb sa) m_PL_places [.ref p] h (some (.int (nI n))) h := by
  obtain ⟨hp, hR, ⟨g, hg, hgS⟩, hn, hS⟩ := id hP
  refine Ev_ofL k_PL_places 1 [some (.ref p)] rfl (Nat.le_of_ble_eq_true rfl) rfl ?_
  refine Ex_mv rfl rfl ?_; refine Ex_getf rfl (by assumption) rfl ?_
  exact Ex_rt rfl rfl ⟨rfl, rfl⟩
theorem c_PL_has (hP : PO h p B S n) {i : Nat} (hi : i < 2 ^ 31) : Ev (prog nb sa) m_PL_has [.ref p, .int (nI i)] h (some (.int (nI (if i < n then 1 else 0)))) h := by
  obtain ⟨hp, hR, ⟨g, hg, hgS⟩, hn, hS⟩ := id hP
  refine Ev_ofL k_PL_has 2 [some (.ref p), some (.int (nI i))] rfl (Nat.le_of_ble_eq_true rfl) rfl ?_
  refine Ex_mv rfl rfl ?_; refine Ex_mv rfl rfl ?_; refine Ex_lt0 (by omega) ?_; refine Ex_mv rfl rfl ?_; refine Ex_mv rfl rfl ?_; refine Ex_getf rfl (by assumption) rfl ?_; refine Ex_mv rfl rfl ?_; (first | refine Ex_leN (by omega) (by omega) (fun b9 => ?_) (fun b9 => ?_) | refine Ex_if (fun b9 => ?_) (fun b9 => ?_))
  · refine Ex_mv rfl rfl ?_
    refine Ex_rt rfl rfl ⟨?_, rfl⟩
    first | (rw [if_pos (by omega)]; done) | (rw [if_neg (by omega)]; done) | (exfalso; omega)
  · refine Ex_mv rfl rfl ?_; refine Ex_mv rfl rfl ?_; refine Ex_getf rfl (by assumption) rfl ?_; refine Ex_alen rfl (by assumption) rfl ?_; refine Ex_mv rfl rfl ?_; (first | refine Ex_leN (by omega) (by omega) (fun b18 => ?_) (fun b18 => ?_) | refine Ex_if (fun b18 => ?_) (fun b18 => ?_))
    · refine Ex_mv rfl rfl ?_
      refine Ex_rt rfl rfl ⟨?_, rfl⟩
      first | (rw [if_pos (by omega)]; done) | (rw [if_neg (by omega)]; done) | (exfalso; omega)
    · refine Ex_mv rfl rfl ?_; refine Ex_mv rfl rfl ?_
      refine Ex_rt rfl rfl ⟨?_, rfl⟩
      first | (rw [if_pos (by omega)]; done) | (rw [if_neg (by omega)]; done) | (exfalso; omega)
theorem c_PL_hasN (hP : PO h p B S n) {i : Int32} (hi : i < 0) : Ev (prog nb sa) m_PL_has [.ref p, .int i] h (some (.int (nI 0))) h := by
  obtain ⟨hp, hR, ⟨g, hg, hgS⟩, hn, hS⟩ := id hP
  refine Ev_ofL k_PL_has 2 [some (.ref p), some (.int i)] rfl (Nat.le_of_ble_eq_true rfl) rfl ?_
  refine Ex_mv rfl rfl ?_; refine Ex_mv rfl rfl ?_; refine Ex_ift hi ?_; refine Ex_mv rfl rfl ?_
  exact Ex_rt rfl rfl ⟨rfl, rfl⟩
theorem c_PL_start (hP : PO h p B S n) {i : Nat} (hi : i < 2 ^ 31) : Ev (prog nb sa) m_PL_start [.ref p, .int (nI i)] h (some (.int (nI (st S n i)))) h := by
  obtain ⟨hp, hR, ⟨g, hg, hgS⟩, hn, hS⟩ := id hP
  refine Ev_ofL k_PL_start 2 [some (.ref p), some (.int (nI i))] rfl (Nat.le_of_ble_eq_true rfl) rfl ?_
  refine Ex_mv rfl rfl ?_; refine Ex_mv rfl rfl ?_; refine Ex_lt0 (by omega) ?_; refine Ex_mv rfl rfl ?_; refine Ex_mv rfl rfl ?_; refine Ex_getf rfl (by assumption) rfl ?_; refine Ex_mv rfl rfl ?_; (first | refine Ex_leN (by omega) (by omega) (fun b9 => ?_) (fun b9 => ?_) | refine Ex_if (fun b9 => ?_) (fun b9 => ?_))
  · refine Ex_mv rfl rfl ?_
    refine Ex_rt rfl rfl ⟨?_, rfl⟩
    first | (rw [nI_clamp (by omega), hgS i (by omega), st, if_pos (by omega)]; done) | (rw [st, if_neg (by omega)]; done) | (exfalso; omega)
  · refine Ex_mv rfl rfl ?_; refine Ex_mv rfl rfl ?_; refine Ex_getf rfl (by assumption) rfl ?_; refine Ex_alen rfl (by assumption) rfl ?_; refine Ex_mv rfl rfl ?_; (first | refine Ex_leN (by omega) (by omega) (fun b18 => ?_) (fun b18 => ?_) | refine Ex_if (fun b18 => ?_) (fun b18 => ?_))
    · refine Ex_mv rfl rfl ?_
      refine Ex_rt rfl rfl ⟨?_, rfl⟩
      first | (rw [nI_clamp (by omega), hgS i (by omega), st, if_pos (by omega)]; done) | (rw [st, if_neg (by omega)]; done) | (exfalso; omega)
    · refine Ex_mv rfl rfl ?_; refine Ex_getf rfl (by assumption) rfl ?_; refine Ex_mv rfl rfl ?_; refine Ex_iald rfl (by assumption) (vp_in_nI (by omega) (by decide)) ?_; refine Ex_mv rfl rfl ?_
      refine Ex_rt rfl rfl ⟨?_, rfl⟩
      first | (rw [nI_clamp (by omega), hgS i (by omega), st, if_pos (by omega)]; done) | (rw [st, if_neg (by omega)]; done) | (exfalso; omega)
theorem c_PL_startN (hP : PO h p B S n) {i : Int32} (hi : i < 0) : Ev (prog nb sa) m_PL_start [.ref p, .int i] h (some (.int (nI 0))) h := by
  obtain ⟨hp, hR, ⟨g, hg, hgS⟩, hn, hS⟩ := id hP
  refine Ev_ofL k_PL_start 2 [some (.ref p), some (.int i)] rfl (Nat.le_of_ble_eq_true rfl) rfl ?_
  refine Ex_mv rfl rfl ?_; refine Ex_mv rfl rfl ?_; refine Ex_ift hi ?_; refine Ex_mv rfl rfl ?_
  exact Ex_rt rfl rfl ⟨rfl, rfl⟩
theorem c_PL_tag (hP : PO h p B S n) {i : Nat} (hi : i < 2 ^ 31) : Ev (prog nb sa) m_PL_tag [.ref p, .int (nI i)] h (some (.int (nI (tg B S n i)))) h := by
  obtain ⟨hp, hR, ⟨g, hg, hgS⟩, hn, hS⟩ := id hP
  obtain ⟨f, hr, ha, hB⟩ := id hR
  have hst := st_le (n := n) hS i
  refine Ev_ofL k_PL_tag 3 [some (.ref p), some (.int (nI i)), none] rfl (Nat.le_of_ble_eq_true rfl) rfl ?_
  refine Ex_mv rfl rfl ?_; refine Ex_mv rfl rfl ?_; refine Ex_invV rfl (by rfl) (by rfl) (by assumption) (by rfl) (c_PL_start hP hi) ?_; refine Ex_mv rfl rfl ?_; refine Ex_mv rfl rfl ?_; refine Ex_mv rfl rfl ?_; (first | refine Ex_ne0 (by omega) (fun b7 => ?_) (fun b7 => ?_) | refine Ex_if (fun b7 => ?_) (fun b7 => ?_))
  · refine Ex_mv rfl rfl ?_; refine Ex_getf rfl (by assumption) rfl ?_; refine Ex_mv rfl rfl ?_; refine Ex_invV rfl (by rfl) (by rfl) (by assumption) (by rfl) (c_RW_one hR (by omega)) ?_
    refine Ex_rt rfl rfl ⟨?_, rfl⟩
    first | (rw [tg, if_neg (by omega)]; done) | (rw [tg, if_pos (by omega)]; done)
  · refine Ex_mv rfl rfl ?_; refine Ex_mv rfl rfl ?_
    refine Ex_rt rfl rfl ⟨?_, rfl⟩
    first | (rw [tg, if_neg (by omega)]; done) | (rw [tg, if_pos (by omega)]; done)
theorem c_PL_tagN (hP : PO h p B S n) {i : Int32} (hi : i < 0) : Ev (prog nb sa) m_PL_tag [.ref p, .int i] h (some (.int (nI 0))) h := by
  obtain ⟨hp, hR, ⟨g, hg, hgS⟩, hn, hS⟩ := id hP
  refine Ev_ofL k_PL_tag 3 [some (.ref p), some (.int i), none] rfl (Nat.le_of_ble_eq_true rfl) rfl ?_
  refine Ex_mv rfl rfl ?_; refine Ex_mv rfl rfl ?_; refine Ex_invV rfl (by rfl) (by rfl) (by assumption) (by rfl) (c_PL_startN hP hi) ?_; refine Ex_mv rfl rfl ?_; refine Ex_mv rfl rfl ?_; refine Ex_mv rfl rfl ?_; refine Ex_iff (by decide) ?_; refine Ex_mv rfl rfl ?_; refine Ex_mv rfl rfl ?_
  exact Ex_rt rfl rfl ⟨rfl, rfl⟩
theorem c_PL_twoOf (hP : PO h p B S n) {i k : Nat} (hi : i < 2 ^ 31) (hk : k < 2 ^ 20) : Ev (prog nb sa) m_PL_twoOf [.ref p, .int (nI i), .int (nI k)] h (some (.int (nI (tw B S n i k)))) h := by
  obtain ⟨hp, hR, ⟨g, hg, hgS⟩, hn, hS⟩ := id hP
  obtain ⟨f, hr, ha, hB⟩ := id hR
  have hst := st_le (n := n) hS i
  refine Ev_ofL k_PL_twoOf 4 [some (.ref p), some (.int (nI i)), some (.int (nI k)), none] rfl (Nat.le_of_ble_eq_true rfl) rfl ?_
  refine Ex_mv rfl rfl ?_; refine Ex_mv rfl rfl ?_; refine Ex_invV rfl (by rfl) (by rfl) (by assumption) (by rfl) (c_PL_start hP hi) ?_; refine Ex_mv rfl rfl ?_; refine Ex_mv rfl rfl ?_; refine Ex_mv rfl rfl ?_; (first | refine Ex_ne0 (by omega) (fun b7 => ?_) (fun b7 => ?_) | refine Ex_if (fun b7 => ?_) (fun b7 => ?_))
  · refine Ex_mv rfl rfl ?_; refine Ex_getf rfl (by assumption) rfl ?_; refine Ex_mv rfl rfl ?_; refine Ex_mv rfl rfl ?_; (first | refine Ex_addN rfl ?_ | refine Ex_mv rfl rfl ?_); refine Ex_invV rfl (by rfl) (by rfl) (by assumption) (by rfl) (c_RW_two hR (by omega)) ?_
    refine Ex_rt rfl rfl ⟨?_, rfl⟩
    first | (rw [tw, if_neg (by omega)]; done) | (rw [tw, if_pos (by omega)]; done)
  · refine Ex_mv rfl rfl ?_; refine Ex_mv rfl rfl ?_
    refine Ex_rt rfl rfl ⟨?_, rfl⟩
    first | (rw [tw, if_neg (by omega)]; done) | (rw [tw, if_pos (by omega)]; done)
/-- the first, the second place that an entry tells -/
def fst1 (B : List Nat) (S : Nat → Nat) (n i : Nat) : Nat := if 7 ≤ tg B S n i then tw B S n i 1 else 0
def snd1 (B : List Nat) (S : Nat → Nat) (n i : Nat) : Nat := if 9 ≤ tg B S n i then tw B S n i 3 else 0
theorem c_PL_first (hP : PO h p B S n) {i : Nat} (hi : i < 2 ^ 31) : Ev (prog nb sa) m_PL_first [.ref p, .int (nI i)] h (some (.int (nI (fst1 B S n i)))) h := by
  obtain ⟨hp, hR, ⟨g, hg, hgS⟩, hn, hS⟩ := id hP
  have ht := tg_lt (S := S) (n := n) hR.lt i
  refine Ev_ofL k_PL_first 2 [some (.ref p), some (.int (nI i))] rfl (Nat.le_of_ble_eq_true rfl) rfl ?_
  refine Ex_mv rfl rfl ?_; refine Ex_mv rfl rfl ?_; refine Ex_invV rfl (by rfl) (by rfl) (by assumption) (by rfl) (c_PL_tag hP hi) ?_; refine Ex_mv rfl rfl ?_; refine Ex_mv rfl rfl ?_; (first | refine Ex_ltN (by omega) (by omega) (fun b7 => ?_) (fun b7 => ?_) | refine Ex_if (fun b7 => ?_) (fun b7 => ?_))
  · refine Ex_mv rfl rfl ?_
    refine Ex_rt rfl rfl ⟨?_, rfl⟩
    first | (rw [fst1, if_neg (by omega)]; done) | (rw [fst1, if_pos (by omega)]; done)
  · refine Ex_mv rfl rfl ?_; refine Ex_mv rfl rfl ?_; refine Ex_mv rfl rfl ?_; refine Ex_invV rfl (by rfl) (by rfl) (by assumption) (by rfl) (c_PL_twoOf hP hi (by decide)) ?_; refine Ex_mv rfl rfl ?_
    refine Ex_rt rfl rfl ⟨?_, rfl⟩
    first | (rw [fst1, if_neg (by omega)]; done) | (rw [fst1, if_pos (by omega)]; done)
theorem c_PL_second (hP : PO h p B S n) {i : Nat} (hi : i < 2 ^ 31) : Ev (prog nb sa) m_PL_second [.ref p, .int (nI i)] h (some (.int (nI (snd1 B S n i)))) h := by
  obtain ⟨hp, hR, ⟨g, hg, hgS⟩, hn, hS⟩ := id hP
  have ht := tg_lt (S := S) (n := n) hR.lt i
  refine Ev_ofL k_PL_second 2 [some (.ref p), some (.int (nI i))] rfl (Nat.le_of_ble_eq_true rfl) rfl ?_
  refine Ex_mv rfl rfl ?_; refine Ex_mv rfl rfl ?_; refine Ex_invV rfl (by rfl) (by rfl) (by assumption) (by rfl) (c_PL_tag hP hi) ?_; refine Ex_mv rfl rfl ?_; refine Ex_mv rfl rfl ?_; (first | refine Ex_ltN (by omega) (by omega) (fun b7 => ?_) (fun b7 => ?_) | refine Ex_if (fun b7 => ?_) (fun b7 => ?_))
  · refine Ex_mv rfl rfl ?_
    refine Ex_rt rfl rfl ⟨?_, rfl⟩
    first | (rw [snd1, if_neg (by omega)]; done) | (rw [snd1, if_pos (by omega)]; done)
  · refine Ex_mv rfl rfl ?_; refine Ex_mv rfl rfl ?_; refine Ex_mv rfl rfl ?_; refine Ex_invV rfl (by rfl) (by rfl) (by assumption) (by rfl) (c_PL_twoOf hP hi (by decide)) ?_; refine Ex_mv rfl rfl ?_
    refine Ex_rt rfl rfl ⟨?_, rfl⟩
    first | (rw [snd1, if_neg (by omega)]; done) | (rw [snd1, if_pos (by omega)]; done)
theorem c_PL_textAt (hP : PO h p B S n) {i : Nat} (hi : i < 2 ^ 31) : Ev (prog nb sa) m_PL_textAt [.ref p, .int (nI i)] h (some (.int (nI (st S n i + 3)))) h := by
  obtain ⟨hp, hR, ⟨g, hg, hgS⟩, hn, hS⟩ := id hP
  refine Ev_ofL k_PL_textAt 2 [some (.ref p), some (.int (nI i))] rfl (Nat.le_of_ble_eq_true rfl) rfl ?_
  refine Ex_mv rfl rfl ?_; refine Ex_mv rfl rfl ?_; refine Ex_invV rfl (by rfl) (by rfl) (by assumption) (by rfl) (c_PL_start hP hi) ?_; refine Ex_mv rfl rfl ?_; (first | refine Ex_addN rfl ?_ | refine Ex_mv rfl rfl ?_)
  exact Ex_rt rfl rfl ⟨rfl, rfl⟩
theorem c_PL_textSize (hP : PO h p B S n) {i : Nat} (hi : i < 2 ^ 31) : Ev (prog nb sa) m_PL_textSize [.ref p, .int (nI i)] h (some (.int (nI (tz B S n i)))) h := by
  obtain ⟨hp, hR, ⟨g, hg, hgS⟩, hn, hS⟩ := id hP
  have ht := tg_lt (S := S) (n := n) hR.lt i
  refine Ev_ofL k_PL_textSize 2 [some (.ref p), some (.int (nI i))] rfl (Nat.le_of_ble_eq_true rfl) rfl ?_
  refine Ex_mv rfl rfl ?_; refine Ex_mv rfl rfl ?_; refine Ex_invV rfl (by rfl) (by rfl) (by assumption) (by rfl) (c_PL_tag hP hi) ?_; refine Ex_mv rfl rfl ?_; refine Ex_mv rfl rfl ?_; (first | refine Ex_neN (by omega) (by omega) (fun b6 => ?_) (fun b6 => ?_) | refine Ex_if (fun b6 => ?_) (fun b6 => ?_))
  · refine Ex_mv rfl rfl ?_
    refine Ex_rt rfl rfl ⟨?_, rfl⟩
    first | (rw [tz, if_neg (by omega)]; done) | (rw [tz, if_pos (by omega)]; done)
  · refine Ex_mv rfl rfl ?_; refine Ex_mv rfl rfl ?_; refine Ex_mv rfl rfl ?_; refine Ex_invV rfl (by rfl) (by rfl) (by assumption) (by rfl) (c_PL_twoOf hP hi (by decide)) ?_; refine Ex_mv rfl rfl ?_
    refine Ex_rt rfl rfl ⟨?_, rfl⟩
    first | (rw [tz, if_neg (by omega)]; done) | (rw [tz, if_pos (by omega)]; done)
theorem c_CP_isNumber {t : Nat} (ht : t < 2 ^ 31) : Ev (prog nb sa) m_CP_isNumber [.int (nI t)] h (some (.int (nI (if 3 ≤ t ∧ t ≤ 6 then 1 else 0)))) h := by
  refine Ev_ofL k_CP_isNumber 1 [some (.int (nI t))] rfl (Nat.le_of_ble_eq_true rfl) rfl ?_
  refine Ex_mv rfl rfl ?_; refine Ex_mv rfl rfl ?_; refine Ex_mv rfl rfl ?_; (first | refine Ex_ltN (by omega) (by omega) (fun b2 => ?_) (fun b2 => ?_) | refine Ex_if (fun b2 => ?_) (fun b2 => ?_))
  · refine Ex_mv rfl rfl ?_
    refine Ex_rt rfl rfl ⟨?_, rfl⟩
    first | (rw [if_pos (by omega)]; done) | (rw [if_neg (by omega)]; done)
  · refine Ex_mv rfl rfl ?_; refine Ex_mv rfl rfl ?_; refine Ex_mv rfl rfl ?_; (first | refine Ex_ltN (by omega) (by omega) (fun b8 => ?_) (fun b8 => ?_) | refine Ex_if (fun b8 => ?_) (fun b8 => ?_))
    · refine Ex_mv rfl rfl ?_
      refine Ex_rt rfl rfl ⟨?_, rfl⟩
      first | (rw [if_pos (by omega)]; done) | (rw [if_neg (by omega)]; done)
    · refine Ex_mv rfl rfl ?_; refine Ex_mv rfl rfl ?_
      refine Ex_rt rfl rfl ⟨?_, rfl⟩
      first | (rw [if_pos (by omega)]; done) | (rw [if_neg (by omega)]; done)
theorem c_CP_isWide {t : Nat} (ht : t < 2 ^ 31) : Ev (prog nb sa) m_CP_isWide [.int (nI t)] h (some (.int (nI (if t = 5 ∨ t = 6 then 1 else 0)))) h := by
  refine Ev_ofL k_CP_isWide 1 [some (.int (nI t))] rfl (Nat.le_of_ble_eq_true rfl) rfl ?_
  refine Ex_mv rfl rfl ?_; refine Ex_mv rfl rfl ?_; refine Ex_mv rfl rfl ?_; (first | refine Ex_eqN (by omega) (by omega) (fun b2 => ?_) (fun b2 => ?_) | refine Ex_if (fun b2 => ?_) (fun b2 => ?_))
  · refine Ex_mv rfl rfl ?_; refine Ex_mv rfl rfl ?_
    refine Ex_rt rfl rfl ⟨?_, rfl⟩
    first | (rw [if_pos (by omega)]; done) | (rw [if_neg (by omega)]; done)
  · refine Ex_mv rfl rfl ?_; refine Ex_mv rfl rfl ?_; refine Ex_mv rfl rfl ?_; (first | refine Ex_neN (by omega) (by omega) (fun b8 => ?_) (fun b8 => ?_) | refine Ex_if (fun b8 => ?_) (fun b8 => ?_))
    · refine Ex_mv rfl rfl ?_
      refine Ex_rt rfl rfl ⟨?_, rfl⟩
      first | (rw [if_pos (by omega)]; done) | (rw [if_neg (by omega)]; done)
    · refine Ex_mv rfl rfl ?_; refine Ex_mv rfl rfl ?_
      refine Ex_rt rfl rfl ⟨?_, rfl⟩
      first | (rw [if_pos (by omega)]; done) | (rw [if_neg (by omega)]; done)
theorem c_CP_isTag {t : Nat} (ht : t < 2 ^ 31) : Ev (prog nb sa) m_CP_isTag [.int (nI t)] h (some (.int (nI (if t = 1 ∨ 3 ≤ t ∧ t ≤ 12 then 1 else 0)))) h := by
  refine Ev_ofL k_CP_isTag 1 [some (.int (nI t))] rfl (Nat.le_of_ble_eq_true rfl) rfl ?_
  refine Ex_mv rfl rfl ?_; refine Ex_mv rfl rfl ?_; refine Ex_mv rfl rfl ?_; (first | refine Ex_eqN (by omega) (by omega) (fun b2 => ?_) (fun b2 => ?_) | refine Ex_if (fun b2 => ?_) (fun b2 => ?_))
  · refine Ex_mv rfl rfl ?_; refine Ex_mv rfl rfl ?_
    refine Ex_rt rfl rfl ⟨?_, rfl⟩
    first | (rw [if_pos (by omega)]; done) | (rw [if_neg (by omega)]; done)
  · refine Ex_mv rfl rfl ?_; refine Ex_mv rfl rfl ?_; refine Ex_mv rfl rfl ?_; (first | refine Ex_ltN (by omega) (by omega) (fun b7 => ?_) (fun b7 => ?_) | refine Ex_if (fun b7 => ?_) (fun b7 => ?_))
    · refine Ex_mv rfl rfl ?_
      refine Ex_rt rfl rfl ⟨?_, rfl⟩
      first | (rw [if_pos (by omega)]; done) | (rw [if_neg (by omega)]; done)
    · refine Ex_mv rfl rfl ?_; refine Ex_mv rfl rfl ?_; refine Ex_mv rfl rfl ?_; (first | refine Ex_ltN (by omega) (by omega) (fun b13 => ?_) (fun b13 => ?_) | refine Ex_if (fun b13 => ?_) (fun b13 => ?_))
      · refine Ex_mv rfl rfl ?_
        refine Ex_rt rfl rfl ⟨?_, rfl⟩
        first | (rw [if_pos (by omega)]; done) | (rw [if_neg (by omega)]; done)
      · refine Ex_mv rfl rfl ?_; refine Ex_mv rfl rfl ?_
        refine Ex_rt rfl rfl ⟨?_, rfl⟩
        first | (rw [if_pos (by omega)]; done) | (rw [if_neg (by omega)]; done)
theorem c_PL_bits (hP : PO h p B S n) {i : Nat} (hi : i < 2 ^ 31) : Ev (prog nb sa) m_PL_bits [.ref p, .int (nI i)] h (some (.long (bts B S n i))) h := by
  obtain ⟨hp, hR, ⟨g, hg, hgS⟩, hn, hS⟩ := id hP
  obtain ⟨f, hr, ha, hB⟩ := id hR
  have ht := tg_lt (S := S) (n := n) hR.lt i
  have hst := st_le (n := n) hS i
  refine Ev_ofL k_PL_bits 5 [some (.ref p), some (.int (nI i)), none, none, none] rfl (Nat.le_of_ble_eq_true rfl) rfl ?_
  by_cases h1 : 3 ≤ tg B S n i ∧ tg B S n i ≤ 6
  · by_cases h2 : tg B S n i = 5 ∨ tg B S n i = 6
    · refine Ex_mv rfl rfl ?_; refine Ex_mv rfl rfl ?_; refine Ex_invV rfl (by rfl) (by rfl) (by assumption) (by rfl) (c_PL_start hP hi) ?_; refine Ex_mv rfl rfl ?_; refine Ex_mv rfl rfl ?_; refine Ex_mv rfl rfl ?_; refine Ex_invV rfl (by rfl) (by rfl) (by assumption) (by rfl) (c_PL_tag hP hi) ?_; refine Ex_mv rfl rfl ?_; refine Ex_mv rfl rfl ?_; refine Ex_inv rfl (by rfl) (by rfl) (by rfl) (c_CP_isNumber (by omega)) ?_
      rw [if_pos h1]
      refine Ex_mv rfl rfl ?_; refine Ex_ift (by decide) ?_; refine Ex_mv rfl rfl ?_; refine Ex_getf rfl (by assumption) rfl ?_; refine Ex_mv rfl rfl ?_; refine Ex_mv rfl rfl ?_; (first | refine Ex_addN rfl ?_ | refine Ex_mv rfl rfl ?_); refine Ex_invV rfl (by rfl) (by rfl) (by assumption) (by rfl) (c_RW_four hR (by omega)) ?_; refine Ex_mv rfl rfl ?_; refine Ex_mv rfl rfl ?_; refine Ex_inv rfl (by rfl) (by rfl) (by rfl) (c_CP_isWide (by omega)) ?_
      rw [if_pos h2]
      refine Ex_mv rfl rfl ?_; refine Ex_iff (by decide) ?_; refine Ex_mv rfl rfl ?_; refine Ex_mv rfl rfl ?_; refine Ex_mv rfl rfl ?_; refine Ex_lshl rfl ?_; refine Ex_mv rfl rfl ?_; refine Ex_getf rfl (by assumption) rfl ?_; refine Ex_mv rfl rfl ?_; refine Ex_mv rfl rfl ?_; (first | refine Ex_addN rfl ?_ | refine Ex_mv rfl rfl ?_); refine Ex_invV rfl (by rfl) (by rfl) (by assumption) (by rfl) (c_RW_four hR (by omega)) ?_; refine Ex_mv rfl rfl ?_; refine Ex_mv rfl rfl ?_; refine Ex_land rfl ?_; refine Ex_lor rfl ?_; refine Ex_mv rfl rfl ?_
      refine Ex_rt rfl rfl ⟨?_, rfl⟩
      rw [bts, if_pos h1, if_pos (by omega)]; rfl
    · refine Ex_mv rfl rfl ?_; refine Ex_mv rfl rfl ?_; refine Ex_invV rfl (by rfl) (by rfl) (by assumption) (by rfl) (c_PL_start hP hi) ?_; refine Ex_mv rfl rfl ?_; refine Ex_mv rfl rfl ?_; refine Ex_mv rfl rfl ?_; refine Ex_invV rfl (by rfl) (by rfl) (by assumption) (by rfl) (c_PL_tag hP hi) ?_; refine Ex_mv rfl rfl ?_; refine Ex_mv rfl rfl ?_; refine Ex_inv rfl (by rfl) (by rfl) (by rfl) (c_CP_isNumber (by omega)) ?_
      rw [if_pos h1]
      refine Ex_mv rfl rfl ?_; refine Ex_ift (by decide) ?_; refine Ex_mv rfl rfl ?_; refine Ex_getf rfl (by assumption) rfl ?_; refine Ex_mv rfl rfl ?_; refine Ex_mv rfl rfl ?_; (first | refine Ex_addN rfl ?_ | refine Ex_mv rfl rfl ?_); refine Ex_invV rfl (by rfl) (by rfl) (by assumption) (by rfl) (c_RW_four hR (by omega)) ?_; refine Ex_mv rfl rfl ?_; refine Ex_mv rfl rfl ?_; refine Ex_inv rfl (by rfl) (by rfl) (by rfl) (c_CP_isWide (by omega)) ?_
      rw [if_neg h2]
      refine Ex_mv rfl rfl ?_; refine Ex_ift (by decide) ?_; refine Ex_mv rfl rfl ?_; refine Ex_mv rfl rfl ?_
      refine Ex_rt rfl rfl ⟨?_, rfl⟩
      rw [bts, if_pos h1, if_neg (by omega)]
  · refine Ex_mv rfl rfl ?_; refine Ex_mv rfl rfl ?_; refine Ex_invV rfl (by rfl) (by rfl) (by assumption) (by rfl) (c_PL_start hP hi) ?_; refine Ex_mv rfl rfl ?_; refine Ex_mv rfl rfl ?_; refine Ex_mv rfl rfl ?_; refine Ex_invV rfl (by rfl) (by rfl) (by assumption) (by rfl) (c_PL_tag hP hi) ?_; refine Ex_mv rfl rfl ?_; refine Ex_mv rfl rfl ?_; refine Ex_inv rfl (by rfl) (by rfl) (by rfl) (c_CP_isNumber (by omega)) ?_
    rw [if_neg h1]
    refine Ex_mv rfl rfl ?_; refine Ex_iff (by decide) ?_; refine Ex_mv rfl rfl ?_
    refine Ex_rt rfl rfl ⟨?_, rfl⟩
    rw [bts, if_neg h1]
/-- how many bytes an entry takes -/
def bof (B : List Nat) (S : Nat → Nat) (n i : Nat) : Nat := if tg B S n i = 1 then 3 + tz B S n i else if tg B S n i = 5 ∨ tg B S n i = 6 then 9 else if tg B S n i = 7 ∨ tg B S n i = 8 then 3 else 5
theorem c_PL_bytesOf (hP : PO h p B S n) {i : Nat} (hi : i < 2 ^ 31) : Ev (prog nb sa) m_PL_bytesOf [.ref p, .int (nI i)] h (some (.int (nI (bof B S n i)))) h := by
  obtain ⟨hp, hR, ⟨g, hg, hgS⟩, hn, hS⟩ := id hP
  have ht := tg_lt (S := S) (n := n) hR.lt i
  refine Ev_ofL k_PL_bytesOf 2 [some (.ref p), some (.int (nI i))] rfl (Nat.le_of_ble_eq_true rfl) rfl ?_
  refine Ex_mv rfl rfl ?_; refine Ex_mv rfl rfl ?_; refine Ex_invV rfl (by rfl) (by rfl) (by assumption) (by rfl) (c_PL_tag hP hi) ?_; refine Ex_mv rfl rfl ?_
  (first | refine Ex_swN (k := 1) rfl (by omega) (by omega) (fun b5 => ?_) (fun b5_1 => ?_) | refine Ex_sw (fun b5 => ?_) (fun b5_1 => ?_))
  · refine Ex_mv rfl rfl ?_; refine Ex_mv rfl rfl ?_; refine Ex_mv rfl rfl ?_; refine Ex_invV rfl (by rfl) (by rfl) (by assumption) (by rfl) (c_PL_textSize hP hi) ?_; (first | refine Ex_addN rfl ?_ | refine Ex_mv rfl rfl ?_)
    refine Ex_rt rfl rfl ⟨?_, rfl⟩
    first | (rw [bof, if_pos (by omega)]; done) | (rw [bof, if_neg (by omega), if_pos (by omega)]; done) | (rw [bof, if_neg (by omega), if_neg (by omega), if_pos (by omega)]; done) | (rw [bof, if_neg (by omega), if_neg (by omega), if_neg (by omega)]; done)
  (first | refine Ex_swN (k := 2) rfl (by omega) (by omega) (fun b5 => ?_) (fun b5_2 => ?_) | refine Ex_sw (fun b5 => ?_) (fun b5_2 => ?_))
  · refine Ex_mv rfl rfl ?_
    refine Ex_rt rfl rfl ⟨?_, rfl⟩
    first | (rw [bof, if_pos (by omega)]; done) | (rw [bof, if_neg (by omega), if_pos (by omega)]; done) | (rw [bof, if_neg (by omega), if_neg (by omega), if_pos (by omega)]; done) | (rw [bof, if_neg (by omega), if_neg (by omega), if_neg (by omega)]; done)
  (first | refine Ex_swN (k := 3) rfl (by omega) (by omega) (fun b5 => ?_) (fun b5_3 => ?_) | refine Ex_sw (fun b5 => ?_) (fun b5_3 => ?_))
  · refine Ex_mv rfl rfl ?_
    refine Ex_rt rfl rfl ⟨?_, rfl⟩
    first | (rw [bof, if_pos (by omega)]; done) | (rw [bof, if_neg (by omega), if_pos (by omega)]; done) | (rw [bof, if_neg (by omega), if_neg (by omega), if_pos (by omega)]; done) | (rw [bof, if_neg (by omega), if_neg (by omega), if_neg (by omega)]; done)
  (first | refine Ex_swN (k := 4) rfl (by omega) (by omega) (fun b5 => ?_) (fun b5_4 => ?_) | refine Ex_sw (fun b5 => ?_) (fun b5_4 => ?_))
  · refine Ex_mv rfl rfl ?_
    refine Ex_rt rfl rfl ⟨?_, rfl⟩
    first | (rw [bof, if_pos (by omega)]; done) | (rw [bof, if_neg (by omega), if_pos (by omega)]; done) | (rw [bof, if_neg (by omega), if_neg (by omega), if_pos (by omega)]; done) | (rw [bof, if_neg (by omega), if_neg (by omega), if_neg (by omega)]; done)
  (first | refine Ex_swN (k := 5) rfl (by omega) (by omega) (fun b5 => ?_) (fun b5_5 => ?_) | refine Ex_sw (fun b5 => ?_) (fun b5_5 => ?_))
  · refine Ex_mv rfl rfl ?_
    refine Ex_rt rfl rfl ⟨?_, rfl⟩
    first | (rw [bof, if_pos (by omega)]; done) | (rw [bof, if_neg (by omega), if_pos (by omega)]; done) | (rw [bof, if_neg (by omega), if_neg (by omega), if_pos (by omega)]; done) | (rw [bof, if_neg (by omega), if_neg (by omega), if_neg (by omega)]; done)
  (first | refine Ex_swN (k := 6) rfl (by omega) (by omega) (fun b5 => ?_) (fun b5_6 => ?_) | refine Ex_sw (fun b5 => ?_) (fun b5_6 => ?_))
  · refine Ex_mv rfl rfl ?_
    refine Ex_rt rfl rfl ⟨?_, rfl⟩
    first | (rw [bof, if_pos (by omega)]; done) | (rw [bof, if_neg (by omega), if_pos (by omega)]; done) | (rw [bof, if_neg (by omega), if_neg (by omega), if_pos (by omega)]; done) | (rw [bof, if_neg (by omega), if_neg (by omega), if_neg (by omega)]; done)
  (first | refine Ex_swN (k := 7) rfl (by omega) (by omega) (fun b5 => ?_) (fun b5_7 => ?_) | refine Ex_sw (fun b5 => ?_) (fun b5_7 => ?_))
  · refine Ex_mv rfl rfl ?_
    refine Ex_rt rfl rfl ⟨?_, rfl⟩
    first | (rw [bof, if_pos (by omega)]; done) | (rw [bof, if_neg (by omega), if_pos (by omega)]; done) | (rw [bof, if_neg (by omega), if_neg (by omega), if_pos (by omega)]; done) | (rw [bof, if_neg (by omega), if_neg (by omega), if_neg (by omega)]; done)
  (first | refine Ex_swN (k := 8) rfl (by omega) (by omega) (fun b5 => ?_) (fun b5_8 => ?_) | refine Ex_sw (fun b5 => ?_) (fun b5_8 => ?_))
  · refine Ex_mv rfl rfl ?_
    refine Ex_rt rfl rfl ⟨?_, rfl⟩
    first | (rw [bof, if_pos (by omega)]; done) | (rw [bof, if_neg (by omega), if_pos (by omega)]; done) | (rw [bof, if_neg (by omega), if_neg (by omega), if_pos (by omega)]; done) | (rw [bof, if_neg (by omega), if_neg (by omega), if_neg (by omega)]; done)
  refine Ex_sw0 ?_
  refine Ex_mv rfl rfl ?_
  refine Ex_rt rfl rfl ⟨?_, rfl⟩
  first | (rw [bof, if_pos (by omega)]; done) | (rw [bof, if_neg (by omega), if_pos (by omega)]; done) | (rw [bof, if_neg (by omega), if_neg (by omega), if_pos (by omega)]; done) | (rw [bof, if_neg (by omega), if_neg (by omega), if_neg (by omega)]; done)
/-- what is wrong with a place where a tag is wanted -/
def wrg (B : List Nat) (S : Nat → Nat) (n i t : Nat) : Nat := if n ≤ i then 8 else if tg B S n i = 0 then 7 else if tg B S n i = t then 0 else 9
theorem c_PL_wrong (hP : PO h p B S n) {i t : Nat} (hi : i < 2 ^ 31) (htt : t < 2 ^ 31) : Ev (prog nb sa) m_PL_wrong [.ref p, .int (nI i), .int (nI t)] h (some (.int (nI (wrg B S n i t)))) h := by
  obtain ⟨hp, hR, ⟨g, hg, hgS⟩, hn, hS⟩ := id hP
  have ht := tg_lt (S := S) (n := n) hR.lt i
  refine Ev_ofL k_PL_wrong 4 [some (.ref p), some (.int (nI i)), some (.int (nI t)), none] rfl (Nat.le_of_ble_eq_true rfl) rfl ?_
  by_cases h1 : i < n
  · refine Ex_mv rfl rfl ?_; refine Ex_mv rfl rfl ?_; refine Ex_invV rfl (by rfl) (by rfl) (by assumption) (by rfl) (c_PL_has hP hi) ?_
    rw [if_pos h1]
    refine Ex_mv rfl rfl ?_; refine Ex_ift (by decide) ?_; refine Ex_mv rfl rfl ?_; refine Ex_mv rfl rfl ?_; refine Ex_invV rfl (by rfl) (by rfl) (by assumption) (by rfl) (c_PL_tag hP hi) ?_; refine Ex_mv rfl rfl ?_; refine Ex_mv rfl rfl ?_; refine Ex_mv rfl rfl ?_; (first | refine Ex_ne0 (by omega) (fun b18 => ?_) (fun b18 => ?_) | refine Ex_if (fun b18 => ?_) (fun b18 => ?_))
    · refine Ex_mv rfl rfl ?_; refine Ex_mv rfl rfl ?_; refine Ex_mv rfl rfl ?_; (first | refine Ex_neN (by omega) (by omega) (fun b26 => ?_) (fun b26 => ?_) | refine Ex_if (fun b26 => ?_) (fun b26 => ?_))
      · refine Ex_mv rfl rfl ?_
        refine Ex_rt rfl rfl ⟨?_, rfl⟩
        rw [wrg, if_neg (by omega)]
        first | (rw [if_pos (by omega)]; done) | (rw [if_neg (by omega), if_pos (by omega)]; done) | (rw [if_neg (by omega), if_neg (by omega)]; done)
      · refine Ex_mv rfl rfl ?_; refine Ex_mv rfl rfl ?_
        refine Ex_rt rfl rfl ⟨?_, rfl⟩
        rw [wrg, if_neg (by omega)]
        first | (rw [if_pos (by omega)]; done) | (rw [if_neg (by omega), if_pos (by omega)]; done) | (rw [if_neg (by omega), if_neg (by omega)]; done)
    · refine Ex_mv rfl rfl ?_
      refine Ex_rt rfl rfl ⟨?_, rfl⟩
      rw [wrg, if_neg (by omega)]
      first | (rw [if_pos (by omega)]; done) | (rw [if_neg (by omega), if_pos (by omega)]; done) | (rw [if_neg (by omega), if_neg (by omega)]; done)
  · refine Ex_mv rfl rfl ?_; refine Ex_mv rfl rfl ?_; refine Ex_invV rfl (by rfl) (by rfl) (by assumption) (by rfl) (c_PL_has hP hi) ?_
    rw [if_neg h1]
    refine Ex_mv rfl rfl ?_; refine Ex_iff (by decide) ?_; refine Ex_mv rfl rfl ?_
    refine Ex_rt rfl rfl ⟨?_, rfl⟩
    rw [wrg, if_pos (by omega)]
theorem c_PL_wrongN (hP : PO h p B S n) {i : Int32} {t : Int32} (hi : i < 0) : Ev (prog nb sa) m_PL_wrong [.ref p, .int i, .int t] h (some (.int (nI 8))) h := by
  obtain ⟨hp, hR, ⟨g, hg, hgS⟩, hn, hS⟩ := id hP
  refine Ev_ofL k_PL_wrong 4 [some (.ref p), some (.int i), some (.int t), none] rfl (Nat.le_of_ble_eq_true rfl) rfl ?_
  refine Ex_mv rfl rfl ?_; refine Ex_mv rfl rfl ?_; refine Ex_invV rfl (by rfl) (by rfl) (by assumption) (by rfl) (c_PL_hasN hP hi) ?_; refine Ex_mv rfl rfl ?_; refine Ex_iff (by decide) ?_; refine Ex_mv rfl rfl ?_
  exact Ex_rt rfl rfl ⟨rfl, rfl⟩
theorem c_PL_textOf (hP : PO h p B S n) {i k : Nat} (hi : i < 2 ^ 31) (hk : k < 2 ^ 31) : Ev (prog nb sa) m_PL_textOf [.ref p, .int (nI i), .int (nI k)] h (some (.int (nI (tof B S n i k)))) h := by
  obtain ⟨hp, hR, ⟨g, hg, hgS⟩, hn, hS⟩ := id hP
  have ht := tg_lt (S := S) (n := n) hR.lt i
  have h1 := tw_lt (S := S) (n := n) hR.lt i 1
  have h3 := tw_lt (S := S) (n := n) hR.lt i 3
  refine Ev_ofL k_PL_textOf 3 [some (.ref p), some (.int (nI i)), some (.int (nI k))] rfl (Nat.le_of_ble_eq_true rfl) rfl ?_
  refine Ex_mv rfl rfl ?_; refine Ex_mv rfl rfl ?_; refine Ex_invV rfl (by rfl) (by rfl) (by assumption) (by rfl) (c_PL_tag hP hi) ?_; refine Ex_mv rfl rfl ?_
  (first | refine Ex_swN (k := 1) rfl (by omega) (by omega) (fun b5 => ?_) (fun b5_1 => ?_) | refine Ex_sw (fun b5 => ?_) (fun b5_1 => ?_))
  · refine Ex_mv rfl rfl ?_
    refine Ex_rt rfl rfl ⟨?_, rfl⟩
    unfold tof
    first | (rw [if_pos (by omega)]; done) | (rw [if_neg (by omega), if_pos (by omega)]; done) | (rw [if_neg (by omega), if_neg (by omega), if_pos (by omega), if_pos (by omega)]; done) | (rw [if_neg (by omega), if_neg (by omega), if_pos (by omega), if_neg (by omega)]; done) | (rw [if_neg (by omega), if_neg (by omega), if_neg (by omega), if_pos (by omega), if_pos (by omega)]; done) | (rw [if_neg (by omega), if_neg (by omega), if_neg (by omega), if_pos (by omega), if_neg (by omega), if_pos (by omega)]; done) | (rw [if_neg (by omega), if_neg (by omega), if_neg (by omega), if_pos (by omega), if_neg (by omega), if_neg (by omega)]; done) | (rw [if_neg (by omega), if_neg (by omega), if_neg (by omega), if_neg (by omega)]; done)
  (first | refine Ex_swN (k := 2) rfl (by omega) (by omega) (fun b5 => ?_) (fun b5_2 => ?_) | refine Ex_sw (fun b5 => ?_) (fun b5_2 => ?_))
  · refine Ex_mv rfl rfl ?_
    refine Ex_rt rfl rfl ⟨?_, rfl⟩
    unfold tof
    first | (rw [if_pos (by omega)]; done) | (rw [if_neg (by omega), if_pos (by omega)]; done) | (rw [if_neg (by omega), if_neg (by omega), if_pos (by omega), if_pos (by omega)]; done) | (rw [if_neg (by omega), if_neg (by omega), if_pos (by omega), if_neg (by omega)]; done) | (rw [if_neg (by omega), if_neg (by omega), if_neg (by omega), if_pos (by omega), if_pos (by omega)]; done) | (rw [if_neg (by omega), if_neg (by omega), if_neg (by omega), if_pos (by omega), if_neg (by omega), if_pos (by omega)]; done) | (rw [if_neg (by omega), if_neg (by omega), if_neg (by omega), if_pos (by omega), if_neg (by omega), if_neg (by omega)]; done) | (rw [if_neg (by omega), if_neg (by omega), if_neg (by omega), if_neg (by omega)]; done)
  (first | refine Ex_swN (k := 3) rfl (by omega) (by omega) (fun b5 => ?_) (fun b5_3 => ?_) | refine Ex_sw (fun b5 => ?_) (fun b5_3 => ?_))
  · refine Ex_mv rfl rfl ?_
    refine Ex_rt rfl rfl ⟨?_, rfl⟩
    unfold tof
    first | (rw [if_pos (by omega)]; done) | (rw [if_neg (by omega), if_pos (by omega)]; done) | (rw [if_neg (by omega), if_neg (by omega), if_pos (by omega), if_pos (by omega)]; done) | (rw [if_neg (by omega), if_neg (by omega), if_pos (by omega), if_neg (by omega)]; done) | (rw [if_neg (by omega), if_neg (by omega), if_neg (by omega), if_pos (by omega), if_pos (by omega)]; done) | (rw [if_neg (by omega), if_neg (by omega), if_neg (by omega), if_pos (by omega), if_neg (by omega), if_pos (by omega)]; done) | (rw [if_neg (by omega), if_neg (by omega), if_neg (by omega), if_pos (by omega), if_neg (by omega), if_neg (by omega)]; done) | (rw [if_neg (by omega), if_neg (by omega), if_neg (by omega), if_neg (by omega)]; done)
  (first | refine Ex_swN (k := 4) rfl (by omega) (by omega) (fun b5 => ?_) (fun b5_4 => ?_) | refine Ex_sw (fun b5 => ?_) (fun b5_4 => ?_))
  · refine Ex_mv rfl rfl ?_
    refine Ex_rt rfl rfl ⟨?_, rfl⟩
    unfold tof
    first | (rw [if_pos (by omega)]; done) | (rw [if_neg (by omega), if_pos (by omega)]; done) | (rw [if_neg (by omega), if_neg (by omega), if_pos (by omega), if_pos (by omega)]; done) | (rw [if_neg (by omega), if_neg (by omega), if_pos (by omega), if_neg (by omega)]; done) | (rw [if_neg (by omega), if_neg (by omega), if_neg (by omega), if_pos (by omega), if_pos (by omega)]; done) | (rw [if_neg (by omega), if_neg (by omega), if_neg (by omega), if_pos (by omega), if_neg (by omega), if_pos (by omega)]; done) | (rw [if_neg (by omega), if_neg (by omega), if_neg (by omega), if_pos (by omega), if_neg (by omega), if_neg (by omega)]; done) | (rw [if_neg (by omega), if_neg (by omega), if_neg (by omega), if_neg (by omega)]; done)
  (first | refine Ex_swN (k := 5) rfl (by omega) (by omega) (fun b5 => ?_) (fun b5_5 => ?_) | refine Ex_sw (fun b5 => ?_) (fun b5_5 => ?_))
  · refine Ex_mv rfl rfl ?_
    refine Ex_rt rfl rfl ⟨?_, rfl⟩
    unfold tof
    first | (rw [if_pos (by omega)]; done) | (rw [if_neg (by omega), if_pos (by omega)]; done) | (rw [if_neg (by omega), if_neg (by omega), if_pos (by omega), if_pos (by omega)]; done) | (rw [if_neg (by omega), if_neg (by omega), if_pos (by omega), if_neg (by omega)]; done) | (rw [if_neg (by omega), if_neg (by omega), if_neg (by omega), if_pos (by omega), if_pos (by omega)]; done) | (rw [if_neg (by omega), if_neg (by omega), if_neg (by omega), if_pos (by omega), if_neg (by omega), if_pos (by omega)]; done) | (rw [if_neg (by omega), if_neg (by omega), if_neg (by omega), if_pos (by omega), if_neg (by omega), if_neg (by omega)]; done) | (rw [if_neg (by omega), if_neg (by omega), if_neg (by omega), if_neg (by omega)]; done)
  (first | refine Ex_swN (k := 6) rfl (by omega) (by omega) (fun b5 => ?_) (fun b5_6 => ?_) | refine Ex_sw (fun b5 => ?_) (fun b5_6 => ?_))
  · refine Ex_mv rfl rfl ?_
    refine Ex_rt rfl rfl ⟨?_, rfl⟩
    unfold tof
    first | (rw [if_pos (by omega)]; done) | (rw [if_neg (by omega), if_pos (by omega)]; done) | (rw [if_neg (by omega), if_neg (by omega), if_pos (by omega), if_pos (by omega)]; done) | (rw [if_neg (by omega), if_neg (by omega), if_pos (by omega), if_neg (by omega)]; done) | (rw [if_neg (by omega), if_neg (by omega), if_neg (by omega), if_pos (by omega), if_pos (by omega)]; done) | (rw [if_neg (by omega), if_neg (by omega), if_neg (by omega), if_pos (by omega), if_neg (by omega), if_pos (by omega)]; done) | (rw [if_neg (by omega), if_neg (by omega), if_neg (by omega), if_pos (by omega), if_neg (by omega), if_neg (by omega)]; done) | (rw [if_neg (by omega), if_neg (by omega), if_neg (by omega), if_neg (by omega)]; done)
  (first | refine Ex_swN (k := 7) rfl (by omega) (by omega) (fun b5 => ?_) (fun b5_7 => ?_) | refine Ex_sw (fun b5 => ?_) (fun b5_7 => ?_))
  · refine Ex_mv rfl rfl ?_; refine Ex_mv rfl rfl ?_; refine Ex_mv rfl rfl ?_; refine Ex_invV rfl (by rfl) (by rfl) (by assumption) (by rfl) (c_PL_twoOf hP hi (by decide)) ?_
    refine Ex_rt rfl rfl ⟨?_, rfl⟩
    unfold tof
    first | (rw [if_pos (by omega)]; done) | (rw [if_neg (by omega), if_pos (by omega)]; done) | (rw [if_neg (by omega), if_neg (by omega), if_pos (by omega), if_pos (by omega)]; done) | (rw [if_neg (by omega), if_neg (by omega), if_pos (by omega), if_neg (by omega)]; done) | (rw [if_neg (by omega), if_neg (by omega), if_neg (by omega), if_pos (by omega), if_pos (by omega)]; done) | (rw [if_neg (by omega), if_neg (by omega), if_neg (by omega), if_pos (by omega), if_neg (by omega), if_pos (by omega)]; done) | (rw [if_neg (by omega), if_neg (by omega), if_neg (by omega), if_pos (by omega), if_neg (by omega), if_neg (by omega)]; done) | (rw [if_neg (by omega), if_neg (by omega), if_neg (by omega), if_neg (by omega)]; done)
  (first | refine Ex_swN (k := 8) rfl (by omega) (by omega) (fun b5 => ?_) (fun b5_8 => ?_) | refine Ex_sw (fun b5 => ?_) (fun b5_8 => ?_))
  · refine Ex_mv rfl rfl ?_; refine Ex_mv rfl rfl ?_; refine Ex_mv rfl rfl ?_; refine Ex_invV rfl (by rfl) (by rfl) (by assumption) (by rfl) (c_PL_twoOf hP hi (by decide)) ?_
    refine Ex_rt rfl rfl ⟨?_, rfl⟩
    unfold tof
    first | (rw [if_pos (by omega)]; done) | (rw [if_neg (by omega), if_pos (by omega)]; done) | (rw [if_neg (by omega), if_neg (by omega), if_pos (by omega), if_pos (by omega)]; done) | (rw [if_neg (by omega), if_neg (by omega), if_pos (by omega), if_neg (by omega)]; done) | (rw [if_neg (by omega), if_neg (by omega), if_neg (by omega), if_pos (by omega), if_pos (by omega)]; done) | (rw [if_neg (by omega), if_neg (by omega), if_neg (by omega), if_pos (by omega), if_neg (by omega), if_pos (by omega)]; done) | (rw [if_neg (by omega), if_neg (by omega), if_neg (by omega), if_pos (by omega), if_neg (by omega), if_neg (by omega)]; done) | (rw [if_neg (by omega), if_neg (by omega), if_neg (by omega), if_neg (by omega)]; done)
  (first | refine Ex_swN (k := 9) rfl (by omega) (by omega) (fun b5 => ?_) (fun b5_9 => ?_) | refine Ex_sw (fun b5 => ?_) (fun b5_9 => ?_))
  · refine Ex_mv rfl rfl ?_; refine Ex_mv rfl rfl ?_; (first | refine Ex_ne0 (by omega) (fun b93 => ?_) (fun b93 => ?_) | refine Ex_if (fun b93 => ?_) (fun b93 => ?_))
    · refine Ex_mv rfl rfl ?_; refine Ex_mv rfl rfl ?_; refine Ex_mv rfl rfl ?_; refine Ex_mv rfl rfl ?_; refine Ex_invV rfl (by rfl) (by rfl) (by assumption) (by rfl) (c_PL_twoOf hP hi (by decide)) ?_; refine Ex_mv rfl rfl ?_; refine Ex_mv rfl rfl ?_; refine Ex_mv rfl rfl ?_; (first | refine Ex_neN (by omega) (by omega) (fun b119 => ?_) (fun b119 => ?_) | refine Ex_if (fun b119 => ?_) (fun b119 => ?_))
      · refine Ex_mv rfl rfl ?_; refine Ex_invV rfl (by rfl) (by rfl) (by assumption) (by rfl) (c_PL_twoOf hP (by omega) (by decide)) ?_
        refine Ex_rt rfl rfl ⟨?_, rfl⟩
        unfold tof
        first | (rw [if_pos (by omega)]; done) | (rw [if_neg (by omega), if_pos (by omega)]; done) | (rw [if_neg (by omega), if_neg (by omega), if_pos (by omega), if_pos (by omega)]; done) | (rw [if_neg (by omega), if_neg (by omega), if_pos (by omega), if_neg (by omega)]; done) | (rw [if_neg (by omega), if_neg (by omega), if_neg (by omega), if_pos (by omega), if_pos (by omega)]; done) | (rw [if_neg (by omega), if_neg (by omega), if_neg (by omega), if_pos (by omega), if_neg (by omega), if_pos (by omega)]; done) | (rw [if_neg (by omega), if_neg (by omega), if_neg (by omega), if_pos (by omega), if_neg (by omega), if_neg (by omega)]; done) | (rw [if_neg (by omega), if_neg (by omega), if_neg (by omega), if_neg (by omega)]; done)
      · refine Ex_mv rfl rfl ?_; refine Ex_mv rfl rfl ?_; refine Ex_invV rfl (by rfl) (by rfl) (by assumption) (by rfl) (c_PL_twoOf hP (by omega) (by decide)) ?_
        refine Ex_rt rfl rfl ⟨?_, rfl⟩
        unfold tof
        first | (rw [if_pos (by omega)]; done) | (rw [if_neg (by omega), if_pos (by omega)]; done) | (rw [if_neg (by omega), if_neg (by omega), if_pos (by omega), if_pos (by omega)]; done) | (rw [if_neg (by omega), if_neg (by omega), if_pos (by omega), if_neg (by omega)]; done) | (rw [if_neg (by omega), if_neg (by omega), if_neg (by omega), if_pos (by omega), if_pos (by omega)]; done) | (rw [if_neg (by omega), if_neg (by omega), if_neg (by omega), if_pos (by omega), if_neg (by omega), if_pos (by omega)]; done) | (rw [if_neg (by omega), if_neg (by omega), if_neg (by omega), if_pos (by omega), if_neg (by omega), if_neg (by omega)]; done) | (rw [if_neg (by omega), if_neg (by omega), if_neg (by omega), if_neg (by omega)]; done)
    · refine Ex_mv rfl rfl ?_; refine Ex_mv rfl rfl ?_; refine Ex_mv rfl rfl ?_; refine Ex_mv rfl rfl ?_; refine Ex_invV rfl (by rfl) (by rfl) (by assumption) (by rfl) (c_PL_twoOf hP hi (by decide)) ?_; refine Ex_mv rfl rfl ?_; refine Ex_invV rfl (by rfl) (by rfl) (by assumption) (by rfl) (c_PL_twoOf hP (by omega) (by decide)) ?_; refine Ex_mv rfl rfl ?_
      refine Ex_rt rfl rfl ⟨?_, rfl⟩
      unfold tof
      first | (rw [if_pos (by omega)]; done) | (rw [if_neg (by omega), if_pos (by omega)]; done) | (rw [if_neg (by omega), if_neg (by omega), if_pos (by omega), if_pos (by omega)]; done) | (rw [if_neg (by omega), if_neg (by omega), if_pos (by omega), if_neg (by omega)]; done) | (rw [if_neg (by omega), if_neg (by omega), if_neg (by omega), if_pos (by omega), if_pos (by omega)]; done) | (rw [if_neg (by omega), if_neg (by omega), if_neg (by omega), if_pos (by omega), if_neg (by omega), if_pos (by omega)]; done) | (rw [if_neg (by omega), if_neg (by omega), if_neg (by omega), if_pos (by omega), if_neg (by omega), if_neg (by omega)]; done) | (rw [if_neg (by omega), if_neg (by omega), if_neg (by omega), if_neg (by omega)]; done)
  (first | refine Ex_swN (k := 10) rfl (by omega) (by omega) (fun b5 => ?_) (fun b5_10 => ?_) | refine Ex_sw (fun b5 => ?_) (fun b5_10 => ?_))
  · refine Ex_mv rfl rfl ?_; refine Ex_mv rfl rfl ?_; (first | refine Ex_ne0 (by omega) (fun b93 => ?_) (fun b93 => ?_) | refine Ex_if (fun b93 => ?_) (fun b93 => ?_))
    · refine Ex_mv rfl rfl ?_; refine Ex_mv rfl rfl ?_; refine Ex_mv rfl rfl ?_; refine Ex_mv rfl rfl ?_; refine Ex_invV rfl (by rfl) (by rfl) (by assumption) (by rfl) (c_PL_twoOf hP hi (by decide)) ?_; refine Ex_mv rfl rfl ?_; refine Ex_mv rfl rfl ?_; refine Ex_mv rfl rfl ?_; (first | refine Ex_neN (by omega) (by omega) (fun b119 => ?_) (fun b119 => ?_) | refine Ex_if (fun b119 => ?_) (fun b119 => ?_))
      · refine Ex_mv rfl rfl ?_; refine Ex_invV rfl (by rfl) (by rfl) (by assumption) (by rfl) (c_PL_twoOf hP (by omega) (by decide)) ?_
        refine Ex_rt rfl rfl ⟨?_, rfl⟩
        unfold tof
        first | (rw [if_pos (by omega)]; done) | (rw [if_neg (by omega), if_pos (by omega)]; done) | (rw [if_neg (by omega), if_neg (by omega), if_pos (by omega), if_pos (by omega)]; done) | (rw [if_neg (by omega), if_neg (by omega), if_pos (by omega), if_neg (by omega)]; done) | (rw [if_neg (by omega), if_neg (by omega), if_neg (by omega), if_pos (by omega), if_pos (by omega)]; done) | (rw [if_neg (by omega), if_neg (by omega), if_neg (by omega), if_pos (by omega), if_neg (by omega), if_pos (by omega)]; done) | (rw [if_neg (by omega), if_neg (by omega), if_neg (by omega), if_pos (by omega), if_neg (by omega), if_neg (by omega)]; done) | (rw [if_neg (by omega), if_neg (by omega), if_neg (by omega), if_neg (by omega)]; done)
      · refine Ex_mv rfl rfl ?_; refine Ex_mv rfl rfl ?_; refine Ex_invV rfl (by rfl) (by rfl) (by assumption) (by rfl) (c_PL_twoOf hP (by omega) (by decide)) ?_
        refine Ex_rt rfl rfl ⟨?_, rfl⟩
        unfold tof
        first | (rw [if_pos (by omega)]; done) | (rw [if_neg (by omega), if_pos (by omega)]; done) | (rw [if_neg (by omega), if_neg (by omega), if_pos (by omega), if_pos (by omega)]; done) | (rw [if_neg (by omega), if_neg (by omega), if_pos (by omega), if_neg (by omega)]; done) | (rw [if_neg (by omega), if_neg (by omega), if_neg (by omega), if_pos (by omega), if_pos (by omega)]; done) | (rw [if_neg (by omega), if_neg (by omega), if_neg (by omega), if_pos (by omega), if_neg (by omega), if_pos (by omega)]; done) | (rw [if_neg (by omega), if_neg (by omega), if_neg (by omega), if_pos (by omega), if_neg (by omega), if_neg (by omega)]; done) | (rw [if_neg (by omega), if_neg (by omega), if_neg (by omega), if_neg (by omega)]; done)
    · refine Ex_mv rfl rfl ?_; refine Ex_mv rfl rfl ?_; refine Ex_mv rfl rfl ?_; refine Ex_mv rfl rfl ?_; refine Ex_invV rfl (by rfl) (by rfl) (by assumption) (by rfl) (c_PL_twoOf hP hi (by decide)) ?_; refine Ex_mv rfl rfl ?_; refine Ex_invV rfl (by rfl) (by rfl) (by assumption) (by rfl) (c_PL_twoOf hP (by omega) (by decide)) ?_; refine Ex_mv rfl rfl ?_
      refine Ex_rt rfl rfl ⟨?_, rfl⟩
      unfold tof
      first | (rw [if_pos (by omega)]; done) | (rw [if_neg (by omega), if_pos (by omega)]; done) | (rw [if_neg (by omega), if_neg (by omega), if_pos (by omega), if_pos (by omega)]; done) | (rw [if_neg (by omega), if_neg (by omega), if_pos (by omega), if_neg (by omega)]; done) | (rw [if_neg (by omega), if_neg (by omega), if_neg (by omega), if_pos (by omega), if_pos (by omega)]; done) | (rw [if_neg (by omega), if_neg (by omega), if_neg (by omega), if_pos (by omega), if_neg (by omega), if_pos (by omega)]; done) | (rw [if_neg (by omega), if_neg (by omega), if_neg (by omega), if_pos (by omega), if_neg (by omega), if_neg (by omega)]; done) | (rw [if_neg (by omega), if_neg (by omega), if_neg (by omega), if_neg (by omega)]; done)
  (first | refine Ex_swN (k := 11) rfl (by omega) (by omega) (fun b5 => ?_) (fun b5_11 => ?_) | refine Ex_sw (fun b5 => ?_) (fun b5_11 => ?_))
  · refine Ex_mv rfl rfl ?_; refine Ex_mv rfl rfl ?_; (first | refine Ex_ne0 (by omega) (fun b93 => ?_) (fun b93 => ?_) | refine Ex_if (fun b93 => ?_) (fun b93 => ?_))
    · refine Ex_mv rfl rfl ?_; refine Ex_mv rfl rfl ?_; refine Ex_mv rfl rfl ?_; refine Ex_mv rfl rfl ?_; refine Ex_invV rfl (by rfl) (by rfl) (by assumption) (by rfl) (c_PL_twoOf hP hi (by decide)) ?_; refine Ex_mv rfl rfl ?_; refine Ex_mv rfl rfl ?_; refine Ex_mv rfl rfl ?_; (first | refine Ex_neN (by omega) (by omega) (fun b119 => ?_) (fun b119 => ?_) | refine Ex_if (fun b119 => ?_) (fun b119 => ?_))
      · refine Ex_mv rfl rfl ?_; refine Ex_invV rfl (by rfl) (by rfl) (by assumption) (by rfl) (c_PL_twoOf hP (by omega) (by decide)) ?_
        refine Ex_rt rfl rfl ⟨?_, rfl⟩
        unfold tof
        first | (rw [if_pos (by omega)]; done) | (rw [if_neg (by omega), if_pos (by omega)]; done) | (rw [if_neg (by omega), if_neg (by omega), if_pos (by omega), if_pos (by omega)]; done) | (rw [if_neg (by omega), if_neg (by omega), if_pos (by omega), if_neg (by omega)]; done) | (rw [if_neg (by omega), if_neg (by omega), if_neg (by omega), if_pos (by omega), if_pos (by omega)]; done) | (rw [if_neg (by omega), if_neg (by omega), if_neg (by omega), if_pos (by omega), if_neg (by omega), if_pos (by omega)]; done) | (rw [if_neg (by omega), if_neg (by omega), if_neg (by omega), if_pos (by omega), if_neg (by omega), if_neg (by omega)]; done) | (rw [if_neg (by omega), if_neg (by omega), if_neg (by omega), if_neg (by omega)]; done)
      · refine Ex_mv rfl rfl ?_; refine Ex_mv rfl rfl ?_; refine Ex_invV rfl (by rfl) (by rfl) (by assumption) (by rfl) (c_PL_twoOf hP (by omega) (by decide)) ?_
        refine Ex_rt rfl rfl ⟨?_, rfl⟩
        unfold tof
        first | (rw [if_pos (by omega)]; done) | (rw [if_neg (by omega), if_pos (by omega)]; done) | (rw [if_neg (by omega), if_neg (by omega), if_pos (by omega), if_pos (by omega)]; done) | (rw [if_neg (by omega), if_neg (by omega), if_pos (by omega), if_neg (by omega)]; done) | (rw [if_neg (by omega), if_neg (by omega), if_neg (by omega), if_pos (by omega), if_pos (by omega)]; done) | (rw [if_neg (by omega), if_neg (by omega), if_neg (by omega), if_pos (by omega), if_neg (by omega), if_pos (by omega)]; done) | (rw [if_neg (by omega), if_neg (by omega), if_neg (by omega), if_pos (by omega), if_neg (by omega), if_neg (by omega)]; done) | (rw [if_neg (by omega), if_neg (by omega), if_neg (by omega), if_neg (by omega)]; done)
    · refine Ex_mv rfl rfl ?_; refine Ex_mv rfl rfl ?_; refine Ex_mv rfl rfl ?_; refine Ex_mv rfl rfl ?_; refine Ex_invV rfl (by rfl) (by rfl) (by assumption) (by rfl) (c_PL_twoOf hP hi (by decide)) ?_; refine Ex_mv rfl rfl ?_; refine Ex_invV rfl (by rfl) (by rfl) (by assumption) (by rfl) (c_PL_twoOf hP (by omega) (by decide)) ?_; refine Ex_mv rfl rfl ?_
      refine Ex_rt rfl rfl ⟨?_, rfl⟩
      unfold tof
      first | (rw [if_pos (by omega)]; done) | (rw [if_neg (by omega), if_pos (by omega)]; done) | (rw [if_neg (by omega), if_neg (by omega), if_pos (by omega), if_pos (by omega)]; done) | (rw [if_neg (by omega), if_neg (by omega), if_pos (by omega), if_neg (by omega)]; done) | (rw [if_neg (by omega), if_neg (by omega), if_neg (by omega), if_pos (by omega), if_pos (by omega)]; done) | (rw [if_neg (by omega), if_neg (by omega), if_neg (by omega), if_pos (by omega), if_neg (by omega), if_pos (by omega)]; done) | (rw [if_neg (by omega), if_neg (by omega), if_neg (by omega), if_pos (by omega), if_neg (by omega), if_neg (by omega)]; done) | (rw [if_neg (by omega), if_neg (by omega), if_neg (by omega), if_neg (by omega)]; done)
  (first | refine Ex_swN (k := 12) rfl (by omega) (by omega) (fun b5 => ?_) (fun b5_12 => ?_) | refine Ex_sw (fun b5 => ?_) (fun b5_12 => ?_))
  · refine Ex_mv rfl rfl ?_; refine Ex_mv rfl rfl ?_; refine Ex_mv rfl rfl ?_; refine Ex_mv rfl rfl ?_; (first | refine Ex_ne0 (by omega) (fun b80 => ?_) (fun b80 => ?_) | refine Ex_if (fun b80 => ?_) (fun b80 => ?_))
    · refine Ex_mv rfl rfl ?_; refine Ex_invV rfl (by rfl) (by rfl) (by assumption) (by rfl) (c_PL_twoOf hP hi (by decide)) ?_
      refine Ex_rt rfl rfl ⟨?_, rfl⟩
      unfold tof
      first | (rw [if_pos (by omega)]; done) | (rw [if_neg (by omega), if_pos (by omega)]; done) | (rw [if_neg (by omega), if_neg (by omega), if_pos (by omega), if_pos (by omega)]; done) | (rw [if_neg (by omega), if_neg (by omega), if_pos (by omega), if_neg (by omega)]; done) | (rw [if_neg (by omega), if_neg (by omega), if_neg (by omega), if_pos (by omega), if_pos (by omega)]; done) | (rw [if_neg (by omega), if_neg (by omega), if_neg (by omega), if_pos (by omega), if_neg (by omega), if_pos (by omega)]; done) | (rw [if_neg (by omega), if_neg (by omega), if_neg (by omega), if_pos (by omega), if_neg (by omega), if_neg (by omega)]; done) | (rw [if_neg (by omega), if_neg (by omega), if_neg (by omega), if_neg (by omega)]; done)
    · refine Ex_mv rfl rfl ?_; refine Ex_mv rfl rfl ?_; refine Ex_invV rfl (by rfl) (by rfl) (by assumption) (by rfl) (c_PL_twoOf hP hi (by decide)) ?_
      refine Ex_rt rfl rfl ⟨?_, rfl⟩
      unfold tof
      first | (rw [if_pos (by omega)]; done) | (rw [if_neg (by omega), if_pos (by omega)]; done) | (rw [if_neg (by omega), if_neg (by omega), if_pos (by omega), if_pos (by omega)]; done) | (rw [if_neg (by omega), if_neg (by omega), if_pos (by omega), if_neg (by omega)]; done) | (rw [if_neg (by omega), if_neg (by omega), if_neg (by omega), if_pos (by omega), if_pos (by omega)]; done) | (rw [if_neg (by omega), if_neg (by omega), if_neg (by omega), if_pos (by omega), if_neg (by omega), if_pos (by omega)]; done) | (rw [if_neg (by omega), if_neg (by omega), if_neg (by omega), if_pos (by omega), if_neg (by omega), if_neg (by omega)]; done) | (rw [if_neg (by omega), if_neg (by omega), if_neg (by omega), if_neg (by omega)]; done)
  refine Ex_sw0 ?_
  refine Ex_mv rfl rfl ?_
  refine Ex_rt rfl rfl ⟨?_, rfl⟩
  unfold tof
  first | (rw [if_pos (by omega)]; done) | (rw [if_neg (by omega), if_pos (by omega)]; done) | (rw [if_neg (by omega), if_neg (by omega), if_pos (by omega), if_pos (by omega)]; done) | (rw [if_neg (by omega), if_neg (by omega), if_pos (by omega), if_neg (by omega)]; done) | (rw [if_neg (by omega), if_neg (by omega), if_neg (by omega), if_pos (by omega), if_pos (by omega)]; done) | (rw [if_neg (by omega), if_neg (by omega), if_neg (by omega), if_pos (by omega), if_neg (by omega), if_pos (by omega)]; done) | (rw [if_neg (by omega), if_neg (by omega), if_neg (by omega), if_pos (by omega), if_neg (by omega), if_neg (by omega)]; done) | (rw [if_neg (by omega), if_neg (by omega), if_neg (by omega), if_neg (by omega)]; done)
/-! meanings -/
/-- the texts of a place are there -/
def TV (B : List Nat) (S : Nat → Nat) (n : Nat) : Prop := ∀ i, tg B S n i = 1 → st S n i + 3 + tz B S n i ≤ B.length
/-- a MEANING: its tag, its bits, three texts -/
abbrev Mng : Type := Nat × Int64 × List Nat × List Nat × List Nat
def cmpM (x y : Mng) : Int32 :=
  if x.1 ≠ y.1 then c3 x.1 y.1
  else if c3L x.2.1 y.2.1 ≠ nI 0 then c3L x.2.1 y.2.1
  else if cmpL x.2.2.1 y.2.2.1 ≠ nI 0 then cmpL x.2.2.1 y.2.2.1
  else if cmpL x.2.2.2.1 y.2.2.2.1 ≠ nI 0 then cmpL x.2.2.2.1 y.2.2.2.1
  else cmpL x.2.2.2.2 y.2.2.2.2
/-- how many texts a tag has -/
def npt (t : Nat) : Nat := if t = 12 then 2 else if 9 ≤ t then 3 else 1
def mtx (B : List Nat) (S : Nat → Nat) (n i k : Nat) : List Nat := if (3 ≤ tg B S n i ∧ tg B S n i ≤ 6) ∨ npt (tg B S n i) ≤ k then [] else tx B S n (tof B S n i k)
def mng (B : List Nat) (S : Nat → Nat) (n i : Nat) : Mng := (tg B S n i, bts B S n i, mtx B S n i 0, mtx B S n i 1, mtx B S n i 2)
theorem cmpL_self (A : List Nat) : cmpL A A = nI 0 := by
  induction A with
  | nil => rfl
  | cons a A ih => simp [cmpL, ih]
theorem c3L_self (a : Int64) : c3L a a = nI 0 := by simp [c3L, Int64.lt_irrefl]
/-- the texts one behind the other -/
def cmpT (F G : Nat → List Nat) : Nat → Nat → Int32
  | _, 0 => nI 0
  | k, d + 1 => if cmpL (F k) (G k) ≠ nI 0 then cmpL (F k) (G k) else cmpT F G (k + 1) d
theorem ne_nI0 {x : Int32} (h : ¬ x = nI 0) : ¬ x = 0 := h
theorem PL_order_loop {q n' i j : Nat} {B' : List Nat} {S' : Nat → Nat} (hP : PO h p B S n) (hQ : PO h q B' S' n') (hV : TV B S n) (hV' : TV B' S' n') (hi : i < 2 ^ 30) (hj : j < 2 ^ 30) {t m : Nat} (hm : m ≤ 3) : ∀ (d k : Nat) (x8 x9 : Option Value), k + d = m → Ex (prog nb sa) k_PL_order 77 [some (.ref p), some (.int (nI i)), some (.ref q), some (.int (nI j)), some (.int (nI t)), some (.int (nI 0)), some (.int (nI m)), some (.int (nI k)), x8, x9] [] h (fun v h' => v = some (.int (cmpT (fun k => tx B S n (tof B S n i k)) (fun k => tx B' S' n' (tof B' S' n' j k)) k d)) ∧ h' = h)
  | 0, k, x8, x9, hd => by
    refine Ex_mv rfl rfl ?_; refine Ex_mv rfl rfl ?_; refine Ex_mv rfl rfl ?_; refine Ex_ift (nI_le (by omega) (by omega)) ?_; refine Ex_mv rfl rfl ?_
    exact Ex_rt rfl rfl ⟨rfl, rfl⟩
  | d + 1, k, x8, x9, hd => by
    obtain ⟨hp, hR, ⟨g, hg, hgS⟩, hn, hS⟩ := id hP
    obtain ⟨hq, hR', ⟨g', hg', hgS'⟩, hn', hS'⟩ := id hQ
    obtain ⟨f, hr, ha, hB⟩ := id hR
    obtain ⟨f', hr', ha', hB'⟩ := id hR'
    have t1 := tof_lt (S := S) (n := n) hR.lt hi k
    have t2 := tof_lt (S := S') (n := n') hR'.lt hj k
    have s1 := st_le (n := n) hS (tof B S n i k)
    have s2 := st_le (n := n') hS' (tof B' S' n' j k)
    have v1 : tz B S n (tof B S n i k) = 0 ∨ st S n (tof B S n i k) + 3 + tz B S n (tof B S n i k) ≤ B.length := by
      by_cases e : tg B S n (tof B S n i k) = 1
      · exact Or.inr (hV _ e)
      · exact Or.inl (by rw [tz, if_neg e])
    have v2 : tz B' S' n' (tof B' S' n' j k) = 0 ∨ st S' n' (tof B' S' n' j k) + 3 + tz B' S' n' (tof B' S' n' j k) ≤ B'.length := by
      by_cases e : tg B' S' n' (tof B' S' n' j k) = 1
      · exact Or.inr (hV' _ e)
      · exact Or.inl (by rw [tz, if_neg e])
    rw [cmpT]
    by_cases e : cmpL (tx B S n (tof B S n i k)) (tx B' S' n' (tof B' S' n' j k)) = nI 0
    · rw [if_neg (by simpa using e)]
      refine Ex_mv rfl rfl ?_; refine Ex_mv rfl rfl ?_; refine Ex_mv rfl rfl ?_; refine Ex_iff (nI_ge (by omega) (by omega)) ?_; refine Ex_mv rfl rfl ?_; refine Ex_mv rfl rfl ?_; refine Ex_iff (by decide) ?_; refine Ex_mv rfl rfl ?_; refine Ex_mv rfl rfl ?_; refine Ex_mv rfl rfl ?_; refine Ex_invV rfl (by rfl) (by rfl) (by assumption) (by rfl) (c_PL_textOf hP (by omega) (by omega)) ?_; refine Ex_mv rfl rfl ?_; refine Ex_mv rfl rfl ?_; refine Ex_mv rfl rfl ?_; refine Ex_mv rfl rfl ?_; refine Ex_invV rfl (by rfl) (by rfl) (by assumption) (by rfl) (c_PL_textOf hQ (by omega) (by omega)) ?_; refine Ex_mv rfl rfl ?_; refine Ex_mv rfl rfl ?_; refine Ex_getf rfl (by assumption) rfl ?_; refine Ex_mv rfl rfl ?_; refine Ex_mv rfl rfl ?_; refine Ex_invV rfl (by rfl) (by rfl) (by assumption) (by rfl) (c_PL_textAt hP (by omega)) ?_; refine Ex_mv rfl rfl ?_; refine Ex_mv rfl rfl ?_; refine Ex_invV rfl (by rfl) (by rfl) (by assumption) (by rfl) (c_PL_textSize hP (by omega)) ?_; refine Ex_mv rfl rfl ?_; refine Ex_getf rfl (by assumption) rfl ?_; refine Ex_mv rfl rfl ?_; refine Ex_mv rfl rfl ?_; refine Ex_invV rfl (by rfl) (by rfl) (by assumption) (by rfl) (c_PL_textAt hQ (by omega)) ?_; refine Ex_mv rfl rfl ?_; refine Ex_mv rfl rfl ?_; refine Ex_invV rfl (by rfl) (by rfl) (by assumption) (by rfl) (c_PL_textSize hQ (by omega)) ?_; refine Ex_invV rfl (by rfl) (by rfl) (by assumption) (by rfl) (c_RW_order hR hR' v1 v2 (by omega) (by omega)) ?_
      rw [show cmpL (sl B (st S n (tof B S n i k) + 3) (tz B S n (tof B S n i k))) (sl B' (st S' n' (tof B' S' n' j k) + 3) (tz B' S' n' (tof B' S' n' j k))) = nI 0 from e]
      refine Ex_mv rfl rfl ?_; (first | refine Ex_incN rfl rfl ?_ | refine Ex_mv rfl rfl ?_); refine Ex_mv rfl rfl ?_
      exact PL_order_loop hP hQ hV hV' hi hj hm d (k + 1) _ _ (by omega)
    · rw [if_pos e]
      refine Ex_mono (R := fun v h' => v = some (.int (cmpL (tx B S n (tof B S n i k)) (tx B' S' n' (tof B' S' n' j k)))) ∧ h' = h) ?_ (fun v h' q => q)
      refine Ex_mv rfl rfl ?_; refine Ex_mv rfl rfl ?_; refine Ex_mv rfl rfl ?_; refine Ex_iff (nI_ge (by omega) (by omega)) ?_; refine Ex_mv rfl rfl ?_; refine Ex_mv rfl rfl ?_; refine Ex_iff (by decide) ?_; refine Ex_mv rfl rfl ?_; refine Ex_mv rfl rfl ?_; refine Ex_mv rfl rfl ?_; refine Ex_invV rfl (by rfl) (by rfl) (by assumption) (by rfl) (c_PL_textOf hP (by omega) (by omega)) ?_; refine Ex_mv rfl rfl ?_; refine Ex_mv rfl rfl ?_; refine Ex_mv rfl rfl ?_; refine Ex_mv rfl rfl ?_; refine Ex_invV rfl (by rfl) (by rfl) (by assumption) (by rfl) (c_PL_textOf hQ (by omega) (by omega)) ?_; refine Ex_mv rfl rfl ?_; refine Ex_mv rfl rfl ?_; refine Ex_getf rfl (by assumption) rfl ?_; refine Ex_mv rfl rfl ?_; refine Ex_mv rfl rfl ?_; refine Ex_invV rfl (by rfl) (by rfl) (by assumption) (by rfl) (c_PL_textAt hP (by omega)) ?_; refine Ex_mv rfl rfl ?_; refine Ex_mv rfl rfl ?_; refine Ex_invV rfl (by rfl) (by rfl) (by assumption) (by rfl) (c_PL_textSize hP (by omega)) ?_; refine Ex_mv rfl rfl ?_; refine Ex_getf rfl (by assumption) rfl ?_; refine Ex_mv rfl rfl ?_; refine Ex_mv rfl rfl ?_; refine Ex_invV rfl (by rfl) (by rfl) (by assumption) (by rfl) (c_PL_textAt hQ (by omega)) ?_; refine Ex_mv rfl rfl ?_; refine Ex_mv rfl rfl ?_; refine Ex_invV rfl (by rfl) (by rfl) (by assumption) (by rfl) (c_PL_textSize hQ (by omega)) ?_; refine Ex_invV rfl (by rfl) (by rfl) (by assumption) (by rfl) (c_RW_order hR hR' v1 v2 (by omega) (by omega)) ?_; refine Ex_mv rfl rfl ?_; (first | refine Ex_incN rfl rfl ?_ | refine Ex_mv rfl rfl ?_); refine Ex_mv rfl rfl ?_
      generalize hk1 : k + 1 = k1
      by_cases hz : k1 < m
      · have b : ¬ nI m ≤ nI k1 := nI_ge hz (by omega)
        refine Ex_mv rfl rfl ?_; refine Ex_mv rfl rfl ?_; refine Ex_mv rfl rfl ?_; refine Ex_iff b ?_; refine Ex_mv rfl rfl ?_; refine Ex_mv rfl rfl ?_; refine Ex_ift (ne_nI0 e) ?_; refine Ex_mv rfl rfl ?_
        exact Ex_rt rfl rfl ⟨rfl, rfl⟩
      · have b : nI m ≤ nI k1 := nI_le (by omega) (by omega)
        refine Ex_mv rfl rfl ?_; refine Ex_mv rfl rfl ?_; refine Ex_mv rfl rfl ?_; refine Ex_ift b ?_; refine Ex_mv rfl rfl ?_
        exact Ex_rt rfl rfl ⟨rfl, rfl⟩
theorem mtx_of {i k : Nat} (h1 : ¬ (3 ≤ tg B S n i ∧ tg B S n i ≤ 6)) (h2 : k < npt (tg B S n i)) : mtx B S n i k = tx B S n (tof B S n i k) := by rw [mtx, if_neg (by omega)]
theorem mtx_no {i k : Nat} (h2 : npt (tg B S n i) ≤ k) : mtx B S n i k = [] := by rw [mtx, if_pos (Or.inr h2)]
theorem mtx_num {i k : Nat} (h2 : 3 ≤ tg B S n i ∧ tg B S n i ≤ 6) : mtx B S n i k = [] := by rw [mtx, if_pos (Or.inl h2)]
theorem c_PL_order {q n' i j : Nat} {B' : List Nat} {S' : Nat → Nat} (hP : PO h p B S n) (hQ : PO h q B' S' n') (hV : TV B S n) (hV' : TV B' S' n') (hi : i < 2 ^ 30) (hj : j < 2 ^ 30) : Ev (prog nb sa) m_PL_order [.ref p, .int (nI i), .ref q, .int (nI j)] h (some (.int (cmpM (mng B S n i) (mng B' S' n' j)))) h := by
  obtain ⟨hp, hR, ⟨g, hg, hgS⟩, hn, hS⟩ := id hP
  obtain ⟨hq, hR', ⟨g', hg', hgS'⟩, hn', hS'⟩ := id hQ
  have ht := tg_lt (S := S) (n := n) hR.lt i
  have ht' := tg_lt (S := S') (n := n') hR'.lt j
  refine Ev_ofL k_PL_order 10 [some (.ref p), some (.int (nI i)), some (.ref q), some (.int (nI j)), none, none, none, none, none, none] rfl (Nat.le_of_ble_eq_true rfl) rfl ?_
  by_cases e : tg B S n i = tg B' S' n' j
  · have nn : ∀ x : Int32, (¬ x ≠ nI 0) → x = nI 0 := fun x hx => Decidable.not_not.mp hx
    by_cases h1 : 3 ≤ tg B S n i ∧ tg B S n i ≤ 6
    · have em : cmpM (mng B S n i) (mng B' S' n' j) = c3L (bts B S n i) (bts B' S' n' j) := by
        simp only [cmpM, mng, e, ne_eq, not_true_eq_false, if_false, mtx_num h1, mtx_num (e ▸ h1)]
        by_cases hz : c3L (bts B S n i) (bts B' S' n' j) = nI 0
        · simp [hz, cmpL]
        · simp [hz]
      rw [em]
      refine Ex_mv rfl rfl ?_; refine Ex_mv rfl rfl ?_; refine Ex_invV rfl (by rfl) (by rfl) (by assumption) (by rfl) (c_PL_tag hP (by omega)) ?_; refine Ex_mv rfl rfl ?_; refine Ex_mv rfl rfl ?_; refine Ex_mv rfl rfl ?_; refine Ex_mv rfl rfl ?_; refine Ex_invV rfl (by rfl) (by rfl) (by assumption) (by rfl) (c_PL_tag hQ (by omega)) ?_; refine Ex_inv rfl (by rfl) (by rfl) (by rfl) (c_JI_compare (by omega) (by omega)) ?_
      rw [← e, c3_self]
      refine Ex_mv rfl rfl ?_; refine Ex_mv rfl rfl ?_; refine Ex_mv rfl rfl ?_; refine Ex_ift rfl ?_; refine Ex_mv rfl rfl ?_; refine Ex_inv rfl (by rfl) (by rfl) (by rfl) (c_CP_isNumber (by omega)) ?_
      rw [if_pos h1]
      refine Ex_mv rfl rfl ?_; refine Ex_iff (by decide) ?_; refine Ex_mv rfl rfl ?_; refine Ex_mv rfl rfl ?_; refine Ex_invV rfl (by rfl) (by rfl) (by assumption) (by rfl) (c_PL_bits hP (by omega)) ?_; refine Ex_mv rfl rfl ?_; refine Ex_mv rfl rfl ?_; refine Ex_invV rfl (by rfl) (by rfl) (by assumption) (by rfl) (c_PL_bits hQ (by omega)) ?_; refine Ex_inv rfl (by rfl) (by rfl) (by rfl) (c_JL_compare) ?_
      exact Ex_rt rfl rfl ⟨rfl, rfl⟩
    · have eb : bts B S n i = 0 := by rw [bts, if_neg h1]
      have eb' : bts B' S' n' j = 0 := by rw [bts, if_neg (e ▸ h1)]
      have em : cmpM (mng B S n i) (mng B' S' n' j) = cmpT (fun k => tx B S n (tof B S n i k)) (fun k => tx B' S' n' (tof B' S' n' j k)) 0 (npt (tg B S n i)) := by
        have h1' : ¬ (3 ≤ tg B' S' n' j ∧ tg B' S' n' j ≤ 6) := e ▸ h1
        have hnp : npt (tg B S n i) = 1 ∨ npt (tg B S n i) = 2 ∨ npt (tg B S n i) = 3 := by
          unfold npt
          split
          · omega
          · split <;> omega
        have hnp' : npt (tg B' S' n' j) = npt (tg B S n i) := by rw [e]
        simp only [cmpM, mng, e, ne_eq, not_true_eq_false, if_false, eb, eb', c3L_self]
        rcases hnp with q | q | q
        · rw [mtx_of h1 (by omega), mtx_of h1' (by omega), mtx_no (k := 1) (by omega), mtx_no (k := 2) (by omega), mtx_no (B := B') (k := 1) (by omega), mtx_no (B := B') (k := 2) (by omega)]
          rw [e] at q
          rw [q]
          simp only [cmpT, cmpL]
          simp
        · rw [mtx_of h1 (by omega), mtx_of h1' (by omega), mtx_of (k := 1) h1 (by omega), mtx_of (k := 1) h1' (by omega), mtx_no (k := 2) (by omega), mtx_no (B := B') (k := 2) (by omega)]
          rw [e] at q
          rw [q]
          simp only [cmpT, cmpL]
        · rw [mtx_of h1 (by omega), mtx_of h1' (by omega), mtx_of (k := 1) h1 (by omega), mtx_of (k := 1) h1' (by omega), mtx_of (k := 2) h1 (by omega), mtx_of (k := 2) h1' (by omega)]
          rw [e] at q
          rw [q]
          simp only [cmpT, cmpL]
          simp only [ne_eq, ite_not]
          split
          · split
            · split
              · assumption
              · rfl
            · rfl
          · rfl
      rw [em]
      refine Ex_mv rfl rfl ?_; refine Ex_mv rfl rfl ?_; refine Ex_invV rfl (by rfl) (by rfl) (by assumption) (by rfl) (c_PL_tag hP (by omega)) ?_; refine Ex_mv rfl rfl ?_; refine Ex_mv rfl rfl ?_; refine Ex_mv rfl rfl ?_; refine Ex_mv rfl rfl ?_; refine Ex_invV rfl (by rfl) (by rfl) (by assumption) (by rfl) (c_PL_tag hQ (by omega)) ?_; refine Ex_inv rfl (by rfl) (by rfl) (by rfl) (c_JI_compare (by omega) (by omega)) ?_
      rw [← e, c3_self]
      refine Ex_mv rfl rfl ?_; refine Ex_mv rfl rfl ?_; refine Ex_mv rfl rfl ?_; refine Ex_ift rfl ?_; refine Ex_mv rfl rfl ?_; refine Ex_inv rfl (by rfl) (by rfl) (by rfl) (c_CP_isNumber (by omega)) ?_
      rw [if_neg h1]
      refine Ex_mv rfl rfl ?_; refine Ex_ift (by decide) ?_; refine Ex_mv rfl rfl ?_; refine Ex_mv rfl rfl ?_; refine Ex_mv rfl rfl ?_; (first | refine Ex_neN (by omega) (by omega) (fun b53 => ?_) (fun b53 => ?_) | refine Ex_if (fun b53 => ?_) (fun b53 => ?_))
      · refine Ex_mv rfl rfl ?_; refine Ex_mv rfl rfl ?_; refine Ex_mv rfl rfl ?_; (first | refine Ex_ltN (by omega) (by omega) (fun b64 => ?_) (fun b64 => ?_) | refine Ex_if (fun b64 => ?_) (fun b64 => ?_))
        · refine Ex_mv rfl rfl ?_; refine Ex_mv rfl rfl ?_; refine Ex_mv rfl rfl ?_; refine Ex_mv rfl rfl ?_
          rw [show npt (tg B S n i) = _ from (by unfold npt; first | (rw [if_pos (by omega)]; done) | (rw [if_neg (by omega), if_pos (by omega)]; done) | (rw [if_neg (by omega), if_neg (by omega)]; done))]
          exact PL_order_loop hP hQ hV hV' hi hj (by decide) _ 0 _ _ (by rfl)
        · refine Ex_mv rfl rfl ?_; refine Ex_mv rfl rfl ?_; refine Ex_mv rfl rfl ?_; refine Ex_mv rfl rfl ?_; refine Ex_mv rfl rfl ?_
          rw [show npt (tg B S n i) = _ from (by unfold npt; first | (rw [if_pos (by omega)]; done) | (rw [if_neg (by omega), if_pos (by omega)]; done) | (rw [if_neg (by omega), if_neg (by omega)]; done))]
          exact PL_order_loop hP hQ hV hV' hi hj (by decide) _ 0 _ _ (by rfl)
      · refine Ex_mv rfl rfl ?_; refine Ex_mv rfl rfl ?_; refine Ex_mv rfl rfl ?_; refine Ex_mv rfl rfl ?_; refine Ex_mv rfl rfl ?_
        rw [show npt (tg B S n i) = _ from (by unfold npt; first | (rw [if_pos (by omega)]; done) | (rw [if_neg (by omega), if_pos (by omega)]; done) | (rw [if_neg (by omega), if_neg (by omega)]; done))]
        exact PL_order_loop hP hQ hV hV' hi hj (by decide) _ 0 _ _ (by rfl)
  · have em : cmpM (mng B S n i) (mng B' S' n' j) = c3 (tg B S n i) (tg B' S' n' j) := by simp only [cmpM, mng, ne_eq, e, not_false_eq_true, if_true]
    rw [em]
    refine Ex_mv rfl rfl ?_; refine Ex_mv rfl rfl ?_; refine Ex_invV rfl (by rfl) (by rfl) (by assumption) (by rfl) (c_PL_tag hP (by omega)) ?_; refine Ex_mv rfl rfl ?_; refine Ex_mv rfl rfl ?_; refine Ex_mv rfl rfl ?_; refine Ex_mv rfl rfl ?_; refine Ex_invV rfl (by rfl) (by rfl) (by assumption) (by rfl) (c_PL_tag hQ (by omega)) ?_; refine Ex_inv rfl (by rfl) (by rfl) (by rfl) (c_JI_compare (by omega) (by omega)) ?_; refine Ex_mv rfl rfl ?_; refine Ex_mv rfl rfl ?_; refine Ex_mv rfl rfl ?_; refine Ex_iff (c3_ne0 e) ?_; refine Ex_mv rfl rfl ?_
    exact Ex_rt rfl rfl ⟨rfl, rfl⟩
end POOL
