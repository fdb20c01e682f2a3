/-! comparing -/
def c3 (a b : Nat) : Int32 := if a < b then -1 else if a = b then nI 0 else nI 1
def c3L (a b : Int64) : Int32 := if a < b then -1 else if a = b then nI 0 else nI 1
def cmpL : List Nat → List Nat → Int32
  | [], [] => nI 0
  | [], _ :: _ => -1
  | _ :: _, [] => nI 1
  | a :: x, b :: y => if a = b then cmpL x y else c3 a b
theorem c3_ne0 {a b : Nat} (h : a ≠ b) : ¬ c3 a b = 0 := by
  unfold c3
  rw [if_neg h]
  split <;> decide
theorem c3_self (a : Nat) : c3 a a = nI 0 := by simp [c3]
theorem cmpL_nil (n m : Nat) (A B : List Nat) (hA : A.length = n) (hB : B.length = m) (h : n = 0 ∨ m = 0) : cmpL A B = c3 n m := by
  match A, B with
  | [], [] => simp at hA hB; subst hA; subst hB; rfl
  | [], b :: B => simp at hA hB; subst hA; rw [← hB]; simp [cmpL, c3]
  | a :: A, [] => simp at hA hB; subst hB; rw [← hA]; simp [cmpL, c3]
  | a :: A, b :: B => simp at hA hB; omega
theorem c3_shift (n m k : Nat) : c3 (n + k) (m + k) = c3 n m := by
  unfold c3
  simp
theorem sl_cons {B : List Nat} {k n : Nat} (h : k + (n + 1) ≤ B.length) : sl B k (n + 1) = b1 B k :: sl B (k + 1) n := by
  unfold sl b1
  have hk : k < B.length := by omega
  rw [List.drop_eq_getElem_cons hk, List.take_succ_cons, List.getD_eq_getElem?_getD, List.getElem?_eq_getElem hk]
  rfl
theorem sl_nil {B : List Nat} {k : Nat} : sl B k 0 = [] := by simp [sl]
section ORD
variable {nb sa : Nat} {h : Hp}
theorem c_JI_compare {a b : Nat} (ha : a < 2 ^ 31) (hb : b < 2 ^ 31) : Ev (prog nb sa) m_JI_compare [.int (nI a), .int (nI b)] h (some (.int (c3 a b))) h := by
  refine Ev_ofL k_JI_compare 2 [some (.int (nI a)), some (.int (nI b))] rfl (Nat.le_of_ble_eq_true rfl) rfl ?_
  refine Ex_mv rfl rfl ?_; refine Ex_mv rfl rfl ?_; refine Ex_mv rfl rfl ?_; (first | refine Ex_leN (by omega) (by omega) (fun b2 => ?_) (fun b2 => ?_) | refine Ex_if (fun b2 => ?_) (fun b2 => ?_))
  · refine Ex_mv rfl rfl ?_; refine Ex_mv rfl rfl ?_; refine Ex_mv rfl rfl ?_; (first | refine Ex_neN (by omega) (by omega) (fun b11 => ?_) (fun b11 => ?_) | refine Ex_if (fun b11 => ?_) (fun b11 => ?_))
    · refine Ex_mv rfl rfl ?_
      refine Ex_rt rfl rfl ⟨?_, rfl⟩
      simp only [c3]
      first | (rw [if_pos (by omega)]; done) | (rw [if_neg (by omega), if_pos (by omega)]; done) | (rw [if_neg (by omega), if_neg (by omega)]; done)
    · refine Ex_mv rfl rfl ?_; refine Ex_mv rfl rfl ?_
      refine Ex_rt rfl rfl ⟨?_, rfl⟩
      simp only [c3]
      first | (rw [if_pos (by omega)]; done) | (rw [if_neg (by omega), if_pos (by omega)]; done) | (rw [if_neg (by omega), if_neg (by omega)]; done)
  · refine Ex_mv rfl rfl ?_; refine Ex_mv rfl rfl ?_
    refine Ex_rt rfl rfl ⟨?_, rfl⟩
    simp only [c3]
    first | (rw [if_pos (by omega)]; done) | (rw [if_neg (by omega), if_pos (by omega)]; done) | (rw [if_neg (by omega), if_neg (by omega)]; done)
theorem c_JL_compare {a b : Int64} : Ev (prog nb sa) m_JL_compare [.long a, .long b] h (some (.int (c3L a b))) h := by
  refine Ev_ofL k_JL_compare 4 [some (.long a), none, some (.long b), none] rfl (Nat.le_of_ble_eq_true rfl) rfl ?_
  by_cases h1 : a < b
  · have e : lg_cmp a b = -1 := by
      have h2 : ¬ b < a := fun q => Int64.lt_irrefl (Int64.lt_trans h1 q)
      have h3 : ¬ a = b := fun q => by subst q; exact Int64.lt_irrefl h1
      simp [lg_cmp, h2, h3]
    refine Ex_mv rfl rfl ?_; refine Ex_mv rfl rfl ?_; refine Ex_mv rfl rfl ?_
    rw [e]
    refine Ex_mv rfl rfl ?_; refine Ex_iff (by decide) ?_; refine Ex_mv rfl rfl ?_; refine Ex_mv rfl rfl ?_
    refine Ex_rt rfl rfl ⟨?_, rfl⟩
    rw [c3L, if_pos h1]
  · by_cases h2 : a = b
    · have e : lg_cmp a b = 0 := by subst h2; simp [lg_cmp, Int64.lt_irrefl]
      refine Ex_mv rfl rfl ?_; refine Ex_mv rfl rfl ?_; refine Ex_mv rfl rfl ?_
      rw [e]
      refine Ex_mv rfl rfl ?_; refine Ex_ift (by decide) ?_; refine Ex_mv rfl rfl ?_; refine Ex_mv rfl rfl ?_; refine Ex_mv rfl rfl ?_
      rw [e]
      refine Ex_mv rfl rfl ?_; refine Ex_iff (by decide) ?_; refine Ex_mv rfl rfl ?_; refine Ex_mv rfl rfl ?_
      refine Ex_rt rfl rfl ⟨?_, rfl⟩
      rw [c3L, if_neg h1, if_pos h2]
    · have h3 : b < a := by
        rcases Int64.le_total a b with q | q
        · exact absurd (Int64.lt_of_le_of_ne q h2) h1
        · exact Int64.lt_of_le_of_ne q (fun z => h2 z.symm)
      have e : lg_cmp a b = 1 := by simp [lg_cmp, h3]
      refine Ex_mv rfl rfl ?_; refine Ex_mv rfl rfl ?_; refine Ex_mv rfl rfl ?_
      rw [e]
      refine Ex_mv rfl rfl ?_; refine Ex_ift (by decide) ?_; refine Ex_mv rfl rfl ?_; refine Ex_mv rfl rfl ?_; refine Ex_mv rfl rfl ?_
      rw [e]
      refine Ex_mv rfl rfl ?_; refine Ex_ift (by decide) ?_; refine Ex_mv rfl rfl ?_
      refine Ex_rt rfl rfl ⟨?_, rfl⟩
      rw [c3L, if_neg h1, if_neg h2]
theorem c_JM_min {a b : Nat} (ha : a < 2 ^ 31) (hb : b < 2 ^ 31) : Ev (prog nb sa) m_JM_min [.int (nI a), .int (nI b)] h (some (.int (nI (min a b)))) h := by
  refine Ev_ofL k_JM_min 2 [some (.int (nI a)), some (.int (nI b))] rfl (Nat.le_of_ble_eq_true rfl) rfl ?_
  refine Ex_mv rfl rfl ?_; refine Ex_mv rfl rfl ?_; refine Ex_mv rfl rfl ?_; (first | refine Ex_ltN (by omega) (by omega) (fun b2 => ?_) (fun b2 => ?_) | refine Ex_if (fun b2 => ?_) (fun b2 => ?_))
  · refine Ex_mv rfl rfl ?_
    refine Ex_rt rfl rfl ⟨?_, rfl⟩
    first | (rw [Nat.min_eq_left (by omega)]; done) | (rw [Nat.min_eq_right (by omega)]; done)
  · refine Ex_mv rfl rfl ?_; refine Ex_mv rfl rfl ?_
    refine Ex_rt rfl rfl ⟨?_, rfl⟩
    first | (rw [Nat.min_eq_left (by omega)]; done) | (rw [Nat.min_eq_right (by omega)]; done)
theorem c_JM_max {a b : Nat} (ha : a < 2 ^ 31) (hb : b < 2 ^ 31) : Ev (prog nb sa) m_JM_max [.int (nI a), .int (nI b)] h (some (.int (nI (max a b)))) h := by
  refine Ev_ofL k_JM_max 2 [some (.int (nI a)), some (.int (nI b))] rfl (Nat.le_of_ble_eq_true rfl) rfl ?_
  refine Ex_mv rfl rfl ?_; refine Ex_mv rfl rfl ?_; refine Ex_mv rfl rfl ?_; (first | refine Ex_ltN (by omega) (by omega) (fun b2 => ?_) (fun b2 => ?_) | refine Ex_if (fun b2 => ?_) (fun b2 => ?_))
  · refine Ex_mv rfl rfl ?_
    refine Ex_rt rfl rfl ⟨?_, rfl⟩
    first | (rw [Nat.max_eq_left (by omega)]; done) | (rw [Nat.max_eq_right (by omega)]; done)
  · refine Ex_mv rfl rfl ?_; refine Ex_mv rfl rfl ?_
    refine Ex_rt rfl rfl ⟨?_, rfl⟩
    first | (rw [Nat.max_eq_left (by omega)]; done) | (rw [Nat.max_eq_right (by omega)]; done)
theorem sl_len₀ {B : List Nat} {k n : Nat} (h : n = 0 ∨ k + n ≤ B.length) : (sl B k n).length = n := by
  rcases h with rfl | h
  · simp [sl]
  · exact sl_len h
theorem RW_order_loop {r s a n b m : Nat} {A B : List Nat} (hR : RW h r A) (hS : RW h s B) (ha : n = 0 ∨ a + n ≤ A.length) (hb : m = 0 ∨ b + m ≤ B.length) (ha2 : a < 2 ^ 30) (hb2 : b < 2 ^ 30) : ∀ (d i : Nat) (x8 : Option Value), i + d = min n m → Ex (prog nb sa) k_RW_order 11 [some (.ref r), some (.int (nI a)), some (.int (nI n)), some (.ref s), some (.int (nI b)), some (.int (nI m)), some (.int (nI (min n m))), some (.int (nI i)), x8] [] h (fun v h' => v = some (.int (cmpL (sl A (a + i) (n - i)) (sl B (b + i) (m - i)))) ∧ h' = h)
  | 0, i, x8, hd => by
    have hl := hR.len
    have hl2 := hS.len
    have hm : min n m ≤ n ∧ min n m ≤ m := ⟨Nat.min_le_left _ _, Nat.min_le_right _ _⟩
    have hm2 : min n m = n ∨ min n m = m := by omega
    refine Ex_mv rfl rfl ?_; refine Ex_mv rfl rfl ?_; refine Ex_mv rfl rfl ?_; refine Ex_ift (nI_le (by omega) (by omega)) ?_; refine Ex_mv rfl rfl ?_; refine Ex_mv rfl rfl ?_; refine Ex_inv rfl (by rfl) (by rfl) (by rfl) (c_JI_compare (by omega) (by omega)) ?_
    refine Ex_rt rfl rfl ⟨?_, rfl⟩
    rw [cmpL_nil (n - i) (m - i) _ _ (sl_len₀ (by omega)) (sl_len₀ (by omega)) (by omega), ← c3_shift (n - i) (m - i) i, Nat.sub_add_cancel (by omega), Nat.sub_add_cancel (by omega)]
  | d + 1, i, x8, hd => by
    have hl := hR.len
    have hl2 := hS.len
    obtain ⟨f, hr, hra, hB⟩ := id hR
    obtain ⟨g, hs, hsa, hA⟩ := id hS
    have hm : min n m ≤ n ∧ min n m ≤ m := ⟨Nat.min_le_left _ _, Nat.min_le_right _ _⟩
    have hx1 := b1_lt hR.lt (a + i)
    have hx2 := b1_lt hS.lt (b + i)
    have e1 : sl A (a + i) (n - i) = b1 A (a + i) :: sl A (a + (i + 1)) (n - (i + 1)) := by
      rw [show n - i = (n - (i + 1)) + 1 by omega, sl_cons (by omega)]
      rfl
    have e2 : sl B (b + i) (m - i) = b1 B (b + i) :: sl B (b + (i + 1)) (m - (i + 1)) := by
      rw [show m - i = (m - (i + 1)) + 1 by omega, sl_cons (by omega)]
      rfl
    rw [e1, e2, cmpL]
    by_cases e : b1 A (a + i) = b1 B (b + i)
    · rw [if_pos e]
      refine Ex_mv rfl rfl ?_; refine Ex_mv rfl rfl ?_; refine Ex_mv rfl rfl ?_; refine Ex_iff (nI_ge (by omega) (by omega)) ?_; refine Ex_mv rfl rfl ?_; refine Ex_mv rfl rfl ?_; refine Ex_mv rfl rfl ?_; (first | refine Ex_addN rfl ?_ | refine Ex_mv rfl rfl ?_); refine Ex_invV rfl (by rfl) (by rfl) (by assumption) (by rfl) (c_RW_one hR (by omega)) ?_; refine Ex_mv rfl rfl ?_; refine Ex_mv rfl rfl ?_; refine Ex_mv rfl rfl ?_; (first | refine Ex_addN rfl ?_ | refine Ex_mv rfl rfl ?_); refine Ex_invV rfl (by rfl) (by rfl) (by assumption) (by rfl) (c_RW_one hS (by omega)) ?_; refine Ex_inv rfl (by rfl) (by rfl) (by rfl) (c_JI_compare (by omega) (by omega)) ?_; refine Ex_mv rfl rfl ?_
      rw [e, c3_self]
      refine Ex_mv rfl rfl ?_; refine Ex_mv rfl rfl ?_; refine Ex_ift rfl ?_; (first | refine Ex_incN rfl rfl ?_ | refine Ex_mv rfl rfl ?_); refine Ex_mv rfl rfl ?_
      exact RW_order_loop hR hS ha hb ha2 hb2 d (i + 1) _ (by omega)
    · rw [if_neg e]
      refine Ex_mv rfl rfl ?_; refine Ex_mv rfl rfl ?_; refine Ex_mv rfl rfl ?_; refine Ex_iff (nI_ge (by omega) (by omega)) ?_; refine Ex_mv rfl rfl ?_; refine Ex_mv rfl rfl ?_; refine Ex_mv rfl rfl ?_; (first | refine Ex_addN rfl ?_ | refine Ex_mv rfl rfl ?_); refine Ex_invV rfl (by rfl) (by rfl) (by assumption) (by rfl) (c_RW_one hR (by omega)) ?_; refine Ex_mv rfl rfl ?_; refine Ex_mv rfl rfl ?_; refine Ex_mv rfl rfl ?_; (first | refine Ex_addN rfl ?_ | refine Ex_mv rfl rfl ?_); refine Ex_invV rfl (by rfl) (by rfl) (by assumption) (by rfl) (c_RW_one hS (by omega)) ?_; refine Ex_inv rfl (by rfl) (by rfl) (by rfl) (c_JI_compare (by omega) (by omega)) ?_; refine Ex_mv rfl rfl ?_; refine Ex_mv rfl rfl ?_; refine Ex_mv rfl rfl ?_; refine Ex_iff (c3_ne0 e) ?_; refine Ex_mv rfl rfl ?_
      exact Ex_rt rfl rfl ⟨rfl, rfl⟩
theorem c_RW_order {r s a n b m : Nat} {A B : List Nat} (hR : RW h r A) (hS : RW h s B) (ha : n = 0 ∨ a + n ≤ A.length) (hb : m = 0 ∨ b + m ≤ B.length) (ha2 : a < 2 ^ 30) (hb2 : b < 2 ^ 30) : Ev (prog nb sa) m_RW_order [.ref r, .int (nI a), .int (nI n), .ref s, .int (nI b), .int (nI m)] h (some (.int (cmpL (sl A a n) (sl B b m)))) h := by
  have hl := hR.len
  have hl2 := hS.len
  refine Ev_ofL k_RW_order 9 [some (.ref r), some (.int (nI a)), some (.int (nI n)), some (.ref s), some (.int (nI b)), some (.int (nI m)), none, none, none] rfl (Nat.le_of_ble_eq_true rfl) rfl ?_
  refine Ex_mv rfl rfl ?_; refine Ex_mv rfl rfl ?_; refine Ex_inv rfl (by rfl) (by rfl) (by rfl) (c_JM_min (by omega) (by omega)) ?_; refine Ex_mv rfl rfl ?_; refine Ex_mv rfl rfl ?_; refine Ex_mv rfl rfl ?_
  exact RW_order_loop hR hS ha hb ha2 hb2 (min n m) 0 _ (by omega)
/-- Arrays.fill of ints -/
theorem JA_fill_loop {a n : Nat} {x : Int32} (hn : n < 2 ^ 31) : ∀ (d i : Nat) (f : Nat → Int32) (h : Hp), i + d = n → h.2.2 a = some (true, .inl (1, n, .inl f)) → Ex (prog nb sa) k_JA_fill 5 [some (.ref a), some (.int x), some (.int (nI i)), some (.int (nI n))] [] h (fun v h' => v = none ∧ (∃ g, h'.2.2 a = some (true, .inl (1, n, .inl g)) ∧ (∀ j, j < i → g j = f j) ∧ ∀ j, i ≤ j → j < n → g j = x) ∧ FrI a (a + 1) h h')
  | 0, i, f, h, hd, hM => by
    refine Ex_mv rfl rfl ?_; refine Ex_mv rfl rfl ?_; refine Ex_mv rfl rfl ?_; refine Ex_ift (nI_le (by omega) (by omega)) ?_
    refine Ex_rt rfl rfl ?_
    exact ⟨rfl, ⟨f, hM, fun _ _ => rfl, fun j h1 h2 => by omega⟩, FrI.rf⟩
  | d + 1, i, f, h, hd, hM => by
    have e : (nI i).toNatClampNeg = i := nI_clamp (by omega)
    refine Ex_mv rfl rfl ?_; refine Ex_mv rfl rfl ?_; refine Ex_mv rfl rfl ?_; refine Ex_iff (nI_ge (by omega) (by omega)) ?_; refine Ex_mv rfl rfl ?_; refine Ex_mv rfl rfl ?_; refine Ex_mv rfl rfl ?_; refine Ex_iast rfl (by assumption) (vp_in_nI (by omega) (by omega)) ?_; (first | refine Ex_incN rfl rfl ?_ | refine Ex_mv rfl rfl ?_); refine Ex_mv rfl rfl ?_
    refine Ex_mono (JA_fill_loop hn d (i + 1) _ _ (by omega) hs_at) ?_
    rintro v h' ⟨hv, ⟨g, g1, g2, g3⟩, F⟩
    refine ⟨hv, ⟨g, g1, fun j hj => ?_, fun j h1 h2 => ?_⟩, (FrI.rf.set (by omega) (by omega)).tr F⟩
    · rw [g2 j (by omega), e, pk_un (by omega)]
    · by_cases hj : j = i
      · rw [g2 j (by omega), e, hj, pk_us]
      · exact g3 j (by omega) h2
theorem c_JA_fill {a n : Nat} {f : Nat → Int32} {x : Int32} (hn : n < 2 ^ 31) (hM : h.2.2 a = some (true, .inl (1, n, .inl f))) : EvQ (prog nb sa) m_JA_fill [.ref a, .int x] h (fun v h' => v = none ∧ (∃ g, h'.2.2 a = some (true, .inl (1, n, .inl g)) ∧ ∀ j, j < n → g j = x) ∧ FrI a (a + 1) h h') := by
  refine EvQ_of k_JA_fill 4 [some (.ref a), some (.int x), none, none] rfl (Nat.le_of_ble_eq_true rfl) rfl ?_
  refine Ex_mv rfl rfl ?_; refine Ex_mv rfl rfl ?_; refine Ex_mv rfl rfl ?_; refine Ex_alen rfl (by assumption) rfl ?_; refine Ex_mv rfl rfl ?_
  refine Ex_mono (JA_fill_loop hn n 0 f h (by omega) hM) ?_
  rintro v h' ⟨hv, ⟨g, g1, g2, g3⟩, F⟩
  exact ⟨hv, ⟨g, g1, fun j hj => g3 j (by omega) hj⟩, F⟩
end ORD
