/-! Reader: what is told, sorts -/
def ckT (B : List Nat) (S : Nat → Nat) (n : Nat) : List (Nat × Nat) → Option (Nat × Nat)
  | [] => none
  | (p, w) :: T => if wrg B S n (b2 B p) w = 0 then ckT B S n T else some (wrg B S n (b2 B p) w, p)
def p_chk (B : List Nat) (s : Rt) : Rt := match s with
  | .inl e => .inl e
  | .inr (a, x) => match ckT B x.1 x.2.1 x.2.2.2.2.2.2 with
    | none => .inr (a, x)
    | some e => .inl e
/-- whether a text is a sort of a kind -/
def okS (k : Nat) (T : List Nat) : Bool := if k = 0 then decide (tyE T 0 = some T.length) else mthT T
def ckS (B : List Nat) (S : Nat → Nat) (n k : Nat) : List Nat → Option Nat
  | [] => none
  | m :: M => if okS k (tx B S n (b2 B (m + 4))) then ckS B S n k M else some (m + 4)
def p_srt (B : List Nat) (k : Nat) (s : Rt) : Rt := match s with
  | .inl e => .inl e
  | .inr (a, x) => match ckS B x.1 x.2.1 k (mK x.2.2.2.2.1 x.2.2.2.2.2.1 k) with
    | none => .inr (a, x)
    | some p => .inl (10, p)
section READER6
variable {nb sa : Nat} {c rd : Nat} {B : List Nat}
theorem wrg_le {S : Nat → Nat} {n i t : Nat} : wrg B S n i t ≤ 9 := by
  unfold wrg
  split
  · omega
  · split
    · omega
    · split <;> omega
theorem drop_pair {TL : List (Nat × Nat)} {t : Nat} (ht : t < TL.length) : TL.drop t = (tA TL t, tW TL t) :: TL.drop (t + 1) := by
  rw [List.drop_eq_getElem_cons ht]
  congr 1
  unfold tA tW
  simp [List.getD_eq_getElem?_getD, ht]
theorem RD_checkTells_stop {h : Hp} {e : Nat × Nat} (hs : RSt h c rd B (.inl e)) {t : Nat} (ht : t ≤ 200) {x2 x3 : Option Value} : Ex (prog nb sa) k_RD_checkTells 2 [some (.ref rd), some (.int (nI t)), x2, x3] [] h (fun v h' => v = none ∧ h' = h) := by
  obtain ⟨f, w, a, x, hR, hC, ha, hf, hm⟩ := id hs
  have hc := hC.1
  have hTl : x.2.2.2.2.2.2.length ≤ 200 := hC.2.2.2.2.2.2.2.2.2.2.1
  have hq : f ≠ 0 := by obtain ⟨q, -, q2⟩ := hm; omega
  by_cases hlt : t < x.2.2.2.2.2.2.length
  · refine Ex_mv rfl rfl ?_; refine Ex_mv rfl rfl ?_; refine Ex_getf rfl (by assumption) rfl ?_; refine Ex_invV rfl (by rfl) (by rfl) (by assumption) (by rfl) (c_CF_tellCount hC) ?_; refine Ex_mv rfl rfl ?_; refine Ex_iff (nI_ge (by omega) (by omega)) ?_; refine Ex_mv rfl rfl ?_; refine Ex_getf rfl (by assumption) rfl ?_; refine Ex_mv rfl rfl ?_; refine Ex_ift (nI_nz hq (by omega)) ?_
    exact Ex_rt rfl rfl ⟨rfl, rfl⟩
  · refine Ex_mv rfl rfl ?_; refine Ex_mv rfl rfl ?_; refine Ex_getf rfl (by assumption) rfl ?_; refine Ex_invV rfl (by rfl) (by rfl) (by assumption) (by rfl) (c_CF_tellCount hC) ?_; refine Ex_mv rfl rfl ?_; refine Ex_ift (nI_le (by omega) (by omega)) ?_
    exact Ex_rt rfl rfl ⟨rfl, rfl⟩
theorem RD_checkTells_loop (hd : rd < c ∨ c + 11 ≤ rd) {h : Hp} {a : Nat} {x : Fs} (hs : RSt h c rd B (.inr (a, x))) : ∀ (d t : Nat) (x2 x3 : Option Value), t + d = x.2.2.2.2.2.2.length → Ex (prog nb sa) k_RD_checkTells 2 [some (.ref rd), some (.int (nI t)), x2, x3] [] h (fun v h' => v = none ∧ RSt h' c rd B (match ckT B x.1 x.2.1 (x.2.2.2.2.2.2.drop t) with | none => .inr (a, x) | some e => .inl e) ∧ FR c rd h h')
  | 0, t, x2, x3, hd' => by
    obtain ⟨f, w, a', x', hR, hC, ha, hf, hm⟩ := id hs
    obtain ⟨rfl, rfl, rfl, rfl, hT⟩ := hm
    have hc := hC.1
    have hTl : x'.2.2.2.2.2.2.length ≤ 200 := hC.2.2.2.2.2.2.2.2.2.2.1
    rw [List.drop_eq_nil_of_le (by omega)]
    refine Ex_mv rfl rfl ?_; refine Ex_mv rfl rfl ?_; refine Ex_getf rfl (by assumption) rfl ?_; refine Ex_invV rfl (by rfl) (by rfl) (by assumption) (by rfl) (c_CF_tellCount hC) ?_; refine Ex_mv rfl rfl ?_; refine Ex_ift (nI_le (by omega) (by omega)) ?_
    refine Ex_rt rfl rfl ?_
    exact ⟨rfl, hs, FR.rf⟩
  | d + 1, t, x2, x3, hd' => by
    obtain ⟨f, w, a', x', hR, hC, ha, hf, hm⟩ := id hs
    obtain ⟨rfl, rfl, rfl, rfl, hT⟩ := hm
    have hc := hC.1
    have hp := (CF.po hC).1
    have hrow : RW h (c + 2) B := CF.row hC
    obtain ⟨fr, hr, hra, hB⟩ := id hrow
    have hTl : x'.2.2.2.2.2.2.length ≤ 200 := hC.2.2.2.2.2.2.2.2.2.2.1
    have g1 := tA_le hC t
    have g2 := tW_le hC t
    have g3 := b2_lt hrow.lt (tA x'.2.2.2.2.2.2 t)
    have g4 := wrg_le (B := B) (S := x'.1) (n := x'.2.1) (i := b2 B (tA x'.2.2.2.2.2.2 t)) (t := tW x'.2.2.2.2.2.2 t)
    rw [drop_pair (by omega), ckT]
    by_cases e : wrg B x'.1 x'.2.1 (b2 B (tA x'.2.2.2.2.2.2 t)) (tW x'.2.2.2.2.2.2 t) = 0
    · rw [if_pos e]
      refine Ex_mv rfl rfl ?_; refine Ex_mv rfl rfl ?_; refine Ex_getf rfl (by assumption) rfl ?_; refine Ex_invV rfl (by rfl) (by rfl) (by assumption) (by rfl) (c_CF_tellCount hC) ?_; refine Ex_mv rfl rfl ?_; refine Ex_iff (nI_ge (by omega) (by omega)) ?_; refine Ex_mv rfl rfl ?_; refine Ex_getf rfl (by assumption) rfl ?_; refine Ex_mv rfl rfl ?_; refine Ex_iff (by decide) ?_; refine Ex_mv rfl rfl ?_; refine Ex_getf rfl (by assumption) rfl ?_; refine Ex_mv rfl rfl ?_; refine Ex_invV rfl (by rfl) (by rfl) (by assumption) (by rfl) (c_CF_tellAt hC (by omega)) ?_; refine Ex_mv rfl rfl ?_; refine Ex_mv rfl rfl ?_; refine Ex_getf rfl (by assumption) rfl ?_; refine Ex_getf rfl (by assumption) rfl ?_; refine Ex_mv rfl rfl ?_; refine Ex_getf rfl (by assumption) rfl ?_; refine Ex_mv rfl rfl ?_; refine Ex_invV rfl (by rfl) (by rfl) (by assumption) (by rfl) (c_RW_two hrow (by omega)) ?_; refine Ex_mv rfl rfl ?_; refine Ex_getf rfl (by assumption) rfl ?_; refine Ex_mv rfl rfl ?_; refine Ex_invV rfl (by rfl) (by rfl) (by assumption) (by rfl) (c_CF_wanted hC (by omega)) ?_; refine Ex_invV rfl (by rfl) (by rfl) (by assumption) (by rfl) (c_PL_wrong (CF.po hC) (by omega) (by omega)) ?_; refine Ex_mv rfl rfl ?_; refine Ex_mv rfl rfl ?_; refine Ex_mv rfl rfl ?_; refine Ex_ift (by rw [e]; rfl) ?_; (first | refine Ex_incN rfl rfl ?_ | refine Ex_mv rfl rfl ?_); refine Ex_mv rfl rfl ?_
      exact RD_checkTells_loop hd hs d (t + 1) _ _ (by omega)
    · rw [if_neg e]
      obtain ⟨_, h1, e1, rfl, R1, F1⟩ := c_RD_fail (nb := nb) (sa := sa) hd hs (k := wrg B x'.1 x'.2.1 (b2 B (tA x'.2.2.2.2.2.2 t)) (tW x'.2.2.2.2.2.2 t)) (w := tA x'.2.2.2.2.2.2 t) e (by omega)
      refine Ex_mv rfl rfl ?_; refine Ex_mv rfl rfl ?_; refine Ex_getf rfl (by assumption) rfl ?_; refine Ex_invV rfl (by rfl) (by rfl) (by assumption) (by rfl) (c_CF_tellCount hC) ?_; refine Ex_mv rfl rfl ?_; refine Ex_iff (nI_ge (by omega) (by omega)) ?_; refine Ex_mv rfl rfl ?_; refine Ex_getf rfl (by assumption) rfl ?_; refine Ex_mv rfl rfl ?_; refine Ex_iff (by decide) ?_; refine Ex_mv rfl rfl ?_; refine Ex_getf rfl (by assumption) rfl ?_; refine Ex_mv rfl rfl ?_; refine Ex_invV rfl (by rfl) (by rfl) (by assumption) (by rfl) (c_CF_tellAt hC (by omega)) ?_; refine Ex_mv rfl rfl ?_; refine Ex_mv rfl rfl ?_; refine Ex_getf rfl (by assumption) rfl ?_; refine Ex_getf rfl (by assumption) rfl ?_; refine Ex_mv rfl rfl ?_; refine Ex_getf rfl (by assumption) rfl ?_; refine Ex_mv rfl rfl ?_; refine Ex_invV rfl (by rfl) (by rfl) (by assumption) (by rfl) (c_RW_two hrow (by omega)) ?_; refine Ex_mv rfl rfl ?_; refine Ex_getf rfl (by assumption) rfl ?_; refine Ex_mv rfl rfl ?_; refine Ex_invV rfl (by rfl) (by rfl) (by assumption) (by rfl) (c_CF_wanted hC (by omega)) ?_; refine Ex_invV rfl (by rfl) (by rfl) (by assumption) (by rfl) (c_PL_wrong (CF.po hC) (by omega) (by omega)) ?_; refine Ex_mv rfl rfl ?_; refine Ex_mv rfl rfl ?_; refine Ex_mv rfl rfl ?_; refine Ex_iff (nI_nz e (by omega)) ?_; refine Ex_mv rfl rfl ?_; refine Ex_mv rfl rfl ?_; refine Ex_mv rfl rfl ?_; refine Ex_invV rfl (by rfl) (by rfl) (by assumption) (by rfl) (e1) ?_; (first | refine Ex_incN rfl rfl ?_ | refine Ex_mv rfl rfl ?_); refine Ex_mv rfl rfl ?_
      refine Ex_mono (RD_checkTells_stop R1 (by omega)) ?_
      rintro v h' ⟨rfl, rfl⟩
      exact ⟨rfl, R1, F1⟩
theorem c_RD_checkTells {h : Hp} {s : Rt} (hd : rd < c ∨ c + 11 ≤ rd) (hs : RSt h c rd B s) : EvQ (prog nb sa) m_RD_checkTells [.ref rd] h (fun v h' => v = none ∧ RSt h' c rd B (p_chk B s) ∧ FR c rd h h') := by
  refine EvQ_of k_RD_checkTells 4 [some (.ref rd), none, none, none] rfl (Nat.le_of_ble_eq_true rfl) rfl ?_
  cases s with
  | inl e =>
    refine Ex_mv rfl rfl ?_; refine Ex_mv rfl rfl ?_
    refine Ex_mono (RD_checkTells_stop hs (by decide)) ?_
    rintro v h' ⟨rfl, rfl⟩
    exact ⟨rfl, hs, FR.rf⟩
  | inr e =>
    refine Ex_mv rfl rfl ?_; refine Ex_mv rfl rfl ?_
    exact RD_checkTells_loop hd hs e.2.2.2.2.2.2.2.length 0 _ _ (by omega)
theorem RD_checkSorts_stop {h : Hp} {e : Nat × Nat} (hs : RSt h c rd B (.inl e)) {k : Nat} (hk : k < 2) {t : Nat} (ht : t ≤ 200) {x3 x4 x5 x6 x7 : Option Value} : Ex (prog nb sa) k_RD_checkSorts 2 [some (.ref rd), some (.int (nI k)), some (.int (nI t)), x3, x4, x5, x6, x7] [] h (fun v h' => v = none ∧ h' = h) := by
  obtain ⟨f, w, a, x, hR, hC, ha, hf, hm⟩ := id hs
  have hc := hC.1
  have hTl := mK_len hC k
  have hq : f ≠ 0 := by obtain ⟨q, -, q2⟩ := hm; omega
  by_cases hlt : t < (mK x.2.2.2.2.1 x.2.2.2.2.2.1 k).length
  · refine Ex_mv rfl rfl ?_; refine Ex_mv rfl rfl ?_; refine Ex_getf rfl (by assumption) rfl ?_; refine Ex_mv rfl rfl ?_; refine Ex_invV rfl (by rfl) (by rfl) (by assumption) (by rfl) (c_CF_members hC hk) ?_; refine Ex_mv rfl rfl ?_; refine Ex_iff (nI_ge (by omega) (by omega)) ?_; refine Ex_mv rfl rfl ?_; refine Ex_getf rfl (by assumption) rfl ?_; refine Ex_mv rfl rfl ?_; refine Ex_ift (nI_nz hq (by omega)) ?_
    exact Ex_rt rfl rfl ⟨rfl, rfl⟩
  · refine Ex_mv rfl rfl ?_; refine Ex_mv rfl rfl ?_; refine Ex_getf rfl (by assumption) rfl ?_; refine Ex_mv rfl rfl ?_; refine Ex_invV rfl (by rfl) (by rfl) (by assumption) (by rfl) (c_CF_members hC hk) ?_; refine Ex_mv rfl rfl ?_; refine Ex_ift (nI_le (by omega) (by omega)) ?_
    exact Ex_rt rfl rfl ⟨rfl, rfl⟩
theorem drop_mem {M : List Nat} {t : Nat} (ht : t < M.length) : M.drop t = M.getD t 0 :: M.drop (t + 1) := by
  rw [List.drop_eq_getElem_cons ht]
  congr 1
  simp [List.getD_eq_getElem?_getD, ht]
theorem TI.of {h : Hp} {r : Nat} {S : Nat → Nat} {n i : Nat} (hR : RW h r B) (hV : TV B S n) (h1 : tg B S n i = 1) : TI h r B (tx B S n i) (st S n i + 3) ∧ (tx B S n i).length = tz B S n i := by
  have hb := hV i h1
  have hl : (tx B S n i).length = tz B S n i := sl_len hb
  exact ⟨⟨hR, by rw [hl]; rfl, by rw [hl]; exact hb⟩, hl⟩
theorem RD_checkSorts_loop (hd : rd < c ∨ c + 11 ≤ rd) {h : Hp} {a k : Nat} {x : Fs} (hk : k < 2) (hs : RSt h c rd B (.inr (a, x))) (hV : TV B x.1 x.2.1) (hM : ∀ m ∈ mK x.2.2.2.2.1 x.2.2.2.2.2.1 k, tg B x.1 x.2.1 (b2 B (m + 4)) = 1) : ∀ (d t : Nat) (x3 x4 x5 x6 x7 : Option Value), t + d = (mK x.2.2.2.2.1 x.2.2.2.2.2.1 k).length → Ex (prog nb sa) k_RD_checkSorts 2 [some (.ref rd), some (.int (nI k)), some (.int (nI t)), x3, x4, x5, x6, x7] [] h (fun v h' => v = none ∧ RSt h' c rd B (match ckS B x.1 x.2.1 k ((mK x.2.2.2.2.1 x.2.2.2.2.2.1 k).drop t) with | none => .inr (a, x) | some p => .inl (10, p)) ∧ FR c rd h h')
  | 0, t, x3, x4, x5, x6, x7, hd' => by
    obtain ⟨f, w, a', x', hR, hC, ha, hf, hm⟩ := id hs
    obtain ⟨rfl, rfl, rfl, rfl, hT⟩ := hm
    have hc := hC.1
    have hTl := mK_len hC k
    rw [List.drop_eq_nil_of_le (by omega)]
    refine Ex_mv rfl rfl ?_; refine Ex_mv rfl rfl ?_; refine Ex_getf rfl (by assumption) rfl ?_; refine Ex_mv rfl rfl ?_; refine Ex_invV rfl (by rfl) (by rfl) (by assumption) (by rfl) (c_CF_members hC hk) ?_; refine Ex_mv rfl rfl ?_; refine Ex_ift (nI_le (by omega) (by omega)) ?_
    refine Ex_rt rfl rfl ?_
    exact ⟨rfl, hs, FR.rf⟩
  | d + 1, t, x3, x4, x5, x6, x7, hd' => by
    obtain ⟨f, w, a', x', hR, hC, ha, hf, hm⟩ := id hs
    obtain ⟨rfl, rfl, rfl, rfl, hT⟩ := hm
    have hc := hC.1
    have hp := (CF.po hC).1
    have hrow : RW h (c + 2) B := CF.row hC
    obtain ⟨fr, hr, hra, hB⟩ := id hrow
    have hTl := mK_len hC k
    have g1 := mK_le hC k t
    have hmm := hM ((mK x'.2.2.2.2.1 x'.2.2.2.2.2.1 k).getD t 0) (by rw [List.getD_eq_getElem?_getD, List.getElem?_eq_getElem (by omega)]; exact List.getElem_mem (by omega))
    have hmO : mO (mK x'.2.2.2.2.1 x'.2.2.2.2.2.1 k) t = some ((mK x'.2.2.2.2.1 x'.2.2.2.2.2.1 k).getD t 0) := if_pos (by omega)
    rw [drop_mem (by omega), ckS]
    generalize (mK x'.2.2.2.2.1 x'.2.2.2.2.2.1 k).getD t 0 = m at *
    have g3 := b2_lt hrow.lt (m + 4)
    obtain ⟨tI, tl⟩ := TI.of hrow hV hmm
    have hend : st x'.1 x'.2.1 (b2 B (m + 4)) + 3 + tz B x'.1 x'.2.1 (b2 B (m + 4)) = st x'.1 x'.2.1 (b2 B (m + 4)) + 3 + (tx B x'.1 x'.2.1 (b2 B (m + 4))).length := by rw [tl]
    have e0 : Ev (prog nb sa) m_SO_isType [.ref (c + 2), .int (nI (st x'.1 x'.2.1 (b2 B (m + 4)) + 3)), .int (nI (st x'.1 x'.2.1 (b2 B (m + 4)) + 3 + tz B x'.1 x'.2.1 (b2 B (m + 4))))] h (some (.int (nI (if tyE (tx B x'.1 x'.2.1 (b2 B (m + 4))) 0 = some (tx B x'.1 x'.2.1 (b2 B (m + 4))).length then 1 else 0)))) h := by
      rw [hend]; exact c_SO_isType (nb := nb) (sa := sa) tI (p := 0) (Nat.zero_le _)
    have e1 : Ev (prog nb sa) m_SO_isMethod [.ref (c + 2), .int (nI (st x'.1 x'.2.1 (b2 B (m + 4)) + 3)), .int (nI (st x'.1 x'.2.1 (b2 B (m + 4)) + 3 + tz B x'.1 x'.2.1 (b2 B (m + 4))))] h (some (.int (nI (if mthT (tx B x'.1 x'.2.1 (b2 B (m + 4))) then 1 else 0)))) h := by
      rw [hend]; exact c_SO_isMethod (nb := nb) (sa := sa) tI
    have tail : ∀ (x4 x5 x6 : Option Value) (q : Bool), q = okS k (tx B x'.1 x'.2.1 (b2 B (m + 4))) → Ex (prog nb sa) k_RD_checkSorts 103 [some (.ref rd), some (.int (nI k)), some (.int (nI t)), some (.int (nI (m + 4))), x4, x5, x6, x7] [.int (nI (if q then 1 else 0))] h (fun v h' => v = none ∧ RSt h' c rd B (match (if okS k (tx B x'.1 x'.2.1 (b2 B (m + 4))) then ckS B x'.1 x'.2.1 k ((mK x'.2.2.2.2.1 x'.2.2.2.2.2.1 k).drop (t + 1)) else some (m + 4)) with | none => .inr (a', x') | some p => .inl (10, p)) ∧ FR c rd h h') := by
      intro x4 x5 x6 q hq
      cases q with
      | true =>
        rw [← hq]
        rw [if_pos rfl]
        refine Ex_mv rfl rfl ?_; refine Ex_mv rfl rfl ?_; refine Ex_mv rfl rfl ?_; refine Ex_ift (by decide) ?_; (first | refine Ex_incN rfl rfl ?_ | refine Ex_mv rfl rfl ?_); refine Ex_mv rfl rfl ?_
        rw [if_pos rfl]
        exact RD_checkSorts_loop hd hk hs hV hM d (t + 1) _ _ _ _ _ (by omega)
      | false =>
        rw [← hq]
        obtain ⟨_, h1, e1, rfl, R1, F1⟩ := c_RD_fail (nb := nb) (sa := sa) hd hs (k := 10) (w := m + 4) (by decide) (by decide)
        rw [if_neg Bool.false_ne_true]
        refine Ex_mv rfl rfl ?_; refine Ex_mv rfl rfl ?_; refine Ex_mv rfl rfl ?_; refine Ex_iff (by decide) ?_; refine Ex_mv rfl rfl ?_; refine Ex_mv rfl rfl ?_; refine Ex_mv rfl rfl ?_; refine Ex_invV rfl (by rfl) (by rfl) (by assumption) (by rfl) (e1) ?_; (first | refine Ex_incN rfl rfl ?_ | refine Ex_mv rfl rfl ?_); refine Ex_mv rfl rfl ?_
        rw [if_neg Bool.false_ne_true]
        refine Ex_mono (RD_checkSorts_stop R1 hk (by omega)) ?_
        rintro v h' ⟨rfl, rfl⟩
        exact ⟨rfl, R1, F1⟩
    have hk01 : k = 0 ∨ k = 1 := by omega
    rcases hk01 with rfl | rfl
    · refine Ex_mv rfl rfl ?_; refine Ex_mv rfl rfl ?_; refine Ex_getf rfl (by assumption) rfl ?_; refine Ex_mv rfl rfl ?_; refine Ex_invV rfl (by rfl) (by rfl) (by assumption) (by rfl) (c_CF_members hC hk) ?_; refine Ex_mv rfl rfl ?_; refine Ex_iff (nI_ge (by omega) (by omega)) ?_; refine Ex_mv rfl rfl ?_; refine Ex_getf rfl (by assumption) rfl ?_; refine Ex_mv rfl rfl ?_; refine Ex_iff (by decide) ?_; refine Ex_mv rfl rfl ?_; refine Ex_getf rfl (by assumption) rfl ?_; refine Ex_mv rfl rfl ?_; refine Ex_mv rfl rfl ?_; refine Ex_invV rfl (by rfl) (by rfl) (by assumption) (by rfl) (c_CF_memberAt hC hk (by omega)) ?_
      rw [hmO]
      simp only [oI, Nat.zero_add]
      refine Ex_mv rfl rfl ?_; (first | refine Ex_addN rfl ?_ | refine Ex_mv rfl rfl ?_); refine Ex_mv rfl rfl ?_; refine Ex_mv rfl rfl ?_; refine Ex_getf rfl (by assumption) rfl ?_; refine Ex_mv rfl rfl ?_; refine Ex_invV rfl (by rfl) (by rfl) (by assumption) (by rfl) (c_RW_two hrow (by omega)) ?_; refine Ex_mv rfl rfl ?_; refine Ex_mv rfl rfl ?_; refine Ex_getf rfl (by assumption) rfl ?_; refine Ex_getf rfl (by assumption) rfl ?_; refine Ex_mv rfl rfl ?_; refine Ex_invV rfl (by rfl) (by rfl) (by assumption) (by rfl) (c_PL_textAt (CF.po hC) (by omega)) ?_; refine Ex_mv rfl rfl ?_; refine Ex_mv rfl rfl ?_; refine Ex_mv rfl rfl ?_; refine Ex_getf rfl (by assumption) rfl ?_; refine Ex_getf rfl (by assumption) rfl ?_; refine Ex_mv rfl rfl ?_; refine Ex_invV rfl (by rfl) (by rfl) (by assumption) (by rfl) (c_PL_textSize (CF.po hC) (by omega)) ?_; (first | refine Ex_addN rfl ?_ | refine Ex_mv rfl rfl ?_); refine Ex_mv rfl rfl ?_; refine Ex_mv rfl rfl ?_; refine Ex_mv rfl rfl ?_; refine Ex_iff (by decide) ?_; refine Ex_mv rfl rfl ?_; refine Ex_getf rfl (by assumption) rfl ?_; refine Ex_mv rfl rfl ?_; refine Ex_mv rfl rfl ?_; refine Ex_inv rfl (by rfl) (by rfl) (by rfl) (e0) ?_; refine Ex_mv rfl rfl ?_
      have := tail (some (.int (nI (b2 B (m + 4))))) (some (.int (nI (st x'.1 x'.2.1 (b2 B (m + 4)) + 3)))) (some (.int (nI (st x'.1 x'.2.1 (b2 B (m + 4)) + 3 + tz B x'.1 x'.2.1 (b2 B (m + 4)))))) (decide (tyE (tx B x'.1 x'.2.1 (b2 B (m + 4))) 0 = some (tx B x'.1 x'.2.1 (b2 B (m + 4))).length)) rfl
      simp only [decide_eq_true_eq] at this
      exact this
    · refine Ex_mv rfl rfl ?_; refine Ex_mv rfl rfl ?_; refine Ex_getf rfl (by assumption) rfl ?_; refine Ex_mv rfl rfl ?_; refine Ex_invV rfl (by rfl) (by rfl) (by assumption) (by rfl) (c_CF_members hC hk) ?_; refine Ex_mv rfl rfl ?_; refine Ex_iff (nI_ge (by omega) (by omega)) ?_; refine Ex_mv rfl rfl ?_; refine Ex_getf rfl (by assumption) rfl ?_; refine Ex_mv rfl rfl ?_; refine Ex_iff (by decide) ?_; refine Ex_mv rfl rfl ?_; refine Ex_getf rfl (by assumption) rfl ?_; refine Ex_mv rfl rfl ?_; refine Ex_mv rfl rfl ?_; refine Ex_invV rfl (by rfl) (by rfl) (by assumption) (by rfl) (c_CF_memberAt hC hk (by omega)) ?_
      rw [hmO]
      simp only [oI, Nat.zero_add]
      refine Ex_mv rfl rfl ?_; (first | refine Ex_addN rfl ?_ | refine Ex_mv rfl rfl ?_); refine Ex_mv rfl rfl ?_; refine Ex_mv rfl rfl ?_; refine Ex_getf rfl (by assumption) rfl ?_; refine Ex_mv rfl rfl ?_; refine Ex_invV rfl (by rfl) (by rfl) (by assumption) (by rfl) (c_RW_two hrow (by omega)) ?_; refine Ex_mv rfl rfl ?_; refine Ex_mv rfl rfl ?_; refine Ex_getf rfl (by assumption) rfl ?_; refine Ex_getf rfl (by assumption) rfl ?_; refine Ex_mv rfl rfl ?_; refine Ex_invV rfl (by rfl) (by rfl) (by assumption) (by rfl) (c_PL_textAt (CF.po hC) (by omega)) ?_; refine Ex_mv rfl rfl ?_; refine Ex_mv rfl rfl ?_; refine Ex_mv rfl rfl ?_; refine Ex_getf rfl (by assumption) rfl ?_; refine Ex_getf rfl (by assumption) rfl ?_; refine Ex_mv rfl rfl ?_; refine Ex_invV rfl (by rfl) (by rfl) (by assumption) (by rfl) (c_PL_textSize (CF.po hC) (by omega)) ?_; (first | refine Ex_addN rfl ?_ | refine Ex_mv rfl rfl ?_); refine Ex_mv rfl rfl ?_; refine Ex_mv rfl rfl ?_; refine Ex_mv rfl rfl ?_; refine Ex_ift (by decide) ?_; refine Ex_mv rfl rfl ?_; refine Ex_getf rfl (by assumption) rfl ?_; refine Ex_mv rfl rfl ?_; refine Ex_mv rfl rfl ?_; refine Ex_inv rfl (by rfl) (by rfl) (by rfl) (e1) ?_
      exact tail (some (.int (nI (b2 B (m + 4))))) (some (.int (nI (st x'.1 x'.2.1 (b2 B (m + 4)) + 3)))) (some (.int (nI (st x'.1 x'.2.1 (b2 B (m + 4)) + 3 + tz B x'.1 x'.2.1 (b2 B (m + 4)))))) (mthT (tx B x'.1 x'.2.1 (b2 B (m + 4)))) rfl
theorem c_RD_checkSorts {h : Hp} {s : Rt} {k : Nat} (hd : rd < c ∨ c + 11 ≤ rd) (hk : k < 2) (hs : RSt h c rd B s) (hV : ∀ a x, s = .inr (a, x) → TV B x.1 x.2.1 ∧ ∀ m ∈ mK x.2.2.2.2.1 x.2.2.2.2.2.1 k, tg B x.1 x.2.1 (b2 B (m + 4)) = 1) : EvQ (prog nb sa) m_RD_checkSorts [.ref rd, .int (nI k)] h (fun v h' => v = none ∧ RSt h' c rd B (p_srt B k s) ∧ FR c rd h h') := by
  refine EvQ_of k_RD_checkSorts 8 [some (.ref rd), some (.int (nI k)), none, none, none, none, none, none] rfl (Nat.le_of_ble_eq_true rfl) rfl ?_
  cases s with
  | inl e =>
    refine Ex_mv rfl rfl ?_; refine Ex_mv rfl rfl ?_
    refine Ex_mono (RD_checkSorts_stop hs hk (by decide)) ?_
    rintro v h' ⟨rfl, rfl⟩
    exact ⟨rfl, hs, FR.rf⟩
  | inr e =>
    obtain ⟨v1, v2⟩ := hV e.1 e.2 rfl
    refine Ex_mv rfl rfl ?_; refine Ex_mv rfl rfl ?_
    exact RD_checkSorts_loop hd hk hs v1 v2 _ 0 _ _ _ _ _ (Nat.zero_add _)
theorem c_RD_init {h : Hp} {x : Fs} (hd : rd < c ∨ c + 11 ≤ rd) {z : List Value} (hz : z.length = 5) (hR : h.2.2 rd = some (true, .inr (3, z))) (hC : CFs h c B x) (hT : x.2.2.2.2.2.2 = []) : EvQ (prog nb sa) m_RD_init [.ref rd, .ref c] h (fun v h' => v = none ∧ RSt h' c rd B (.inr (0, x)) ∧ FR c rd h h') := by
  have hc := hC.1
  match z, hz with
  | [z0, z1, z2, z3, z4], _ =>
    have hcs : ∀ q1 q2 q3 q4, (hset (hset (hset (hset h rd q1) rd q2) rd q3) rd q4).2.2 c = _ := fun q1 q2 q3 q4 => hs_ne (by omega) (hs_ne (by omega) (hs_ne (by omega) (hs_ne (by omega) hc)))
    refine EvQ_of k_RD_init 2 [some (.ref rd), some (.ref c)] rfl (Nat.le_of_ble_eq_true rfl) rfl ?_
    refine Ex_mv rfl rfl ?_; refine Ex_mv rfl rfl ?_; refine Ex_mv rfl rfl ?_; refine Ex_mv rfl rfl ?_; refine Ex_putf rfl hR rfl rfl ?_; refine Ex_mv rfl rfl ?_; refine Ex_mv rfl rfl ?_; refine Ex_putf rfl hs_at rfl rfl ?_; refine Ex_mv rfl rfl ?_; refine Ex_mv rfl rfl ?_; refine Ex_putf rfl hs_at rfl rfl ?_; refine Ex_mv rfl rfl ?_; refine Ex_mv rfl rfl ?_; refine Ex_putf rfl hs_at rfl rfl ?_; refine Ex_mv rfl rfl ?_; refine Ex_mv rfl rfl ?_; refine Ex_getf rfl (hcs _ _ _ _) rfl ?_; refine Ex_putf rfl hs_at rfl rfl ?_
    refine Ex_rt rfl rfl ?_
    exact ⟨rfl, ⟨0, -1, 0, x, hs_at, ((((hC.set hd).set hd).set hd).set hd).set hd, Nat.zero_le _, by decide, rfl, rfl, rfl, rfl, by rw [hT]; exact Nat.le_refl _⟩, FR.ofR (((((FrI.rf.set (by omega) (by omega)).set (by omega) (by omega)).set (by omega) (by omega)).set (by omega) (by omega)).set (by omega) (by omega))⟩
end READER6
