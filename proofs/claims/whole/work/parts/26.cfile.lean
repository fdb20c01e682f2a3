/-! ClassFile -/
/-- an array of ints that holds a list at its beginning -/
def AI (h : Hp) (a n : Nat) (L : List Nat) : Prop := ∃ g, h.2.2 a = some (true, .inl (1, n, .inl g)) ∧ ∀ j, j < L.length → g j = nI (L.getD j 0)
theorem AI.fr {h h' : Hp} {a n lo hi : Nat} {L : List Nat} (h1 : AI h a n L) (f : FrI lo hi h h') (hq : a < lo ∨ hi ≤ a) : AI h' a n L := by
  obtain ⟨g, b, c⟩ := h1
  exact ⟨g, f.at b (by omega), c⟩
theorem AI.get {h : Hp} {a n k : Nat} {L : List Nat} {g : Nat → Int32} (hg : ∀ j, j < L.length → g j = nI (L.getD j 0)) (hk : k < L.length) (h31 : k < 2 ^ 31) : g (nI k).toNatClampNeg = nI (L.getD k 0) := by
  rw [nI_clamp h31]; exact hg k hk
/-- a file of the class: its bytes, starts, places; where behind, attributes; members' offsets; tells -/
def CF (h : Hp) (c : Nat) (B : List Nat) (S : Nat → Nat) (n bh aa : Nat) (M0 M1 : List Nat) (TL : List (Nat × Nat)) : Prop :=
  h.2.2 c = some (true, .inr (0, [.ref (c + 1), .ref (c + 2), .int (nI bh), .int (nI aa), .ref (c + 5), .ref (c + 8), .ref (c + 9), .ref (c + 10), .int (nI TL.length)])) ∧ PO h (c + 1) B S n ∧ h.2.2 (c + 5) = some (true, .inl (3, 2, .inr (.inr (.inr (.inr (fun i => if i < 2 then some (c + 5 + 1 + i) else none)))))) ∧ AI h (c + 6) 12 M0 ∧ AI h (c + 7) 12 M1 ∧ AI h (c + 8) 2 [M0.length, M1.length] ∧ AI h (c + 9) 200 (TL.map (·.1)) ∧ AI h (c + 10) 200 (TL.map (·.2)) ∧ M0.length ≤ 12 ∧ M1.length ≤ 12 ∧ TL.length ≤ 200 ∧ bh ≤ 400 ∧ aa ≤ 400 ∧ (∀ x ∈ M0, x ≤ 400) ∧ (∀ x ∈ M1, x ≤ 400) ∧ ∀ x ∈ TL, x.1 ≤ 400 ∧ x.2 ≤ 12
section CFILE
variable {nb sa : Nat} {h : Hp} {c n bh aa : Nat} {B M0 M1 : List Nat} {S : Nat → Nat} {TL : List (Nat × Nat)}
theorem CF.fr {h' : Hp} {lo hi : Nat} (h1 : CF h c B S n bh aa M0 M1 TL) (f : FrI lo hi h h') (hq : c + 11 ≤ lo ∨ hi ≤ c) : CF h' c B S n bh aa M0 M1 TL := by
  obtain ⟨a1, a2, a3, a4, a5, a6, a7, a8, a9⟩ := h1
  exact ⟨f.at a1 (by omega), a2.fr f (by omega), f.at a3 (by omega), a4.fr f (by omega), a5.fr f (by omega), a6.fr f (by omega), a7.fr f (by omega), a8.fr f (by omega), a9⟩
theorem CF.po (hC : CF h c B S n bh aa M0 M1 TL) : PO h (c + 1) B S n := hC.2.1
theorem CF.row (hC : CF h c B S n bh aa M0 M1 TL) : RW h (c + 2) B := hC.2.1.2.1
theorem getD_le {L : List Nat} {m : Nat} (h : ∀ x ∈ L, x ≤ m) (k : Nat) : L.getD k 0 ≤ m := by
  by_cases hk : k < L.length
  · rw [List.getD_eq_getElem?_getD, List.getElem?_eq_getElem hk]; exact h _ (List.getElem_mem hk)
  · rw [List.getD_eq_getElem?_getD, List.getElem?_eq_none (by omega)]; exact Nat.zero_le _
theorem c_CF_tellCount (hC : CF h c B S n bh aa M0 M1 TL) : Ev (prog nb sa) m_CF_tellCount [.ref c] h (some (.int (nI TL.length))) h := by
  have hc := hC.1
  refine Ev_ofL k_CF_tellCount 1 [some (.ref c)] rfl (Nat.le_of_ble_eq_true rfl) rfl ?_
  refine Ex_mv rfl rfl ?_; refine Ex_getf rfl (by assumption) rfl ?_
  exact Ex_rt rfl rfl ⟨rfl, rfl⟩
/-- a tell's place, what is wanted there -/
def tA (TL : List (Nat × Nat)) (t : Nat) : Nat := (TL.map (·.1)).getD t 0
def tW (TL : List (Nat × Nat)) (t : Nat) : Nat := (TL.map (·.2)).getD t 0
theorem getD_out {L : List Nat} {k : Nat} (h : L.length ≤ k) : L.getD k 0 = 0 := b1_out h
theorem c_CF_tellAt (hC : CF h c B S n bh aa M0 M1 TL) {t : Nat} (ht : t < 2 ^ 31) : Ev (prog nb sa) m_CF_tellAt [.ref c, .int (nI t)] h (some (.int (nI (tA TL t)))) h := by
  obtain ⟨hc, a2, a3, a4, a5, a6, ⟨g, hg, hgl⟩, a8, a9, a10, a11, a12⟩ := hC
  refine Ev_ofL k_CF_tellAt 2 [some (.ref c), some (.int (nI t))] rfl (Nat.le_of_ble_eq_true rfl) rfl ?_
  refine Ex_mv rfl rfl ?_; refine Ex_mv rfl rfl ?_; refine Ex_lt0 (by omega) ?_; refine Ex_mv rfl rfl ?_; refine Ex_mv rfl rfl ?_; refine Ex_getf rfl (by assumption) rfl ?_; refine Ex_mv rfl rfl ?_; (first | refine Ex_leN (by omega) (by omega) (fun b9 => ?_) (fun b9 => ?_) | refine Ex_if (fun b9 => ?_) (fun b9 => ?_))
  · refine Ex_mv rfl rfl ?_
    refine Ex_rt rfl rfl ⟨?_, rfl⟩
    first | (rw [AI.get (h := h) (a := c) (n := n) hgl (by simp; omega) (by omega)]; rfl) | (rw [tA, getD_out (by simp; omega)]; done) | (exfalso; omega)
  · refine Ex_mv rfl rfl ?_; refine Ex_mv rfl rfl ?_; refine Ex_mv rfl rfl ?_; (first | refine Ex_leN (by omega) (by omega) (fun b16 => ?_) (fun b16 => ?_) | refine Ex_if (fun b16 => ?_) (fun b16 => ?_))
    · refine Ex_mv rfl rfl ?_
      refine Ex_rt rfl rfl ⟨?_, rfl⟩
      first | (rw [AI.get (h := h) (a := c) (n := n) hgl (by simp; omega) (by omega)]; rfl) | (rw [tA, getD_out (by simp; omega)]; done) | (exfalso; omega)
    · refine Ex_mv rfl rfl ?_; refine Ex_getf rfl (by assumption) rfl ?_; refine Ex_mv rfl rfl ?_; refine Ex_iald rfl (by assumption) (vp_in_nI (by omega) (by decide)) ?_; refine Ex_mv rfl rfl ?_
      refine Ex_rt rfl rfl ⟨?_, rfl⟩
      first | (rw [AI.get (h := h) (a := c) (n := n) hgl (by simp; omega) (by omega)]; rfl) | (rw [tA, getD_out (by simp; omega)]; done) | (exfalso; omega)
theorem c_CF_wanted (hC : CF h c B S n bh aa M0 M1 TL) {t : Nat} (ht : t < 2 ^ 31) : Ev (prog nb sa) m_CF_wanted [.ref c, .int (nI t)] h (some (.int (nI (tW TL t)))) h := by
  obtain ⟨hc, a2, a3, a4, a5, a6, a7, ⟨g, hg, hgl⟩, a9, a10, a11, a12⟩ := hC
  refine Ev_ofL k_CF_wanted 2 [some (.ref c), some (.int (nI t))] rfl (Nat.le_of_ble_eq_true rfl) rfl ?_
  refine Ex_mv rfl rfl ?_; refine Ex_mv rfl rfl ?_; refine Ex_lt0 (by omega) ?_; refine Ex_mv rfl rfl ?_; refine Ex_mv rfl rfl ?_; refine Ex_getf rfl (by assumption) rfl ?_; refine Ex_mv rfl rfl ?_; (first | refine Ex_leN (by omega) (by omega) (fun b9 => ?_) (fun b9 => ?_) | refine Ex_if (fun b9 => ?_) (fun b9 => ?_))
  · refine Ex_mv rfl rfl ?_
    refine Ex_rt rfl rfl ⟨?_, rfl⟩
    first | (rw [AI.get (h := h) (a := c) (n := n) hgl (by simp; omega) (by omega)]; rfl) | (rw [tW, getD_out (by simp; omega)]; done) | (exfalso; omega)
  · refine Ex_mv rfl rfl ?_; refine Ex_mv rfl rfl ?_; refine Ex_mv rfl rfl ?_; (first | refine Ex_leN (by omega) (by omega) (fun b16 => ?_) (fun b16 => ?_) | refine Ex_if (fun b16 => ?_) (fun b16 => ?_))
    · refine Ex_mv rfl rfl ?_
      refine Ex_rt rfl rfl ⟨?_, rfl⟩
      first | (rw [AI.get (h := h) (a := c) (n := n) hgl (by simp; omega) (by omega)]; rfl) | (rw [tW, getD_out (by simp; omega)]; done) | (exfalso; omega)
    · refine Ex_mv rfl rfl ?_; refine Ex_getf rfl (by assumption) rfl ?_; refine Ex_mv rfl rfl ?_; refine Ex_iald rfl (by assumption) (vp_in_nI (by omega) (by decide)) ?_; refine Ex_mv rfl rfl ?_
      refine Ex_rt rfl rfl ⟨?_, rfl⟩
      first | (rw [AI.get (h := h) (a := c) (n := n) hgl (by simp; omega) (by omega)]; rfl) | (rw [tW, getD_out (by simp; omega)]; done) | (exfalso; omega)
theorem tA_le (hC : CF h c B S n bh aa M0 M1 TL) (t : Nat) : tA TL t ≤ 400 := by
  obtain ⟨-, -, -, -, -, -, -, -, -, -, -, -, -, -, -, a⟩ := hC
  refine getD_le (fun x hx => ?_) t
  obtain ⟨y, hy, rfl⟩ := List.mem_map.mp hx
  exact (a y hy).1
theorem tW_le (hC : CF h c B S n bh aa M0 M1 TL) (t : Nat) : tW TL t ≤ 12 := by
  obtain ⟨-, -, -, -, -, -, -, -, -, -, -, -, -, -, -, a⟩ := hC
  refine getD_le (fun x hx => ?_) t
  obtain ⟨y, hy, rfl⟩ := List.mem_map.mp hx
  exact (a y hy).2
/-- the first of the tells behind the pool -/
def fbh (TL : List (Nat × Nat)) (bh : Nat) : Nat → Nat → Nat
  | 0, t => t
  | d + 1, t => if bh ≤ tA TL t then t else fbh TL bh d (t + 1)
theorem fbh_le (TL : List (Nat × Nat)) (bh : Nat) : ∀ d t, t ≤ fbh TL bh d t ∧ fbh TL bh d t ≤ t + d
  | 0, t => ⟨Nat.le_refl _, Nat.le_refl _⟩
  | d + 1, t => by
    unfold fbh
    split
    · omega
    · have := fbh_le TL bh d (t + 1); omega
theorem CF_firstBehind_loop (hC : CF h c B S n bh aa M0 M1 TL) : ∀ (d t : Nat), t + d = TL.length → Ex (prog nb sa) k_CF_firstBehind 2 [some (.ref c), some (.int (nI t))] [] h (fun v h' => v = some (.int (nI (fbh TL bh d t))) ∧ h' = h)
  | 0, t, hd => by
    have hc := hC.1
    have : TL.length ≤ 200 := hC.2.2.2.2.2.2.2.2.2.2.1
    refine Ex_mv rfl rfl ?_; refine Ex_mv rfl rfl ?_; refine Ex_getf rfl (by assumption) rfl ?_; refine Ex_mv rfl rfl ?_; refine Ex_ift (nI_le (by omega) (by omega)) ?_; refine Ex_mv rfl rfl ?_; refine Ex_getf rfl (by assumption) rfl ?_
    refine Ex_rt rfl rfl ⟨?_, rfl⟩
    rw [fbh, ← hd]; rfl
  | d + 1, t, hd => by
    have hc := hC.1
    have : TL.length ≤ 200 := hC.2.2.2.2.2.2.2.2.2.2.1
    have hb : bh ≤ 400 := hC.2.2.2.2.2.2.2.2.2.2.2.1
    have ht := tA_le hC t
    unfold fbh
    by_cases e : bh ≤ tA TL t
    · rw [if_pos e]
      refine Ex_mv rfl rfl ?_; refine Ex_mv rfl rfl ?_; refine Ex_getf rfl (by assumption) rfl ?_; refine Ex_mv rfl rfl ?_; refine Ex_iff (nI_ge (by omega) (by omega)) ?_; refine Ex_mv rfl rfl ?_; refine Ex_mv rfl rfl ?_; refine Ex_invV rfl (by rfl) (by rfl) (by assumption) (by rfl) (c_CF_tellAt hC (by omega)) ?_; refine Ex_mv rfl rfl ?_; refine Ex_getf rfl (by assumption) rfl ?_; refine Ex_mv rfl rfl ?_; refine Ex_iff (nI_nlt e (by omega)) ?_; refine Ex_mv rfl rfl ?_
      exact Ex_rt rfl rfl ⟨rfl, rfl⟩
    · rw [if_neg e]
      refine Ex_mv rfl rfl ?_; refine Ex_mv rfl rfl ?_; refine Ex_getf rfl (by assumption) rfl ?_; refine Ex_mv rfl rfl ?_; refine Ex_iff (nI_ge (by omega) (by omega)) ?_; refine Ex_mv rfl rfl ?_; refine Ex_mv rfl rfl ?_; refine Ex_invV rfl (by rfl) (by rfl) (by assumption) (by rfl) (c_CF_tellAt hC (by omega)) ?_; refine Ex_mv rfl rfl ?_; refine Ex_getf rfl (by assumption) rfl ?_; refine Ex_mv rfl rfl ?_; refine Ex_ift (nI_lt (by omega) (by omega)) ?_; (first | refine Ex_incN rfl rfl ?_ | refine Ex_mv rfl rfl ?_); refine Ex_mv rfl rfl ?_
      exact CF_firstBehind_loop hC d (t + 1) (by omega)
theorem c_CF_firstBehind (hC : CF h c B S n bh aa M0 M1 TL) : Ev (prog nb sa) m_CF_firstBehind [.ref c] h (some (.int (nI (fbh TL bh TL.length 0)))) h := by
  refine Ev_ofL k_CF_firstBehind 2 [some (.ref c), none] rfl (Nat.le_of_ble_eq_true rfl) rfl ?_
  refine Ex_mv rfl rfl ?_; refine Ex_mv rfl rfl ?_
  exact CF_firstBehind_loop hC TL.length 0 (by omega)
/-- members of a kind -/
def mK (M0 M1 : List Nat) (k : Nat) : List Nat := if k = 0 then M0 else M1
theorem c_CF_members (hC : CF h c B S n bh aa M0 M1 TL) {k : Nat} (hk : k < 2) : Ev (prog nb sa) m_CF_members [.ref c, .int (nI k)] h (some (.int (nI (mK M0 M1 k).length))) h := by
  obtain ⟨hc, a2, a3, a4, a5, ⟨g, hg, hgl⟩, a7⟩ := hC
  have e : g (nI k).toNatClampNeg = nI (mK M0 M1 k).length := by
    rw [AI.get (h := h) (a := c) (n := n) hgl (by simpa using hk) (by omega)]
    have : k = 0 ∨ k = 1 := by omega
    rcases this with rfl | rfl <;> rfl
  refine Ev_ofL k_CF_members 2 [some (.ref c), some (.int (nI k))] rfl (Nat.le_of_ble_eq_true rfl) rfl ?_
  refine Ex_mv rfl rfl ?_; refine Ex_mv rfl rfl ?_; (first | refine Ex_eq0 (by omega) (fun b1 => ?_) (fun b1 => ?_) | refine Ex_if (fun b1 => ?_) (fun b1 => ?_))
  · refine Ex_mv rfl rfl ?_; refine Ex_getf rfl (by assumption) rfl ?_; refine Ex_mv rfl rfl ?_; refine Ex_iald rfl (by assumption) (vp_in_nI (by omega) (by decide)) ?_; refine Ex_mv rfl rfl ?_
    refine Ex_rt rfl rfl ⟨?_, rfl⟩
    first | (rw [e]; done) | (exfalso; omega)
  · refine Ex_mv rfl rfl ?_; refine Ex_mv rfl rfl ?_; refine Ex_mv rfl rfl ?_; (first | refine Ex_neN (by omega) (by omega) (fun b6 => ?_) (fun b6 => ?_) | refine Ex_if (fun b6 => ?_) (fun b6 => ?_))
    · refine Ex_mv rfl rfl ?_
      refine Ex_rt rfl rfl ⟨?_, rfl⟩
      first | (rw [e]; done) | (exfalso; omega)
    · refine Ex_mv rfl rfl ?_; refine Ex_getf rfl (by assumption) rfl ?_; refine Ex_mv rfl rfl ?_; refine Ex_iald rfl (by assumption) (vp_in_nI (by omega) (by decide)) ?_; refine Ex_mv rfl rfl ?_
      refine Ex_rt rfl rfl ⟨?_, rfl⟩
      first | (rw [e]; done) | (exfalso; omega)
theorem mK_len (hC : CF h c B S n bh aa M0 M1 TL) (k : Nat) : (mK M0 M1 k).length ≤ 12 := by
  obtain ⟨-, -, -, -, -, -, -, -, a, b, -⟩ := hC
  unfold mK; split <;> assumption
theorem mK_le (hC : CF h c B S n bh aa M0 M1 TL) (k j : Nat) : (mK M0 M1 k).getD j 0 ≤ 400 := by
  obtain ⟨-, -, -, -, -, -, -, -, -, -, -, -, -, a, b, -⟩ := hC
  unfold mK; split
  · exact getD_le a j
  · exact getD_le b j
/-- a member's offset, or none such -/
def mO (L : List Nat) (j : Nat) : Option Nat := if j < L.length then some (L.getD j 0) else none
theorem CF.inner (hC : CF h c B S n bh aa M0 M1 TL) {k : Nat} (hk : k < 2) : AI h (c + 5 + 1 + k) 12 (mK M0 M1 k) := by
  obtain ⟨-, -, -, a, b, -⟩ := hC
  have : k = 0 ∨ k = 1 := by omega
  rcases this with rfl | rfl
  · exact a
  · exact b
theorem c_CF_memberAt (hC : CF h c B S n bh aa M0 M1 TL) {k j : Nat} (hk : k < 2) (hj : j < 2 ^ 31) : Ev (prog nb sa) m_CF_memberAt [.ref c, .int (nI k), .int (nI j)] h (some (.int (oI 0 (mO (mK M0 M1 k) j)))) h := by
  obtain ⟨hc, a2, a3, a4, a5, a6, a7⟩ := id hC
  obtain ⟨g, hg, hgl⟩ := hC.inner hk
  have hl := mK_len hC k
  have hq : (fun i => if i < 2 then some (c + 5 + 1 + i) else none) (nI k).toNatClampNeg = some (c + 5 + 1 + k) := by rw [nI_clamp (by omega)]; exact if_pos hk
  refine Ev_ofL k_CF_memberAt 3 [some (.ref c), some (.int (nI k)), some (.int (nI j))] rfl (Nat.le_of_ble_eq_true rfl) rfl ?_
  refine Ex_mv rfl rfl ?_; refine Ex_mv rfl rfl ?_; refine Ex_lt0 (by omega) ?_; refine Ex_mv rfl rfl ?_; refine Ex_mv rfl rfl ?_; refine Ex_mv rfl rfl ?_; refine Ex_invV rfl (by rfl) (by rfl) (by assumption) (by rfl) (c_CF_members hC hk) ?_; refine Ex_mv rfl rfl ?_; (first | refine Ex_leN (by omega) (by omega) (fun b10 => ?_) (fun b10 => ?_) | refine Ex_if (fun b10 => ?_) (fun b10 => ?_))
  · refine Ex_mv rfl rfl ?_
    refine Ex_rt rfl rfl ⟨?_, rfl⟩
    first | (rw [AI.get (h := h) (a := c) (n := n) hgl (by omega) (by omega), mO, if_pos (by omega)]; simp [oI]; done) | (rw [mO, if_neg (by omega)]; rfl) | (exfalso; omega)
  · refine Ex_mv rfl rfl ?_; refine Ex_mv rfl rfl ?_; refine Ex_mv rfl rfl ?_; (first | refine Ex_leN (by omega) (by omega) (fun b16 => ?_) (fun b16 => ?_) | refine Ex_if (fun b16 => ?_) (fun b16 => ?_))
    · refine Ex_mv rfl rfl ?_
      refine Ex_rt rfl rfl ⟨?_, rfl⟩
      first | (rw [AI.get (h := h) (a := c) (n := n) hgl (by omega) (by omega), mO, if_pos (by omega)]; simp [oI]; done) | (rw [mO, if_neg (by omega)]; rfl) | (exfalso; omega)
    · refine Ex_mv rfl rfl ?_; refine Ex_getf rfl (by assumption) rfl ?_; refine Ex_mv rfl rfl ?_; refine Ex_aald rfl (by assumption) rfl (vp_in_nI (by omega) (by decide)) hq ?_; refine Ex_mv rfl rfl ?_; refine Ex_iald rfl (by assumption) (vp_in_nI (by omega) (by decide)) ?_; refine Ex_mv rfl rfl ?_
      refine Ex_rt rfl rfl ⟨?_, rfl⟩
      first | (rw [AI.get (h := h) (a := c) (n := n) hgl (by omega) (by omega), mO, if_pos (by omega)]; simp [oI]; done) | (rw [mO, if_neg (by omega)]; rfl) | (exfalso; omega)
theorem c_CF_memberAtN (hC : CF h c B S n bh aa M0 M1 TL) {k j : Int32} (hj : j < 0) : Ev (prog nb sa) m_CF_memberAt [.ref c, .int k, .int j] h (some (.int (-1))) h := by
  refine Ev_ofL k_CF_memberAt 3 [some (.ref c), some (.int k), some (.int j)] rfl (Nat.le_of_ble_eq_true rfl) rfl ?_
  refine Ex_mv rfl rfl ?_; refine Ex_mv rfl rfl ?_; refine Ex_ift hj ?_; refine Ex_mv rfl rfl ?_
  exact Ex_rt rfl rfl ⟨rfl, rfl⟩
theorem c_CF_faces (hC : CF h c B S n bh aa M0 M1 TL) : Ev (prog nb sa) m_CF_faces [.ref c] h (some (.int (nI (b2 B (bh + 6))))) h := by
  have hc := hC.1
  have hb : bh ≤ 400 := hC.2.2.2.2.2.2.2.2.2.2.2.1
  obtain ⟨f, hr, ha, hB⟩ := id hC.row
  refine Ev_ofL k_CF_faces 1 [some (.ref c)] rfl (Nat.le_of_ble_eq_true rfl) rfl ?_
  refine Ex_mv rfl rfl ?_; refine Ex_getf rfl (by assumption) rfl ?_; refine Ex_mv rfl rfl ?_; refine Ex_getf rfl (by assumption) rfl ?_; refine Ex_mv rfl rfl ?_; (first | refine Ex_addN rfl ?_ | refine Ex_mv rfl rfl ?_); refine Ex_invV rfl (by rfl) (by rfl) (by assumption) (by rfl) (c_RW_two hC.row (by omega)) ?_
  exact Ex_rt rfl rfl ⟨rfl, rfl⟩
/-- the place of the class itself, the one above, a face; 0: none such -/
def cP (B : List Nat) (bh k : Nat) : Nat := if b2 B (bh + 6) + 2 ≤ k then 0 else b2 B (bh + (if k < 2 then 2 + 2 * k else 4 + 2 * k))
theorem c_CF_classPlace (hC : CF h c B S n bh aa M0 M1 TL) {k : Nat} (hk : k < 2 ^ 31) : Ev (prog nb sa) m_CF_classPlace [.ref c, .int (nI k)] h (some (.int (nI (cP B bh k)))) h := by
  have hc := hC.1
  have hb : bh ≤ 400 := hC.2.2.2.2.2.2.2.2.2.2.2.1
  obtain ⟨f, hr, ha, hB⟩ := id hC.row
  have hf := b2_lt hC.row.lt (bh + 6)
  refine Ev_ofL k_CF_classPlace 2 [some (.ref c), some (.int (nI k))] rfl (Nat.le_of_ble_eq_true rfl) rfl ?_
  by_cases h2 : 2 ≤ k
  · refine Ex_mv rfl rfl ?_; refine Ex_mv rfl rfl ?_; refine Ex_lt0 (by omega) ?_; refine Ex_mv rfl rfl ?_; refine Ex_mv rfl rfl ?_; (first | refine Ex_subN rfl (by omega) ?_ | refine Ex_mv rfl rfl ?_); refine Ex_mv rfl rfl ?_; refine Ex_invV rfl (by rfl) (by rfl) (by assumption) (by rfl) (c_CF_faces hC) ?_; refine Ex_mv rfl rfl ?_; (first | refine Ex_ltN (by omega) (by omega) (fun b11 => ?_) (fun b11 => ?_) | refine Ex_if (fun b11 => ?_) (fun b11 => ?_))
    · refine Ex_mv rfl rfl ?_; refine Ex_getf rfl (by assumption) rfl ?_; refine Ex_mv rfl rfl ?_; refine Ex_getf rfl (by assumption) rfl ?_; refine Ex_mv rfl rfl ?_; refine Ex_mv rfl rfl ?_; refine Ex_mv rfl rfl ?_; refine Ex_ift (nI_le h2 (by omega)) ?_; refine Ex_mv rfl rfl ?_; refine Ex_mv rfl rfl ?_; refine Ex_mv rfl rfl ?_; (first | refine Ex_mulN rfl ?_ | refine Ex_mv rfl rfl ?_); (first | refine Ex_addN rfl ?_ | refine Ex_mv rfl rfl ?_); (first | refine Ex_addN rfl ?_ | refine Ex_mv rfl rfl ?_); refine Ex_invV rfl (by rfl) (by rfl) (by assumption) (by rfl) (c_RW_two hC.row (by omega)) ?_
      refine Ex_rt rfl rfl ⟨?_, rfl⟩
      first | (rw [cP, if_pos (by omega)]; done) | (rw [cP, if_neg (by omega), if_neg (by omega), Nat.mul_comm 2 k]; done) | (rw [cP, if_neg (by omega), if_neg (by omega)]; done) | (exfalso; omega)
    · refine Ex_mv rfl rfl ?_
      refine Ex_rt rfl rfl ⟨?_, rfl⟩
      first | (rw [cP, if_pos (by omega)]; done) | (rw [cP, if_neg (by omega), if_neg (by omega), Nat.mul_comm 2 k]; done) | (rw [cP, if_neg (by omega), if_neg (by omega)]; done) | (exfalso; omega)
  · have hlt : nI k - nI 2 < nI (b2 B (bh + 6)) := by
      refine Int32.lt_of_lt_of_le (pk_sneg (by decide) (by omega)) ?_
      exact nI_pos' (by omega)
    refine Ex_mv rfl rfl ?_; refine Ex_mv rfl rfl ?_; refine Ex_lt0 (by omega) ?_; refine Ex_mv rfl rfl ?_; refine Ex_mv rfl rfl ?_; refine Ex_mv rfl rfl ?_
    refine Ex_mv rfl rfl ?_; refine Ex_invV rfl (by rfl) (by rfl) (by assumption) (by rfl) (c_CF_faces hC) ?_; refine Ex_mv rfl rfl ?_; refine Ex_ift hlt ?_; refine Ex_mv rfl rfl ?_; refine Ex_getf rfl (by assumption) rfl ?_; refine Ex_mv rfl rfl ?_; refine Ex_getf rfl (by assumption) rfl ?_; refine Ex_mv rfl rfl ?_; refine Ex_mv rfl rfl ?_; refine Ex_mv rfl rfl ?_; refine Ex_iff (nI_ge (by omega) (by decide)) ?_; refine Ex_mv rfl rfl ?_; refine Ex_mv rfl rfl ?_; refine Ex_mv rfl rfl ?_; (first | refine Ex_mulN rfl ?_ | refine Ex_mv rfl rfl ?_); (first | refine Ex_addN rfl ?_ | refine Ex_mv rfl rfl ?_); refine Ex_mv rfl rfl ?_; (first | refine Ex_addN rfl ?_ | refine Ex_mv rfl rfl ?_); refine Ex_invV rfl (by rfl) (by rfl) (by assumption) (by rfl) (c_RW_two hC.row (by omega)) ?_
    refine Ex_rt rfl rfl ⟨?_, rfl⟩
    first | (rw [cP, if_neg (by omega), if_pos (by omega)]; done)
/-- where attributes are counted -/
def aO (aa : Nat) (M0 M1 : List Nat) (k j : Nat) : Option Nat := if k = 2 then (if j = 0 then some aa else none) else (mO (mK M0 M1 k) j).map (· + 6)
theorem c_CF_attributesOf (hC : CF h c B S n bh aa M0 M1 TL) {k j : Nat} (hk : k < 3) (hj : j < 2 ^ 31) : Ev (prog nb sa) m_CF_attributesOf [.ref c, .int (nI k), .int (nI j)] h (some (.int (oI 0 (aO aa M0 M1 k j)))) h := by
  have hc := hC.1
  refine Ev_ofL k_CF_attributesOf 4 [some (.ref c), some (.int (nI k)), some (.int (nI j)), none] rfl (Nat.le_of_ble_eq_true rfl) rfl ?_
  by_cases h2 : k = 2
  · refine Ex_mv rfl rfl ?_; refine Ex_mv rfl rfl ?_; refine Ex_mv rfl rfl ?_; refine Ex_iff (by rw [h2]; exact not_not_intro rfl) ?_; refine Ex_mv rfl rfl ?_; refine Ex_mv rfl rfl ?_; (first | refine Ex_ne0 (by omega) (fun b6 => ?_) (fun b6 => ?_) | refine Ex_if (fun b6 => ?_) (fun b6 => ?_))
    · refine Ex_mv rfl rfl ?_
      refine Ex_rt rfl rfl ⟨?_, rfl⟩
      first | (rw [aO, if_pos h2, if_pos (by omega)]; simp [oI]; done) | (rw [aO, if_pos h2, if_neg (by omega)]; rfl)
    · refine Ex_mv rfl rfl ?_; refine Ex_getf rfl (by assumption) rfl ?_; refine Ex_mv rfl rfl ?_
      refine Ex_rt rfl rfl ⟨?_, rfl⟩
      first | (rw [aO, if_pos h2, if_pos (by omega)]; simp [oI]; done) | (rw [aO, if_pos h2, if_neg (by omega)]; rfl)
  · have hm := mK_le hC k j
    cases e : mO (mK M0 M1 k) j with
    | none =>
      refine Ex_mv rfl rfl ?_; refine Ex_mv rfl rfl ?_; refine Ex_mv rfl rfl ?_; refine Ex_ift (fun z => h2 ((nI_eq (by omega) (by decide)).mp z)) ?_; refine Ex_mv rfl rfl ?_; refine Ex_mv rfl rfl ?_; refine Ex_mv rfl rfl ?_; refine Ex_invV rfl (by rfl) (by rfl) (by assumption) (by rfl) (c_CF_memberAt hC (by omega) hj) ?_
      rw [e]
      refine Ex_mv rfl rfl ?_; refine Ex_mv rfl rfl ?_; refine Ex_mv rfl rfl ?_; refine Ex_mv rfl rfl ?_; refine Ex_iff (not_not_intro rfl) ?_; refine Ex_mv rfl rfl ?_; refine Ex_mv rfl rfl ?_
      refine Ex_rt rfl rfl ⟨?_, rfl⟩
      rw [aO, if_neg h2, e]; rfl
    | some q =>
      have hq : q ≤ 400 := by
        unfold mO at e
        split at e
        · simp only [Option.some.injEq] at e; omega
        · cases e
      refine Ex_mv rfl rfl ?_; refine Ex_mv rfl rfl ?_; refine Ex_mv rfl rfl ?_; refine Ex_ift (fun z => h2 ((nI_eq (by omega) (by decide)).mp z)) ?_; refine Ex_mv rfl rfl ?_; refine Ex_mv rfl rfl ?_; refine Ex_mv rfl rfl ?_; refine Ex_invV rfl (by rfl) (by rfl) (by assumption) (by rfl) (c_CF_memberAt hC (by omega) hj) ?_
      rw [e]
      refine Ex_mv rfl rfl ?_; refine Ex_mv rfl rfl ?_; refine Ex_mv rfl rfl ?_; refine Ex_mv rfl rfl ?_; refine Ex_ift (nI_nm1 (by omega)) ?_; refine Ex_mv rfl rfl ?_; refine Ex_mv rfl rfl ?_; (first | refine Ex_addN rfl ?_ | refine Ex_mv rfl rfl ?_)
      refine Ex_rt rfl rfl ⟨?_, rfl⟩
      rw [aO, if_neg h2, e]; simp [oI]
theorem c_CF_attributesOfN (hC : CF h c B S n bh aa M0 M1 TL) {k : Nat} {j : Int32} (hk : k < 3) (hj : j < 0) : Ev (prog nb sa) m_CF_attributesOf [.ref c, .int (nI k), .int j] h (some (.int (-1))) h := by
  have hc := hC.1
  have hj0 : ¬ j = 0 := fun e => by rw [e] at hj; exact absurd hj (by decide)
  refine Ev_ofL k_CF_attributesOf 4 [some (.ref c), some (.int (nI k)), some (.int j), none] rfl (Nat.le_of_ble_eq_true rfl) rfl ?_
  by_cases h2 : k = 2
  · refine Ex_mv rfl rfl ?_; refine Ex_mv rfl rfl ?_; refine Ex_mv rfl rfl ?_; refine Ex_iff (by rw [h2]; exact not_not_intro rfl) ?_; refine Ex_mv rfl rfl ?_; refine Ex_mv rfl rfl ?_; refine Ex_ift hj0 ?_; refine Ex_mv rfl rfl ?_
    exact Ex_rt rfl rfl ⟨rfl, rfl⟩
  · refine Ex_mv rfl rfl ?_; refine Ex_mv rfl rfl ?_; refine Ex_mv rfl rfl ?_; refine Ex_ift (fun z => h2 ((nI_eq (by omega) (by decide)).mp z)) ?_; refine Ex_mv rfl rfl ?_; refine Ex_mv rfl rfl ?_; refine Ex_mv rfl rfl ?_; refine Ex_invV rfl (by rfl) (by rfl) (by assumption) (by rfl) (c_CF_memberAtN hC hj) ?_; refine Ex_mv rfl rfl ?_; refine Ex_mv rfl rfl ?_; refine Ex_mv rfl rfl ?_; refine Ex_mv rfl rfl ?_; refine Ex_iff (not_not_intro rfl) ?_; refine Ex_mv rfl rfl ?_; refine Ex_mv rfl rfl ?_
    exact Ex_rt rfl rfl ⟨rfl, rfl⟩
/-- the offset of the attribute that comes a behind the one at x -/
def atP (B : List Nat) : Nat → Nat → Nat
  | 0, x => x
  | a + 1, x => atP B a (x + 6 + b4 B (x + 2))
theorem CF_attributeAt_loop (hC : CF h c B S n bh aa M0 M1 TL) {k3 : Value} {x1 x4 : Option Value} {a : Nat} (ha : a < 2 ^ 31) : ∀ (d i x : Nat), i + d = a → x ≤ 400 → (∀ j, j < d → atP B j x + 6 + b4 B (atP B j x + 2) ≤ 400) → Ex (prog nb sa) k_CF_attributeAt 42 [some (.ref c), x1, some k3, some (.int (nI a)), x4, some (.int (nI x)), some (.int (nI i))] [] h (fun v h' => v = some (.int (nI (atP B d x))) ∧ h' = h)
  | 0, i, x, hd, hx, hv => by
    refine Ex_mv rfl rfl ?_; refine Ex_mv rfl rfl ?_; refine Ex_mv rfl rfl ?_; refine Ex_ift (nI_le (by omega) (by omega)) ?_; refine Ex_mv rfl rfl ?_
    exact Ex_rt rfl rfl ⟨rfl, rfl⟩
  | d + 1, i, x, hd, hx, hv => by
    have hc := hC.1
    obtain ⟨f, hr, hra, hB⟩ := id hC.row
    have h0 : x + 6 + b4 B (x + 2) ≤ 400 := hv 0 (by omega)
    refine Ex_mv rfl rfl ?_; refine Ex_mv rfl rfl ?_; refine Ex_mv rfl rfl ?_; refine Ex_iff (nI_ge (by omega) (by omega)) ?_; refine Ex_mv rfl rfl ?_; refine Ex_mv rfl rfl ?_; refine Ex_mv rfl rfl ?_; refine Ex_getf rfl (by assumption) rfl ?_; refine Ex_mv rfl rfl ?_; refine Ex_mv rfl rfl ?_; (first | refine Ex_addN rfl ?_ | refine Ex_mv rfl rfl ?_); refine Ex_invV rfl (by rfl) (by rfl) (by assumption) (by rfl) (c_RW_four hC.row (by omega)) ?_; (first | refine Ex_addN rfl ?_ | refine Ex_mv rfl rfl ?_); (first | refine Ex_addN rfl ?_ | refine Ex_mv rfl rfl ?_); refine Ex_mv rfl rfl ?_; (first | refine Ex_incN rfl rfl ?_ | refine Ex_mv rfl rfl ?_); refine Ex_mv rfl rfl ?_
    rw [← Nat.add_assoc]
    exact CF_attributeAt_loop hC ha d (i + 1) (x + 6 + b4 B (x + 2)) (by omega) h0 (fun j hj => hv (j + 1) (by omega))
theorem aO_le (hC : CF h c B S n bh aa M0 M1 TL) {k j q : Nat} (e : aO aa M0 M1 k j = some q) : q ≤ 406 := by
  have h1 : aa ≤ 400 := hC.2.2.2.2.2.2.2.2.2.2.2.2.1
  have h2 := mK_le hC k j
  unfold aO at e
  split at e
  · split at e
    · simp at e; omega
    · cases e
  · unfold mO at e
    split at e
    · simp only [Option.map_some, Option.some.injEq] at e; omega
    · cases e
/-- the offset of an attribute, or none such -/
def aT (B : List Nat) (o : Option Nat) (a : Nat) : Option Nat := match o with
  | none => none
  | some q => if a < b2 B q then some (atP B a (q + 2)) else none
theorem c_CF_attributeAt (hC : CF h c B S n bh aa M0 M1 TL) {k j a : Nat} (hk : k < 3) (hj : j < 2 ^ 31) (ha : a < 2 ^ 31) (hv : ∀ q, aO aa M0 M1 k j = some q → q + 2 ≤ 400 ∧ ∀ i, i < b2 B q → atP B i (q + 2) + 6 + b4 B (atP B i (q + 2) + 2) ≤ 400) : Ev (prog nb sa) m_CF_attributeAt [.ref c, .int (nI k), .int (nI j), .int (nI a)] h (some (.int (oI 0 (aT B (aO aa M0 M1 k j) a)))) h := by
  have hc := hC.1
  obtain ⟨f, hr, hra, hB⟩ := id hC.row
  refine Ev_ofL k_CF_attributeAt 7 [some (.ref c), some (.int (nI k)), some (.int (nI j)), some (.int (nI a)), none, none, none] rfl (Nat.le_of_ble_eq_true rfl) rfl ?_
  cases e : aO aa M0 M1 k j with
  | none =>
    refine Ex_mv rfl rfl ?_; refine Ex_mv rfl rfl ?_; refine Ex_mv rfl rfl ?_; refine Ex_invV rfl (by rfl) (by rfl) (by assumption) (by rfl) (c_CF_attributesOf hC hk hj) ?_
    rw [e]
    refine Ex_mv rfl rfl ?_; refine Ex_mv rfl rfl ?_; refine Ex_mv rfl rfl ?_; refine Ex_mv rfl rfl ?_; refine Ex_ift rfl ?_; refine Ex_mv rfl rfl ?_
    exact Ex_rt rfl rfl ⟨rfl, rfl⟩
  | some q =>
    have hq := aO_le hC e
    have hvq := hv q e
    have hb := b2_lt hC.row.lt q
    by_cases h1 : a < b2 B q
    · refine Ex_mv rfl rfl ?_; refine Ex_mv rfl rfl ?_; refine Ex_mv rfl rfl ?_; refine Ex_invV rfl (by rfl) (by rfl) (by assumption) (by rfl) (c_CF_attributesOf hC hk hj) ?_
      rw [e]
      simp only [oI, Nat.zero_add]
      refine Ex_mv rfl rfl ?_; refine Ex_mv rfl rfl ?_; refine Ex_mv rfl rfl ?_; refine Ex_mv rfl rfl ?_; refine Ex_iff (nI_nm1 (by omega)) ?_; refine Ex_mv rfl rfl ?_; refine Ex_mv rfl rfl ?_; refine Ex_lt0 (by omega) ?_; refine Ex_mv rfl rfl ?_; refine Ex_mv rfl rfl ?_; refine Ex_getf rfl (by assumption) rfl ?_; refine Ex_mv rfl rfl ?_; refine Ex_invV rfl (by rfl) (by rfl) (by assumption) (by rfl) (c_RW_two hC.row (by omega)) ?_; refine Ex_mv rfl rfl ?_; refine Ex_ift (nI_lt h1 (by omega)) ?_; refine Ex_mv rfl rfl ?_; refine Ex_mv rfl rfl ?_; (first | refine Ex_addN rfl ?_ | refine Ex_mv rfl rfl ?_); refine Ex_mv rfl rfl ?_; refine Ex_mv rfl rfl ?_; refine Ex_mv rfl rfl ?_
      refine Ex_mono (CF_attributeAt_loop hC ha a 0 (q + 2) (by omega) hvq.1 (fun i hi => hvq.2 i (by omega))) ?_
      rintro v h' ⟨rfl, rfl⟩
      simp [aT, h1, oI]
    · refine Ex_mv rfl rfl ?_; refine Ex_mv rfl rfl ?_; refine Ex_mv rfl rfl ?_; refine Ex_invV rfl (by rfl) (by rfl) (by assumption) (by rfl) (c_CF_attributesOf hC hk hj) ?_
      rw [e]
      simp only [oI, Nat.zero_add]
      refine Ex_mv rfl rfl ?_; refine Ex_mv rfl rfl ?_; refine Ex_mv rfl rfl ?_; refine Ex_mv rfl rfl ?_; refine Ex_iff (nI_nm1 (by omega)) ?_; refine Ex_mv rfl rfl ?_; refine Ex_mv rfl rfl ?_; refine Ex_lt0 (by omega) ?_; refine Ex_mv rfl rfl ?_; refine Ex_mv rfl rfl ?_; refine Ex_getf rfl (by assumption) rfl ?_; refine Ex_mv rfl rfl ?_; refine Ex_invV rfl (by rfl) (by rfl) (by assumption) (by rfl) (c_RW_two hC.row (by omega)) ?_; refine Ex_mv rfl rfl ?_; refine Ex_iff (nI_nlt (by omega) (by omega)) ?_; refine Ex_mv rfl rfl ?_
      refine Ex_rt rfl rfl ⟨?_, rfl⟩
      simp [aT, h1, oI]
theorem c_CF_attributeAtN (hC : CF h c B S n bh aa M0 M1 TL) {k : Nat} {j a : Int32} (hk : k < 3) (hj : j < 0) : Ev (prog nb sa) m_CF_attributeAt [.ref c, .int (nI k), .int j, .int a] h (some (.int (-1))) h := by
  have hc := hC.1
  refine Ev_ofL k_CF_attributeAt 7 [some (.ref c), some (.int (nI k)), some (.int j), some (.int a), none, none, none] rfl (Nat.le_of_ble_eq_true rfl) rfl ?_
  refine Ex_mv rfl rfl ?_; refine Ex_mv rfl rfl ?_; refine Ex_mv rfl rfl ?_; refine Ex_invV rfl (by rfl) (by rfl) (by assumption) (by rfl) (c_CF_attributesOfN hC hk hj) ?_; refine Ex_mv rfl rfl ?_; refine Ex_mv rfl rfl ?_; refine Ex_mv rfl rfl ?_; refine Ex_mv rfl rfl ?_; refine Ex_ift rfl ?_; refine Ex_mv rfl rfl ?_
  exact Ex_rt rfl rfl ⟨rfl, rfl⟩
theorem c_CF_attributeAtN2 (hC : CF h c B S n bh aa M0 M1 TL) {k j : Nat} {a : Int32} (hk : k < 3) (hj : j < 2 ^ 31) (ha : a < 0) : Ev (prog nb sa) m_CF_attributeAt [.ref c, .int (nI k), .int (nI j), .int a] h (some (.int (-1))) h := by
  have hc := hC.1
  refine Ev_ofL k_CF_attributeAt 7 [some (.ref c), some (.int (nI k)), some (.int (nI j)), some (.int a), none, none, none] rfl (Nat.le_of_ble_eq_true rfl) rfl ?_
  cases e : aO aa M0 M1 k j with
  | none =>
    refine Ex_mv rfl rfl ?_; refine Ex_mv rfl rfl ?_; refine Ex_mv rfl rfl ?_; refine Ex_invV rfl (by rfl) (by rfl) (by assumption) (by rfl) (c_CF_attributesOf hC hk hj) ?_
    rw [e]
    refine Ex_mv rfl rfl ?_; refine Ex_mv rfl rfl ?_; refine Ex_mv rfl rfl ?_; refine Ex_mv rfl rfl ?_; refine Ex_ift rfl ?_; refine Ex_mv rfl rfl ?_
    exact Ex_rt rfl rfl ⟨rfl, rfl⟩
  | some q =>
    have hq := aO_le hC e
    refine Ex_mv rfl rfl ?_; refine Ex_mv rfl rfl ?_; refine Ex_mv rfl rfl ?_; refine Ex_invV rfl (by rfl) (by rfl) (by assumption) (by rfl) (c_CF_attributesOf hC hk hj) ?_
    rw [e]
    simp only [oI, Nat.zero_add]
    refine Ex_mv rfl rfl ?_; refine Ex_mv rfl rfl ?_; refine Ex_mv rfl rfl ?_; refine Ex_mv rfl rfl ?_; refine Ex_iff (nI_nm1 (by omega)) ?_; refine Ex_mv rfl rfl ?_; refine Ex_mv rfl rfl ?_; refine Ex_ift ha ?_; refine Ex_mv rfl rfl ?_
    exact Ex_rt rfl rfl ⟨rfl, rfl⟩
end CFILE
