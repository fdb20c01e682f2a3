/-! what a file tells -/
def q_file (z : Fl) (w : Int32) : Int32 :=
  if w = 0 then nI z.1.length else if w = 1 then nI (65536 * b2 z.1 6 + b2 z.1 4) else if w = 2 then nI z.2.2.1 else if w = 3 then nI (b2 z.1 z.2.2.2.1) else if w = 4 then nI (b2 z.1 (z.2.2.2.1 + 6)) else if w = 5 then nI z.2.2.2.2.2.1.length else if w = 6 then nI z.2.2.2.2.2.2.1.length else if w = 7 then nI (b2 z.1 z.2.2.2.2.1) else -2
def q_entry (z : Fl) (i w : Int32) : Int32 := if i < 0 ∨ z.2.2.1 ≤ i.toNatClampNeg then -1 else if w = 0 then nI (tg z.1 z.2.1 z.2.2.1 i.toNatClampNeg) else if w = 1 then nI (fst1 z.1 z.2.1 z.2.2.1 i.toNatClampNeg) else if w = 2 then nI (snd1 z.1 z.2.1 z.2.2.1 i.toNatClampNeg) else if w = 3 then nI (tz z.1 z.2.1 z.2.2.1 i.toNatClampNeg) else -2
/-- an int that tells what is thrown, or a long -/
def q_num (o : Option Fl) (i : Int32) : Nat × Int64 := match o with
  | none => (1, 0)
  | some z => if i < 0 ∨ z.2.2.1 ≤ i.toNatClampNeg then (2, 0) else if tg z.1 z.2.1 z.2.2.1 i.toNatClampNeg = 0 then (3, 0) else if 3 ≤ tg z.1 z.2.1 z.2.2.1 i.toNatClampNeg ∧ tg z.1 z.2.1 z.2.2.1 i.toNatClampNeg ≤ 6 then (0, bts z.1 z.2.1 z.2.2.1 i.toNatClampNeg) else (4, 0)
def vnum (r : Nat × Int64) : Value := if r.1 = 0 then .long r.2 else .int (nI r.1)
def txF (z : Fl) (p : Nat) : List Nat := tx z.1 z.2.1 z.2.2.1 p
def shw (T : List Nat) : Int32 × List Nat := (nI T.length, T)
def q_text (z : Fl) (i w : Int32) (O : List Nat) : Int32 × List Nat :=
  if w < 0 ∨ nI 2 < w then (-2, O) else
  if i < 0 then (-30 - nI 8, O) else
  if wrg z.1 z.2.1 z.2.2.1 i.toNatClampNeg (if w = 0 then 1 else if w = 1 then 7 else 8) ≠ 0 then (-30 - nI (wrg z.1 z.2.1 z.2.2.1 i.toNatClampNeg (if w = 0 then 1 else if w = 1 then 7 else 8)), O) else shw (txF z (tof z.1 z.2.1 z.2.2.1 i.toNatClampNeg 0))
def q_clsP (z : Fl) (k : Int32) : Nat := if k < 0 then 0 else cP z.1 z.2.2.2.1 k.toNatClampNeg
def q_memA (z : Fl) (kd : Nat) (k : Int32) : Option Nat := if k < 0 then none else mO (mK z.2.2.2.2.2.1 z.2.2.2.2.2.2.1 kd) k.toNatClampNeg
def q_member (z : Fl) (kd k w : Int32) (O : List Nat) : Int32 × List Nat :=
  if kd = 2 then (if q_clsP z k = 0 then (-1, O) else if w = 0 then shw (txF z (tof z.1 z.2.1 z.2.2.1 (q_clsP z k) 0)) else (-2, O))
  else if kd = 0 ∨ kd = 1 then (match q_memA z kd.toNatClampNeg k with
    | none => (-1, O)
    | some m => if w = 0 then shw (txF z (b2 z.1 (m + 2))) else if w = 1 then shw (txF z (b2 z.1 (m + 4))) else (-2, O)) else (-2, O)
def q_told (z : Fl) (kd k w : Int32) : Int32 :=
  if kd = 0 ∨ kd = 1 then (match q_memA z kd.toNatClampNeg k with
    | none => -1
    | some m => if w = 0 then nI (b2 z.1 m) else if w = 1 then nI (b2 z.1 (m + 6)) else if w = 2 then (if kd = 0 then nI (wdT (b1 (txF z (b2 z.1 (m + 4))) 0)) else nI (sumM (txF z (b2 z.1 (m + 4)))).1) else if w = 3 then (if kd = 0 then 0 else nI (sumM (txF z (b2 z.1 (m + 4)))).2) else -2) else -2
def q_attA (z : Fl) (kd : Nat) (k a : Int32) : Option Nat := if k < 0 ∨ a < 0 then none else aT z.1 (aO z.2.2.2.2.1 z.2.2.2.2.2.1 z.2.2.2.2.2.2.1 kd k.toNatClampNeg) a.toNatClampNeg
def q_attr (z : Fl) (kd k a w : Int32) (O : List Nat) : Int32 × List Nat :=
  if kd = 0 ∨ kd = 1 ∨ kd = 2 then (match q_attA z kd.toNatClampNeg k a with
    | none => (-1, O)
    | some p => if w = 0 then shw (txF z (b2 z.1 p)) else if w = 1 then shw (sl z.1 (p + 6) (b4 z.1 (p + 2))) else (-2, O)) else (-2, O)
section TELL0
variable {B : List Nat} {x : Fs}
theorem AttG_at : ∀ d p i, AttG B d p → i < d → atP B i p + 6 + b4 B (atP B i p + 2) ≤ B.length ∧ b4 B (atP B i p + 2) < 2 ^ 31 ∧ (atP B i p, 1) ∈ attT B d p
  | 0, p, i, _, hi => by omega
  | d + 1, p, 0, h, hi => ⟨h.1, h.2.1, List.mem_cons_self⟩
  | d + 1, p, i + 1, h, hi => by
    obtain ⟨h1, h2, h3⟩ := AttG_at d _ i h.2.2 (by omega)
    exact ⟨h1, h2, List.mem_cons_of_mem _ h3⟩
theorem MemG_at {m : Nat} : ∀ d p, MemG B d p → m ∈ memL B d p → m + 8 ≤ B.length ∧ b2 B (m + 6) ≤ 6 ∧ AttG B (b2 B (m + 6)) (m + 8) ∧ ∀ y ∈ attT B (b2 B (m + 6)) (m + 8), y ∈ memT B d p
  | 0, p, _, hm => by cases hm
  | d + 1, p, h, hm => by
    obtain ⟨h1, h2, h3, h4⟩ := h
    rcases List.mem_cons.mp hm with z | z
    · subst z; exact ⟨h1, h2, h3, fun y hy => by unfold memT; simp [hy]⟩
    · obtain ⟨q1, q2, q3, q4⟩ := MemG_at d _ h4 z
      exact ⟨q1, q2, q3, fun y hy => by unfold memT; simp [q4 y hy]⟩
theorem GF.att (h : GF B x) {k j q : Nat} (e : aO x.2.2.2.1 x.2.2.2.2.1 x.2.2.2.2.2.1 k j = some q) : q + 2 ≤ B.length ∧ b2 B q ≤ 6 ∧ AttG B (b2 B q) (q + 2) ∧ ∀ y ∈ attT B (b2 B q) (q + 2), y ∈ x.2.2.2.2.2.2 := by
  obtain ⟨h1, h2, h3, h4, h5, h6, h7, h8, h9, h10, h11, h12, h13, h14, h15, h16, h17, h18, h19⟩ := h
  unfold aO at e
  split at e
  · split at e
    · simp only [Option.some.injEq] at e
      rw [← e, h16]
      exact ⟨h12, h13, h14, fun y hy => by rw [h19]; unfold bT; simp [hy]⟩
    · cases e
  · unfold mO at e
    split at e
    · next hlt =>
      simp only [Option.map_some, Option.some.injEq] at e
      have hmem : (mK x.2.2.2.2.1 x.2.2.2.2.2.1 k).getD j 0 ∈ mK x.2.2.2.2.1 x.2.2.2.2.2.1 k := by
        rw [List.getD_eq_getElem?_getD, List.getElem?_eq_getElem hlt]; exact List.getElem_mem hlt
      rw [← e]
      generalize (mK x.2.2.2.2.1 x.2.2.2.2.2.1 k).getD j 0 = m at *
      unfold mK at hmem
      split at hmem
      · rw [h17] at hmem
        obtain ⟨q1, q2, q3, q4⟩ := MemG_at _ _ h8 hmem
        exact ⟨by omega, q2, q3, fun y hy => by rw [h19]; unfold bT; simp [q4 y hy]⟩
      · rw [h18] at hmem
        obtain ⟨q1, q2, q3, q4⟩ := MemG_at _ _ h11 hmem
        exact ⟨by omega, q2, q3, fun y hy => by rw [h19]; unfold bT; simp [q4 y hy]⟩
    · cases e
theorem GG.attN (h : GG B x) {k j q a : Nat} (e : aO x.2.2.2.1 x.2.2.2.2.1 x.2.2.2.2.2.1 k j = some q) (ha : a < b2 B q) : tg B x.1 x.2.1 (b2 B (atP B a (q + 2))) = 1 ∧ atP B a (q + 2) + 6 + b4 B (atP B a (q + 2) + 2) ≤ B.length ∧ b4 B (atP B a (q + 2) + 2) < 2 ^ 31 := by
  obtain ⟨h1, h2, h3, h4⟩ := h.1.att e
  obtain ⟨g1, g2, g3⟩ := AttG_at _ _ a h3 ha
  exact ⟨(wrg0 (h.2.1 _ (h4 _ g3))).2.1, g1, g2⟩
theorem GG.attV (h : GG B x) (hl : B.length ≤ 400) {k j : Nat} : ∀ q, aO x.2.2.2.1 x.2.2.2.2.1 x.2.2.2.2.2.1 k j = some q → q + 2 ≤ 400 ∧ ∀ i, i < b2 B q → atP B i (q + 2) + 6 + b4 B (atP B i (q + 2) + 2) ≤ 400 := by
  intro q e
  obtain ⟨h1, h2, h3, h4⟩ := h.1.att e
  exact ⟨by omega, fun i hi => by have := (AttG_at _ _ i h3 hi).1; omega⟩
theorem GF.cls (h : GF B x) {k : Nat} (hk : k < b2 B (x.2.2.1 + 6) + 2) : (k = 1 ∧ b2 B (x.2.2.1 + 4) = 0) ∨ (x.2.2.1 + (if k < 2 then 2 + 2 * k else 4 + 2 * k), 7) ∈ x.2.2.2.2.2.2 := by
  obtain ⟨h1, h2, h3, h4, h5, h6, h7, h8, h9, h10, h11, h12, h13, h14, h15, h16, h17, h18, h19⟩ := h
  rw [h19]
  have hf : ∀ d p j, j < d → (p + 2 * j, 7) ∈ facT d p := by
    intro d
    induction d with
    | zero => intro p j hj; omega
    | succ d ih =>
      intro p j hj
      cases j with
      | zero => exact List.mem_cons_self
      | succ j => exact List.mem_cons_of_mem _ (by have := ih (p + 2) j (by omega); rw [show p + 2 * (j + 1) = p + 2 + 2 * j by omega]; exact this)
  by_cases k0 : k = 0
  · subst k0; right; unfold bT; simp
  · by_cases k1 : k = 1
    · subst k1
      by_cases hz : b2 B (x.2.2.1 + 4) = 0
      · exact Or.inl ⟨rfl, hz⟩
      · right; unfold bT; simp [hz]
    · right
      have := hf (b2 B (x.2.2.1 + 6)) (x.2.2.1 + 8) (k - 2) (by omega)
      rw [if_neg (by omega), show x.2.2.1 + (4 + 2 * k) = x.2.2.1 + 8 + 2 * (k - 2) by omega]
      unfold bT; simp [this]
end TELL0
section TELL
variable {nb sa : Nat} {h : Hp} {c0 : Nat} {s : Sg}
theorem c_CP_showText (hS : CPs h c0 s) {c : Nat} {z : Fl} (hC : CFs h c z.1 z.2) (h1 : c0 + 65 ≤ c) (hV : TV z.1 z.2.1 z.2.2.1) {p : Nat} (hp : p < 2 ^ 31) (ht : tg z.1 z.2.1 z.2.2.1 p = 1) : EvQ (prog nb sa) m_CP_showText [.ref c0, .ref c, .int (nI p)] h (fun v h' => v = some (.int (shw (txF z p)).1) ∧ CPs h' c0 (s.1, (shw (txF z p)).2, s.2.2) ∧ FC c0 h h') := by
  obtain ⟨kr, kt, hc⟩ := hS.cell
  obtain ⟨hT, hO⟩ := hS.rows
  have hcc := hC.1
  have hpo := (CF.po hC).1
  obtain ⟨f2, hr2, -⟩ := id hO
  have hb := hV p ht
  obtain ⟨_, h1', e1, rfl, R1, F1⟩ := c_RW_take (nb := nb) (sa := sa) hO (CF.row hC) (by omega) hb
  have hlen : (txF z p).length = tz z.1 z.2.1 z.2.2.1 p := sl_len hb
  refine EvQ_of k_CP_showText 3 [some (.ref c0), some (.ref c), some (.int (nI p))] rfl (Nat.le_of_ble_eq_true rfl) rfl ?_
  refine Ex_mv rfl rfl ?_; refine Ex_getf rfl (by assumption) rfl ?_; refine Ex_mv rfl rfl ?_; refine Ex_getf rfl (by assumption) rfl ?_; refine Ex_mv rfl rfl ?_; refine Ex_getf rfl (by assumption) rfl ?_; refine Ex_mv rfl rfl ?_; refine Ex_invV rfl (by rfl) (by rfl) (by assumption) (by rfl) (c_PL_textAt (CF.po hC) hp) ?_; refine Ex_mv rfl rfl ?_; refine Ex_getf rfl (by assumption) rfl ?_; refine Ex_mv rfl rfl ?_; refine Ex_invV rfl (by rfl) (by rfl) (by assumption) (by rfl) (c_PL_textSize (CF.po hC) hp) ?_; refine Ex_invV rfl (by rfl) (by rfl) (by assumption) (by rfl) (e1) ?_
  refine Ex_rt rfl rfl ?_
  exact ⟨by rw [shw, hlen], hS.shown R1 F1, FC.of F1 (by omega) (by omega)⟩
theorem c_CP_file (hS : CPs h c0 s) (f w : Int32) : Ev (prog nb sa) m_CP_file [.ref c0, .int f, .int w] h (some (.int (match fA s.2.2.1 f with | none => -1 | some z => q_file z w))) h := by
  obtain ⟨kr, kt, hc⟩ := hS.cell
  rcases c_CP_fileAt (nb := nb) (sa := sa) hS f with ⟨e0, e1⟩ | ⟨z, c, e0, e1, hC, h1, h2, hz⟩
  · rw [e0]
    refine Ev_ofL k_CP_file 4 [some (.ref c0), some (.int f), some (.int w), none] rfl (Nat.le_of_ble_eq_true rfl) rfl ?_
    refine Ex_mv rfl rfl ?_; refine Ex_mv rfl rfl ?_; refine Ex_invV rfl (by rfl) (by rfl) (by assumption) (by rfl) (e1) ?_; refine Ex_mv rfl rfl ?_; refine Ex_mv rfl rfl ?_; refine Ex_mv rfl rfl ?_; refine Ex_mv rfl rfl ?_
    exact Ex_rt rfl rfl ⟨rfl, rfl⟩
  · rw [e0]
    have hcc := hC.1
    have hpo := (CF.po hC).1
    have hrow : RW h (c + 2) z.1 := CF.row hC
    obtain ⟨f2, hr2, -⟩ := id hrow
    have hbh : z.2.2.2.1 ≤ 400 := hC.2.2.2.2.2.2.2.2.2.2.2.1
    have haa : z.2.2.2.2.1 ≤ 400 := hC.2.2.2.2.2.2.2.2.2.2.2.2.1
    have b6 := b2_lt hrow.lt 6
    refine Ev_ofL k_CP_file 4 [some (.ref c0), some (.int f), some (.int w), none] rfl (Nat.le_of_ble_eq_true rfl) rfl ?_
    refine Ex_mv rfl rfl ?_; refine Ex_mv rfl rfl ?_; refine Ex_invV rfl (by rfl) (by rfl) (by assumption) (by rfl) (e1) ?_; refine Ex_mv rfl rfl ?_; refine Ex_mv rfl rfl ?_; refine Ex_mv rfl rfl ?_; refine Ex_mv rfl rfl ?_; refine Ex_mv rfl rfl ?_
    (first | refine Ex_swN (k := 0) rfl (by omega) (by omega) (fun b13 => ?_) (fun b13_0 => ?_) | refine Ex_sw (fun b13 => ?_) (fun b13_0 => ?_))
    · refine Ex_mv rfl rfl ?_; refine Ex_getf rfl (by assumption) rfl ?_; refine Ex_invV rfl (by rfl) (by rfl) (by assumption) (by rfl) (c_RW_size hrow) ?_
      refine Ex_rt rfl rfl ⟨?_, rfl⟩
      rw [b13]; rfl
    (first | refine Ex_swN (k := 1) rfl (by omega) (by omega) (fun b13 => ?_) (fun b13_1 => ?_) | refine Ex_sw (fun b13 => ?_) (fun b13_1 => ?_))
    · refine Ex_mv rfl rfl ?_; refine Ex_getf rfl (by assumption) rfl ?_; refine Ex_mv rfl rfl ?_; refine Ex_invV rfl (by rfl) (by rfl) (by assumption) (by rfl) (c_RW_two hrow (by decide)) ?_; refine Ex_mv rfl rfl ?_; refine Ex_ishl rfl ?_
      rw [shl16 b6]
      refine Ex_mv rfl rfl ?_; refine Ex_getf rfl (by assumption) rfl ?_; refine Ex_mv rfl rfl ?_; refine Ex_invV rfl (by rfl) (by rfl) (by assumption) (by rfl) (c_RW_two hrow (by decide)) ?_; (first | refine Ex_addN rfl ?_ | refine Ex_mv rfl rfl ?_)
      refine Ex_rt rfl rfl ⟨?_, rfl⟩
      rw [b13, Nat.mul_comm (b2 z.1 6)]; rfl
    (first | refine Ex_swN (k := 2) rfl (by omega) (by omega) (fun b13 => ?_) (fun b13_2 => ?_) | refine Ex_sw (fun b13 => ?_) (fun b13_2 => ?_))
    · refine Ex_mv rfl rfl ?_; refine Ex_getf rfl (by assumption) rfl ?_; refine Ex_invV rfl (by rfl) (by rfl) (by assumption) (by rfl) (c_PL_places (CF.po hC)) ?_
      refine Ex_rt rfl rfl ⟨?_, rfl⟩
      rw [b13]; rfl
    (first | refine Ex_swN (k := 3) rfl (by omega) (by omega) (fun b13 => ?_) (fun b13_3 => ?_) | refine Ex_sw (fun b13 => ?_) (fun b13_3 => ?_))
    · refine Ex_mv rfl rfl ?_; refine Ex_getf rfl (by assumption) rfl ?_; refine Ex_mv rfl rfl ?_; refine Ex_getf rfl (by assumption) rfl ?_; refine Ex_invV rfl (by rfl) (by rfl) (by assumption) (by rfl) (c_RW_two hrow (by omega)) ?_
      refine Ex_rt rfl rfl ⟨?_, rfl⟩
      rw [b13]; rfl
    (first | refine Ex_swN (k := 4) rfl (by omega) (by omega) (fun b13 => ?_) (fun b13_4 => ?_) | refine Ex_sw (fun b13 => ?_) (fun b13_4 => ?_))
    · refine Ex_mv rfl rfl ?_; refine Ex_invV rfl (by rfl) (by rfl) (by assumption) (by rfl) (c_CF_faces hC) ?_
      refine Ex_rt rfl rfl ⟨?_, rfl⟩
      rw [b13]; rfl
    (first | refine Ex_swN (k := 5) rfl (by omega) (by omega) (fun b13 => ?_) (fun b13_5 => ?_) | refine Ex_sw (fun b13 => ?_) (fun b13_5 => ?_))
    · refine Ex_mv rfl rfl ?_; refine Ex_mv rfl rfl ?_; refine Ex_invV rfl (by rfl) (by rfl) (by assumption) (by rfl) (c_CF_members hC (by decide)) ?_
      refine Ex_rt rfl rfl ⟨?_, rfl⟩
      rw [b13]; rfl
    (first | refine Ex_swN (k := 6) rfl (by omega) (by omega) (fun b13 => ?_) (fun b13_6 => ?_) | refine Ex_sw (fun b13 => ?_) (fun b13_6 => ?_))
    · refine Ex_mv rfl rfl ?_; refine Ex_mv rfl rfl ?_; refine Ex_invV rfl (by rfl) (by rfl) (by assumption) (by rfl) (c_CF_members hC (by decide)) ?_
      refine Ex_rt rfl rfl ⟨?_, rfl⟩
      rw [b13]; rfl
    (first | refine Ex_swN (k := 7) rfl (by omega) (by omega) (fun b13 => ?_) (fun b13_7 => ?_) | refine Ex_sw (fun b13 => ?_) (fun b13_7 => ?_))
    · refine Ex_mv rfl rfl ?_; refine Ex_getf rfl (by assumption) rfl ?_; refine Ex_mv rfl rfl ?_; refine Ex_getf rfl (by assumption) rfl ?_; refine Ex_invV rfl (by rfl) (by rfl) (by assumption) (by rfl) (c_RW_two hrow (by omega)) ?_
      refine Ex_rt rfl rfl ⟨?_, rfl⟩
      rw [b13]; rfl
    refine Ex_sw0 ?_
    refine Ex_mv rfl rfl ?_
    refine Ex_rt rfl rfl ⟨?_, rfl⟩
    simp only [q_file]; rw [if_neg b13_0, if_neg b13_1, if_neg b13_2, if_neg b13_3, if_neg b13_4, if_neg b13_5, if_neg b13_6, if_neg b13_7]
theorem c_CP_entry (hS : CPs h c0 s) (f i w : Int32) : Ev (prog nb sa) m_CP_entry [.ref c0, .int f, .int i, .int w] h (some (.int (match fA s.2.2.1 f with | none => -1 | some z => q_entry z i w))) h := by
  obtain ⟨kr, kt, hc⟩ := hS.cell
  rcases c_CP_fileAt (nb := nb) (sa := sa) hS f with ⟨e0, e1⟩ | ⟨z, c, e0, e1, hC, h1, h2, hz⟩
  · rw [e0]
    refine Ev_ofL k_CP_entry 5 [some (.ref c0), some (.int f), some (.int i), some (.int w), none] rfl (Nat.le_of_ble_eq_true rfl) rfl ?_
    refine Ex_mv rfl rfl ?_; refine Ex_mv rfl rfl ?_; refine Ex_invV rfl (by rfl) (by rfl) (by assumption) (by rfl) (e1) ?_; refine Ex_mv rfl rfl ?_; refine Ex_mv rfl rfl ?_; refine Ex_mv rfl rfl ?_; refine Ex_mv rfl rfl ?_
    exact Ex_rt rfl rfl ⟨rfl, rfl⟩
  · rw [e0]
    have hcc := hC.1
    have hP := CF.po hC
    have hpo := hP.1
    rcases i32_cases i with hn | ⟨k, hk, rfl⟩
    · refine Ev_ofL k_CP_entry 5 [some (.ref c0), some (.int f), some (.int i), some (.int w), none] rfl (Nat.le_of_ble_eq_true rfl) rfl ?_
      refine Ex_mv rfl rfl ?_; refine Ex_mv rfl rfl ?_; refine Ex_invV rfl (by rfl) (by rfl) (by assumption) (by rfl) (e1) ?_; refine Ex_mv rfl rfl ?_; refine Ex_mv rfl rfl ?_; refine Ex_mv rfl rfl ?_; refine Ex_mv rfl rfl ?_; refine Ex_getf rfl (by assumption) rfl ?_; refine Ex_mv rfl rfl ?_; refine Ex_invV rfl (by rfl) (by rfl) (by assumption) (by rfl) (c_PL_hasN hP hn) ?_; refine Ex_mv rfl rfl ?_; refine Ex_iff (by decide) ?_; refine Ex_mv rfl rfl ?_
      refine Ex_rt rfl rfl ⟨?_, rfl⟩
      simp only [q_entry]; rw [if_pos (Or.inl hn)]
    · by_cases hkn : k < z.2.2.1
      · have hq : ¬ (nI k < 0 ∨ z.2.2.1 ≤ (nI k).toNatClampNeg) := by rw [nI_clamp hk]; exact fun q => q.elim (nI_pos hk) (fun y => by omega)
        have ek : (nI k).toNatClampNeg = k := nI_clamp hk
        refine Ev_ofL k_CP_entry 5 [some (.ref c0), some (.int f), some (.int (nI k)), some (.int w), none] rfl (Nat.le_of_ble_eq_true rfl) rfl ?_
        refine Ex_mv rfl rfl ?_; refine Ex_mv rfl rfl ?_; refine Ex_invV rfl (by rfl) (by rfl) (by assumption) (by rfl) (e1) ?_; refine Ex_mv rfl rfl ?_; refine Ex_mv rfl rfl ?_; refine Ex_mv rfl rfl ?_; refine Ex_mv rfl rfl ?_; refine Ex_getf rfl (by assumption) rfl ?_; refine Ex_mv rfl rfl ?_; refine Ex_invV rfl (by rfl) (by rfl) (by assumption) (by rfl) (c_PL_has hP hk) ?_
        rw [if_pos hkn]
        refine Ex_mv rfl rfl ?_; refine Ex_ift (by decide) ?_; refine Ex_mv rfl rfl ?_; refine Ex_mv rfl rfl ?_
        (first | refine Ex_swN (k := 0) rfl (by omega) (by omega) (fun b27 => ?_) (fun b27_0 => ?_) | refine Ex_sw (fun b27 => ?_) (fun b27_0 => ?_))
        · refine Ex_mv rfl rfl ?_; refine Ex_getf rfl (by assumption) rfl ?_; refine Ex_mv rfl rfl ?_; refine Ex_invV rfl (by rfl) (by rfl) (by assumption) (by rfl) (c_PL_tag hP hk) ?_
          refine Ex_rt rfl rfl ⟨?_, rfl⟩
          simp only [q_entry]; rw [if_neg hq, b27, ek]; rfl
        (first | refine Ex_swN (k := 1) rfl (by omega) (by omega) (fun b27 => ?_) (fun b27_1 => ?_) | refine Ex_sw (fun b27 => ?_) (fun b27_1 => ?_))
        · refine Ex_mv rfl rfl ?_; refine Ex_getf rfl (by assumption) rfl ?_; refine Ex_mv rfl rfl ?_; refine Ex_invV rfl (by rfl) (by rfl) (by assumption) (by rfl) (c_PL_first hP hk) ?_
          refine Ex_rt rfl rfl ⟨?_, rfl⟩
          simp only [q_entry]; rw [if_neg hq, b27, ek]; rfl
        (first | refine Ex_swN (k := 2) rfl (by omega) (by omega) (fun b27 => ?_) (fun b27_2 => ?_) | refine Ex_sw (fun b27 => ?_) (fun b27_2 => ?_))
        · refine Ex_mv rfl rfl ?_; refine Ex_getf rfl (by assumption) rfl ?_; refine Ex_mv rfl rfl ?_; refine Ex_invV rfl (by rfl) (by rfl) (by assumption) (by rfl) (c_PL_second hP hk) ?_
          refine Ex_rt rfl rfl ⟨?_, rfl⟩
          simp only [q_entry]; rw [if_neg hq, b27, ek]; rfl
        (first | refine Ex_swN (k := 3) rfl (by omega) (by omega) (fun b27 => ?_) (fun b27_3 => ?_) | refine Ex_sw (fun b27 => ?_) (fun b27_3 => ?_))
        · refine Ex_mv rfl rfl ?_; refine Ex_getf rfl (by assumption) rfl ?_; refine Ex_mv rfl rfl ?_; refine Ex_invV rfl (by rfl) (by rfl) (by assumption) (by rfl) (c_PL_textSize hP hk) ?_
          refine Ex_rt rfl rfl ⟨?_, rfl⟩
          simp only [q_entry]; rw [if_neg hq, b27, ek]; rfl
        refine Ex_sw0 ?_
        refine Ex_mv rfl rfl ?_
        refine Ex_rt rfl rfl ⟨?_, rfl⟩
        simp only [q_entry]; rw [if_neg hq, if_neg b27_0, if_neg b27_1, if_neg b27_2, if_neg b27_3]
      · refine Ev_ofL k_CP_entry 5 [some (.ref c0), some (.int f), some (.int (nI k)), some (.int w), none] rfl (Nat.le_of_ble_eq_true rfl) rfl ?_
        refine Ex_mv rfl rfl ?_; refine Ex_mv rfl rfl ?_; refine Ex_invV rfl (by rfl) (by rfl) (by assumption) (by rfl) (e1) ?_; refine Ex_mv rfl rfl ?_; refine Ex_mv rfl rfl ?_; refine Ex_mv rfl rfl ?_; refine Ex_mv rfl rfl ?_; refine Ex_getf rfl (by assumption) rfl ?_; refine Ex_mv rfl rfl ?_; refine Ex_invV rfl (by rfl) (by rfl) (by assumption) (by rfl) (c_PL_has hP hk) ?_
        rw [if_neg hkn]
        refine Ex_mv rfl rfl ?_; refine Ex_iff (by decide) ?_; refine Ex_mv rfl rfl ?_
        refine Ex_rt rfl rfl ⟨?_, rfl⟩
        simp only [q_entry]; rw [if_pos (Or.inr (by rw [nI_clamp hk]; omega))]
theorem FC.thr {sl : Nat} (h1 : sl ≤ 8) : FC c0 h (hskip h 1 sl) := ⟨by simp [hskip], by simp [hskip], by simp [hskip], by simp [hskip]; omega, fun _ _ _ => rfl⟩
theorem Ex_thr {P : Pg} {cd : Cd} {pc : Nat} {ls : Ls} {kd : Int32} {sl : Nat} {R : Option Value → Hp → Prop} (hc : cd pc = some (o_thx kd sl)) (hR : R (some (.int kd)) (hskip h 1 sl)) : Ex P cd pc ls [] h R := by
  refine ⟨1, _, _, ?_, hR⟩
  have hl : hle h (hskip h 1 sl) = true := by simp [hle, hskip]
  rw [xexec_eq, hc]
  simp only [o_thx, hl, cond_true]
theorem c_CP_number (hS : CPs h c0 s) (f i : Int32) : EvQ (prog nb sa) m_CP_number [.ref c0, .int f, .int i] h (fun v h' => v = some (vnum (q_num (fA s.2.2.1 f) i)) ∧ CPs h' c0 s ∧ FC c0 h h') := by
  obtain ⟨kr, kt, hc⟩ := hS.cell
  have hth : ∀ sl, sl ≤ 8 → CPs (hskip h 1 sl) c0 s ∧ FC c0 h (hskip h 1 sl) := fun sl hs => ⟨hS.eq (fun _ _ _ => rfl), FC.thr hs⟩
  rcases c_CP_fileAt (nb := nb) (sa := sa) hS f with ⟨e0, e1⟩ | ⟨z, c, e0, e1, hC, h1, h2, hz⟩
  · rw [e0]
    refine EvQ_of k_CP_number 5 [some (.ref c0), some (.int f), some (.int i), none, none] rfl (Nat.le_of_ble_eq_true rfl) rfl ?_
    refine Ex_mv rfl rfl ?_; refine Ex_mv rfl rfl ?_; refine Ex_invV rfl (by rfl) (by rfl) (by assumption) (by rfl) (e1) ?_; refine Ex_mv rfl rfl ?_; refine Ex_mv rfl rfl ?_; refine Ex_mv rfl rfl ?_
    exact Ex_thr rfl ⟨rfl, hth 6 (by decide)⟩
  · rw [e0]
    have hcc := hC.1
    have hP := CF.po hC
    have hpo := hP.1
    rcases i32_cases i with hn | ⟨k, hk, rfl⟩
    · refine EvQ_of k_CP_number 5 [some (.ref c0), some (.int f), some (.int i), none, none] rfl (Nat.le_of_ble_eq_true rfl) rfl ?_
      refine Ex_mv rfl rfl ?_; refine Ex_mv rfl rfl ?_; refine Ex_invV rfl (by rfl) (by rfl) (by assumption) (by rfl) (e1) ?_; refine Ex_mv rfl rfl ?_; refine Ex_mv rfl rfl ?_; refine Ex_mv rfl rfl ?_; refine Ex_mv rfl rfl ?_; refine Ex_getf rfl (by assumption) rfl ?_; refine Ex_mv rfl rfl ?_; refine Ex_invV rfl (by rfl) (by rfl) (by assumption) (by rfl) (c_PL_hasN hP hn) ?_; refine Ex_mv rfl rfl ?_; refine Ex_iff (by decide) ?_
      exact Ex_thr rfl ⟨by simp only [q_num]; rw [if_pos (Or.inl hn)]; rfl, hth 6 (by decide)⟩
    · have ek : (nI k).toNatClampNeg = k := nI_clamp hk
      have ht := tg_lt (S := z.2.1) (n := z.2.2.1) hP.row.lt k
      by_cases hkn : k < z.2.2.1
      · have hq : ¬ (nI k < 0 ∨ z.2.2.1 ≤ (nI k).toNatClampNeg) := by rw [nI_clamp hk]; exact fun q => q.elim (nI_pos hk) (fun y => by omega)
        simp only [q_num]
        rw [if_neg hq, ek]
        by_cases t0 : tg z.1 z.2.1 z.2.2.1 k = 0
        · refine EvQ_of k_CP_number 5 [some (.ref c0), some (.int f), some (.int (nI k)), none, none] rfl (Nat.le_of_ble_eq_true rfl) rfl ?_
          refine Ex_mv rfl rfl ?_; refine Ex_mv rfl rfl ?_; refine Ex_invV rfl (by rfl) (by rfl) (by assumption) (by rfl) (e1) ?_; refine Ex_mv rfl rfl ?_; refine Ex_mv rfl rfl ?_; refine Ex_mv rfl rfl ?_; refine Ex_mv rfl rfl ?_; refine Ex_getf rfl (by assumption) rfl ?_; refine Ex_mv rfl rfl ?_; refine Ex_invV rfl (by rfl) (by rfl) (by assumption) (by rfl) (c_PL_has hP hk) ?_
          rw [if_pos hkn]
          refine Ex_mv rfl rfl ?_; refine Ex_ift (by decide) ?_; refine Ex_mv rfl rfl ?_; refine Ex_getf rfl (by assumption) rfl ?_; refine Ex_mv rfl rfl ?_; refine Ex_invV rfl (by rfl) (by rfl) (by assumption) (by rfl) (c_PL_tag hP hk) ?_; refine Ex_mv rfl rfl ?_; refine Ex_mv rfl rfl ?_; refine Ex_mv rfl rfl ?_; refine Ex_iff (by rw [t0]; decide) ?_
          exact Ex_thr rfl ⟨by rw [if_pos t0]; rfl, hth 8 (by decide)⟩
        · rw [if_neg t0]
          by_cases t3 : 3 ≤ tg z.1 z.2.1 z.2.2.1 k ∧ tg z.1 z.2.1 z.2.2.1 k ≤ 6
          · rw [if_pos t3]
            refine EvQ_of k_CP_number 5 [some (.ref c0), some (.int f), some (.int (nI k)), none, none] rfl (Nat.le_of_ble_eq_true rfl) rfl ?_
            refine Ex_mv rfl rfl ?_; refine Ex_mv rfl rfl ?_; refine Ex_invV rfl (by rfl) (by rfl) (by assumption) (by rfl) (e1) ?_; refine Ex_mv rfl rfl ?_; refine Ex_mv rfl rfl ?_; refine Ex_mv rfl rfl ?_; refine Ex_mv rfl rfl ?_; refine Ex_getf rfl (by assumption) rfl ?_; refine Ex_mv rfl rfl ?_; refine Ex_invV rfl (by rfl) (by rfl) (by assumption) (by rfl) (c_PL_has hP hk) ?_
            rw [if_pos hkn]
            refine Ex_mv rfl rfl ?_; refine Ex_ift (by decide) ?_; refine Ex_mv rfl rfl ?_; refine Ex_getf rfl (by assumption) rfl ?_; refine Ex_mv rfl rfl ?_; refine Ex_invV rfl (by rfl) (by rfl) (by assumption) (by rfl) (c_PL_tag hP hk) ?_; refine Ex_mv rfl rfl ?_; refine Ex_mv rfl rfl ?_; refine Ex_mv rfl rfl ?_; refine Ex_ift (nI_nz t0 (by omega)) ?_; refine Ex_mv rfl rfl ?_; refine Ex_inv rfl (by rfl) (by rfl) (by rfl) (c_CP_isNumber (by omega)) ?_
            rw [if_pos t3]
            refine Ex_mv rfl rfl ?_; refine Ex_ift (by decide) ?_; refine Ex_mv rfl rfl ?_; refine Ex_getf rfl (by assumption) rfl ?_; refine Ex_mv rfl rfl ?_; refine Ex_invV rfl (by rfl) (by rfl) (by assumption) (by rfl) (c_PL_bits hP hk) ?_
            refine Ex_rt rfl rfl ?_
            exact ⟨rfl, hS, FC.rf⟩
          · rw [if_neg t3]
            refine EvQ_of k_CP_number 5 [some (.ref c0), some (.int f), some (.int (nI k)), none, none] rfl (Nat.le_of_ble_eq_true rfl) rfl ?_
            refine Ex_mv rfl rfl ?_; refine Ex_mv rfl rfl ?_; refine Ex_invV rfl (by rfl) (by rfl) (by assumption) (by rfl) (e1) ?_; refine Ex_mv rfl rfl ?_; refine Ex_mv rfl rfl ?_; refine Ex_mv rfl rfl ?_; refine Ex_mv rfl rfl ?_; refine Ex_getf rfl (by assumption) rfl ?_; refine Ex_mv rfl rfl ?_; refine Ex_invV rfl (by rfl) (by rfl) (by assumption) (by rfl) (c_PL_has hP hk) ?_
            rw [if_pos hkn]
            refine Ex_mv rfl rfl ?_; refine Ex_ift (by decide) ?_; refine Ex_mv rfl rfl ?_; refine Ex_getf rfl (by assumption) rfl ?_; refine Ex_mv rfl rfl ?_; refine Ex_invV rfl (by rfl) (by rfl) (by assumption) (by rfl) (c_PL_tag hP hk) ?_; refine Ex_mv rfl rfl ?_; refine Ex_mv rfl rfl ?_; refine Ex_mv rfl rfl ?_; refine Ex_ift (nI_nz t0 (by omega)) ?_; refine Ex_mv rfl rfl ?_; refine Ex_inv rfl (by rfl) (by rfl) (by rfl) (c_CP_isNumber (by omega)) ?_
            rw [if_neg t3]
            refine Ex_mv rfl rfl ?_; refine Ex_iff (by decide) ?_
            exact Ex_thr rfl ⟨rfl, hth 6 (by decide)⟩
      · refine EvQ_of k_CP_number 5 [some (.ref c0), some (.int f), some (.int (nI k)), none, none] rfl (Nat.le_of_ble_eq_true rfl) rfl ?_
        refine Ex_mv rfl rfl ?_; refine Ex_mv rfl rfl ?_; refine Ex_invV rfl (by rfl) (by rfl) (by assumption) (by rfl) (e1) ?_; refine Ex_mv rfl rfl ?_; refine Ex_mv rfl rfl ?_; refine Ex_mv rfl rfl ?_; refine Ex_mv rfl rfl ?_; refine Ex_getf rfl (by assumption) rfl ?_; refine Ex_mv rfl rfl ?_; refine Ex_invV rfl (by rfl) (by rfl) (by assumption) (by rfl) (c_PL_has hP hk) ?_
        rw [if_neg hkn]
        refine Ex_mv rfl rfl ?_; refine Ex_iff (by decide) ?_
        exact Ex_thr rfl ⟨by simp only [q_num]; rw [if_pos (Or.inr (by rw [nI_clamp hk]; omega))]; rfl, hth 6 (by decide)⟩
end TELL
