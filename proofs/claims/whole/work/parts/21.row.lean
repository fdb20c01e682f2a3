/-! Row -/
section ROW
variable {nb sa : Nat} {h : Hp}
/-- bytes as a row holds them -/
def BR (f : Nat → Int32) (B : List Nat) : Prop := B.length ≤ 400 ∧ (∀ j, j < B.length → f j = sb_b (B.getD j 0)) ∧ ∀ x ∈ B, x < 256
def b1 (B : List Nat) (k : Nat) : Nat := B.getD k 0
def b2 (B : List Nat) (k : Nat) : Nat := if k + 1 < B.length then 256 * b1 B k + b1 B (k + 1) else 0
theorem b1_lt {B : List Nat} (hB : ∀ x ∈ B, x < 256) (k : Nat) : b1 B k < 256 := by
  unfold b1
  by_cases hk : k < B.length
  · rw [List.getD_eq_getElem?_getD, List.getElem?_eq_getElem hk]; exact hB _ (List.getElem_mem hk)
  · rw [List.getD_eq_getElem?_getD, List.getElem?_eq_none (by omega)]; decide
theorem b1_out {B : List Nat} {k : Nat} (h : B.length ≤ k) : b1 B k = 0 := by
  unfold b1; rw [List.getD_eq_getElem?_getD, List.getElem?_eq_none h]; rfl
theorem b2_lt {B : List Nat} (hB : ∀ x ∈ B, x < 256) (k : Nat) : b2 B k < 65536 := by
  unfold b2
  have h1 := b1_lt hB k
  have h2 := b1_lt hB (k + 1)
  split <;> omega
theorem sb_and {c : Nat} (h : c < 256) : sb_b c &&& nI 255 = nI c := (sb_byte c h).1
theorem BR.at {f : Nat → Int32} {B : List Nat} (hB : BR f B) {k : Nat} (hk : k < B.length) : f (nI k).toNatClampNeg &&& nI 255 = nI (b1 B k) := by
  have := hB.1
  rw [nI_clamp (by omega), hB.2.1 k hk]
  exact sb_and (b1_lt hB.2.2 k)
/-- a row: its object and its cell -/
abbrev RO (h : Hp) (r a n : Nat) : Prop := h.2.2 r = some (true, .inr (4, [.ref a, .int (nI n)]))
abbrev RB (h : Hp) (a : Nat) (f : Nat → Int32) : Prop := h.2.2 a = some (true, .inl (0, 400, .inl f))
theorem c_RW_one {r a : Nat} {f : Nat → Int32} {B : List Nat} (hr : RO h r a B.length) (ha : RB h a f) (hB : BR f B) {k : Nat} (hk : k < 2 ^ 31) : Ev (prog nb sa) m_RW_one [.ref r, .int (nI k)] h (some (.int (nI (b1 B k)))) h := by
  have hl := hB.1
  refine Ev_of k_RW_one 2 rfl (Nat.le_of_ble_eq_true rfl) ?_
  refine Ex_mv rfl rfl ?_; refine Ex_mv rfl rfl ?_; refine Ex_lt0 (by omega) ?_; refine Ex_mv rfl rfl ?_; refine Ex_mv rfl rfl ?_; refine Ex_getf rfl (by assumption) rfl ?_; refine Ex_mv rfl rfl ?_; first | refine Ex_leN (by omega) (by omega) (fun b9 => ?_) (fun b9 => ?_) | refine Ex_if (fun b9 => ?_) (fun b9 => ?_)
  · refine Ex_mv rfl rfl ?_
    exact Ex_rt rfl rfl (by simp [b1_out, *])
  · refine Ex_mv rfl rfl ?_; refine Ex_mv rfl rfl ?_; refine Ex_getf rfl (by assumption) rfl ?_; refine Ex_alen rfl (by assumption) rfl ?_; refine Ex_mv rfl rfl ?_; first | refine Ex_leN (by omega) (by omega) (fun b18 => ?_) (fun b18 => ?_) | refine Ex_if (fun b18 => ?_) (fun b18 => ?_)
    · refine Ex_mv rfl rfl ?_
      exact Ex_rt rfl rfl (by simp [b1_out, *])
    · refine Ex_mv rfl rfl ?_; refine Ex_getf rfl (by assumption) rfl ?_; refine Ex_mv rfl rfl ?_; refine Ex_iald rfl (by assumption) (by first | assumption | exact vp_in_nI (by omega) (by omega)) ?_; refine Ex_mv rfl rfl ?_; refine Ex_mv rfl rfl ?_; refine Ex_mv rfl rfl ?_
      exact Ex_rt rfl rfl (by simp [b1_out, *])
end ROW
