/-! Row -/
section ROW
variable {nb sa : Nat} {h : Hp}
/-- what a row is: its object, its bytes' cell, its bytes -/
def rI (f : Nat → Int32) (n : Nat) (i : Int32) : Int32 := if 0 ≤ i ∧ i < nI n then f i.toNatClampNeg &&& 255 else 0
theorem vp_in_of2 {i : Int32} {n : Nat} (h0 : ¬ i < 0) (h1 : i < nI n) (hn : n < 2 ^ 31) : vp_in i n := by
  rw [vp_in_iff]
  have := Int32.not_lt.mp h0
  have h2 := Int32.le_iff_toInt_le.mp this
  have h3 := Int32.lt_iff_toInt_lt.mp h1
  rw [nI_toInt hn] at h3
  exact ⟨by simpa using h2, h3⟩
theorem c_RW_one {w1 w2 : Bool} {r a n : Nat} {f : Nat → Int32} {i : Int32} (hr : h.2.2 r = some (w1, .inr (4, [.ref a, .int (nI n)]))) (ha : h.2.2 a = some (w2, .inl (0, 400, .inl f))) (hn : n ≤ 400) : Ev (prog nb sa) m_RW_one [.ref r, .int i] h (some (.int (rI f n i))) h := by
  refine Ev_of k_RW_one 2 rfl (by decide) ?_
  refine Ex_mv rfl rfl ?_; refine Ex_mv rfl rfl ?_; refine Ex_if (fun b1 => ?_) (fun b1 => ?_)
  · refine Ex_mv rfl rfl ?_
    exact Ex_rt rfl rfl (by simp [rI, *])
  · refine Ex_mv rfl rfl ?_; refine Ex_mv rfl rfl ?_; refine Ex_getf rfl (by assumption) rfl ?_; refine Ex_mv rfl rfl ?_; refine Ex_if (fun b9 => ?_) (fun b9 => ?_)
    · refine Ex_mv rfl rfl ?_
      exact Ex_rt rfl rfl (by simp [rI, *])
    · refine Ex_mv rfl rfl ?_; refine Ex_mv rfl rfl ?_; refine Ex_getf rfl (by assumption) rfl ?_; refine Ex_alen rfl (by assumption) rfl ?_; refine Ex_mv rfl rfl ?_; refine Ex_if (fun b18 => ?_) (fun b18 => ?_)
      · refine Ex_mv rfl rfl ?_
        exact Ex_rt rfl rfl (by simp [rI, *])
      · refine Ex_mv rfl rfl ?_; refine Ex_getf rfl (by assumption) rfl ?_; refine Ex_mv rfl rfl ?_; refine Ex_iald rfl (by assumption) (vp_in_of2 b1 (Int32.not_le.mp b18) (by decide)) ?_; refine Ex_mv rfl rfl ?_; refine Ex_mv rfl rfl ?_; refine Ex_mv rfl rfl ?_
        exact Ex_rt rfl rfl (by simp [rI, *])
end ROW
