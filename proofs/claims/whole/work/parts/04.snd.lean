/-! what a step says of the machine -/
theorem lget_lset : ∀ (L : Ls) (i : Nat) (v : Value) (j : Nat) (w : Value), lget (lset L i v) j = some w → (j = i ∧ w = v) ∨ (j ≠ i ∧ lget L j = some w ∧ ¬ (j + 1 = i ∧ w.category = 2))
  | [], i, v, j, w, h => by simp [lset, lget] at h
  | x :: r, 0, v, 0, w, h => by simp [lset, lget] at h; exact Or.inl ⟨rfl, h.symm⟩
  | x :: r, 0, v, j + 1, w, h => by simp [lset, lget] at h; exact Or.inr ⟨by omega, by simpa [lget] using h, by omega⟩
  | x :: r, 1, v, 0, w, h => by
    simp only [lset, lget] at h
    refine Or.inr ⟨by omega, ?_, ?_⟩
    · cases x with
      | none => simp [lclr] at h
      | some y => cases y <;> simp [lclr] at h <;> simp [lget, h]
    · rintro ⟨-, hc⟩
      cases x with
      | none => simp [lclr] at h
      | some y => cases y <;> simp [lclr] at h <;> subst h <;> simp [Value.category] at hc
  | x :: r, 1, v, j + 1, w, h => by
    simp only [lset, lget] at h
    rcases lget_lset r 0 v j w h with ⟨rfl, rfl⟩ | ⟨h1, h2, h3⟩
    · exact Or.inl ⟨rfl, rfl⟩
    · exact Or.inr ⟨by omega, by simpa [lget] using h2, by omega⟩
  | x :: r, n + 2, v, 0, w, h => by
    simp only [lset, lget] at h
    exact Or.inr ⟨by omega, by simpa [lget] using h, by omega⟩
  | x :: r, n + 2, v, j + 1, w, h => by
    simp only [lset, lget] at h
    rcases lget_lset r (n + 1) v j w h with ⟨rfl, rfl⟩ | ⟨h1, h2, h3⟩
    · exact Or.inl ⟨rfl, rfl⟩
    · exact Or.inr ⟨by omega, by simpa [lget] using h2, fun q => h3 ⟨by omega, q.2⟩⟩
theorem lget_lset2 : ∀ (L : Ls) (i : Nat) (v : Value) (j : Nat) (w : Value), lget (lset2 L i v) j = some w → (j = i ∧ w = v) ∨ (j ≠ i ∧ j ≠ i + 1 ∧ lget L j = some w ∧ ¬ (j + 1 = i ∧ w.category = 2))
  | [], i, v, j, w, h => by simp [lset2, lget] at h
  | [x], 0, v, 0, w, h => by simp [lset2, lget] at h; exact Or.inl ⟨rfl, h.symm⟩
  | [x], 0, v, j + 1, w, h => by simp [lset2, lget] at h
  | x :: y :: r, 0, v, 0, w, h => by simp [lset2, lget] at h; exact Or.inl ⟨rfl, h.symm⟩
  | x :: y :: r, 0, v, 1, w, h => by simp [lset2, lget] at h
  | x :: y :: r, 0, v, j + 2, w, h => by simp [lset2, lget] at h; exact Or.inr ⟨by omega, by omega, by simpa [lget] using h, by omega⟩
  | x :: r, 1, v, 0, w, h => by
    simp only [lset2, lget] at h
    refine Or.inr ⟨by omega, by omega, ?_, ?_⟩
    · cases x with
      | none => simp [lclr] at h
      | some y => cases y <;> simp [lclr] at h <;> simp [lget, h]
    · rintro ⟨-, hc⟩
      cases x with
      | none => simp [lclr] at h
      | some y => cases y <;> simp [lclr] at h <;> subst h <;> simp [Value.category] at hc
  | x :: r, 1, v, j + 1, w, h => by
    simp only [lset2, lget] at h
    rcases lget_lset2 r 0 v j w h with ⟨rfl, rfl⟩ | ⟨h1, h2, h3, h4⟩
    · exact Or.inl ⟨rfl, rfl⟩
    · exact Or.inr ⟨by omega, by omega, by simpa [lget] using h3, by omega⟩
  | x :: r, n + 2, v, 0, w, h => by
    simp only [lset2, lget] at h
    exact Or.inr ⟨by omega, by omega, by simpa [lget] using h, by omega⟩
  | x :: r, n + 2, v, j + 1, w, h => by
    simp only [lset2, lget] at h
    rcases lget_lset2 r (n + 1) v j w h with ⟨rfl, rfl⟩ | ⟨h1, h2, h3, h4⟩
    · exact Or.inl ⟨rfl, rfl⟩
    · exact Or.inr ⟨by omega, by omega, by simpa [lget] using h3, fun q => h4 ⟨by omega, q.2⟩⟩
theorem lset_len : ∀ (L : Ls) (i : Nat) (v : Value), (lset L i v).length = L.length
  | [], _, _ => rfl
  | _ :: r, 0, v => rfl
  | x :: r, 1, v => by simp [lset, lset_len r 0 v]
  | x :: r, n + 2, v => by simp [lset, lset_len r (n + 1) v]
theorem lset2_len : ∀ (L : Ls) (i : Nat) (v : Value), (lset2 L i v).length = L.length
  | [], _, _ => rfl
  | [_], 0, v => rfl
  | _ :: _ :: r, 0, v => rfl
  | x :: r, 1, v => by simp [lset2, lset2_len r 0 v]
  | x :: r, n + 2, v => by simp [lset2, lset2_len r (n + 1) v]
def toA : Nat → Ls → List (Nat × Value)
  | _, [] => []
  | i, none :: r => toA (i + 1) r
  | i, some v :: r => (i, v) :: toA (i + 1) r
theorem toA_mem : ∀ (L : Ls) (i : Nat) (q : Nat × Value), q ∈ toA i L ↔ ∃ k, q.1 = i + k ∧ lget L k = some q.2
  | [], i, q => by simp [toA, lget]
  | none :: r, i, q => by
    rw [toA, toA_mem r (i + 1) q]
    constructor
    · rintro ⟨k, h1, h2⟩; exact ⟨k + 1, by omega, by simpa [lget] using h2⟩
    · rintro ⟨k, h1, h2⟩
      cases k with
      | zero => simp [lget] at h2
      | succ k => exact ⟨k, by omega, by simpa [lget] using h2⟩
  | some v :: r, i, q => by
    rw [toA, List.mem_cons, toA_mem r (i + 1) q]
    constructor
    · rintro (rfl | ⟨k, h1, h2⟩)
      · exact ⟨0, by simp, by simp [lget]⟩
      · exact ⟨k + 1, by omega, by simpa [lget] using h2⟩
    · rintro ⟨k, h1, h2⟩
      cases k with
      | zero => left; simp [lget] at h2; exact Prod.ext (by simpa using h1) h2.symm
      | succ k => exact Or.inr ⟨k, by omega, by simpa [lget] using h2⟩
/-- the locals as the abstract ones say -/
def LV (ls : Array Slot) (nL : Nat) (L : Ls) : Prop := lv_has ls nL (toA 0 L) ∧ L.length = nL
theorem LV.get {ls : Array Slot} {nL : Nat} {L : Ls} (h : LV ls nL L) {i : Nat} {v : Value} (e : lget L i = some v) : ls[i]? = some (.val v) := h.1.2.2 (i, v) ((toA_mem L 0 (i, v)).mpr ⟨i, by simp, e⟩)
theorem lget_lt : ∀ (L : Ls) (i : Nat) (v : Value), lget L i = some v → i < L.length
  | [], i, v, h => by simp [lget] at h
  | x :: r, 0, v, h => by simp
  | x :: r, i + 1, v, h => by simp only [lget] at h; have := lget_lt r i v h; simp; omega
theorem LV.of1 {ls : Array Slot} {nL i : Nat} {L : Ls} {v : Value} (hn : L.length = nL) (h : lv_has ls nL ((i, v) :: (toA 0 L).filter (fun q => !(q.1 == i) && !(q.1 + 1 == i && q.2.category == 2)))) : LV ls nL (lset L i v) := by
  refine ⟨⟨h.1, h.2.1, fun q hq => h.2.2 q ?_⟩, by rw [lset_len]; exact hn⟩
  obtain ⟨k, h1, h2⟩ := (toA_mem _ 0 q).mp hq
  rcases lget_lset L i v k q.2 h2 with ⟨e1, e2⟩ | ⟨e1, e2, e3⟩
  · rw [show q = (i, v) from Prod.ext (by simp [h1, e1]) e2]; exact List.mem_cons_self
  · refine List.mem_cons_of_mem _ (List.mem_filter.mpr ⟨(toA_mem L 0 q).mpr ⟨k, h1, e2⟩, ?_⟩)
    have hk : q.1 = k := by omega
    simp only [hk, Bool.and_eq_true, Bool.not_eq_true', beq_eq_false_iff_ne, Bool.and_eq_false_iff]
    refine ⟨e1, ?_⟩
    by_cases hz : k + 1 = i
    · exact Or.inr (fun hc => e3 ⟨hz, hc⟩)
    · exact Or.inl hz
theorem LV.of2 {ls : Array Slot} {nL i : Nat} {L : Ls} {v : Value} (hn : L.length = nL) (h : lv_has ls nL ((i, v) :: (toA 0 L).filter (fun q => !(q.1 == i) && (!(q.1 == i + 1) && !(q.1 + 1 == i && q.2.category == 2))))) : LV ls nL (lset2 L i v) := by
  refine ⟨⟨h.1, h.2.1, fun q hq => h.2.2 q ?_⟩, by rw [lset2_len]; exact hn⟩
  obtain ⟨k, h1, h2⟩ := (toA_mem _ 0 q).mp hq
  rcases lget_lset2 L i v k q.2 h2 with ⟨e1, e2⟩ | ⟨e1, e1', e2, e3⟩
  · rw [show q = (i, v) from Prod.ext (by simp [h1, e1]) e2]; exact List.mem_cons_self
  · refine List.mem_cons_of_mem _ (List.mem_filter.mpr ⟨(toA_mem L 0 q).mpr ⟨k, h1, e2⟩, ?_⟩)
    have hk : q.1 = k := by omega
    simp only [hk, Bool.and_eq_true, Bool.not_eq_true', beq_eq_false_iff_ne, Bool.and_eq_false_iff]
    refine ⟨e1, e1', ?_⟩
    by_cases hz : k + 1 = i
    · exact Or.inr (fun hc => e3 ⟨hz, hc⟩)
    · exact Or.inl hz
theorem lent_args : ∀ (vs : List Value) (i k : Nat) (v : Value), lget (lent vs) k = some v → (i + k, v) ∈ lv_args i vs
  | [], i, k, v, h => by simp [lent, lget] at h
  | w :: r, i, k, v, h => by
    by_cases hc : w.category = 2
    · have e : lent (w :: r) = some w :: none :: lent r := by cases w <;> simp [Value.category] at hc <;> rfl
      rw [e] at h
      match k, h with
      | 0, h => simp [lget] at h; subst h; simp [lv_args]
      | 1, h => simp [lget] at h
      | k + 2, h =>
        simp only [lget] at h
        have := lent_args r (i + 2) k v h
        simp only [lv_args, hc, if_true]
        exact List.mem_cons_of_mem _ (by rw [show i + (k + 2) = i + 2 + k by omega]; exact this)
    · have e : lent (w :: r) = some w :: lent r := by cases w <;> simp [Value.category] at hc <;> rfl
      rw [e] at h
      match k, h with
      | 0, h => simp [lget] at h; subst h; simp [lv_args]
      | k + 1, h =>
        simp only [lget] at h
        have := lent_args r (i + 1) k v h
        simp only [lv_args, hc, if_false]
        exact List.mem_cons_of_mem _ (by rw [show i + (k + 1) = i + 1 + k by omega]; exact this)
theorem lpad_get : ∀ (n : Nat) (L : Ls) (k : Nat) (v : Value), lget (lpad n L) k = some v → lget L k = some v
  | 0, L, k, v, h => h
  | n + 1, [], 0, v, h => by simp [lpad, lget] at h
  | n + 1, [], k + 1, v, h => by simp only [lpad, lget] at h; have := lpad_get n [] k v h; simp [lget] at this
  | n + 1, x :: r, 0, v, h => by simpa [lpad, lget] using h
  | n + 1, x :: r, k + 1, v, h => by simp only [lpad, lget] at h ⊢; exact lpad_get n r k v h
theorem lpad_len : ∀ (n : Nat) (L : Ls), L.length ≤ n → (lpad n L).length = n
  | 0, [], _ => rfl
  | 0, _ :: _, h => by simp at h
  | n + 1, [], _ => by simp [lpad, lpad_len n [] (by simp)]
  | n + 1, x :: r, h => by simp [lpad]; exact lpad_len n r (by simpa using h)
theorem lent_len : ∀ (vs : List Value), (lent vs).length = (lg_sl vs).length
  | [] => rfl
  | w :: r => by
    have ih := lent_len r
    cases w <;> simp [lent, lg_sl, Value.category] at ih ⊢ <;> omega
theorem LV.entry (vs : List Value) {n : Nat} (h : (lent vs).length ≤ n) : LV ((lg_sl vs ++ List.replicate (n - (lg_sl vs).length) Slot.unset).toArray) n (lpad n (lent vs)) := by
  have h1 := lv_entry vs (n := n) (by rw [← lent_len]; exact h)
  refine ⟨⟨h1.1, h1.2.1, fun q hq => ?_⟩, lpad_len n _ h⟩
  obtain ⟨k, e1, e2⟩ := (toA_mem _ 0 q).mp hq
  have := lent_args vs 0 k q.2 (lpad_get _ _ _ _ e2)
  exact h1.2.2 q (by rw [show q = (0 + k, q.2) from Prod.ext e1 rfl]; exact this)
/-! the heap as the abstract one says; what is known of the tables -/
/-- base; the cells of NO_BYTES and of the text; classes, kinds of arrays -/
abbrev XE : Type := Nat × Nat × Nat × va_G × (Nat → ClassId)
def tysOf (dA : Nat → ClassId) : List (ClassId × FieldType) := [(dA 0, .byte), (dA 1, .int), (dA 2, .long), (dA 3, .array .int), (dA 4, .array .byte), (dA 5, .object RX0), (dA 6, .object RX1), (dA 7, .object RX9), (dA 8, .object RX11), (dA 9, .array (.object RX11)), (dA 10, .object RX10)]
def cvE (dA : Nat → ClassId) (c : Ce) : va_E := match c with
  | .inl (k, x) => .inl (dA k, x)
  | .inr o => .inr o
/-- an array of bytes holds bytes -/
def cok (c : Ce) : Prop := match c with
  | .inl (k, _, .inl f) => k = 0 → ∀ j, fits .byte (.int (f j)) = true
  | _ => True
/-- an array that was there before: what it holds is known, not its monitor; its type's number is told by its address -/
def old? (w : Bool) (c : Ce) : Option ((Nat × Nat × (Nat → Int32)) ⊕ (Nat × List Value)) := match w, c with
  | false, .inl (k, n, .inl f) => some (.inl (k, n, f))
  | false, .inr o => some (.inr o)
  | _, _ => none
def PaI (E : XE) (a : Nat) (q : Nat × Nat × (Nat → Int32)) (H : Heap) : Prop := ∃ cell : Cell, H[a]? = some cell ∧ cell.cls = E.2.2.2.2 (20 + 2 * a + q.1) ∧ q.2.1 ≤ cell.slots.size ∧ cell.slots.size.toInt32 = Int32.ofNat q.2.1 ∧ (∀ j, j < q.2.1 → cell.slots[j]? = some (.int (q.2.2 j))) ∧ (∀ k, cell.vm ≠ .statics k) ∧ cell.vm ≠ .unknown ∧ q.1 < 2
def PaB (E : XE) (a : Nat) (o : Nat × List Value) (H : Heap) : Prop := ∃ r : vw_C, classes[o.1]? = some r ∧ ∃ cell : Cell, H[a]? = some cell ∧ cell.cls = E.2.2.2.1.1 o.1 ∧ cell.vm.isStatics = false ∧ cell.vm ≠ .unknown ∧ ∀ k, k < r.2.2 → cell.slots[E.2.2.2.1.2 o.1 k]? = some (vp_V o.2 k)
def PaO (E : XE) (a : Nat) (q : (Nat × Nat × (Nat → Int32)) ⊕ (Nat × List Value)) (H : Heap) : Prop := match q with
  | .inl q => PaI E a q H
  | .inr o => PaB E a o H
theorem PaO.kept {E : XE} {a : Nat} {q : (Nat × Nat × (Nat → Int32)) ⊕ (Nat × List Value)} {H H1 : Heap} (h : PaO E a q H) (hq : H1[a]? = H[a]?) : PaO E a q H1 := by
  cases q with
  | inl q => obtain ⟨cell, h1, h2⟩ := h; exact ⟨cell, by rw [hq]; exact h1, h2⟩
  | inr o => obtain ⟨r, h0, cell, h1, h2⟩ := h; exact ⟨r, h0, cell, by rw [hq]; exact h1, h2⟩
theorem PaO.lt {E : XE} {a : Nat} {q : (Nat × Nat × (Nat → Int32)) ⊕ (Nat × List Value)} {H : Heap} (h : PaO E a q H) : a < H.size := by
  cases q with
  | inl q => obtain ⟨cell, h1, -⟩ := h; exact (Array.getElem?_eq_some_iff.mp h1).1
  | inr o => obtain ⟨r, h0, cell, h1, -⟩ := h; exact (Array.getElem?_eq_some_iff.mp h1).1
def PaA (E : XE) (a : Nat) (w : Bool) (c : Ce) (H : Heap) : Prop := match old? w c with
  | some q => PaO E a q H
  | none => va_at E.2.2.2.1 classes (a, cvE E.2.2.2.2 c) H
theorem old_t (c : Ce) : old? true c = none := rfl
theorem old_r (w : Bool) (k n : Nat) (y : (Nat → Int64) ⊕ (Nat → UInt32) ⊕ (Nat → UInt64) ⊕ (Nat → Option Nat)) : old? w (.inl (k, n, .inr y)) = none := by cases w <;> rfl
theorem PaA.of {E : XE} {a : Nat} {w : Bool} {c : Ce} {H : Heap} (ho : old? w c = none) (h : va_at E.2.2.2.1 classes (a, cvE E.2.2.2.2 c) H) : PaA E a w c H := by
  simp only [PaA, ho]; exact h
theorem PaA.to {E : XE} {a : Nat} {w : Bool} {c : Ce} {H : Heap} (ho : old? w c = none) (h : PaA E a w c H) : va_at E.2.2.2.1 classes (a, cvE E.2.2.2.2 c) H := by
  simp only [PaA, ho] at h; exact h
theorem PaA.kept {E : XE} {a : Nat} {w : Bool} {c : Ce} {H H1 : Heap} (h : PaA E a w c H) (hq : H1[a]? = H[a]?) : PaA E a w c H1 := by
  cases ho : old? w c with
  | none => exact PaA.of ho ((PaA.to ho h).kept hq)
  | some q =>
    simp only [PaA, ho] at h ⊢
    exact h.kept hq
theorem PaA.lt {E : XE} {a : Nat} {w : Bool} {c : Ce} {H : Heap} (h : PaA E a w c H) : a < H.size := by
  cases ho : old? w c with
  | none => exact (PaA.to ho h).lt
  | some q =>
    simp only [PaA, ho] at h
    exact h.lt
def HR (E : XE) (h : Hp) (H : Heap) : Prop := H.size = h.1 ∧ ∀ (a : Nat) (w : Bool) (c : Ce), h.2.2 a = some (w, c) → PaA E a w c H ∧ (w = true → E.1 ≤ a) ∧ cok c
def nestW : List Cond := [.methodLinkNest RX7 11 yX4_init RX7, .methodLinkNest RX2 31 yX1_init RX7, .methodLinkNest RX1 11 yX4_init RX7, .methodLinkNest RX7 44 yX6_init RX7, .methodLinkNest RX7 49 yX0_init RX7, .methodLinkNest RX0 11 yX1_init RX7, .methodLinkNest RX3 108 yX7_isTag RX7, .methodLinkNest RX3 104 yX7_isWide RX7, .methodLinkNest RX3 113 yX7_isNumber RX7, .methodLinkNest RX1 67 yX7_isNumber RX7, .methodLinkNest RX1 73 yX7_isWide RX7, .methodLinkNest RX6 28 yX7_isWide RX7, .methodLinkNest RX12 166 yX9_init RX12, .methodLinkNest RX12 101 yX11_init RX12, .methodLinkNest RX12 119 yX8_init RX12, .methodLinkNest RX12 200 yX10_init RX12]
def overO : List String := [RX0, RX1, RX9, RX10, RX11]
def overA : List FieldType := [.int, .byte, .object RX11]
abbrev XA (E : XE) : Nat → Prop := fun q => E.1 ≤ q
/-- what throwing asks: the two statics of Throwable, some words, the texts, what is not castable -/
def exR : String := "java/lang/RuntimeException"
def exX : String := "java/lang/Exception"
def exT : String := "java/lang/Throwable"
def exC (k : Int32) : String := if k = 1 then "java/lang/IllegalArgumentException" else if k = 2 then "java/lang/IndexOutOfBoundsException" else if k = 3 then "java/lang/NullPointerException" else "java/lang/ClassCastException"
def exWc : List (String × String) := [(exC 1, exC 1), (exC 2, exC 2), (exC 3, exC 3), (exC 4, exC 4), (exR, exT)]
def exWd : List MethodName := [⟨exR, "<init>", "(Ljava/lang/String;)V"⟩, ⟨exX, "<init>", "(Ljava/lang/String;)V"⟩, ⟨exT, "<init>", "(Ljava/lang/String;)V"⟩]
def exS : List (Nat × String) := [(135, "no such file"), (142, "no such place"), (147, "the place is empty"), (155, "no number is there")]
def exN : List (String × String) := [(exC 2, exC 1), (exC 3, exC 1), (exC 3, exC 2), (exC 4, exC 1), (exC 4, exC 2), (exC 4, exC 3)]
def KE (E : XE) (U : State) (H : Heap) : Prop := vx_Zq exT "UNASSIGNED_STACK" "[Ljava/lang/StackTraceElement;" (XA E) U H ∧ vx_Zq exT "SUPPRESSED_SENTINEL" "Ljava/util/List;" (XA E) U H ∧ (∀ q ∈ exWc, va_Nw (.castable q.1 q.2) U) ∧ (∀ x ∈ exWd, va_Nw (.declares x) U) ∧ (∀ q ∈ exS, ∃ a, vk_R RX7 q.1 q.2 a U) ∧ (∀ q ∈ exN, va_Nc q.1 q.2 U) ∧ ∀ i : Nat, ArrOfT U (E.2.2.2.2 (20 + 2 * i)) .byte ∧ ArrOfT U (E.2.2.2.2 (20 + 2 * i + 1)) .int
def KX (E : XE) (U : State) (H : Heap) : Prop := va_K E.2.2.2.1 classes (tysOf E.2.2.2.2) U ∧ (∀ w ∈ nestW, va_Nw w U) ∧ va_Nw (.fieldLinkNest RX10 7 RX12 "NO_BYTES" "[B" RX12) U ∧ va_Z RX12 "NO_BYTES" "[B" (.ref E.2.1) (XA E) U H ∧ va_Z RJ0 "COMPACT_STRINGS" "Z" (.int 1) (XA E) U H ∧ vk_R RX12 155 "BCDFIJSZ" E.2.2.1 U ∧ (∀ C ∈ overO, va_AO C U) ∧ (∀ t ∈ overA, (Cond.arrayOver (.array t)).before #[] U = true) ∧ KE E U H
