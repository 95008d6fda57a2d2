/-! memories of a world, partial answers, contracts that say the whole end -/
abbrev Mem : Type := Nat → Nat → Int32
abbrev MemL : Type := Nat → Nat → Int64
def wrI (m : Mem) (k : Nat) (f : Nat → Int32) : Mem := fun j => cond (Nat.beq j k) f (m j)
def wrL (m : MemL) (k : Nat) (f : Nat → Int64) : MemL := fun j => cond (Nat.beq j k) f (m j)
def gi {α : Type} (i : Int32) (n : Nat) (x : Option α) : Option α := if i < 0 ∨ n ≤ i.toNatClampNeg then none else x
theorem gi_el {α : Type} {i : Int32} {n : Nat} {x : Option α} {r : α} (h : gi i n x = some r) : vp_in i n ∧ x = some r := by
  unfold gi at h
  by_cases hc : i < 0 ∨ n ≤ i.toNatClampNeg
  · rw [if_pos hc] at h; cases h
  · rw [if_neg hc] at h; exact ⟨hc, h⟩
def gb {α : Type} (v : Int32) (x : Option α) : Option α := if v = 0 ∨ v = 1 then x else none
theorem gb_el {α : Type} {v : Int32} {x : Option α} {r : α} (h : gb v x = some r) : (v = 0 ∨ v = 1) ∧ x = some r := by
  unfold gb at h
  by_cases hc : v = 0 ∨ v = 1
  · rw [if_pos hc] at h; exact ⟨hc, h⟩
  · rw [if_neg hc] at h; cases h
theorem gb_n {v : Int32} (h : v = 0 ∨ v = 1) : narrow .boolean (.int v) = .int v := by
  rcases h with h | h <;> subst h <;> decide
theorem gb_f {v : Int32} (h : v = 0 ∨ v = 1) : fits .boolean (.int v) = true := by
  rcases h with h | h <;> subst h <;> decide
/-- a number that is no NaN -/
def gn {α : Type} (r : UInt64) (x : Option α) : Option α := if r &&& 0x7fffffffffffffff ≤ 0x7ff0000000000000 then x else none
theorem gn_el {α : Type} {r : UInt64} {x : Option α} {q : α} (h : gn r x = some q) : r &&& 0x7fffffffffffffff ≤ 0x7ff0000000000000 ∧ x = some q := by
  unfold gn at h
  by_cases hc : r &&& 0x7fffffffffffffff ≤ 0x7ff0000000000000
  · rw [if_pos hc] at h; exact ⟨hc, h⟩
  · rw [if_neg hc] at h; cases h
/-- a char's range -/
def gch {α : Type} (v : Int32) (x : Option α) : Option α := if 0 ≤ v ∧ v < 65536 then x else none
theorem gch_el {α : Type} {v : Int32} {x : Option α} {r : α} (h : gch v x = some r) : (0 ≤ v ∧ v < 65536) ∧ x = some r := by
  unfold gch at h
  by_cases hc : 0 ≤ v ∧ v < 65536
  · rw [if_pos hc] at h; exact ⟨hc, h⟩
  · rw [if_neg hc] at h; cases h
theorem gch_q {v : Int32} (h : 0 ≤ v ∧ v < 65536) : ∃ q : Nat, q < 65536 ∧ v = nI q := by
  obtain ⟨j, hj, rfl⟩ := nI_of (x := v) (fun h2 => absurd (Int32.lt_iff_toInt_lt.mp h2) (by have := Int32.le_iff_toInt_le.mp h.1; omega))
  refine ⟨j, ?_, rfl⟩
  have h2 := h.2
  rw [show (65536 : Int32) = nI 65536 from rfl, nI_ltI hj (by decide)] at h2
  exact h2
theorem gch_n {v : Int32} (h : 0 ≤ v ∧ v < 65536) : narrow .char (.int v) = .int v := by
  obtain ⟨q, hq, rfl⟩ := gch_q h; exact (pk_charN hq).1
theorem gch_f {v : Int32} (h : 0 ≤ v ∧ v < 65536) : fits .char (.int v) = true := by
  obtain ⟨q, hq, rfl⟩ := gch_q h; exact (pk_charN hq).2
def lt' {α β : Type} (x : α) (k : α → Option β) : Option β := k x
theorem lt_el {α β : Type} {x : α} {k : α → Option β} {r : β} (h : lt' x k = some r) : ∃ y, y = x ∧ k y = some r := ⟨x, rfl, h⟩
def bd1 {α γ : Type} (x : Option α) (k : α → Option γ) : Option γ := match x with | none => none | some a => k a
theorem bd1_el {α γ : Type} {x : Option α} {k : α → Option γ} {r : γ} (h : bd1 x k = some r) : ∃ a, x = some a ∧ k a = some r := by
  cases x with | none => cases h | some a => exact ⟨a, rfl, h⟩
def bd2 {α β γ : Type} (x : Option (α × β)) (k : α → β → Option γ) : Option γ := match x with | none => none | some q => k q.1 q.2
theorem bd2_el {α β γ : Type} {x : Option (α × β)} {k : α → β → Option γ} {r : γ} (h : bd2 x k = some r) : ∃ a b, x = some (a, b) ∧ k a b = some r := by
  cases x with | none => cases h | some q => exact ⟨q.1, q.2, rfl, h⟩
def bd3 {α β δ γ : Type} (x : Option (α × β × δ)) (k : α → β → δ → Option γ) : Option γ := match x with | none => none | some q => k q.1 q.2.1 q.2.2
theorem bd3_el {α β δ γ : Type} {x : Option (α × β × δ)} {k : α → β → δ → Option γ} {r : γ} (h : bd3 x k = some r) : ∃ a b c, x = some (a, b, c) ∧ k a b c = some r := by
  cases x with | none => cases h | some q => exact ⟨q.1, q.2.1, q.2.2, rfl, h⟩
def bd4 {α β δ ε γ : Type} (x : Option (α × β × δ × ε)) (k : α → β → δ → ε → Option γ) : Option γ := match x with | none => none | some q => k q.1 q.2.1 q.2.2.1 q.2.2.2
theorem bd4_el {α β δ ε γ : Type} {x : Option (α × β × δ × ε)} {k : α → β → δ → ε → Option γ} {r : γ} (h : bd4 x k = some r) : ∃ a b c d, x = some (a, b, c, d) ∧ k a b c d = some r := by
  cases x with | none => cases h | some q => exact ⟨q.1, q.2.1, q.2.2.1, q.2.2.2, rfl, h⟩
def bd5 {t1 t2 t3 t4 t5 γ : Type} (x : Option (t1 × t2 × t3 × t4 × t5)) (k : t1 → t2 → t3 → t4 → t5 → Option γ) : Option γ := match x with | none => none | some q => k q.1 q.2.1 q.2.2.1 q.2.2.2.1 q.2.2.2.2
theorem bd5_el {t1 t2 t3 t4 t5 γ : Type} {x : Option (t1 × t2 × t3 × t4 × t5)} {k : t1 → t2 → t3 → t4 → t5 → Option γ} {r : γ} (h : bd5 x k = some r) : ∃ a1 a2 a3 a4 a5, x = some (a1, a2, a3, a4, a5) ∧ k a1 a2 a3 a4 a5 = some r := by
  cases x with | none => cases h | some q => exact ⟨q.1, q.2.1, q.2.2.1, q.2.2.2.1, q.2.2.2.2, rfl, h⟩
def bd6 {t1 t2 t3 t4 t5 t6 γ : Type} (x : Option (t1 × t2 × t3 × t4 × t5 × t6)) (k : t1 → t2 → t3 → t4 → t5 → t6 → Option γ) : Option γ := match x with | none => none | some q => k q.1 q.2.1 q.2.2.1 q.2.2.2.1 q.2.2.2.2.1 q.2.2.2.2.2
theorem bd6_el {t1 t2 t3 t4 t5 t6 γ : Type} {x : Option (t1 × t2 × t3 × t4 × t5 × t6)} {k : t1 → t2 → t3 → t4 → t5 → t6 → Option γ} {r : γ} (h : bd6 x k = some r) : ∃ a1 a2 a3 a4 a5 a6, x = some (a1, a2, a3, a4, a5, a6) ∧ k a1 a2 a3 a4 a5 a6 = some r := by
  cases x with | none => cases h | some q => exact ⟨q.1, q.2.1, q.2.2.1, q.2.2.2.1, q.2.2.2.2.1, q.2.2.2.2.2, rfl, h⟩
def bd7 {t1 t2 t3 t4 t5 t6 t7 γ : Type} (x : Option (t1 × t2 × t3 × t4 × t5 × t6 × t7)) (k : t1 → t2 → t3 → t4 → t5 → t6 → t7 → Option γ) : Option γ := match x with | none => none | some q => k q.1 q.2.1 q.2.2.1 q.2.2.2.1 q.2.2.2.2.1 q.2.2.2.2.2.1 q.2.2.2.2.2.2
theorem bd7_el {t1 t2 t3 t4 t5 t6 t7 γ : Type} {x : Option (t1 × t2 × t3 × t4 × t5 × t6 × t7)} {k : t1 → t2 → t3 → t4 → t5 → t6 → t7 → Option γ} {r : γ} (h : bd7 x k = some r) : ∃ a1 a2 a3 a4 a5 a6 a7, x = some (a1, a2, a3, a4, a5, a6, a7) ∧ k a1 a2 a3 a4 a5 a6 a7 = some r := by
  cases x with | none => cases h | some q => exact ⟨q.1, q.2.1, q.2.2.1, q.2.2.2.1, q.2.2.2.2.1, q.2.2.2.2.2.1, q.2.2.2.2.2.2, rfl, h⟩
def bd8 {t1 t2 t3 t4 t5 t6 t7 t8 γ : Type} (x : Option (t1 × t2 × t3 × t4 × t5 × t6 × t7 × t8)) (k : t1 → t2 → t3 → t4 → t5 → t6 → t7 → t8 → Option γ) : Option γ := match x with | none => none | some q => k q.1 q.2.1 q.2.2.1 q.2.2.2.1 q.2.2.2.2.1 q.2.2.2.2.2.1 q.2.2.2.2.2.2.1 q.2.2.2.2.2.2.2
theorem bd8_el {t1 t2 t3 t4 t5 t6 t7 t8 γ : Type} {x : Option (t1 × t2 × t3 × t4 × t5 × t6 × t7 × t8)} {k : t1 → t2 → t3 → t4 → t5 → t6 → t7 → t8 → Option γ} {r : γ} (h : bd8 x k = some r) : ∃ a1 a2 a3 a4 a5 a6 a7 a8, x = some (a1, a2, a3, a4, a5, a6, a7, a8) ∧ k a1 a2 a3 a4 a5 a6 a7 a8 = some r := by
  cases x with | none => cases h | some q => exact ⟨q.1, q.2.1, q.2.2.1, q.2.2.2.1, q.2.2.2.2.1, q.2.2.2.2.2.1, q.2.2.2.2.2.2.1, q.2.2.2.2.2.2.2, rfl, h⟩
def bd9 {t1 t2 t3 t4 t5 t6 t7 t8 t9 γ : Type} (x : Option (t1 × t2 × t3 × t4 × t5 × t6 × t7 × t8 × t9)) (k : t1 → t2 → t3 → t4 → t5 → t6 → t7 → t8 → t9 → Option γ) : Option γ := match x with | none => none | some q => k q.1 q.2.1 q.2.2.1 q.2.2.2.1 q.2.2.2.2.1 q.2.2.2.2.2.1 q.2.2.2.2.2.2.1 q.2.2.2.2.2.2.2.1 q.2.2.2.2.2.2.2.2
theorem bd9_el {t1 t2 t3 t4 t5 t6 t7 t8 t9 γ : Type} {x : Option (t1 × t2 × t3 × t4 × t5 × t6 × t7 × t8 × t9)} {k : t1 → t2 → t3 → t4 → t5 → t6 → t7 → t8 → t9 → Option γ} {r : γ} (h : bd9 x k = some r) : ∃ a1 a2 a3 a4 a5 a6 a7 a8 a9, x = some (a1, a2, a3, a4, a5, a6, a7, a8, a9) ∧ k a1 a2 a3 a4 a5 a6 a7 a8 a9 = some r := by
  cases x with | none => cases h | some q => exact ⟨q.1, q.2.1, q.2.2.1, q.2.2.2.1, q.2.2.2.2.1, q.2.2.2.2.2.1, q.2.2.2.2.2.2.1, q.2.2.2.2.2.2.2.1, q.2.2.2.2.2.2.2.2, rfl, h⟩
def bd10 {t1 t2 t3 t4 t5 t6 t7 t8 t9 t10 γ : Type} (x : Option (t1 × t2 × t3 × t4 × t5 × t6 × t7 × t8 × t9 × t10)) (k : t1 → t2 → t3 → t4 → t5 → t6 → t7 → t8 → t9 → t10 → Option γ) : Option γ := match x with | none => none | some q => k q.1 q.2.1 q.2.2.1 q.2.2.2.1 q.2.2.2.2.1 q.2.2.2.2.2.1 q.2.2.2.2.2.2.1 q.2.2.2.2.2.2.2.1 q.2.2.2.2.2.2.2.2.1 q.2.2.2.2.2.2.2.2.2
theorem bd10_el {t1 t2 t3 t4 t5 t6 t7 t8 t9 t10 γ : Type} {x : Option (t1 × t2 × t3 × t4 × t5 × t6 × t7 × t8 × t9 × t10)} {k : t1 → t2 → t3 → t4 → t5 → t6 → t7 → t8 → t9 → t10 → Option γ} {r : γ} (h : bd10 x k = some r) : ∃ a1 a2 a3 a4 a5 a6 a7 a8 a9 a10, x = some (a1, a2, a3, a4, a5, a6, a7, a8, a9, a10) ∧ k a1 a2 a3 a4 a5 a6 a7 a8 a9 a10 = some r := by
  cases x with | none => cases h | some q => exact ⟨q.1, q.2.1, q.2.2.1, q.2.2.2.1, q.2.2.2.2.1, q.2.2.2.2.2.1, q.2.2.2.2.2.2.1, q.2.2.2.2.2.2.2.1, q.2.2.2.2.2.2.2.2.1, q.2.2.2.2.2.2.2.2.2, rfl, h⟩
def bd11 {t1 t2 t3 t4 t5 t6 t7 t8 t9 t10 t11 γ : Type} (x : Option (t1 × t2 × t3 × t4 × t5 × t6 × t7 × t8 × t9 × t10 × t11)) (k : t1 → t2 → t3 → t4 → t5 → t6 → t7 → t8 → t9 → t10 → t11 → Option γ) : Option γ := match x with | none => none | some q => k q.1 q.2.1 q.2.2.1 q.2.2.2.1 q.2.2.2.2.1 q.2.2.2.2.2.1 q.2.2.2.2.2.2.1 q.2.2.2.2.2.2.2.1 q.2.2.2.2.2.2.2.2.1 q.2.2.2.2.2.2.2.2.2.1 q.2.2.2.2.2.2.2.2.2.2
theorem bd11_el {t1 t2 t3 t4 t5 t6 t7 t8 t9 t10 t11 γ : Type} {x : Option (t1 × t2 × t3 × t4 × t5 × t6 × t7 × t8 × t9 × t10 × t11)} {k : t1 → t2 → t3 → t4 → t5 → t6 → t7 → t8 → t9 → t10 → t11 → Option γ} {r : γ} (h : bd11 x k = some r) : ∃ a1 a2 a3 a4 a5 a6 a7 a8 a9 a10 a11, x = some (a1, a2, a3, a4, a5, a6, a7, a8, a9, a10, a11) ∧ k a1 a2 a3 a4 a5 a6 a7 a8 a9 a10 a11 = some r := by
  cases x with | none => cases h | some q => exact ⟨q.1, q.2.1, q.2.2.1, q.2.2.2.1, q.2.2.2.2.1, q.2.2.2.2.2.1, q.2.2.2.2.2.2.1, q.2.2.2.2.2.2.2.1, q.2.2.2.2.2.2.2.2.1, q.2.2.2.2.2.2.2.2.2.1, q.2.2.2.2.2.2.2.2.2.2, rfl, h⟩
def bd12 {t1 t2 t3 t4 t5 t6 t7 t8 t9 t10 t11 t12 γ : Type} (x : Option (t1 × t2 × t3 × t4 × t5 × t6 × t7 × t8 × t9 × t10 × t11 × t12)) (k : t1 → t2 → t3 → t4 → t5 → t6 → t7 → t8 → t9 → t10 → t11 → t12 → Option γ) : Option γ := match x with | none => none | some q => k q.1 q.2.1 q.2.2.1 q.2.2.2.1 q.2.2.2.2.1 q.2.2.2.2.2.1 q.2.2.2.2.2.2.1 q.2.2.2.2.2.2.2.1 q.2.2.2.2.2.2.2.2.1 q.2.2.2.2.2.2.2.2.2.1 q.2.2.2.2.2.2.2.2.2.2.1 q.2.2.2.2.2.2.2.2.2.2.2
theorem bd12_el {t1 t2 t3 t4 t5 t6 t7 t8 t9 t10 t11 t12 γ : Type} {x : Option (t1 × t2 × t3 × t4 × t5 × t6 × t7 × t8 × t9 × t10 × t11 × t12)} {k : t1 → t2 → t3 → t4 → t5 → t6 → t7 → t8 → t9 → t10 → t11 → t12 → Option γ} {r : γ} (h : bd12 x k = some r) : ∃ a1 a2 a3 a4 a5 a6 a7 a8 a9 a10 a11 a12, x = some (a1, a2, a3, a4, a5, a6, a7, a8, a9, a10, a11, a12) ∧ k a1 a2 a3 a4 a5 a6 a7 a8 a9 a10 a11 a12 = some r := by
  cases x with | none => cases h | some q => exact ⟨q.1, q.2.1, q.2.2.1, q.2.2.2.1, q.2.2.2.2.1, q.2.2.2.2.2.1, q.2.2.2.2.2.2.1, q.2.2.2.2.2.2.2.1, q.2.2.2.2.2.2.2.2.1, q.2.2.2.2.2.2.2.2.2.1, q.2.2.2.2.2.2.2.2.2.2.1, q.2.2.2.2.2.2.2.2.2.2.2, rfl, h⟩
def bd13 {t1 t2 t3 t4 t5 t6 t7 t8 t9 t10 t11 t12 t13 γ : Type} (x : Option (t1 × t2 × t3 × t4 × t5 × t6 × t7 × t8 × t9 × t10 × t11 × t12 × t13)) (k : t1 → t2 → t3 → t4 → t5 → t6 → t7 → t8 → t9 → t10 → t11 → t12 → t13 → Option γ) : Option γ := match x with | none => none | some q => k q.1 q.2.1 q.2.2.1 q.2.2.2.1 q.2.2.2.2.1 q.2.2.2.2.2.1 q.2.2.2.2.2.2.1 q.2.2.2.2.2.2.2.1 q.2.2.2.2.2.2.2.2.1 q.2.2.2.2.2.2.2.2.2.1 q.2.2.2.2.2.2.2.2.2.2.1 q.2.2.2.2.2.2.2.2.2.2.2.1 q.2.2.2.2.2.2.2.2.2.2.2.2
theorem bd13_el {t1 t2 t3 t4 t5 t6 t7 t8 t9 t10 t11 t12 t13 γ : Type} {x : Option (t1 × t2 × t3 × t4 × t5 × t6 × t7 × t8 × t9 × t10 × t11 × t12 × t13)} {k : t1 → t2 → t3 → t4 → t5 → t6 → t7 → t8 → t9 → t10 → t11 → t12 → t13 → Option γ} {r : γ} (h : bd13 x k = some r) : ∃ a1 a2 a3 a4 a5 a6 a7 a8 a9 a10 a11 a12 a13, x = some (a1, a2, a3, a4, a5, a6, a7, a8, a9, a10, a11, a12, a13) ∧ k a1 a2 a3 a4 a5 a6 a7 a8 a9 a10 a11 a12 a13 = some r := by
  cases x with | none => cases h | some q => exact ⟨q.1, q.2.1, q.2.2.1, q.2.2.2.1, q.2.2.2.2.1, q.2.2.2.2.2.1, q.2.2.2.2.2.2.1, q.2.2.2.2.2.2.2.1, q.2.2.2.2.2.2.2.2.1, q.2.2.2.2.2.2.2.2.2.1, q.2.2.2.2.2.2.2.2.2.2.1, q.2.2.2.2.2.2.2.2.2.2.2.1, q.2.2.2.2.2.2.2.2.2.2.2.2, rfl, h⟩
def bd14 {t1 t2 t3 t4 t5 t6 t7 t8 t9 t10 t11 t12 t13 t14 γ : Type} (x : Option (t1 × t2 × t3 × t4 × t5 × t6 × t7 × t8 × t9 × t10 × t11 × t12 × t13 × t14)) (k : t1 → t2 → t3 → t4 → t5 → t6 → t7 → t8 → t9 → t10 → t11 → t12 → t13 → t14 → Option γ) : Option γ := match x with | none => none | some q => k q.1 q.2.1 q.2.2.1 q.2.2.2.1 q.2.2.2.2.1 q.2.2.2.2.2.1 q.2.2.2.2.2.2.1 q.2.2.2.2.2.2.2.1 q.2.2.2.2.2.2.2.2.1 q.2.2.2.2.2.2.2.2.2.1 q.2.2.2.2.2.2.2.2.2.2.1 q.2.2.2.2.2.2.2.2.2.2.2.1 q.2.2.2.2.2.2.2.2.2.2.2.2.1 q.2.2.2.2.2.2.2.2.2.2.2.2.2
theorem bd14_el {t1 t2 t3 t4 t5 t6 t7 t8 t9 t10 t11 t12 t13 t14 γ : Type} {x : Option (t1 × t2 × t3 × t4 × t5 × t6 × t7 × t8 × t9 × t10 × t11 × t12 × t13 × t14)} {k : t1 → t2 → t3 → t4 → t5 → t6 → t7 → t8 → t9 → t10 → t11 → t12 → t13 → t14 → Option γ} {r : γ} (h : bd14 x k = some r) : ∃ a1 a2 a3 a4 a5 a6 a7 a8 a9 a10 a11 a12 a13 a14, x = some (a1, a2, a3, a4, a5, a6, a7, a8, a9, a10, a11, a12, a13, a14) ∧ k a1 a2 a3 a4 a5 a6 a7 a8 a9 a10 a11 a12 a13 a14 = some r := by
  cases x with | none => cases h | some q => exact ⟨q.1, q.2.1, q.2.2.1, q.2.2.2.1, q.2.2.2.2.1, q.2.2.2.2.2.1, q.2.2.2.2.2.2.1, q.2.2.2.2.2.2.2.1, q.2.2.2.2.2.2.2.2.1, q.2.2.2.2.2.2.2.2.2.1, q.2.2.2.2.2.2.2.2.2.2.1, q.2.2.2.2.2.2.2.2.2.2.2.1, q.2.2.2.2.2.2.2.2.2.2.2.2.1, q.2.2.2.2.2.2.2.2.2.2.2.2.2, rfl, h⟩
theorem it_t {α : Type} {c : Prop} [Decidable c] {x y : Option α} {r : α} (h : (if c then x else y) = some r) (hc : c) : x = some r := by rw [if_pos hc] at h; exact h
theorem it_f {α : Type} {c : Prop} [Decidable c] {x y : Option α} {r : α} (h : (if c then x else y) = some r) (hc : ¬ c) : y = some r := by rw [if_neg hc] at h; exact h
def fuel : Nat := 1000000
theorem sw_out {lo hi : Int} {x : Int32} (h : ∀ z : Int, lo ≤ z → z ≤ hi → ¬ x = Int32.ofInt z) : x.toInt < lo ∨ hi < x.toInt := by
  rcases Int.lt_or_le x.toInt lo with h1 | h1
  · exact Or.inl h1
  · rcases Int.lt_or_le hi x.toInt with h2 | h2
    · exact Or.inr h2
    · exact absurd (Int32.ofInt_toInt x).symm (h _ h1 h2)
theorem lk_out {x : Int32} {dflt : Int} : ∀ (l : List (Int × Int)), (∀ q ∈ l, ¬ x = Int32.ofInt q.1) → Op.lookupswitch.offset l dflt x.toInt = dflt
  | [], _ => rfl
  | (a, o) :: r, h => by
    rw [Op.lookupswitch.offset_cons, if_neg (fun e9 => h (a, o) List.mem_cons_self (by show x = Int32.ofInt a; rw [e9]; exact (Int32.ofInt_toInt x).symm))]
    exact lk_out r (fun q hq => h q (List.mem_cons_of_mem _ hq))
/-- the array classes: of ints, longs, chars, plants -/
abbrev tyl (cy : Nat → Nat) : List (ClassId × FieldType) := [(cy 0, .int), (cy 1, .long), (cy 2, .char), (cy 3, .object "IcePlant$Plant")]
theorem va_D_fst {A : Nat → Prop} {ws ws' : va_W} (h : va_D A ws) (e : ws'.map (·.1) = ws.map (·.1)) : va_D A ws' := by
  have key : ∀ (k : Nat) (q : Nat × va_E), ws'[k]? = some q → ∃ q0, ws[k]? = some q0 ∧ q0.1 = q.1 := by
    intro k q hq
    have h1 : (ws'.map (·.1))[k]? = some q.1 := by rw [List.getElem?_map, hq]; rfl
    rw [e, List.getElem?_map] at h1
    cases hk : ws[k]? with
    | none => rw [hk] at h1; cases h1
    | some q0 => rw [hk] at h1; exact ⟨q0, rfl, Option.some.inj h1⟩
  refine ⟨fun i j p q hi hj hpq => ?_, fun k q hk => ?_⟩
  · obtain ⟨p0, hp0, ep⟩ := key i p hi
    obtain ⟨q0, hq0, eq⟩ := key j q hj
    exact h.1 i j p0 q0 hp0 hq0 (by rw [ep, eq, hpq])
  · obtain ⟨q0, h1, h2⟩ := key k q hk
    rw [← h2]; exact h.2 k q0 h1
theorem va_P_l {D : va_G} {cl : List vw_C} {X Y : va_W} {H : Heap} (h : va_P D cl (X ++ Y) H) : va_P D cl X H := fun k q hk => h k q (by
  rw [List.getElem?_append_left (List.getElem?_eq_some_iff.mp hk).1]; exact hk)
theorem va_P_r {D : va_G} {cl : List vw_C} {X Y : va_W} {H : Heap} (h : va_P D cl (X ++ Y) H) : va_P D cl Y H := fun k q hk => h (X.length + k) q (by
  rw [List.getElem?_append_right (by omega)]; rw [show X.length + k - X.length = k by omega]; exact hk)
theorem va_D_l {A : Nat → Prop} {X Y : va_W} (h : va_D A (X ++ Y)) : va_D A X := by
  have f : ∀ (k : Nat) (q : Nat × va_E), X[k]? = some q → (X ++ Y)[k]? = some q := fun k q hk => by
    rw [List.getElem?_append_left (List.getElem?_eq_some_iff.mp hk).1]; exact hk
  exact ⟨fun i j p q hi hj hpq => h.1 i j p q (f i p hi) (f j q hj) hpq, fun k q hk => h.2 k q (f k q hk)⟩
theorem va_D_r {A : Nat → Prop} {X Y : va_W} (h : va_D A (X ++ Y)) : va_D A Y := by
  have f : ∀ (k : Nat) (q : Nat × va_E), Y[k]? = some q → (X ++ Y)[X.length + k]? = some q := fun k q hk => by
    rw [List.getElem?_append_right (by omega)]; rw [show X.length + k - X.length = k by omega]; exact hk
  exact ⟨fun i j p q hi hj hpq => by have := h.1 _ _ p q (f i p hi) (f j q hj) hpq; omega, fun k q hk => h.2 _ q (f k q hk)⟩
theorem fr1 {D : va_G} {cl : List vw_C} {A : Nat → Prop} {X wc wc' Y : va_W} {H H1 : Heap} (hP : va_P D cl (X ++ (wc ++ Y)) H) (hD : va_D A (X ++ (wc ++ Y))) (hk : ∀ q : Nat, q < H.size → ¬ va_A wc H.size q → H1[q]? = H[q]?) (hP1 : va_P D cl wc' H1) (hfst : wc'.map (·.1) = wc.map (·.1)) : va_P D cl (X ++ (wc' ++ Y)) H1 ∧ va_D A (X ++ (wc' ++ Y)) := by
  have hX := va_P_l hP
  have hY := va_P_r (va_P_r hP)
  refine ⟨va_P.app (hX.kept fun k q hq => ?_) (va_P.app hP1 (hY.kept fun k q hq => ?_)), va_D_fst hD (by simp only [List.map_append, hfst])⟩
  · have hlt := (hX k q hq).lt
    refine hk q.1 hlt fun h => ?_
    rcases h with ⟨j, e, h⟩ | h
    · have h1 : (X ++ (wc ++ Y))[k]? = some q := by
        rw [List.getElem?_append_left (List.getElem?_eq_some_iff.mp hq).1]; exact hq
      have hjl := (List.getElem?_eq_some_iff.mp h).1
      have h2 : (X ++ (wc ++ Y))[X.length + j]? = some (q.1, e) := by
        rw [List.getElem?_append_right (by omega), show X.length + j - X.length = j by omega, List.getElem?_append_left hjl]; exact h
      have h3 := hD.1 _ _ _ _ h1 h2 rfl
      have h4 := (List.getElem?_eq_some_iff.mp hq).1
      omega
    · omega
  · have hlt := (hY k q hq).lt
    refine hk q.1 hlt fun h => ?_
    rcases h with ⟨j, e, h⟩ | h
    · have h1 : (X ++ (wc ++ Y))[X.length + (wc.length + k)]? = some q := by
        rw [List.getElem?_append_right (by omega), show X.length + (wc.length + k) - X.length = wc.length + k by omega, List.getElem?_append_right (by omega), show wc.length + k - wc.length = k by omega]; exact hq
      have hjl := (List.getElem?_eq_some_iff.mp h).1
      have h2 : (X ++ (wc ++ Y))[X.length + j]? = some (q.1, e) := by
        rw [List.getElem?_append_right (by omega), show X.length + j - X.length = j by omega, List.getElem?_append_left hjl]; exact h
      have h3 := hD.1 _ _ _ _ h1 h2 rfl
      omega
    · omega
/-- the links to private methods of nest mates -/
def nestM : List (String × Nat × MethodName) := [(RX0, 29, yX8_copyRow), (RX0, 33, yX8_copyLongRow), (RX1, 25, yX8_copyRow), (RX1, 33, yX8_valueAt), (RX3, 43, yX8_copyRow), (RX3, 51, yX8_valueAt), (RX4, 18, yX8_copyRow), (RX4, 99, yX8_valueAt), (RX5, 32, yX8_copyRow), (RX5, 39, yX8_valueAt), (RX6, 43, yX8_copyRow), (RX6, 47, yX8_valueAt)]
def cN (U : State) : Prop := ∀ (k : Nat) (q : String × Nat × MethodName), nestM[k]? = some q → va_Nw (.methodLinkNest q.1 q.2.1 q.2.2 RX8) U
theorem cN.warm {s U : State} (hW : s.WarmedH U.vm) (h : cN s) : cN U := fun k q hk => va_Nw.warmM hW (h k q hk)
theorem cN.same {u U : State} (hv : u.vm = U.vm) (h : cN u) : cN U := fun k q hk => va_Nw.same rfl hv (h k q hk)
/-- the static rows of numbers -/
def stN : Nat → String | 0 => "FIRST_SETTINGS" | 1 => "LOWEST_SETTINGS" | _ => "HIGHEST_SETTINGS"
def stV (k : Nat) : Nat → Int32 := fun j => (match k with | 0 => [50, 2, 0, 100000, 20, 15, 5000, 10] | 1 => [1, 0, 0, 0, 0, 0, 0, 0] | _ => [200, 12, 3, 1000000, 999, 999, 1000000, 100] : List Int32).getD j 0
/-- the three throws: entries of the class's pool, the class, the text -/
abbrev exX : List String := ["java/lang/RuntimeException", "java/lang/Exception"]
def exN : Nat → String | 1 => "java/lang/IndexOutOfBoundsException" | 2 => "java/lang/IllegalArgumentException" | _ => "java/lang/IllegalStateException"
def exC : Nat → Nat | 1 => 280 | 2 => 287 | _ => 292
def exS : Nat → Nat | 1 => 278 | 2 => 285 | _ => 290
def exT : Nat → String | 1 => "there is no such item" | 2 => "an argument is out of range" | _ => "the state of the plant does not allow this"
def exB (k : Nat) : List Cond := (vx_atS RX8 (exC k) (exN k) exX).filter (fun w => !goodWord w)
/-- what holds of the machine's tables and of the cells that nobody changes: links, static rows, what a throw needs -/
def cG (cy : Nat → Nat) (A : Nat → Prop) (U : State) (H : Heap) : Prop :=
  cN U ∧ (va_Nw (.fieldLinkNest RX4 15 RX8 "FIRST_SETTINGS" "[I" RX8) U ∧ va_AO "IcePlant$Plant" U) ∧
  (∀ k, k < 3 → va_Z RX8 (stN k) "[I" (.ref (cy (10 + k))) A U H ∧ va_T .int (cy (10 + k)) 8 (fun j => .int (stV k j)) A U H) ∧
  vx_Zq Bundle.tN "UNASSIGNED_STACK" Bundle.steD A U H ∧ vx_Zq Bundle.tN "SUPPRESSED_SENTINEL" Bundle.listD A U H ∧
  (∀ k, 0 < k → k < 4 → vk_R RX8 (exS k) (exT k) (cy (12 + k)) U ∧ ∀ w ∈ exB k, va_Nw w U)
theorem exB_face {k : Nat} (h0 : 0 < k) (h4 : k < 4) {w : Cond} (hw : w ∈ exB k) : w.faceAtom = true ∧ w.onTables = true := by
  have h : (exB k).all (fun w => w.faceAtom && w.onTables) = true := by
    obtain rfl | rfl | rfl : k = 1 ∨ k = 2 ∨ k = 3 := by omega
    · decide +kernel
    · decide +kernel
    · decide +kernel
  have h9 := List.all_eq_true.mp h w hw
  simp only [Bool.and_eq_true] at h9
  exact h9
theorem exB_tab {k : Nat} (h0 : 0 < k) (h4 : k < 4) {w : Cond} (hw : w ∈ exB k) : w.onTables = true := (exB_face h0 h4 hw).2
theorem exB_warm {s U : State} {k : Nat} (h0 : 0 < k) (h4 : k < 4) (hW : s.WarmedH U.vm) {w : Cond} (hw : w ∈ exB k) (h : va_Nw w s) : va_Nw w U :=
  va_tabs (exB_tab h0 h4 hw) (rfl : (s.setVm U.vm).vm = U.vm) (Cond.faceAtom_setVm hW.alike w (exB_face h0 h4 hw).1 h)
/-- .. at a callee's start -/
theorem cG.call {cy : Nat → Nat} {A B : Nat → Prop} {s U : State} {H : Heap} {locs : List Loc} (h : cG cy A s s.heap) (hS : va_S A s.heap H locs) (hAB : ∀ q, B q → A q) (hW : s.WarmedH U.vm) : cG cy B U H := by
  obtain ⟨h1, h2, h3, h4, h5, h6⟩ := h
  have hk : ∀ a : Nat, a < s.heap.size → ¬ A a → H[a]? = s.heap[a]? := fun a q1 q2 => hS.2.1 a q1 q2
  refine ⟨h1.warm hW, ⟨va_Nw.warmF hW h2.1, h2.2.moved hW.alike⟩, fun k hk3 => ?_, ?_, ?_, fun k k0 k4 => ?_⟩
  · obtain ⟨z, t⟩ := h3 k hk3
    exact ⟨((va_Z.moved hW.alike z).kept hk).narrow hAB, ((va_T.moved hW.alike t).kept hk).narrow hAB⟩
  · exact ((vx_Zq.moved hW.alike h4).kept hk).narrow hAB
  · exact ((vx_Zq.moved hW.alike h5).kept hk).narrow hAB
  · obtain ⟨z, t⟩ := h6 k k0 k4
    exact ⟨z.warm hW, fun w hw => exB_warm k0 k4 hW hw (t w hw)⟩
theorem cG.same {cy : Nat → Nat} {A : Nat → Prop} {u U : State} {H : Heap} (hv : u.vm = U.vm) (h : cG cy A u H) : cG cy A U H := by
  obtain ⟨h1, h2, h3, h4, h5, h6⟩ := h
  have hal : u.vm.Alike U.vm := by rw [hv]; exact Vm.Alike.refl _
  refine ⟨h1.same hv, ⟨va_Nw.same rfl hv h2.1, h2.2.moved hal⟩, fun k hk3 => ?_, vx_Zq.moved hal h4, vx_Zq.moved hal h5, fun k k0 k4 => ?_⟩
  · obtain ⟨z, t⟩ := h3 k hk3
    exact ⟨va_Z.moved hal z, va_T.moved hal t⟩
  · obtain ⟨z, t⟩ := h6 k k0 k4
    exact ⟨z.same hv.symm, fun w hw => va_Nw.same (exB_tab k0 k4 hw) hv (t w hw)⟩
def cPre (D : va_G) (cy : Nat → Nat) (ws : va_W) (sz : Nat) (U : State) : Prop := U.heap.size = sz ∧ va_P D vwCl ws U.heap ∧ va_K D vwCl (tyl cy) U ∧ va_D (fun _ => True) ws ∧ cG cy (va_A ws sz) U U.heap
def cEnd (D : va_G) (cy : Nat → Nat) (ws : va_W) (A : Nat → Prop) (t : State) : Prop := va_P D vwCl ws t.heap ∧ va_K D vwCl (tyl cy) t ∧ va_D A ws
abbrev QI (D : va_G) (cy : Nat → Nat) (r : Int32) (ws : va_W) (A : Nat → Prop) := va_Qi (fun (x : Int32) (_ : Unit) => x = r) (fun _ t => cEnd D cy ws A t) A
abbrev QL (D : va_G) (cy : Nat → Nat) (r : Int64) (ws : va_W) (A : Nat → Prop) := va_Ql (fun (x : Int64) (_ : Unit) => x = r) (fun _ t => cEnd D cy ws A t) A
abbrev QV (D : va_G) (cy : Nat → Nat) (ws : va_W) (A : Nat → Prop) := va_Qv (fun (_ : Unit) => True) (fun _ t => cEnd D cy ws A t) A
abbrev QD (D : va_G) (cy : Nat → Nat) (r : UInt64) (ws : va_W) (A : Nat → Prop) := va_Qd (fun (x : UInt64) (_ : Unit) => x = r) (fun _ t => cEnd D cy ws A t) A
/-- a method's contract over the world ws, with the answer r and the world ws' at its end -/
abbrev CQ (l : Launch) (y : MethodName) (wd : List Cond) (rm : Room) (D : va_G) (cy : Nat → Nat) (av : List Value) (ws : va_W) (mc ms : Nat) (Qc : (Nat → Prop) → Array Value → State → Outcome → State → Prop) : Prop :=
  ∀ sz : Nat, Met l y wd rm (va_Pc av (cPre D cy ws sz)) (Qc (va_A ws sz)) mc ms (va_A ws sz)
abbrev CI (l : Launch) (y : MethodName) (wd : List Cond) (rm : Room) (D : va_G) (cy : Nat → Nat) (av : List Value) (ws : va_W) (mc ms : Nat) (r : Int32) (ws' : va_W) : Prop := CQ l y wd rm D cy av ws mc ms (QI D cy r ws')
abbrev CL (l : Launch) (y : MethodName) (wd : List Cond) (rm : Room) (D : va_G) (cy : Nat → Nat) (av : List Value) (ws : va_W) (mc ms : Nat) (r : Int64) (ws' : va_W) : Prop := CQ l y wd rm D cy av ws mc ms (QL D cy r ws')
abbrev CV (l : Launch) (y : MethodName) (wd : List Cond) (rm : Room) (D : va_G) (cy : Nat → Nat) (av : List Value) (ws : va_W) (mc ms : Nat) (ws' : va_W) : Prop := CQ l y wd rm D cy av ws mc ms (QV D cy ws')
abbrev CD (l : Launch) (y : MethodName) (wd : List Cond) (rm : Room) (D : va_G) (cy : Nat → Nat) (av : List Value) (ws : va_W) (mc ms : Nat) (r : UInt64) (ws' : va_W) : Prop := CQ l y wd rm D cy av ws mc ms (QD D cy r ws')
theorem cPre_blind (D : va_G) (cy : Nat → Nat) (av : List Value) (ws : va_W) (sz : Nat) : FrameBlind (va_Pc av (cPre D cy ws sz)) := fun a U g mk q => by
  obtain ⟨q0, q1, qP, qK, qD, qN⟩ := q
  exact ⟨q0, q1, qP, va_K.moved (u := U) (U := U.calling g mk a) (Vm.Alike.refl U.vm) qK, qD, cG.same (u := U) (U := U.calling g mk a) rfl qN⟩
theorem CQ_of {l : Launch} {y : MethodName} {wd ws9 : List Cond} {rm : Room} {D : va_G} {cy : Nat → Nat} {av : List Value} {ws : va_W} {mc ms : Nat} {Qc : (Nat → Prop) → Array Value → State → Outcome → State → Prop} {cc : ByteArray} {maxL : Nat} {ret : Option FieldType}
    (hy : plainName y.cls = true) (hw : wd = Cond.code y cc maxL ret :: ws9) (hlen : (lg_sl av).length ≤ maxL)
    (body : ∀ (p : Program) (e : Env) (s : State) (m : MethodId) (args : Array Value) (below : List Frame) (meth : Method) (c : Code) (A : Nat → Prop) (ls : Array Slot),
      p.tables.exec = Jvm.exec → c.code = cc → meth.sig.returnType = ret → c.maxLocals = maxL → meth.locks = false → meth.name = y.name → s.vm.findClass y.cls = some m.cls → (∀ w ∈ wd, w.before args s = true) → (∀ q, s.heap.size ≤ q → A q) →
      va_K D vwCl (tyl cy) s → cG cy A s s.heap → va_P D vwCl ws s.heap → va_D A ws → va_S A s.heap s.heap [] → lv_has ls maxL (lv_args 0 av) →
      W p l e rm s m args below meth c s.heap [] 0 0 (MQ below (Qc A) args s mc ms A) (F0 m 0 ls [])) : CQ l y wd rm D cy av ws mc ms Qc := by
  intro sz
  refine Met.ofW (cc := cc) (maxL := maxL) (ret := ret) hy hw ?_
  intro p e s m args below meth c s₁ B hml hv
  obtain ⟨rfl, hsz, hP, hK, hD0, hN⟩ := hv
  subst hsz
  have hts := atoms_spec (ws := wd) B.pre
  have hl := lv_entry av (n := maxL) hlen
  rw [lg_entry_eq]
  exact body p e s m av.toArray below meth c (va_A ws s.heap.size) _ B.exec B.bytes B.returns hml B.notSynchronized (name_of_methodNamed B.named B.method).1 (findClass_of_methodNamed B.named) hts (fun q h => Or.inr h) hK hN hP hD0.self va_S.rf hl
theorem aW_free {A : Nat → Prop} {X wc Y : va_W} {H0 H : Heap} {locs : List Loc} (hD : va_D A (X ++ (wc ++ Y))) (hS : va_S A H0 H locs) (hA : ∀ q, H0.size ≤ q → A q) : ∀ q, va_A wc H.size q → A q := by
  intro q h
  rcases h with ⟨k, e9, h⟩ | h
  · exact (va_D_l (va_D_r hD)).2 k (q, e9) h
  · exact hA q (Nat.le_trans hS.1 h)
section RUN
variable {p : Program} {l : Launch} {e : Env} {R : Room} {s : State} {m : MethodId} {args : Array Value} {below : List Frame} {meth : Method} {c : Code} {H : Heap} {locs : List Loc} {cells slots : Nat} {Q : State → Prop}
variable {y : MethodName} {bytes cc : ByteArray} {maxL nL mc ms n index : Nat} {ret : Option FieldType} {wd : List Cond} {rm : Room} {Ts : List Cond} {own C : String} {b : Addr} {As rest st0 : List Value} {pc : Nat} {ls : Array Slot} {D : va_G} {cy : Nat → Nat} {A : Nat → Prop} {ws X wc wc' Y : va_W} {Qc : (Nat → Prop) → Array Value → State → Outcome → State → Prop}
/-- a call of an instance method, chosen by the receiver's class -/
theorem rV (S : CallFix p m c cc nL s args Ts own) (hM : CQ l y wd rm D cy (.ref b :: As) wc mc ms Qc) (cw : CallW R s args own C index y bytes maxL ret wd rm mc ms n) (hK : va_K D vwCl (tyl cy) s) (hN : cG cy A s s.heap) (hP : va_P D vwCl ws H) (hD : va_D A ws) (hS : va_S A s.heap H locs) (hA : ∀ q, s.heap.size ≤ q → A q) (hws : ws = X ++ (wc ++ Y))
    (q0 ci : Nat) {fs : List Value} {T : u_T} {N : Nat} (hrec : wc[q0]? = some (b, .inr (ci, fs))) (hcl : vwCl[ci]? = some (C, T, N)) (hn : As.length = n) (hsize : ls.size = nL) (hstack : st0 = As.reverse ++ .ref b :: rest) (hW : 2 * (F0 m pc ls st0).monitorRoom + (rest.map fun v => v.category).sum ≤ 8) (hdg : decode cc pc = .ok (.invokevirtual index, 3)) (hf : cells + mc ≤ R.cells ∧ slots + ms ≤ R.slots) :
    va_Run p l e R s m args below meth c H locs cells slots mc ms (F0 m pc ls st0) rest (Qc (va_A wc H.size) (Value.ref b :: As).toArray) (va_A wc H.size) := by
  subst hws
  have hPc : va_P D vwCl wc H := va_P_l (va_P_r hP)
  have hDc : va_D A wc := va_D_l (va_D_r hD)
  exact va_runV S (hM H.size) cw ⟨cPre_blind D cy _ wc H.size, va_recv hK hPc (q := (C, T, N)) hcl hrec, fun U hU hW => ⟨rfl, by rw [hU], by rw [hU]; exact hPc, va_K.moved hW.alike hK, hDc.weaken (fun _ _ _ _ => trivial), by rw [hU]; exact hN.call hS (aW_free hD hS hA) hW⟩⟩ rfl hn hsize hstack hW hdg hf
/-- a static call -/
theorem rS (S : CallFix p m c cc nL s args Ts own) (hM : CQ l y wd rm D cy As wc mc ms Qc) (cw : CallB R s args own index y bytes maxL ret wd rm mc ms n ∧ (Cond.static y).before args s = true) (hK : va_K D vwCl (tyl cy) s) (hN : cG cy A s s.heap) (hP : va_P D vwCl ws H) (hD : va_D A ws) (hS : va_S A s.heap H locs) (hA : ∀ q, s.heap.size ≤ q → A q) (hws : ws = X ++ (wc ++ Y))
    (hn : As.length = n) (hsize : ls.size = nL) (hstack : st0 = As.reverse ++ rest) (hW : 2 * (F0 m pc ls st0).monitorRoom + (rest.map fun v => v.category).sum ≤ 8) (hdg : decode cc pc = .ok (.invokestatic index, 3)) (hf : cells + mc ≤ R.cells ∧ slots + ms ≤ R.slots) :
    va_Run p l e R s m args below meth c H locs cells slots mc ms (F0 m pc ls st0) rest (Qc (va_A wc H.size) As.toArray) (va_A wc H.size) := by
  subst hws
  have hPc : va_P D vwCl wc H := va_P_l (va_P_r hP)
  have hDc : va_D A wc := va_D_l (va_D_r hD)
  exact va_runS S (hM H.size) cw ⟨cPre_blind D cy _ wc H.size, fun U hU hW => ⟨rfl, by rw [hU], by rw [hU]; exact hPc, va_K.moved hW.alike hK, hDc.weaken (fun _ _ _ _ => trivial), by rw [hU]; exact hN.call hS (aW_free hD hS hA) hW⟩⟩ rfl hn hsize hstack hW hdg hf
/-- a static call of a nest mate's private method -/
theorem rSN {host : String} (S : CallFix p m c cc nL s args Ts own) (hM : CQ l y wd rm D cy As wc mc ms Qc) (cw : va_CN R s args own index y host bytes maxL ret wd rm mc ms n) (hst : (Cond.static y).before args s = true) (hK : va_K D vwCl (tyl cy) s) (hN : cG cy A s s.heap) (hP : va_P D vwCl ws H) (hD : va_D A ws) (hS : va_S A s.heap H locs) (hA : ∀ q, s.heap.size ≤ q → A q) (hws : ws = X ++ (wc ++ Y))
    (hn : As.length = n) (hsize : ls.size = nL) (hstack : st0 = As.reverse ++ rest) (hW : 2 * (F0 m pc ls st0).monitorRoom + (rest.map fun v => v.category).sum ≤ 8) (hdg : decode cc pc = .ok (.invokestatic index, 3)) (hf : cells + mc ≤ R.cells ∧ slots + ms ≤ R.slots) :
    va_Run p l e R s m args below meth c H locs cells slots mc ms (F0 m pc ls st0) rest (Qc (va_A wc H.size) As.toArray) (va_A wc H.size) := by
  subst hws
  have hPc : va_P D vwCl wc H := va_P_l (va_P_r hP)
  have hDc : va_D A wc := va_D_l (va_D_r hD)
  exact va_runSN S (hM H.size) ⟨cw, hst, trivial⟩ ⟨cPre_blind D cy _ wc H.size, fun U hU hW => ⟨rfl, by rw [hU], by rw [hU]; exact hPc, va_K.moved hW.alike hK, hDc.weaken (fun _ _ _ _ => trivial), by rw [hU]; exact hN.call hS (aW_free hD hS hA) hW⟩⟩ rfl hn hsize hstack hW hdg hf
variable {a : Array Value} {r : Int32} {rl : Int64}
theorem ki (hr : va_Run p l e R s m args below meth c H locs cells slots mc ms (F0 m pc ls st0) rest (QI D cy r wc' (va_A wc H.size) a) (va_A wc H.size)) (hP : va_P D vwCl ws H) (hD : va_D A ws) (hS : va_S A s.heap H locs) (hA : ∀ q, s.heap.size ≤ q → A q) (hws : ws = X ++ (wc ++ Y)) (hfst : wc'.map (·.1) = wc.map (·.1)) {ws1 : va_W} (hws1 : X ++ (wc' ++ Y) = ws1)
    (kk : ∀ (H1 : Heap) (locs1 : List Loc), va_P D vwCl ws1 H1 → va_D A ws1 → va_S A s.heap H1 locs1 → W p l e R s m args below meth c H1 locs1 (cells + mc) (slots + ms) Q (F0 m (pc + 3) ls (.int r :: rest))) : W p l e R s m args below meth c H locs cells slots Q (F0 m pc ls st0) := by
  subst hws
  subst hws1
  have hF := aW_free hD hS hA
  refine va_calli hr hS (fun q _ h => hF q h) hF (fun x u t H1 locs1 ht hvm hw hB hz1 hk1 hS1 => ?_)
  obtain ⟨hP1, -, hD1⟩ := hB
  rw [ht] at hP1
  subst hw
  obtain ⟨g1, g2⟩ := fr1 hP hD hk1 hP1 hfst
  exact kk H1 locs1 g1 g2 hS1
theorem kl (hr : va_Run p l e R s m args below meth c H locs cells slots mc ms (F0 m pc ls st0) rest (QL D cy rl wc' (va_A wc H.size) a) (va_A wc H.size)) (hP : va_P D vwCl ws H) (hD : va_D A ws) (hS : va_S A s.heap H locs) (hA : ∀ q, s.heap.size ≤ q → A q) (hws : ws = X ++ (wc ++ Y)) (hfst : wc'.map (·.1) = wc.map (·.1)) {ws1 : va_W} (hws1 : X ++ (wc' ++ Y) = ws1)
    (kk : ∀ (H1 : Heap) (locs1 : List Loc), va_P D vwCl ws1 H1 → va_D A ws1 → va_S A s.heap H1 locs1 → W p l e R s m args below meth c H1 locs1 (cells + mc) (slots + ms) Q (F0 m (pc + 3) ls (.long rl :: rest))) : W p l e R s m args below meth c H locs cells slots Q (F0 m pc ls st0) := by
  subst hws
  subst hws1
  have hF := aW_free hD hS hA
  refine va_calll hr hS (fun q _ h => hF q h) hF (fun x u t H1 locs1 ht hvm hw hB hz1 hk1 hS1 => ?_)
  obtain ⟨hP1, -, hD1⟩ := hB
  rw [ht] at hP1
  subst hw
  obtain ⟨g1, g2⟩ := fr1 hP hD hk1 hP1 hfst
  exact kk H1 locs1 g1 g2 hS1
theorem kv (hr : va_Run p l e R s m args below meth c H locs cells slots mc ms (F0 m pc ls st0) rest (QV D cy wc' (va_A wc H.size) a) (va_A wc H.size)) (hP : va_P D vwCl ws H) (hD : va_D A ws) (hS : va_S A s.heap H locs) (hA : ∀ q, s.heap.size ≤ q → A q) (hws : ws = X ++ (wc ++ Y)) (hfst : wc'.map (·.1) = wc.map (·.1)) {ws1 : va_W} (hws1 : X ++ (wc' ++ Y) = ws1)
    (kk : ∀ (H1 : Heap) (locs1 : List Loc), va_P D vwCl ws1 H1 → va_D A ws1 → va_S A s.heap H1 locs1 → W p l e R s m args below meth c H1 locs1 (cells + mc) (slots + ms) Q (F0 m (pc + 3) ls rest)) : W p l e R s m args below meth c H locs cells slots Q (F0 m pc ls st0) := by
  subst hws
  subst hws1
  have hF := aW_free hD hS hA
  refine va_callv hr hS (fun q _ h => hF q h) hF (fun u t H1 locs1 ht hvm hw hB hz1 hk1 hS1 => ?_)
  obtain ⟨hP1, -, hD1⟩ := hB
  rw [ht] at hP1
  obtain ⟨g1, g2⟩ := fr1 hP hD hk1 hP1 hfst
  exact kk H1 locs1 g1 g2 hS1
/-- stores, with the world behind them by its name -/
theorem s_ia {ws1 : va_W} {a : Nat} {H0 : Heap} (hx : p.tables.exec = Jvm.exec) (hb : c.code = cc) (hK : va_K D vwCl (tyl cy) s) (hP : va_P D vwCl ws H) (hD : va_D A ws) (hS : va_S A H0 H locs) (q0 : Nat) {n : Nat} {f : Nat → Int32} (ha : ws[q0]? = some (a, .inl (cy 0, n, .inl f))) {i v : Int32} (hin : vp_in i n) (hset : ws.set q0 (a, .inl (cy 0, n, .inl (upd f i.toNatClampNeg v))) = ws1) (hdg : decode cc pc = .ok (.iastore, 1))
    (kk : ∀ (H1 : Heap) (locs1 : List Loc), va_P D vwCl ws1 H1 → va_D A ws1 → va_S A H0 H1 locs1 → W p l e R s m args below meth c H1 locs1 cells slots Q (F0 m (pc + 1) ls rest)) : W p l e R s m args below meth c H locs cells slots Q (F0 m pc ls (.int v :: .int i :: .ref a :: rest)) := by
  subst hset
  exact va_iast hx hb hK hP hD hS q0 0 ha rfl hin hdg kk
theorem s_ca {ws1 : va_W} {a : Nat} {H0 : Heap} (hx : p.tables.exec = Jvm.exec) (hb : c.code = cc) (hK : va_K D vwCl (tyl cy) s) (hP : va_P D vwCl ws H) (hD : va_D A ws) (hS : va_S A H0 H locs) (q0 : Nat) {n : Nat} {f : Nat → Int32} (ha : ws[q0]? = some (a, .inl (cy 2, n, .inl f))) {i v : Int32} (hin : vp_in i n) (hv : 0 ≤ v ∧ v < 65536) (hset : ws.set q0 (a, .inl (cy 2, n, .inl (upd f i.toNatClampNeg v))) = ws1) (hdg : decode cc pc = .ok (.castore, 1))
    (kk : ∀ (H1 : Heap) (locs1 : List Loc), va_P D vwCl ws1 H1 → va_D A ws1 → va_S A H0 H1 locs1 → W p l e R s m args below meth c H1 locs1 cells slots Q (F0 m (pc + 1) ls rest)) : W p l e R s m args below meth c H locs cells slots Q (F0 m pc ls (.int v :: .int i :: .ref a :: rest)) := by
  subst hset
  have hn : vp_nar .char v = v := by unfold vp_nar; rw [gch_n hv]
  refine va_cast hx hb hK hP hD hS q0 2 ha rfl hin hdg ?_
  rw [hn]
  exact kk
theorem s_la {ws1 : va_W} {a : Nat} {H0 : Heap} (hx : p.tables.exec = Jvm.exec) (hb : c.code = cc) (hK : va_K D vwCl (tyl cy) s) (hP : va_P D vwCl ws H) (hD : va_D A ws) (hS : va_S A H0 H locs) (q0 : Nat) {n : Nat} {f : Nat → Int64} (ha : ws[q0]? = some (a, .inl (cy 1, n, .inr (.inl f)))) {i : Int32} {v : Int64} (hin : vp_in i n) (hset : ws.set q0 (a, .inl (cy 1, n, .inr (.inl (vp_updL f i.toNatClampNeg v)))) = ws1) (hdg : decode cc pc = .ok (.lastore, 1))
    (kk : ∀ (H1 : Heap) (locs1 : List Loc), va_P D vwCl ws1 H1 → va_D A ws1 → va_S A H0 H1 locs1 → W p l e R s m args below meth c H1 locs1 cells slots Q (F0 m (pc + 1) ls rest)) : W p l e R s m args below meth c H locs cells slots Q (F0 m pc ls (.long v :: .int i :: .ref a :: rest)) := by
  subst hset
  exact va_last hx hb hK hP hD hS q0 1 ha rfl hin hdg kk
theorem s_pf {ws1 : va_W} {a : Nat} {H0 : Heap} (hx : p.tables.exec = Jvm.exec) (hb : c.code = cc) {ref : String} {T : u_T} {N ci : Nat} (hts : ∀ w ∈ Ts, w.before args s = true) (hin : ∀ w ∈ u_ws C T N, w ∈ Ts) (ty0 : Nat → FieldType) (hty : ∀ k, k < N → parseFieldDescriptor (T k).2.2.1 = some (ty0 k)) (hnm : ∀ a, a < N → ∀ b, b < N → a ≠ b → (T a).2.1 ≠ (T b).2.1) (hown : s.vm.findClass own = some m.cls) (hK : va_K D vwCl (tyl cy) s) (hP : va_P D vwCl ws H) (hD : va_D A ws) (hS : va_S A H0 H locs) (q0 : Nat) {fs : List Value} (he : ws[q0]? = some (a, .inr (ci, fs))) (hc : vwCl[ci]? = some (C, T, N)) (k : Nat) (hk : k < N) (hlink : (Cond.fieldLink own index ref (T k).2.1 (T k).2.2.1).before args s = true) (href : (T k).1 = ref) (hfin : (T k).2.2.2 = false) {v : Value} (hn : narrow (ty0 k) v = v) (hfit : fits (ty0 k) v = true) (hl : k < fs.length)
    (hset : ws.set q0 (a, .inr (ci, fs.set k v)) = ws1) (hdg : decode cc pc = .ok (.putfield index, 3)) (kk : ∀ (H1 : Heap) (locs1 : List Loc), va_P D vwCl ws1 H1 → va_D A ws1 → va_S A H0 H1 locs1 → W p l e R s m args below meth c H1 locs1 cells slots Q (F0 m (pc + 3) ls rest)) : W p l e R s m args below meth c H locs cells slots Q (F0 m pc ls (v :: .ref a :: rest)) := by
  subst hset
  subst href
  exact va_put hx hb hts hin ty0 hty hnm hown hK hP hD hS q0 he hc k hk hlink (fun _ h9 => h9) hfin (hty k hk) hn hfit hl hdg kk
/-- a name for the number on the stack -/
theorem s_nm {x y : Int32} (h : y = x) (k : W p l e R s m args below meth c H locs cells slots Q (F0 m pc ls (.int y :: rest))) : W p l e R s m args below meth c H locs cells slots Q (F0 m pc ls (.int x :: rest)) := by subst h; exact k
theorem s_nmL {x y : Int64} (h : y = x) (k : W p l e R s m args below meth c H locs cells slots Q (F0 m pc ls (.long y :: rest))) : W p l e R s m args below meth c H locs cells slots Q (F0 m pc ls (.long x :: rest)) := by subst h; exact k
/-- the ends -/
theorem ei {v : Int32} {ws' : va_W} (hx : p.tables.exec = Jvm.exec) (hb : c.code = cc) (hr : meth.sig.returnType = some .int) (hlocks : meth.locks = false) (hK : va_K D vwCl (tyl cy) s) (hP : va_P D vwCl ws H) (hD : va_D A ws) (hS : va_S A s.heap H locs) (hv : v = r) (hw : ws = ws') (hdg : decode cc pc = .ok (.ireturn, 1)) :
    W p l e R s m args below meth c H locs cells slots (MQ below (QI D cy r ws' A) args s cells slots A) (F0 m pc ls [.int v]) := by
  subst hw
  exact W.iret hx hb hr (fun t ht hW => ⟨⟨v, (), rfl, hv, by rw [ht]; exact hP, va_K.moved hW.alike hK, hD⟩, hS.F ht⟩) hS.2.2 hdg
theorem ez {v : Int32} {ws' : va_W} {ty : FieldType} (hx : p.tables.exec = Jvm.exec) (hb : c.code = cc) (hr : meth.sig.returnType = some ty) (hn : narrow ty (.int v) = .int v) (hlocks : meth.locks = false) (hK : va_K D vwCl (tyl cy) s) (hP : va_P D vwCl ws H) (hD : va_D A ws) (hS : va_S A s.heap H locs) (hv : v = r) (hw : ws = ws') (hdg : decode cc pc = .ok (.ireturn, 1)) :
    W p l e R s m args below meth c H locs cells slots (MQ below (QI D cy r ws' A) args s cells slots A) (F0 m pc ls [.int v]) := by
  subst hw
  exact W.zret hx hb hr hn (fun t ht hW => ⟨⟨v, (), rfl, hv, by rw [ht]; exact hP, va_K.moved hW.alike hK, hD⟩, hS.F ht⟩) hS.2.2 hdg
theorem el {v : Int64} {ws' : va_W} (hx : p.tables.exec = Jvm.exec) (hb : c.code = cc) (hr : meth.sig.returnType = some .long) (hlocks : meth.locks = false) (hK : va_K D vwCl (tyl cy) s) (hP : va_P D vwCl ws H) (hD : va_D A ws) (hS : va_S A s.heap H locs) (hv : v = rl) (hw : ws = ws') (hdg : decode cc pc = .ok (.lreturn, 1)) :
    W p l e R s m args below meth c H locs cells slots (MQ below (QL D cy rl ws' A) args s cells slots A) (F0 m pc ls [.long v]) := by
  subst hw
  exact W.lret hx hb hr (fun t ht hW => ⟨⟨v, (), rfl, hv, by rw [ht]; exact hP, va_K.moved hW.alike hK, hD⟩, hS.F ht⟩) hS.2.2 hdg
theorem ed {v rd : UInt64} {ws' : va_W} (hx : p.tables.exec = Jvm.exec) (hb : c.code = cc) (hr : meth.sig.returnType = some .double) (hlocks : meth.locks = false) (hK : va_K D vwCl (tyl cy) s) (hP : va_P D vwCl ws H) (hD : va_D A ws) (hS : va_S A s.heap H locs) (hv : v = rd) (hw : ws = ws') (hdg : decode cc pc = .ok (.dreturn, 1)) :
    W p l e R s m args below meth c H locs cells slots (MQ below (QD D cy rd ws' A) args s cells slots A) (F0 m pc ls [.double v]) := by
  subst hw
  exact W.dret hx hb hr (fun t ht hW => ⟨⟨v, (), rfl, hv, by rw [ht]; exact hP, va_K.moved hW.alike hK, hD⟩, hS.F ht⟩) hS.2.2 hdg
theorem ev {ws' : va_W} (hx : p.tables.exec = Jvm.exec) (hb : c.code = cc) (hr : meth.sig.returnType = none) (hlocks : meth.locks = false) (hK : va_K D vwCl (tyl cy) s) (hP : va_P D vwCl ws H) (hD : va_D A ws) (hS : va_S A s.heap H locs) (hw : ws = ws') (hdg : decode cc pc = .ok (.return_, 1)) :
    W p l e R s m args below meth c H locs cells slots (MQ below (QV D cy ws' A) args s cells slots A) (F0 m pc ls []) := by
  subst hw
  exact W.vret hx hb hr (fun t ht hW => ⟨⟨(), rfl, trivial, by rw [ht]; exact hP, va_K.moved hW.alike hK, hD⟩, hS.F ht⟩) hS.2.2 hdg
end RUN
