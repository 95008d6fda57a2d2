/-! memories of a world, partial answers, contracts that say the whole end -/
abbrev Mem : Type := Nat → Nat → Int32
abbrev MemL : Type := Nat → Nat → Int64
def wrI (m : Mem) (k : Nat) (f : Nat → Int32) : Mem := fun j => cond (Nat.beq j k) f (m j)
def wrL (m : MemL) (k : Nat) (f : Nat → Int64) : MemL := fun j => cond (Nat.beq j k) f (m j)
def gi {α : Type} (i : Int32) (n : Nat) (x : Option α) : Option α := if i < 0 ∨ n ≤ i.toNatClampNeg then none else x
theorem gi_el {α : Type} {i : Int32} {n : Nat} {x : Option α} {r : α} (h : gi i n x = some r) : vp_in i n ∧ x = some r := by
  unfold gi at h
  by_cases hc : i < 0 ∨ n ≤ i.toNatClampNeg
  · rw [if_pos hc] at h; cases h
  · rw [if_neg hc] at h; exact ⟨hc, h⟩
def gb {α : Type} (v : Int32) (x : Option α) : Option α := if v = 0 ∨ v = 1 then x else none
theorem gb_el {α : Type} {v : Int32} {x : Option α} {r : α} (h : gb v x = some r) : (v = 0 ∨ v = 1) ∧ x = some r := by
  unfold gb at h
  by_cases hc : v = 0 ∨ v = 1
  · rw [if_pos hc] at h; exact ⟨hc, h⟩
  · rw [if_neg hc] at h; cases h
theorem gb_n {v : Int32} (h : v = 0 ∨ v = 1) : narrow .boolean (.int v) = .int v := by
  rcases h with h | h <;> subst h <;> decide
theorem gb_f {v : Int32} (h : v = 0 ∨ v = 1) : fits .boolean (.int v) = true := by
  rcases h with h | h <;> subst h <;> decide
/-- a char's range -/
def gch {α : Type} (v : Int32) (x : Option α) : Option α := if 0 ≤ v ∧ v < 65536 then x else none
theorem gch_el {α : Type} {v : Int32} {x : Option α} {r : α} (h : gch v x = some r) : (0 ≤ v ∧ v < 65536) ∧ x = some r := by
  unfold gch at h
  by_cases hc : 0 ≤ v ∧ v < 65536
  · rw [if_pos hc] at h; exact ⟨hc, h⟩
  · rw [if_neg hc] at h; cases h
theorem gch_q {v : Int32} (h : 0 ≤ v ∧ v < 65536) : ∃ q : Nat, q < 65536 ∧ v = nI q := by
  obtain ⟨j, hj, rfl⟩ := nI_of (x := v) (fun h2 => absurd (Int32.lt_iff_toInt_lt.mp h2) (by have := Int32.le_iff_toInt_le.mp h.1; omega))
  refine ⟨j, ?_, rfl⟩
  have h2 := h.2
  rw [show (65536 : Int32) = nI 65536 from rfl, nI_ltI hj (by decide)] at h2
  exact h2
theorem gch_n {v : Int32} (h : 0 ≤ v ∧ v < 65536) : narrow .char (.int v) = .int v := by
  obtain ⟨q, hq, rfl⟩ := gch_q h; exact (pk_charN hq).1
theorem gch_f {v : Int32} (h : 0 ≤ v ∧ v < 65536) : fits .char (.int v) = true := by
  obtain ⟨q, hq, rfl⟩ := gch_q h; exact (pk_charN hq).2
def lt' {α β : Type} (x : α) (k : α → Option β) : Option β := k x
theorem lt_el {α β : Type} {x : α} {k : α → Option β} {r : β} (h : lt' x k = some r) : ∃ y, y = x ∧ k y = some r := ⟨x, rfl, h⟩
def bd1 {α γ : Type} (x : Option α) (k : α → Option γ) : Option γ := match x with | none => none | some a => k a
theorem bd1_el {α γ : Type} {x : Option α} {k : α → Option γ} {r : γ} (h : bd1 x k = some r) : ∃ a, x = some a ∧ k a = some r := by
  cases x with | none => cases h | some a => exact ⟨a, rfl, h⟩
def bd2 {α β γ : Type} (x : Option (α × β)) (k : α → β → Option γ) : Option γ := match x with | none => none | some q => k q.1 q.2
theorem bd2_el {α β γ : Type} {x : Option (α × β)} {k : α → β → Option γ} {r : γ} (h : bd2 x k = some r) : ∃ a b, x = some (a, b) ∧ k a b = some r := by
  cases x with | none => cases h | some q => exact ⟨q.1, q.2, rfl, h⟩
def bd3 {α β δ γ : Type} (x : Option (α × β × δ)) (k : α → β → δ → Option γ) : Option γ := match x with | none => none | some q => k q.1 q.2.1 q.2.2
theorem bd3_el {α β δ γ : Type} {x : Option (α × β × δ)} {k : α → β → δ → Option γ} {r : γ} (h : bd3 x k = some r) : ∃ a b c, x = some (a, b, c) ∧ k a b c = some r := by
  cases x with | none => cases h | some q => exact ⟨q.1, q.2.1, q.2.2, rfl, h⟩
def bd4 {α β δ ε γ : Type} (x : Option (α × β × δ × ε)) (k : α → β → δ → ε → Option γ) : Option γ := match x with | none => none | some q => k q.1 q.2.1 q.2.2.1 q.2.2.2
theorem bd4_el {α β δ ε γ : Type} {x : Option (α × β × δ × ε)} {k : α → β → δ → ε → Option γ} {r : γ} (h : bd4 x k = some r) : ∃ a b c d, x = some (a, b, c, d) ∧ k a b c d = some r := by
  cases x with | none => cases h | some q => exact ⟨q.1, q.2.1, q.2.2.1, q.2.2.2, rfl, h⟩
def bd5 {t1 t2 t3 t4 t5 γ : Type} (x : Option (t1 × t2 × t3 × t4 × t5)) (k : t1 → t2 → t3 → t4 → t5 → Option γ) : Option γ := match x with | none => none | some q => k q.1 q.2.1 q.2.2.1 q.2.2.2.1 q.2.2.2.2
theorem bd5_el {t1 t2 t3 t4 t5 γ : Type} {x : Option (t1 × t2 × t3 × t4 × t5)} {k : t1 → t2 → t3 → t4 → t5 → Option γ} {r : γ} (h : bd5 x k = some r) : ∃ a1 a2 a3 a4 a5, x = some (a1, a2, a3, a4, a5) ∧ k a1 a2 a3 a4 a5 = some r := by
  cases x with | none => cases h | some q => exact ⟨q.1, q.2.1, q.2.2.1, q.2.2.2.1, q.2.2.2.2, rfl, h⟩
def bd6 {t1 t2 t3 t4 t5 t6 γ : Type} (x : Option (t1 × t2 × t3 × t4 × t5 × t6)) (k : t1 → t2 → t3 → t4 → t5 → t6 → Option γ) : Option γ := match x with | none => none | some q => k q.1 q.2.1 q.2.2.1 q.2.2.2.1 q.2.2.2.2.1 q.2.2.2.2.2
theorem bd6_el {t1 t2 t3 t4 t5 t6 γ : Type} {x : Option (t1 × t2 × t3 × t4 × t5 × t6)} {k : t1 → t2 → t3 → t4 → t5 → t6 → Option γ} {r : γ} (h : bd6 x k = some r) : ∃ a1 a2 a3 a4 a5 a6, x = some (a1, a2, a3, a4, a5, a6) ∧ k a1 a2 a3 a4 a5 a6 = some r := by
  cases x with | none => cases h | some q => exact ⟨q.1, q.2.1, q.2.2.1, q.2.2.2.1, q.2.2.2.2.1, q.2.2.2.2.2, rfl, h⟩
def bd7 {t1 t2 t3 t4 t5 t6 t7 γ : Type} (x : Option (t1 × t2 × t3 × t4 × t5 × t6 × t7)) (k : t1 → t2 → t3 → t4 → t5 → t6 → t7 → Option γ) : Option γ := match x with | none => none | some q => k q.1 q.2.1 q.2.2.1 q.2.2.2.1 q.2.2.2.2.1 q.2.2.2.2.2.1 q.2.2.2.2.2.2
theorem bd7_el {t1 t2 t3 t4 t5 t6 t7 γ : Type} {x : Option (t1 × t2 × t3 × t4 × t5 × t6 × t7)} {k : t1 → t2 → t3 → t4 → t5 → t6 → t7 → Option γ} {r : γ} (h : bd7 x k = some r) : ∃ a1 a2 a3 a4 a5 a6 a7, x = some (a1, a2, a3, a4, a5, a6, a7) ∧ k a1 a2 a3 a4 a5 a6 a7 = some r := by
  cases x with | none => cases h | some q => exact ⟨q.1, q.2.1, q.2.2.1, q.2.2.2.1, q.2.2.2.2.1, q.2.2.2.2.2.1, q.2.2.2.2.2.2, rfl, h⟩
def bd8 {t1 t2 t3 t4 t5 t6 t7 t8 γ : Type} (x : Option (t1 × t2 × t3 × t4 × t5 × t6 × t7 × t8)) (k : t1 → t2 → t3 → t4 → t5 → t6 → t7 → t8 → Option γ) : Option γ := match x with | none => none | some q => k q.1 q.2.1 q.2.2.1 q.2.2.2.1 q.2.2.2.2.1 q.2.2.2.2.2.1 q.2.2.2.2.2.2.1 q.2.2.2.2.2.2.2
theorem bd8_el {t1 t2 t3 t4 t5 t6 t7 t8 γ : Type} {x : Option (t1 × t2 × t3 × t4 × t5 × t6 × t7 × t8)} {k : t1 → t2 → t3 → t4 → t5 → t6 → t7 → t8 → Option γ} {r : γ} (h : bd8 x k = some r) : ∃ a1 a2 a3 a4 a5 a6 a7 a8, x = some (a1, a2, a3, a4, a5, a6, a7, a8) ∧ k a1 a2 a3 a4 a5 a6 a7 a8 = some r := by
  cases x with | none => cases h | some q => exact ⟨q.1, q.2.1, q.2.2.1, q.2.2.2.1, q.2.2.2.2.1, q.2.2.2.2.2.1, q.2.2.2.2.2.2.1, q.2.2.2.2.2.2.2, rfl, h⟩
def bd9 {t1 t2 t3 t4 t5 t6 t7 t8 t9 γ : Type} (x : Option (t1 × t2 × t3 × t4 × t5 × t6 × t7 × t8 × t9)) (k : t1 → t2 → t3 → t4 → t5 → t6 → t7 → t8 → t9 → Option γ) : Option γ := match x with | none => none | some q => k q.1 q.2.1 q.2.2.1 q.2.2.2.1 q.2.2.2.2.1 q.2.2.2.2.2.1 q.2.2.2.2.2.2.1 q.2.2.2.2.2.2.2.1 q.2.2.2.2.2.2.2.2
theorem bd9_el {t1 t2 t3 t4 t5 t6 t7 t8 t9 γ : Type} {x : Option (t1 × t2 × t3 × t4 × t5 × t6 × t7 × t8 × t9)} {k : t1 → t2 → t3 → t4 → t5 → t6 → t7 → t8 → t9 → Option γ} {r : γ} (h : bd9 x k = some r) : ∃ a1 a2 a3 a4 a5 a6 a7 a8 a9, x = some (a1, a2, a3, a4, a5, a6, a7, a8, a9) ∧ k a1 a2 a3 a4 a5 a6 a7 a8 a9 = some r := by
  cases x with | none => cases h | some q => exact ⟨q.1, q.2.1, q.2.2.1, q.2.2.2.1, q.2.2.2.2.1, q.2.2.2.2.2.1, q.2.2.2.2.2.2.1, q.2.2.2.2.2.2.2.1, q.2.2.2.2.2.2.2.2, rfl, h⟩
def bd10 {t1 t2 t3 t4 t5 t6 t7 t8 t9 t10 γ : Type} (x : Option (t1 × t2 × t3 × t4 × t5 × t6 × t7 × t8 × t9 × t10)) (k : t1 → t2 → t3 → t4 → t5 → t6 → t7 → t8 → t9 → t10 → Option γ) : Option γ := match x with | none => none | some q => k q.1 q.2.1 q.2.2.1 q.2.2.2.1 q.2.2.2.2.1 q.2.2.2.2.2.1 q.2.2.2.2.2.2.1 q.2.2.2.2.2.2.2.1 q.2.2.2.2.2.2.2.2.1 q.2.2.2.2.2.2.2.2.2
theorem bd10_el {t1 t2 t3 t4 t5 t6 t7 t8 t9 t10 γ : Type} {x : Option (t1 × t2 × t3 × t4 × t5 × t6 × t7 × t8 × t9 × t10)} {k : t1 → t2 → t3 → t4 → t5 → t6 → t7 → t8 → t9 → t10 → Option γ} {r : γ} (h : bd10 x k = some r) : ∃ a1 a2 a3 a4 a5 a6 a7 a8 a9 a10, x = some (a1, a2, a3, a4, a5, a6, a7, a8, a9, a10) ∧ k a1 a2 a3 a4 a5 a6 a7 a8 a9 a10 = some r := by
  cases x with | none => cases h | some q => exact ⟨q.1, q.2.1, q.2.2.1, q.2.2.2.1, q.2.2.2.2.1, q.2.2.2.2.2.1, q.2.2.2.2.2.2.1, q.2.2.2.2.2.2.2.1, q.2.2.2.2.2.2.2.2.1, q.2.2.2.2.2.2.2.2.2, rfl, h⟩
def bd11 {t1 t2 t3 t4 t5 t6 t7 t8 t9 t10 t11 γ : Type} (x : Option (t1 × t2 × t3 × t4 × t5 × t6 × t7 × t8 × t9 × t10 × t11)) (k : t1 → t2 → t3 → t4 → t5 → t6 → t7 → t8 → t9 → t10 → t11 → Option γ) : Option γ := match x with | none => none | some q => k q.1 q.2.1 q.2.2.1 q.2.2.2.1 q.2.2.2.2.1 q.2.2.2.2.2.1 q.2.2.2.2.2.2.1 q.2.2.2.2.2.2.2.1 q.2.2.2.2.2.2.2.2.1 q.2.2.2.2.2.2.2.2.2.1 q.2.2.2.2.2.2.2.2.2.2
theorem bd11_el {t1 t2 t3 t4 t5 t6 t7 t8 t9 t10 t11 γ : Type} {x : Option (t1 × t2 × t3 × t4 × t5 × t6 × t7 × t8 × t9 × t10 × t11)} {k : t1 → t2 → t3 → t4 → t5 → t6 → t7 → t8 → t9 → t10 → t11 → Option γ} {r : γ} (h : bd11 x k = some r) : ∃ a1 a2 a3 a4 a5 a6 a7 a8 a9 a10 a11, x = some (a1, a2, a3, a4, a5, a6, a7, a8, a9, a10, a11) ∧ k a1 a2 a3 a4 a5 a6 a7 a8 a9 a10 a11 = some r := by
  cases x with | none => cases h | some q => exact ⟨q.1, q.2.1, q.2.2.1, q.2.2.2.1, q.2.2.2.2.1, q.2.2.2.2.2.1, q.2.2.2.2.2.2.1, q.2.2.2.2.2.2.2.1, q.2.2.2.2.2.2.2.2.1, q.2.2.2.2.2.2.2.2.2.1, q.2.2.2.2.2.2.2.2.2.2, rfl, h⟩
def bd12 {t1 t2 t3 t4 t5 t6 t7 t8 t9 t10 t11 t12 γ : Type} (x : Option (t1 × t2 × t3 × t4 × t5 × t6 × t7 × t8 × t9 × t10 × t11 × t12)) (k : t1 → t2 → t3 → t4 → t5 → t6 → t7 → t8 → t9 → t10 → t11 → t12 → Option γ) : Option γ := match x with | none => none | some q => k q.1 q.2.1 q.2.2.1 q.2.2.2.1 q.2.2.2.2.1 q.2.2.2.2.2.1 q.2.2.2.2.2.2.1 q.2.2.2.2.2.2.2.1 q.2.2.2.2.2.2.2.2.1 q.2.2.2.2.2.2.2.2.2.1 q.2.2.2.2.2.2.2.2.2.2.1 q.2.2.2.2.2.2.2.2.2.2.2
theorem bd12_el {t1 t2 t3 t4 t5 t6 t7 t8 t9 t10 t11 t12 γ : Type} {x : Option (t1 × t2 × t3 × t4 × t5 × t6 × t7 × t8 × t9 × t10 × t11 × t12)} {k : t1 → t2 → t3 → t4 → t5 → t6 → t7 → t8 → t9 → t10 → t11 → t12 → Option γ} {r : γ} (h : bd12 x k = some r) : ∃ a1 a2 a3 a4 a5 a6 a7 a8 a9 a10 a11 a12, x = some (a1, a2, a3, a4, a5, a6, a7, a8, a9, a10, a11, a12) ∧ k a1 a2 a3 a4 a5 a6 a7 a8 a9 a10 a11 a12 = some r := by
  cases x with | none => cases h | some q => exact ⟨q.1, q.2.1, q.2.2.1, q.2.2.2.1, q.2.2.2.2.1, q.2.2.2.2.2.1, q.2.2.2.2.2.2.1, q.2.2.2.2.2.2.2.1, q.2.2.2.2.2.2.2.2.1, q.2.2.2.2.2.2.2.2.2.1, q.2.2.2.2.2.2.2.2.2.2.1, q.2.2.2.2.2.2.2.2.2.2.2, rfl, h⟩
def bd13 {t1 t2 t3 t4 t5 t6 t7 t8 t9 t10 t11 t12 t13 γ : Type} (x : Option (t1 × t2 × t3 × t4 × t5 × t6 × t7 × t8 × t9 × t10 × t11 × t12 × t13)) (k : t1 → t2 → t3 → t4 → t5 → t6 → t7 → t8 → t9 → t10 → t11 → t12 → t13 → Option γ) : Option γ := match x with | none => none | some q => k q.1 q.2.1 q.2.2.1 q.2.2.2.1 q.2.2.2.2.1 q.2.2.2.2.2.1 q.2.2.2.2.2.2.1 q.2.2.2.2.2.2.2.1 q.2.2.2.2.2.2.2.2.1 q.2.2.2.2.2.2.2.2.2.1 q.2.2.2.2.2.2.2.2.2.2.1 q.2.2.2.2.2.2.2.2.2.2.2.1 q.2.2.2.2.2.2.2.2.2.2.2.2
theorem bd13_el {t1 t2 t3 t4 t5 t6 t7 t8 t9 t10 t11 t12 t13 γ : Type} {x : Option (t1 × t2 × t3 × t4 × t5 × t6 × t7 × t8 × t9 × t10 × t11 × t12 × t13)} {k : t1 → t2 → t3 → t4 → t5 → t6 → t7 → t8 → t9 → t10 → t11 → t12 → t13 → Option γ} {r : γ} (h : bd13 x k = some r) : ∃ a1 a2 a3 a4 a5 a6 a7 a8 a9 a10 a11 a12 a13, x = some (a1, a2, a3, a4, a5, a6, a7, a8, a9, a10, a11, a12, a13) ∧ k a1 a2 a3 a4 a5 a6 a7 a8 a9 a10 a11 a12 a13 = some r := by
  cases x with | none => cases h | some q => exact ⟨q.1, q.2.1, q.2.2.1, q.2.2.2.1, q.2.2.2.2.1, q.2.2.2.2.2.1, q.2.2.2.2.2.2.1, q.2.2.2.2.2.2.2.1, q.2.2.2.2.2.2.2.2.1, q.2.2.2.2.2.2.2.2.2.1, q.2.2.2.2.2.2.2.2.2.2.1, q.2.2.2.2.2.2.2.2.2.2.2.1, q.2.2.2.2.2.2.2.2.2.2.2.2, rfl, h⟩
def bd14 {t1 t2 t3 t4 t5 t6 t7 t8 t9 t10 t11 t12 t13 t14 γ : Type} (x : Option (t1 × t2 × t3 × t4 × t5 × t6 × t7 × t8 × t9 × t10 × t11 × t12 × t13 × t14)) (k : t1 → t2 → t3 → t4 → t5 → t6 → t7 → t8 → t9 → t10 → t11 → t12 → t13 → t14 → Option γ) : Option γ := match x with | none => none | some q => k q.1 q.2.1 q.2.2.1 q.2.2.2.1 q.2.2.2.2.1 q.2.2.2.2.2.1 q.2.2.2.2.2.2.1 q.2.2.2.2.2.2.2.1 q.2.2.2.2.2.2.2.2.1 q.2.2.2.2.2.2.2.2.2.1 q.2.2.2.2.2.2.2.2.2.2.1 q.2.2.2.2.2.2.2.2.2.2.2.1 q.2.2.2.2.2.2.2.2.2.2.2.2.1 q.2.2.2.2.2.2.2.2.2.2.2.2.2
theorem bd14_el {t1 t2 t3 t4 t5 t6 t7 t8 t9 t10 t11 t12 t13 t14 γ : Type} {x : Option (t1 × t2 × t3 × t4 × t5 × t6 × t7 × t8 × t9 × t10 × t11 × t12 × t13 × t14)} {k : t1 → t2 → t3 → t4 → t5 → t6 → t7 → t8 → t9 → t10 → t11 → t12 → t13 → t14 → Option γ} {r : γ} (h : bd14 x k = some r) : ∃ a1 a2 a3 a4 a5 a6 a7 a8 a9 a10 a11 a12 a13 a14, x = some (a1, a2, a3, a4, a5, a6, a7, a8, a9, a10, a11, a12, a13, a14) ∧ k a1 a2 a3 a4 a5 a6 a7 a8 a9 a10 a11 a12 a13 a14 = some r := by
  cases x with | none => cases h | some q => exact ⟨q.1, q.2.1, q.2.2.1, q.2.2.2.1, q.2.2.2.2.1, q.2.2.2.2.2.1, q.2.2.2.2.2.2.1, q.2.2.2.2.2.2.2.1, q.2.2.2.2.2.2.2.2.1, q.2.2.2.2.2.2.2.2.2.1, q.2.2.2.2.2.2.2.2.2.2.1, q.2.2.2.2.2.2.2.2.2.2.2.1, q.2.2.2.2.2.2.2.2.2.2.2.2.1, q.2.2.2.2.2.2.2.2.2.2.2.2.2, rfl, h⟩
theorem it_t {α : Type} {c : Prop} [Decidable c] {x y : Option α} {r : α} (h : (if c then x else y) = some r) (hc : c) : x = some r := by rw [if_pos hc] at h; exact h
theorem it_f {α : Type} {c : Prop} [Decidable c] {x y : Option α} {r : α} (h : (if c then x else y) = some r) (hc : ¬ c) : y = some r := by rw [if_neg hc] at h; exact h
def fuel : Nat := 1000000
def stV (k : Nat) : Nat → Int32 := fun j => (match k with | 0 => [50, 2, 0, 100000, 20, 15, 5000, 10] | 1 => [1, 0, 0, 0, 0, 0, 0, 0] | _ => [200, 12, 3, 1000000, 999, 999, 1000000, 100] : List Int32).getD j 0
