/-! whole numbers behind the machine's numbers -/
def zI (a : Int) : Int32 := Int32.ofInt a
def zL (a : Int) : Int64 := Int64.ofInt a
theorem z_add (a b : Int) : zI a + zI b = zI (a + b) := (Int32.ofInt_add a b).symm
theorem z_sub (a b : Int) : zI a - zI b = zI (a - b) := (Int32.ofInt_sub a b).symm
theorem z_mul (a b : Int) : zI a * zI b = zI (a * b) := (Int32.ofInt_mul a b).symm
theorem y_add (a b : Int) : zL a + zL b = zL (a + b) := (Int64.ofInt_add a b).symm
theorem y_sub (a b : Int) : zL a - zL b = zL (a - b) := (Int64.ofInt_sub a b).symm
theorem y_mul (a b : Int) : zL a * zL b = zL (a * b) := (Int64.ofInt_mul a b).symm
theorem z_neg (a : Int) : -zI a = zI (-a) := (Int32.ofInt_neg a).symm
theorem y_neg (a : Int) : -zL a = zL (-a) := (Int64.ofInt_neg a).symm
theorem z_toInt {a : Int} (h1 : -2147483648 ≤ a) (h2 : a < 2147483648) : (zI a).toInt = a := Int32.toInt_ofInt_of_le (by omega) (by omega)
theorem y_toInt {a : Int} (h1 : -9223372036854775808 ≤ a) (h2 : a < 9223372036854775808) : (zL a).toInt = a := Int64.toInt_ofInt_of_le (by omega) (by omega)
theorem z_of (x : Int32) : x = zI x.toInt := (Int32.ofInt_toInt x).symm
theorem y_of (x : Int64) : x = zL x.toInt := (Int64.ofInt_toInt x).symm
theorem z_lt {a b : Int} (h1 : -2147483648 ≤ a) (h2 : a < 2147483648) (h3 : -2147483648 ≤ b) (h4 : b < 2147483648) : (zI a < zI b) = (a < b) := by
  rw [Int32.lt_iff_toInt_lt, z_toInt h1 h2, z_toInt h3 h4]
theorem z_le {a b : Int} (h1 : -2147483648 ≤ a) (h2 : a < 2147483648) (h3 : -2147483648 ≤ b) (h4 : b < 2147483648) : (zI a ≤ zI b) = (a ≤ b) := by
  rw [Int32.le_iff_toInt_le, z_toInt h1 h2, z_toInt h3 h4]
theorem z_eq {a b : Int} (h1 : -2147483648 ≤ a) (h2 : a < 2147483648) (h3 : -2147483648 ≤ b) (h4 : b < 2147483648) : (zI a = zI b) = (a = b) := by
  rw [← Int32.toInt_inj, z_toInt h1 h2, z_toInt h3 h4]
theorem y_lt {a b : Int} (h1 : -9223372036854775808 ≤ a) (h2 : a < 9223372036854775808) (h3 : -9223372036854775808 ≤ b) (h4 : b < 9223372036854775808) : (zL a < zL b) = (a < b) := by
  rw [Int64.lt_iff_toInt_lt, y_toInt h1 h2, y_toInt h3 h4]
theorem y_eq {a b : Int} (h1 : -9223372036854775808 ≤ a) (h2 : a < 9223372036854775808) (h3 : -9223372036854775808 ≤ b) (h4 : b < 9223372036854775808) : (zL a = zL b) = (a = b) := by
  rw [← Int64.toInt_inj, y_toInt h1 h2, y_toInt h3 h4]
theorem z_nat {a : Int} (h1 : 0 ≤ a) (h2 : a < 2147483648) : (zI a).toNatClampNeg = a.toNat := Int32.toNatClampNeg_ofInt_of_le (by omega) (by omega)
theorem z_gi {α : Type} {a : Int} {n : Nat} {x : Option α} (h1 : 0 ≤ a) (h2 : a < (n : Int)) (h3 : (n : Int) ≤ 2147483648) : gi (zI a) n x = x := by
  unfold gi
  rw [if_neg]
  rw [show (0 : Int32) = zI 0 from rfl, z_lt (by omega) (by omega) (by omega) (by omega), z_nat h1 (by omega)]
  omega
theorem z_l {a : Int} (h1 : -2147483648 ≤ a) (h2 : a < 2147483648) : (zI a).toInt64 = zL a := Int32.toInt64_ofInt (by show (-2147483648 : Int) ≤ a; exact h1) (by show a ≤ (2147483647 : Int); omega)
theorem y_i (a : Int) : (zL a).toInt32 = zI a := Int64.toInt32_ofInt
theorem y_z {x : Int32} {a : Int} (h : x = zI a) (h1 : -2147483648 ≤ a) (h2 : a < 2147483648) : x.toInt64 = zL a := by rw [h, z_l h1 h2]
theorem tdiv_pos {a b : Int} (h1 : 0 ≤ a) : a.tdiv b = a / b := Int.tdiv_eq_ediv_of_nonneg h1
theorem z_div {a b : Int} (h1 : 0 ≤ a) (h2 : a < 2147483648) (h3 : 0 < b) (h4 : b < 2147483648) : zI a / zI b = zI (a / b) := by
  rw [← tdiv_pos h1]
  exact (Int32.ofInt_tdiv (by show (-2147483648 : Int) ≤ a; omega) (by show a ≤ (2147483647 : Int); omega) (by show (-2147483648 : Int) ≤ b; omega) (by show b ≤ (2147483647 : Int); omega)).symm
theorem y_div {a b : Int} (h1 : 0 ≤ a) (h2 : a < 9223372036854775808) (h3 : 0 < b) (h4 : b < 9223372036854775808) : zL a / zL b = zL (a / b) := by
  rw [← tdiv_pos h1]
  exact (Int64.ofInt_tdiv (by show (-9223372036854775808 : Int) ≤ a; omega) (by show a ≤ (9223372036854775807 : Int); omega) (by show (-9223372036854775808 : Int) ≤ b; omega) (by show b ≤ (9223372036854775807 : Int); omega)).symm
section
variable {a b : Int} (h1 : -9223372036854775808 ≤ a) (h2 : a < 9223372036854775808) (h3 : -9223372036854775808 ≤ b) (h4 : b < 9223372036854775808)
theorem y_cv (h1 : -9223372036854775808 ≤ a) (h2 : a < 9223372036854775808) (h3 : -9223372036854775808 ≤ b) (h4 : b < 9223372036854775808) : lg_cmp (zL a) (zL b) = zI (if b < a then 1 else if a = b then 0 else -1) := by
  unfold lg_cmp
  show (if zL b < zL a then (1 : Int32) else if zL a = zL b then 0 else -1) = _
  simp only [y_lt h3 h4 h1 h2, y_eq h1 h2 h3 h4]
  split
  · rfl
  · split <;> rfl
theorem y_c1 (h1 : -9223372036854775808 ≤ a) (h2 : a < 9223372036854775808) (h3 : -9223372036854775808 ≤ b) (h4 : b < 9223372036854775808) : (zI 0 ≤ lg_cmp (zL a) (zL b)) = (b ≤ a) := by
  rw [y_cv h1 h2 h3 h4]
  apply propext
  rcases Int.lt_trichotomy a b with q | q | q
  · rw [if_neg (by omega), if_neg (by omega), z_le (by omega) (by omega) (by omega) (by omega)]; omega
  · rw [if_neg (by omega), if_pos q, z_le (by omega) (by omega) (by omega) (by omega)]; omega
  · rw [if_pos q, z_le (by omega) (by omega) (by omega) (by omega)]; omega
theorem y_c2 (h1 : -9223372036854775808 ≤ a) (h2 : a < 9223372036854775808) (h3 : -9223372036854775808 ≤ b) (h4 : b < 9223372036854775808) : (lg_cmp (zL a) (zL b) ≤ zI 0) = (a ≤ b) := by
  rw [y_cv h1 h2 h3 h4]
  apply propext
  rcases Int.lt_trichotomy a b with q | q | q
  · rw [if_neg (by omega), if_neg (by omega), z_le (by omega) (by omega) (by omega) (by omega)]; omega
  · rw [if_neg (by omega), if_pos q, z_le (by omega) (by omega) (by omega) (by omega)]; omega
  · rw [if_pos q, z_le (by omega) (by omega) (by omega) (by omega)]; omega
theorem y_c3 (h1 : -9223372036854775808 ≤ a) (h2 : a < 9223372036854775808) (h3 : -9223372036854775808 ≤ b) (h4 : b < 9223372036854775808) : (lg_cmp (zL a) (zL b) = zI 0) = (a = b) := by
  rw [y_cv h1 h2 h3 h4]
  apply propext
  rcases Int.lt_trichotomy a b with q | q | q
  · rw [if_neg (by omega), if_neg (by omega), z_eq (by omega) (by omega) (by omega) (by omega)]; omega
  · rw [if_neg (by omega), if_pos q, z_eq (by omega) (by omega) (by omega) (by omega)]; omega
  · rw [if_pos q, z_eq (by omega) (by omega) (by omega) (by omega)]; omega
theorem y_c4 (h1 : -9223372036854775808 ≤ a) (h2 : a < 9223372036854775808) (h3 : -9223372036854775808 ≤ b) (h4 : b < 9223372036854775808) : (lg_cmp (zL a) (zL b) < zI 0) = (a < b) := by
  rw [y_cv h1 h2 h3 h4]
  apply propext
  rcases Int.lt_trichotomy a b with q | q | q
  · rw [if_neg (by omega), if_neg (by omega), z_lt (by omega) (by omega) (by omega) (by omega)]; omega
  · rw [if_neg (by omega), if_pos q, z_lt (by omega) (by omega) (by omega) (by omega)]; omega
  · rw [if_pos q, z_lt (by omega) (by omega) (by omega) (by omega)]; omega
theorem y_c5 (h1 : -9223372036854775808 ≤ a) (h2 : a < 9223372036854775808) (h3 : -9223372036854775808 ≤ b) (h4 : b < 9223372036854775808) : (zI 0 < lg_cmp (zL a) (zL b)) = (b < a) := by
  rw [y_cv h1 h2 h3 h4]
  apply propext
  rcases Int.lt_trichotomy a b with q | q | q
  · rw [if_neg (by omega), if_neg (by omega), z_lt (by omega) (by omega) (by omega) (by omega)]; omega
  · rw [if_neg (by omega), if_pos q, z_lt (by omega) (by omega) (by omega) (by omega)]; omega
  · rw [if_pos q, z_lt (by omega) (by omega) (by omega) (by omega)]; omega
end
theorem lt_eq {α β : Type} (x : α) (k : α → Option β) : lt' x k = k x := rfl
theorem bd1_s {α γ : Type} (x : α) (k : α → Option γ) : bd1 (some x) k = k x := rfl
theorem bd2_s {α β γ : Type} (x : α) (y : β) (k : α → β → Option γ) : bd2 (some (x, y)) k = k x y := rfl
theorem gb_s {α : Type} {v : Int32} {x : Option α} (h : v = 0 ∨ v = 1) : gb v x = x := by unfold gb; rw [if_pos h]
theorem gch_s {α : Type} {a : Int} {x : Option α} (h1 : 0 ≤ a) (h2 : a < 65536) : gch (zI a) x = x := by
  unfold gch
  rw [if_pos]
  rw [show (0 : Int32) = zI 0 from rfl, show (65536 : Int32) = zI 65536 from rfl, z_le (by omega) (by omega) (by omega) (by omega), z_lt (by omega) (by omega) (by omega) (by omega)]
  omega
theorem nbeq_ne {j k : Nat} (h : j ≠ k) : Nat.beq j k = false := by
  cases q : Nat.beq j k with
  | false => rfl
  | true => exact absurd (Nat.eq_of_beq_eq_true q) h
theorem wrI_same (m : Mem) (k : Nat) (f : Nat → Int32) : wrI m k f k = f := by unfold wrI; rw [show Nat.beq k k = true from Nat.beq_refl k]; rfl
theorem wrI_ne (m : Mem) {k j : Nat} (f : Nat → Int32) (h : j ≠ k) : wrI m k f j = m j := by unfold wrI; rw [nbeq_ne h]; rfl
theorem wrL_same (m : MemL) (k : Nat) (f : Nat → Int64) : wrL m k f k = f := by unfold wrL; rw [show Nat.beq k k = true from Nat.beq_refl k]; rfl
theorem wrL_ne (m : MemL) {k j : Nat} (f : Nat → Int64) (h : j ≠ k) : wrL m k f j = m j := by unfold wrL; rw [nbeq_ne h]; rfl
theorem fuel_gt {n : Nat} (h : n < 999999) : n < fuel := by unfold fuel; omega
/-- an abstract memory: a whole number a place -/
abbrev VI : Type := Int → Int
def upV (v : VI) (k x : Int) : VI := fun j => if j = k then x else v j
theorem upV_same (v : VI) (k x : Int) : upV v k x k = x := if_pos rfl
theorem upV_ne (v : VI) {k j : Int} (x : Int) (h : j ≠ k) : upV v k x j = v j := if_neg h
/-- sums and counts over the first n places -/
def sumF (f : Int → Int) : Nat → Int
  | 0 => 0
  | n + 1 => sumF f n + f n
theorem sumF_cg {f g : Int → Int} : ∀ {n : Nat}, (∀ j : Nat, j < n → f j = g j) → sumF f n = sumF g n
  | 0, _ => rfl
  | n + 1, h => by
    show sumF f n + f n = sumF g n + g n
    rw [sumF_cg (fun j hj => h j (by omega)), h n (by omega)]
theorem sumF_le {f : Int → Int} {c : Int} : ∀ {n : Nat}, (∀ j : Nat, j < n → 0 ≤ f j ∧ f j ≤ c) → 0 ≤ sumF f n ∧ sumF f n ≤ c * n
  | 0, _ => ⟨Int.le_refl _, by simp [sumF]⟩
  | n + 1, h => by
    have h1 := sumF_le (n := n) (fun j hj => h j (by omega))
    have h2 := h n (by omega)
    have h3 : c * ((n + 1 : Nat) : Int) = c * (n : Int) + c := by rw [Int.natCast_add, Int.mul_add]; simp
    show 0 ≤ sumF f n + f n ∧ sumF f n + f n ≤ c * ((n + 1 : Nat) : Int)
    omega
def cntF (p : Int → Bool) : Nat → Int
  | 0 => 0
  | n + 1 => cntF p n + (if p n then 1 else 0)
theorem cntF_cg {p q : Int → Bool} : ∀ {n : Nat}, (∀ j : Nat, j < n → p j = q j) → cntF p n = cntF q n
  | 0, _ => rfl
  | n + 1, h => by
    show cntF p n + _ = cntF q n + _
    rw [cntF_cg (fun j hj => h j (by omega)), h n (by omega)]
theorem cntF_le {p : Int → Bool} : ∀ {n : Nat}, 0 ≤ cntF p n ∧ cntF p n ≤ n
  | 0 => ⟨Int.le_refl _, Int.le_refl _⟩
  | n + 1 => by
    have h1 := cntF_le (p := p) (n := n)
    show 0 ≤ cntF p n + _ ∧ cntF p n + _ ≤ ((n + 1 : Nat) : Int)
    split <;> omega
/-- the sum of n numbers from s on -/
def sumR (f : Int → Int) : Nat → Int → Int
  | 0, _ => 0
  | n + 1, s => f s + sumR f n (s + 1)
theorem sumR_cg {f g : Int → Int} : ∀ {n : Nat} {s : Int}, (∀ j : Int, s ≤ j → j < s + n → f j = g j) → sumR f n s = sumR g n s
  | 0, _, _ => rfl
  | n + 1, s, h => by
    show f s + sumR f n (s + 1) = g s + sumR g n (s + 1)
    rw [sumR_cg (fun j h1 h2 => h j (by omega) (by omega)), h s (by omega) (by omega)]
theorem sumR_le {f : Int → Int} {c : Int} : ∀ {n : Nat} {s : Int}, (∀ j : Int, s ≤ j → j < s + n → 0 ≤ f j ∧ f j ≤ c) → 0 ≤ sumR f n s ∧ sumR f n s ≤ c * n
  | 0, _, _ => ⟨Int.le_refl _, by simp [sumR]⟩
  | n + 1, s, h => by
    have h1 := sumR_le (n := n) (s := s + 1) (fun j q1 q2 => h j (by omega) (by omega))
    have h2 := h s (by omega) (by omega)
    have h3 : c * ((n + 1 : Nat) : Int) = c * (n : Int) + c := by rw [Int.natCast_add, Int.mul_add]; simp
    show 0 ≤ f s + sumR f n (s + 1) ∧ f s + sumR f n (s + 1) ≤ c * ((n + 1 : Nat) : Int)
    omega
theorem sumR_add {f : Int → Int} : ∀ (n m : Nat) (s : Int), sumR f (n + m) s = sumR f n s + sumR f m (s + n)
  | 0, m, s => by simp [sumR]
  | n + 1, m, s => by
    rw [show n + 1 + m = (n + m) + 1 by omega]
    show f s + sumR f (n + m) (s + 1) = (f s + sumR f n (s + 1)) + _
    rw [sumR_add n m (s + 1), show s + 1 + (n : Int) = s + ((n + 1 : Nat) : Int) by omega]; omega
theorem mul30 (a : Int) : a * 30 = 30 * a := Int.mul_comm a 30
theorem z_ofNat (n : Nat) : Int32.ofNat n = zI (n : Int) := (Int32.ofInt_eq_ofNat).symm
theorem z_c0 : (0 : Int32) = zI (0) := rfl
theorem z_c1 : (1 : Int32) = zI (1) := rfl
theorem z_c2 : (2 : Int32) = zI (2) := rfl
theorem z_c3 : (3 : Int32) = zI (3) := rfl
theorem z_c4 : (4 : Int32) = zI (4) := rfl
theorem z_c5 : (5 : Int32) = zI (5) := rfl
theorem z_c6 : (6 : Int32) = zI (6) := rfl
theorem z_c7 : (7 : Int32) = zI (7) := rfl
theorem z_c8 : (8 : Int32) = zI (8) := rfl
theorem z_c9 : (9 : Int32) = zI (9) := rfl
theorem z_c10 : (10 : Int32) = zI (10) := rfl
theorem z_c11 : (11 : Int32) = zI (11) := rfl
theorem z_c12 : (12 : Int32) = zI (12) := rfl
theorem z_c13 : (13 : Int32) = zI (13) := rfl
theorem z_c14 : (14 : Int32) = zI (14) := rfl
theorem z_c15 : (15 : Int32) = zI (15) := rfl
theorem z_c16 : (16 : Int32) = zI (16) := rfl
theorem z_c17 : (17 : Int32) = zI (17) := rfl
theorem z_c20 : (20 : Int32) = zI (20) := rfl
theorem z_c21 : (21 : Int32) = zI (21) := rfl
theorem z_c23 : (23 : Int32) = zI (23) := rfl
theorem z_c24 : (24 : Int32) = zI (24) := rfl
theorem z_c25 : (25 : Int32) = zI (25) := rfl
theorem z_c27 : (27 : Int32) = zI (27) := rfl
theorem z_c30 : (30 : Int32) = zI (30) := rfl
theorem z_c31 : (31 : Int32) = zI (31) := rfl
theorem z_c32 : (32 : Int32) = zI (32) := rfl
theorem z_c33 : (33 : Int32) = zI (33) := rfl
theorem z_c37 : (37 : Int32) = zI (37) := rfl
theorem z_c42 : (42 : Int32) = zI (42) := rfl
theorem z_c44 : (44 : Int32) = zI (44) := rfl
theorem z_c45 : (45 : Int32) = zI (45) := rfl
theorem z_c47 : (47 : Int32) = zI (47) := rfl
theorem z_c48 : (48 : Int32) = zI (48) := rfl
theorem z_c50 : (50 : Int32) = zI (50) := rfl
theorem z_c52 : (52 : Int32) = zI (52) := rfl
theorem z_c54 : (54 : Int32) = zI (54) := rfl
theorem z_c57 : (57 : Int32) = zI (57) := rfl
theorem z_c59 : (59 : Int32) = zI (59) := rfl
theorem z_c67 : (67 : Int32) = zI (67) := rfl
theorem z_c99 : (99 : Int32) = zI (99) := rfl
theorem z_c100 : (100 : Int32) = zI (100) := rfl
theorem z_c101 : (101 : Int32) = zI (101) := rfl
theorem z_c102 : (102 : Int32) = zI (102) := rfl
theorem z_c103 : (103 : Int32) = zI (103) := rfl
theorem z_c104 : (104 : Int32) = zI (104) := rfl
theorem z_c105 : (105 : Int32) = zI (105) := rfl
theorem z_c106 : (106 : Int32) = zI (106) := rfl
theorem z_c107 : (107 : Int32) = zI (107) := rfl
theorem z_c108 : (108 : Int32) = zI (108) := rfl
theorem z_c109 : (109 : Int32) = zI (109) := rfl
theorem z_c110 : (110 : Int32) = zI (110) := rfl
theorem z_c111 : (111 : Int32) = zI (111) := rfl
theorem z_c112 : (112 : Int32) = zI (112) := rfl
theorem z_c120 : (120 : Int32) = zI (120) := rfl
theorem z_c126 : (126 : Int32) = zI (126) := rfl
theorem z_c150 : (150 : Int32) = zI (150) := rfl
theorem z_c155 : (155 : Int32) = zI (155) := rfl
theorem z_c200 : (200 : Int32) = zI (200) := rfl
theorem z_c202 : (202 : Int32) = zI (202) := rfl
theorem z_c207 : (207 : Int32) = zI (207) := rfl
theorem z_c357 : (357 : Int32) = zI (357) := rfl
theorem z_c507 : (507 : Int32) = zI (507) := rfl
theorem z_c515 : (515 : Int32) = zI (515) := rfl
theorem z_c523 : (523 : Int32) = zI (523) := rfl
theorem z_c531 : (531 : Int32) = zI (531) := rfl
theorem z_c731 : (731 : Int32) = zI (731) := rfl
theorem z_c931 : (931 : Int32) = zI (931) := rfl
theorem z_c999 : (999 : Int32) = zI (999) := rfl
theorem z_c1131 : (1131 : Int32) = zI (1131) := rfl
theorem z_c1331 : (1331 : Int32) = zI (1331) := rfl
theorem z_c1531 : (1531 : Int32) = zI (1531) := rfl
theorem z_c1731 : (1731 : Int32) = zI (1731) := rfl
theorem z_c1747 : (1747 : Int32) = zI (1747) := rfl
theorem z_c1763 : (1763 : Int32) = zI (1763) := rfl
theorem z_c1779 : (1779 : Int32) = zI (1779) := rfl
theorem z_c1795 : (1795 : Int32) = zI (1795) := rfl
theorem z_c1811 : (1811 : Int32) = zI (1811) := rfl
theorem z_c1827 : (1827 : Int32) = zI (1827) := rfl
theorem z_c1843 : (1843 : Int32) = zI (1843) := rfl
theorem z_c1859 : (1859 : Int32) = zI (1859) := rfl
theorem z_c1875 : (1875 : Int32) = zI (1875) := rfl
theorem z_c1876 : (1876 : Int32) = zI (1876) := rfl
theorem z_c1877 : (1877 : Int32) = zI (1877) := rfl
theorem z_c1878 : (1878 : Int32) = zI (1878) := rfl
theorem z_c1879 : (1879 : Int32) = zI (1879) := rfl
theorem z_c1880 : (1880 : Int32) = zI (1880) := rfl
theorem z_c1881 : (1881 : Int32) = zI (1881) := rfl
theorem z_c1882 : (1882 : Int32) = zI (1882) := rfl
theorem z_c1883 : (1883 : Int32) = zI (1883) := rfl
theorem z_c1884 : (1884 : Int32) = zI (1884) := rfl
theorem z_c1885 : (1885 : Int32) = zI (1885) := rfl
theorem z_c1886 : (1886 : Int32) = zI (1886) := rfl
theorem z_c1887 : (1887 : Int32) = zI (1887) := rfl
theorem z_c1888 : (1888 : Int32) = zI (1888) := rfl
theorem z_c5000 : (5000 : Int32) = zI (5000) := rfl
theorem z_c9000 : (9000 : Int32) = zI (9000) := rfl
theorem z_c9999 : (9999 : Int32) = zI (9999) := rfl
theorem z_c10000 : (10000 : Int32) = zI (10000) := rfl
theorem z_c10001 : (10001 : Int32) = zI (10001) := rfl
theorem z_c13216 : (13216 : Int32) = zI (13216) := rfl
theorem z_c65537 : (65537 : Int32) = zI (65537) := rfl
theorem z_c1000000 : (1000000 : Int32) = zI (1000000) := rfl
theorem z_c2000001 : (2000001 : Int32) = zI (2000001) := rfl
theorem z_c2000002 : (2000002 : Int32) = zI (2000002) := rfl
theorem z_c2000003 : (2000003 : Int32) = zI (2000003) := rfl
theorem y_c0_ : (0 : Int64) = zL (0) := rfl
theorem y_c1_ : (1 : Int64) = zL (1) := rfl
theorem y_c2_ : (2 : Int64) = zL (2) := rfl
theorem y_c3_ : (3 : Int64) = zL (3) := rfl
theorem y_c5_ : (5 : Int64) = zL (5) := rfl
theorem y_c6_ : (6 : Int64) = zL (6) := rfl
theorem y_c7_ : (7 : Int64) = zL (7) := rfl
theorem y_c8_ : (8 : Int64) = zL (8) := rfl
theorem y_c16_ : (16 : Int64) = zL (16) := rfl
theorem y_c20_ : (20 : Int64) = zL (20) := rfl
theorem y_c21_ : (21 : Int64) = zL (21) := rfl
theorem y_c23_ : (23 : Int64) = zL (23) := rfl
theorem y_c24_ : (24 : Int64) = zL (24) := rfl
theorem y_c30_ : (30 : Int64) = zL (30) := rfl
theorem y_c32_ : (32 : Int64) = zL (32) := rfl
theorem y_c45_ : (45 : Int64) = zL (45) := rfl
theorem y_c48_ : (48 : Int64) = zL (48) := rfl
theorem y_c57_ : (57 : Int64) = zL (57) := rfl
theorem y_c99_ : (99 : Int64) = zL (99) := rfl
theorem y_c100_ : (100 : Int64) = zL (100) := rfl
theorem y_c126_ : (126 : Int64) = zL (126) := rfl
theorem y_c200_ : (200 : Int64) = zL (200) := rfl
theorem y_c9999_ : (9999 : Int64) = zL (9999) := rfl
theorem y_c10000_ : (10000 : Int64) = zL (10000) := rfl
theorem y_c1000000_ : (1000000 : Int64) = zL (1000000) := rfl
