/-! the text: what the reference's reader does with one sign -/
/-- its state: word, number's place, digits, mark, the numbers -/
abbrev TS : Type := Int × Int × Int × Int × VI
def RT (mM : Mem) (S : TS) : Prop := mM 9 0 = zI S.1 ∧ mM 10 0 = zI S.2.1 ∧ mM 11 0 = zI S.2.2.1 ∧ mM 12 0 = zI S.2.2.2.1 ∧ Row 3 (mM 5) S.2.2.2.2
def SR (mM mM' : Mem) : Prop := ∀ k : Nat, k ≠ 5 → k ≠ 9 → k ≠ 10 → k ≠ 11 → k ≠ 12 → mM' k = mM k
def Rd (c : Int) (S S' : TS) : Prop := ∀ (mM : Mem) (nM : MemL), RT mM S → Ev (f_X9_readOne (zI c) mM nM) (fun o => o.1 = zI 0 ∧ RT o.2 S' ∧ SR mM o.2)
def Rx (c e : Int) (S : TS) : Prop := ∀ (mM : Mem) (nM : MemL), RT mM S → Ev (f_X9_readOne (zI c) mM nM) (fun o => o.1 = zI e ∧ SR mM o.2)
def needT (w : Int) : Int := if w = 104 then 1 else if w = 111 then 3 else 2
theorem needT_b (w : Int) : 1 ≤ needT w ∧ needT w ≤ 3 := by unfold needT; repeat' split <;> omega
theorem dueT_b (w : Int) : dueT w ≤ 3 := by
  unfold dueT
  split
  · omega
  · split
    · omega
    · split <;> omega
theorem dueT_need {w : Int} (h : dueT w ≠ 0) : (dueT w : Int) = needT w ∧ (w = 104 ∨ w = 111 ∨ w = 99 ∨ w = 112 ∨ w = 109) := by
  unfold dueT at h ⊢
  unfold needT
  by_cases c1 : w = 104
  · rw [if_pos c1, if_pos c1]; exact ⟨rfl, Or.inl c1⟩
  · rw [if_neg c1] at h ⊢
    rw [if_neg c1]
    by_cases c2 : w = 111
    · rw [if_pos c2, if_pos c2]; exact ⟨rfl, Or.inr (Or.inl c2)⟩
    · rw [if_neg c2] at h ⊢
      rw [if_neg c2]
      by_cases c3 : w = 99 ∨ w = 112 ∨ w = 109
      · rw [if_pos c3]; exact ⟨rfl, Or.inr (Or.inr c3)⟩
      · rw [if_neg c3] at h; exact absurd rfl h
theorem dueT_0 {w : Int} (h : dueT w = 0) : w ≠ 104 ∧ w ≠ 111 ∧ w ≠ 99 ∧ w ≠ 112 ∧ w ≠ 109 := by
  refine ⟨?_, ?_, ?_, ?_, ?_⟩ <;> (intro e; rw [e] at h; exact absurd h (by decide))
theorem m_needs {mM : Mem} {nM : MemL} {w : Int} (e9 : mM 9 0 = zI w) (w0 : 0 ≤ w ∧ w < 200) : f_X9_needs mM nM = some (zI (needT w)) := by
  unfold needT
  simp (disch := omega) only [f_X9_needs, z_c1, z_c2, z_c3, z_c104, z_c111, z_add, z_sub, z_neg, y_neg, z_mul, z_div, z_l, y_i, y_add, y_sub, y_mul, y_div, z_lt, z_le, z_eq, y_c1, y_c2, y_c3, y_c4, y_c5, z_gi, bd1_s, bd2_s, mul30, z_ofNat, lt_eq, e9]
  repeat' split
  all_goals first | rfl | (exfalso; omega)
theorem m_ends {mM : Mem} {nM : MemL} {S : TS} (h : RT mM S) (w0 : 0 ≤ S.1 ∧ S.1 < 200) (a0 : 0 ≤ S.2.1 ∧ S.2.1 < 3) (d0 : 0 ≤ S.2.2.1 ∧ S.2.2.1 ≤ 7) : f_X9_ends mM nM = some (zI (if 0 < S.1 ∧ 0 < S.2.2.1 ∧ S.2.1 + 1 = needT S.1 then 1 else 0)) := by
  obtain ⟨w, a, d, h', x⟩ := S
  obtain ⟨e9, e10, e11, e12, e5⟩ := h
  have en := m_needs (nM := nM) e9 w0
  have nb := needT_b w
  dsimp only at w0 a0 d0 e9 e10 e11 ⊢
  simp (disch := omega) only [f_X9_ends, z_c0, z_c1, z_add, z_sub, z_neg, y_neg, z_mul, z_div, z_l, y_i, y_add, y_sub, y_mul, y_div, z_lt, z_le, z_eq, y_c1, y_c2, y_c3, y_c4, y_c5, z_gi, bd1_s, bd2_s, mul30, z_ofNat, lt_eq, e9, e10, e11, en]
  repeat' split
  all_goals first | rfl | (exfalso; omega)
theorem rd_letter {c a d h : Int} {x : VI} (hc : dueT c ≠ 0) : Rd c (0, a, d, h, x) (c, 0, 0, 0, x) := by
  intro mM nM hR
  obtain ⟨e9, e10, e11, e12, e5⟩ := hR
  dsimp only at e9 e10 e11 e12 e5
  have key : f_X9_readOne (zI c) mM nM = f_X9_readOne_b53 (1 : Int32) (zI c) mM nM := by
    have l1 : (1 : Int32) = 0 ↔ False := by decide
    unfold f_X9_readOne f_X9_readOne_b37 f_X9_readOne_b42
    rw [z_c0, e9, if_pos rfl]
    rcases (dueT_need hc).2 with rfl | rfl | rfl | rfl | rfl <;> rfl
  rw [key]
  unfold f_X9_readOne_b53
  refine Ev_lt (Ev_lt (Ev_lt (Ev_lt ?_)))
  rw [if_neg (by decide)]
  refine Ev_some ⟨rfl, ⟨?_, ?_, ?_, ?_, ?_⟩, fun k k5 k9 k10 k11 k12 => ?_⟩
  · dsimp only
    rw [wrI_ne _ _ (by decide), wrI_ne _ _ (by decide), wrI_ne _ _ (by decide), wrI_same]
  · dsimp only
    rw [wrI_ne _ _ (by decide), wrI_ne _ _ (by decide), wrI_same]; rfl
  · dsimp only
    rw [wrI_ne _ _ (by decide), wrI_same]; rfl
  · dsimp only
    rw [wrI_same]; rfl
  · dsimp only
    rw [wrI_ne _ _ (by decide), wrI_ne _ _ (by decide), wrI_ne _ _ (by decide), wrI_ne _ _ (by decide)]; exact e5
  · dsimp only
    rw [wrI_ne _ _ k12, wrI_ne _ _ k11, wrI_ne _ _ k10, wrI_ne _ _ k9]
theorem rd_bad {c a d h : Int} {x : VI} (hc : dueT c = 0) (c0 : 0 ≤ c ∧ c < 200) : Rx c 1 (0, a, d, h, x) := by
  intro mM nM hR
  obtain ⟨e9, e10, e11, e12, e5⟩ := hR
  dsimp only at e9 e10 e11 e12 e5
  obtain ⟨n1, n2, n3, n4, n5⟩ := dueT_0 hc
  have key : f_X9_readOne (zI c) mM nM = f_X9_readOne_b53 (0 : Int32) (0 : Int32) mM nM := by
    unfold f_X9_readOne
    rw [z_c0, e9, if_pos rfl]
    have g : ∀ b : Int, -2147483648 ≤ b → b < 2147483648 → c ≠ b → ¬ zI c = zI b := fun b b0 b1 q w => q ((z_eq (by omega) (by omega) b0 b1).mp w)
    rw [show (104 : Int32) = zI 104 from rfl, show (111 : Int32) = zI 111 from rfl, show (99 : Int32) = zI 99 from rfl, show (112 : Int32) = zI 112 from rfl, show (109 : Int32) = zI 109 from rfl]
    rw [if_neg (g _ (by omega) (by omega) n1), if_neg (g _ (by omega) (by omega) n2), if_neg (g _ (by omega) (by omega) n3), if_neg (g _ (by omega) (by omega) n4), if_neg (g _ (by omega) (by omega) n5)]
    rfl
  rw [key]
  unfold f_X9_readOne_b53
  refine Ev_lt (Ev_lt (Ev_lt (Ev_lt ?_)))
  rw [if_pos rfl]
  refine Ev_some ⟨rfl, fun k k5 k9 k10 k11 k12 => ?_⟩
  dsimp only
  rw [wrI_ne _ _ k12, wrI_ne _ _ k11, wrI_ne _ _ k10, wrI_ne _ _ k9]
theorem m_b141 {mM : Mem} {nM : MemL} {w a d h z : Int} {x : VI} (hR : RT mM (w, a, d, h, x)) (a0 : 0 ≤ a ∧ a < 3) (d0 : 0 ≤ d ∧ d ≤ 6) : Ev (f_X9_readOne_b141 (zI z) (zI a) mM nM) (fun o => o.1 = zI (if d = 6 then 2 else 0) ∧ RT o.2 (w, a, d + 1, h, upV x a z) ∧ SR mM o.2) := by
  obtain ⟨e9, e10, e11, e12, e5⟩ := hR
  dsimp only at e9 e10 e11 e12 e5
  unfold f_X9_readOne_b141
  refine Ev_gi a0.1 (by show a < (3 : Int); exact a0.2) (by decide) (Ev_lt ?_)
  have ew : wrI mM 5 (upd (mM 5) (zI a).toNatClampNeg (zI z)) 11 0 = zI d := by rw [wrI_ne _ _ (by decide)]; exact e11
  rw [ew, z_c1, z_c6, z_add]
  refine Ev_lt ?_
  rw [wrI_at]
  have hT : RT (wrI (wrI mM 5 (upd (mM 5) (zI a).toNatClampNeg (zI z))) 11 (fun _ => zI (d + 1))) (w, a, d + 1, h, upV x a z) := by
    refine ⟨?_, ?_, ?_, ?_, ?_⟩
    · dsimp only
      rw [wrI_ne _ _ (by decide), wrI_ne _ _ (by decide)]; exact e9
    · dsimp only
      rw [wrI_ne _ _ (by decide), wrI_ne _ _ (by decide)]; exact e10
    · dsimp only
      rw [wrI_same]
    · dsimp only
      rw [wrI_ne _ _ (by decide), wrI_ne _ _ (by decide)]; exact e12
    · dsimp only
      rw [wrI_ne _ _ (by decide), wrI_same]; exact e5.wr a0.1 a0.2 (by omega) z
  have hS : SR mM (wrI (wrI mM 5 (upd (mM 5) (zI a).toNatClampNeg (zI z))) 11 (fun _ => zI (d + 1))) := fun k k5 k9 k10 k11 k12 => by rw [wrI_ne _ _ k11, wrI_ne _ _ k5]
  have lz := z_le (a := d + 1) (b := 6) (by omega) (by omega) (by omega) (by omega)
  by_cases c : d = 6
  · rw [if_neg (fun q => by rw [lz] at q; omega), if_pos c]; exact Ev_some ⟨rfl, hT, hS⟩
  · rw [if_pos (by rw [lz]; omega), if_neg c]; exact Ev_some ⟨rfl, hT, hS⟩
theorem m_digit {mM : Mem} {nM : MemL} {w a d c : Int} {x : VI} (hR : RT mM (w, a, d, 0, x)) (w0 : 0 < w ∧ w < 200) (a0 : 0 ≤ a ∧ a < 3) (d0 : 0 ≤ d ∧ d ≤ 6) (c0 : 48 ≤ c ∧ c ≤ 57) : Ev (f_X9_readOne (zI c) mM nM) (fun o => o.1 = zI (if d = 6 then 2 else 0) ∧ RT o.2 (w, a, d + 1, 0, upV x a (if d = 0 then c - 48 else 10 * x a + c - 48)) ∧ SR mM o.2) := by
  have hR0 := hR
  obtain ⟨e9, e10, e11, e12, e5⟩ := hR
  dsimp only at e9 e10 e11 e12 e5
  have f1 := m_in (a := c) (b := 48) (c := 57) (by omega) (by omega) (by omega) (by omega) (by omega) (by omega)
  rw [if_pos c0] at f1
  have l1 : (w = 0) = False := eq_false (by omega)
  have r5 := e5 a a0.1 a0.2
  have b0 := m_b141 (nM := nM) (z := c - 48) hR0 a0 d0
  have b1 := m_b141 (nM := nM) (z := 10 * x a + c - 48) hR0 a0 d0
  by_cases q : d = 0
  · rw [if_pos q]
    have l2 : (d = 0) = True := eq_true q
    simp (disch := omega) only [f_X9_readOne, z_c0, z_c10, z_c48, z_c99, z_c104, z_c109, z_c111, z_c112, y_c48_, y_c57_, z_add, z_sub, z_neg, y_neg, z_mul, z_div, z_l, y_i, y_add, y_sub, y_mul, y_div, z_lt, z_le, z_eq, y_c1, y_c2, y_c3, y_c4, y_c5, z_gi, bd1_s, bd2_s, mul30, z_ofNat, e9, e10, e11, e12, f1, l1, l2, iz1, eq_self, if_true, if_false]
    exact b0
  · rw [if_neg q]
    have l2 : (d = 0) = False := eq_false q
    simp (disch := omega) only [f_X9_readOne, z_c0, z_c10, z_c48, z_c99, z_c104, z_c109, z_c111, z_c112, y_c48_, y_c57_, z_add, z_sub, z_neg, y_neg, z_mul, z_div, z_l, y_i, y_add, y_sub, y_mul, y_div, z_lt, z_le, z_eq, y_c1, y_c2, y_c3, y_c4, y_c5, z_gi, bd1_s, bd2_s, mul30, z_ofNat, e9, e10, e11, e12, f1, l1, l2, iz1, r5, eq_self, if_true, if_false]
    exact b1
theorem rd_dig {w a d c : Int} {x : VI} (w0 : 0 < w ∧ w < 200) (a0 : 0 ≤ a ∧ a < 3) (d0 : 0 ≤ d ∧ d < 6) (c0 : 48 ≤ c ∧ c ≤ 57) : Rd c (w, a, d, 0, x) (w, a, d + 1, 0, upV x a (if d = 0 then c - 48 else 10 * x a + c - 48)) := fun mM nM hR => by
  have g := m_digit (nM := nM) hR w0 a0 (by omega) c0
  rw [if_neg (show ¬ d = 6 by omega)] at g
  exact g
theorem rd_7th {w a c : Int} {x : VI} (w0 : 0 < w ∧ w < 200) (a0 : 0 ≤ a ∧ a < 3) (c0 : 48 ≤ c ∧ c ≤ 57) : Rx c 2 (w, a, 6, 0, x) := fun mM nM hR => by
  have g := m_digit (nM := nM) hR w0 a0 (by omega) c0
  rw [if_pos rfl] at g
  exact Ev_mono g fun o ho => ⟨ho.1, ho.2.2⟩
/-- what is no digit, or a digit behind the mark -/
theorem m_other {mM : Mem} {nM : MemL} {w a d h c : Int} {x : VI} (hR : RT mM (w, a, d, h, x)) (w0 : 0 < w ∧ w < 200) (c0 : 0 ≤ c ∧ c < 200) (h0 : h = 0 ∨ h = 1) (hc : ¬ (48 ≤ c ∧ c ≤ 57) ∨ h = 1) : f_X9_readOne (zI c) mM nM = f_X9_readOne_b167 (zI c) mM nM := by
  obtain ⟨e9, e10, e11, e12, e5⟩ := hR
  dsimp only at e9 e10 e11 e12 e5
  have f1 := m_in (a := c) (b := 48) (c := 57) (by omega) (by omega) (by omega) (by omega) (by omega) (by omega)
  have l1 : (w = 0) = False := eq_false (by omega)
  by_cases q : 48 ≤ c ∧ c ≤ 57
  · rw [if_pos q] at f1
    have l2 : (h = 0) = False := eq_false (by omega)
    simp (disch := omega) only [f_X9_readOne, z_c0, z_c10, z_c48, z_c99, z_c104, z_c109, z_c111, z_c112, y_c48_, y_c57_, z_add, z_sub, z_neg, y_neg, z_mul, z_div, z_l, y_i, y_add, y_sub, y_mul, y_div, z_lt, z_le, z_eq, y_c1, y_c2, y_c3, y_c4, y_c5, z_gi, bd1_s, bd2_s, mul30, z_ofNat, e9, e12, f1, l1, l2, iz1, if_false]
  · rw [if_neg q] at f1
    simp (disch := omega) only [f_X9_readOne, z_c0, z_c10, z_c48, z_c99, z_c104, z_c109, z_c111, z_c112, y_c48_, y_c57_, z_add, z_sub, z_neg, y_neg, z_mul, z_div, z_l, y_i, y_add, y_sub, y_mul, y_div, z_lt, z_le, z_eq, y_c1, y_c2, y_c3, y_c4, y_c5, z_gi, bd1_s, bd2_s, mul30, z_ofNat, e9, e12, f1, l1, eq_self, if_true, if_false]
theorem rd_d0 {w a h c : Int} {x : VI} (w0 : 0 < w ∧ w < 200) (c0 : 0 ≤ c ∧ c < 200) (h0 : h = 0 ∨ h = 1) (hc : ¬ (48 ≤ c ∧ c ≤ 57)) : Rx c 1 (w, a, 0, h, x) := fun mM nM hR => by
  rw [m_other hR w0 c0 h0 (Or.inl hc)]
  obtain ⟨e9, e10, e11, e12, e5⟩ := hR
  unfold f_X9_readOne_b167
  rw [if_pos (show mM 11 0 = 0 from e11)]
  exact Ev_some ⟨rfl, fun _ _ _ _ _ _ => rfl⟩
theorem rd_comma {w a d : Int} {x : VI} (w0 : 0 < w ∧ w < 200) (a0 : 0 ≤ a ∧ a < 3) (d0 : 0 < d ∧ d ≤ 6) (ha : a + 1 < needT w) : Rd 44 (w, a, d, 0, x) (w, a + 1, 0, 0, x) := fun mM nM hR => by
  rw [m_other hR w0 (by omega) (Or.inl rfl) (Or.inl (by omega))]
  obtain ⟨e9, e10, e11, e12, e5⟩ := hR
  dsimp only at e9 e10 e11 e12 e5
  have en := m_needs (nM := nM) e9 (by omega)
  have nb := needT_b w
  have l1 : (d = 0) = False := eq_false (by omega)
  have l2 : (needT w ≤ a + 1) = False := eq_false (by omega)
  simp (disch := omega) only [f_X9_readOne_b167, z_c0, z_c1, z_c44, z_add, z_sub, z_neg, y_neg, z_mul, z_div, z_l, y_i, y_add, y_sub, y_mul, y_div, z_lt, z_le, z_eq, y_c1, y_c2, y_c3, y_c4, y_c5, z_gi, bd1_s, bd2_s, mul30, z_ofNat, e10, e11, en, l1, l2, eq_self, if_true, if_false]
  refine Ev_lt (Ev_lt (Ev_some ⟨rfl, ⟨?_, ?_, ?_, ?_, ?_⟩, fun k k5 k9 k10 k11 k12 => ?_⟩))
  · dsimp only
    rw [wrI_ne _ _ (by decide), wrI_ne _ _ (by decide)]; exact e9
  · dsimp only
    rw [wrI_ne _ _ (by decide), wrI_same]
  · dsimp only
    rw [wrI_same]
  · dsimp only
    rw [wrI_ne _ _ (by decide), wrI_ne _ _ (by decide)]; exact e12
  · dsimp only
    rw [wrI_ne _ _ (by decide), wrI_ne _ _ (by decide)]; exact e5
  · dsimp only
    rw [wrI_ne _ _ k11, wrI_ne _ _ k10]
theorem rd_mark {d : Int} {x : VI} (d0 : 0 < d ∧ d ≤ 6) : Rd 33 (111, 2, d, 0, x) (111, 2, d, 1, x) := fun mM nM hR => by
  rw [m_other hR (by omega) (by omega) (Or.inl rfl) (Or.inl (by omega))]
  obtain ⟨e9, e10, e11, e12, e5⟩ := hR
  dsimp only at e9 e10 e11 e12 e5
  have l1 : (d = 0) = False := eq_false (by omega)
  simp (disch := omega) only [f_X9_readOne_b167, f_X9_readOne_b212, z_c0, z_c1, z_c2, z_c33, z_c44, z_c111, z_add, z_sub, z_neg, y_neg, z_mul, z_div, z_l, y_i, y_add, y_sub, y_mul, y_div, z_lt, z_le, z_eq, y_c1, y_c2, y_c3, y_c4, y_c5, z_gi, bd1_s, bd2_s, mul30, z_ofNat, e9, e10, e11, e12, l1, eq_self, if_true, if_false, Int.reduceEq]
  refine Ev_lt (Ev_some ⟨rfl, ⟨?_, ?_, ?_, ?_, ?_⟩, fun k k5 k9 k10 k11 k12 => ?_⟩)
  · dsimp only
    rw [wrI_ne _ _ (by decide)]; exact e9
  · dsimp only
    rw [wrI_ne _ _ (by decide)]; exact e10
  · dsimp only
    rw [wrI_ne _ _ (by decide)]; exact e11
  · dsimp only
    rw [wrI_same]
  · dsimp only
    rw [wrI_ne _ _ (by decide)]; exact e5
  · dsimp only
    rw [wrI_ne _ _ k12]
/-- neither a number's sign nor a comma in its place nor the mark -/
theorem m_last {mM : Mem} {nM : MemL} {w a d h c : Int} {x : VI} (hR : RT mM (w, a, d, h, x)) (w0 : 0 < w ∧ w < 200) (a0 : 0 ≤ a ∧ a < 3) (d0 : 0 < d ∧ d ≤ 6) (c0 : 0 ≤ c ∧ c < 200) (h0 : h = 0 ∨ h = 1) (hc : ¬ (48 ≤ c ∧ c ≤ 57) ∨ h = 1) (h44 : ¬ (c = 44 ∧ a + 1 < needT w)) (h33 : ¬ (c = 33 ∧ w = 111 ∧ a = 2 ∧ h = 0)) : f_X9_readOne (zI c) mM nM = some (zI (if c = 59 ∧ a + 1 = needT w then 0 else 1), mM) := by
  rw [m_other hR w0 c0 h0 hc]
  obtain ⟨e9, e10, e11, e12, e5⟩ := hR
  dsimp only at e9 e10 e11 e12 e5
  have en := m_needs (nM := nM) e9 (by omega)
  have nb := needT_b w
  have l1 : (d = 0) = False := eq_false (by omega)
  have k249 : f_X9_readOne_b249 (zI c) mM nM = some (zI (if c = 59 ∧ a + 1 = needT w then 0 else 1), mM) := by
    simp (disch := omega) only [f_X9_readOne_b249, z_c0, z_c1, z_c59, z_add, z_sub, z_neg, y_neg, z_mul, z_div, z_l, y_i, y_add, y_sub, y_mul, y_div, z_lt, z_le, z_eq, y_c1, y_c2, y_c3, y_c4, y_c5, z_gi, bd1_s, bd2_s, mul30, z_ofNat, e10, en]
    by_cases q1 : c = 59
    · rw [if_pos q1]
      by_cases q2 : a + 1 = needT w
      · rw [if_pos q2, if_pos ⟨q1, q2⟩]
      · rw [if_neg q2, if_neg (fun q => q2 q.2)]
    · rw [if_neg q1, if_neg (fun q => q1 q.1)]
  have k212 : f_X9_readOne_b212 (zI c) mM nM = some (zI (if c = 59 ∧ a + 1 = needT w then 0 else 1), mM) := by
    simp (disch := omega) only [f_X9_readOne_b212, z_c0, z_c1, z_c2, z_c33, z_c111, z_add, z_sub, z_neg, y_neg, z_mul, z_div, z_l, y_i, y_add, y_sub, y_mul, y_div, z_lt, z_le, z_eq, y_c1, y_c2, y_c3, y_c4, y_c5, z_gi, bd1_s, bd2_s, mul30, z_ofNat, e9, e10, e12, k249]
    by_cases q1 : c = 33
    · rw [if_pos q1]
      by_cases q2 : w = 111
      · rw [if_pos q2]
        by_cases q3 : a = 2
        · rw [if_pos q3]
          by_cases q4 : h = 0
          · exact absurd ⟨q1, q2, q3, q4⟩ h33
          · rw [if_neg q4]
        · rw [if_neg q3]
      · rw [if_neg q2]
    · rw [if_neg q1]
  simp (disch := omega) only [f_X9_readOne_b167, z_c0, z_c1, z_c44, z_add, z_sub, z_neg, y_neg, z_mul, z_div, z_l, y_i, y_add, y_sub, y_mul, y_div, z_lt, z_le, z_eq, y_c1, y_c2, y_c3, y_c4, y_c5, z_gi, bd1_s, bd2_s, mul30, z_ofNat, e10, e11, en, l1, k212, if_false]
  by_cases q1 : c = 44
  · rw [if_pos q1, if_pos (by omega)]
  · rw [if_neg q1]
theorem rd_semi {w a d h : Int} {x : VI} (w0 : 0 < w ∧ w < 200) (a0 : 0 ≤ a ∧ a < 3) (d0 : 0 < d ∧ d ≤ 6) (h0 : h = 0 ∨ h = 1) (ha : a + 1 = needT w) : Rd 59 (w, a, d, h, x) (w, a, d, h, x) := fun mM nM hR => by
  rw [m_last hR w0 a0 d0 (by omega) h0 (Or.inl (by omega)) (by omega) (by omega), if_pos ⟨rfl, ha⟩]
  exact Ev_some ⟨rfl, hR, fun _ _ _ _ _ _ => rfl⟩
theorem rd_else {w a d h c : Int} {x : VI} (w0 : 0 < w ∧ w < 200) (a0 : 0 ≤ a ∧ a < 3) (d0 : 0 < d ∧ d ≤ 6) (c0 : 0 ≤ c ∧ c < 200) (h0 : h = 0 ∨ h = 1) (hc : ¬ (48 ≤ c ∧ c ≤ 57) ∨ h = 1) (h44 : ¬ (c = 44 ∧ a + 1 < needT w)) (h33 : ¬ (c = 33 ∧ w = 111 ∧ a = 2 ∧ h = 0)) (h59 : ¬ (c = 59 ∧ a + 1 = needT w)) : Rx c 1 (w, a, d, h, x) := fun mM nM hR => by
  rw [m_last hR w0 a0 d0 c0 h0 hc h44 h33, if_neg h59]
  exact Ev_some ⟨rfl, fun _ _ _ _ _ _ => rfl⟩
