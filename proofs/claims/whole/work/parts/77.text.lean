/-! the text: what the class's reader finds -/
theorem wrI_at (m : Mem) (k j : Nat) (x : Int32) : wrI m k (fun _ => x) k j = x := by rw [wrI_same]
theorem z_ne {a b : Int} (a0 : -2147483648 ≤ a) (a1 : a < 2147483648) (b0 : -2147483648 ≤ b) (b1 : b < 2147483648) (h : a ≠ b) : ¬ zI a = zI b := fun r => h ((z_eq a0 a1 b0 b1).mp r)
def TT (n : Int) (t : Int → Int) (mT : Mem) : Prop := (0 ≤ n ∧ n ≤ 120) ∧ mT 0 0 = zI n ∧ ∀ k : Int, 0 ≤ k → k < n → mT 7 (zI k).toNatClampNeg = zI (t k) ∧ 32 ≤ t k ∧ t k ≤ 126
def chrT (t : Int → Int) (n p : Int) : Int := if p < n then t p else 0
/-- of up to j signs from p on: how many digits stand first; the number that they are, behind a -/
def dgc (t : Int → Int) (n : Int) : Int → Nat → Nat
  | _, 0 => 0
  | p, j + 1 => if p < n ∧ 48 ≤ t p ∧ t p ≤ 57 then dgc t n (p + 1) j + 1 else 0
def vlT (t : Int → Int) : Int → Int → Nat → Int
  | a, _, 0 => a
  | a, p, j + 1 => vlT t (10 * a + (t p - 48)) (p + 1) j
def dT (t : Int → Int) (n p : Int) : Int := (dgc t n p 6 : Nat)
/-- the error of a number that begins at p -/
def nE (t : Int → Int) (n p : Int) : Int := if dT t n p = 0 then (if p < n then 1 else 3) else if p + dT t n p < n ∧ 48 ≤ t (p + dT t n p) ∧ t (p + dT t n p) ≤ 57 then 2 else 0
/-- k numbers from p on: the error and its place, or 0 and the place behind -/
def nums (t : Int → Int) (n : Int) : Nat → Int → Int × Int
  | 0, p => (0, p)
  | k + 1, p => if nE t n p = 0 then (if k = 0 then (0, p + dT t n p) else if p + dT t n p < n ∧ t (p + dT t n p) = 44 then nums t n k (p + dT t n p + 1) else ((if p + dT t n p < n then 1 else 3), p + dT t n p)) else (nE t n p, p + dT t n p)
def valsT (t : Int → Int) (n : Int) : Nat → Int → Int → VI → VI
  | 0, _, _, x => x
  | k + 1, i, p, x => valsT t n k (i + 1) (p + dT t n p + 1) (upV x i (vlT t 0 p (dgc t n p 6)))
def dueT (w : Int) : Nat := if w = 104 then 1 else if w = 111 then 3 else if w = 99 ∨ w = 112 ∨ w = 109 then 2 else 0
theorem dgc_le (t : Int → Int) (n : Int) : ∀ (j : Nat) (p : Int), dgc t n p j ≤ j
  | 0, _ => Nat.le_refl 0
  | j + 1, p => by
    have := dgc_le t n j (p + 1)
    show (if p < n ∧ 48 ≤ t p ∧ t p ≤ 57 then dgc t n (p + 1) j + 1 else 0) ≤ j + 1
    split <;> omega
theorem dgc_all (t : Int → Int) (n : Int) : ∀ (j : Nat) (p q : Int), p ≤ q → q < p + (dgc t n p j : Int) → q < n ∧ 48 ≤ t q ∧ t q ≤ 57
  | 0, p, q, h1, h2 => by
    have : (dgc t n p 0 : Int) = 0 := rfl
    omega
  | j + 1, p, q, h1, h2 => by
    by_cases c : p < n ∧ 48 ≤ t p ∧ t p ≤ 57
    · rw [show dgc t n p (j + 1) = dgc t n (p + 1) j + 1 from if_pos c] at h2
      by_cases e : q = p
      · rw [e]; exact c
      · exact dgc_all t n j (p + 1) q (by omega) (by omega)
    · rw [show dgc t n p (j + 1) = 0 from if_neg c] at h2
      omega
theorem dgc_end (t : Int → Int) (n : Int) : ∀ (j : Nat) (p : Int), dgc t n p j < j → ¬ (p + (dgc t n p j : Int) < n ∧ 48 ≤ t (p + (dgc t n p j : Int)) ∧ t (p + (dgc t n p j : Int)) ≤ 57)
  | 0, p, h => by omega
  | j + 1, p, h => by
    by_cases c : p < n ∧ 48 ≤ t p ∧ t p ≤ 57
    · rw [show dgc t n p (j + 1) = dgc t n (p + 1) j + 1 from if_pos c] at h ⊢
      have g := dgc_end t n j (p + 1) (by omega)
      rw [show p + ((dgc t n (p + 1) j + 1 : Nat) : Int) = p + 1 + (dgc t n (p + 1) j : Int) by omega]
      exact g
    · rw [show dgc t n p (j + 1) = 0 from if_neg c]
      rw [show p + ((0 : Nat) : Int) = p by omega]
      exact c
theorem dT_b (t : Int → Int) (n p : Int) : 0 ≤ dT t n p ∧ dT t n p ≤ 6 := by
  have := dgc_le t n 6 p
  unfold dT; omega
theorem dT_n (t : Int → Int) {n p : Int} (h : p ≤ n) : p + dT t n p ≤ n := by
  have hb := dT_b t n p
  by_cases c : dT t n p = 0
  · omega
  · have := dgc_all t n 6 p (p + dT t n p - 1) (by omega) (by unfold dT; omega)
    omega
theorem nE_b (t : Int → Int) (n p : Int) : 0 ≤ nE t n p ∧ nE t n p ≤ 3 := by unfold nE; repeat' split <;> omega
theorem nums_b (t : Int → Int) (n : Int) : ∀ (k : Nat) (p : Int), p ≤ n → (0 ≤ (nums t n k p).1 ∧ (nums t n k p).1 ≤ 3) ∧ p ≤ (nums t n k p).2 ∧ (nums t n k p).2 ≤ n
  | 0, p, h => ⟨⟨Int.le_refl _, by show (0 : Int) ≤ 3; decide⟩, Int.le_refl _, h⟩
  | k + 1, p, h => by
    have h1 := nE_b t n p
    have h2 := dT_b t n p
    have h3 := dT_n t h
    unfold nums
    by_cases c1 : nE t n p = 0
    · rw [if_pos c1]
      by_cases c2 : k = 0
      · rw [if_pos c2]; exact ⟨⟨Int.le_refl _, by show (0 : Int) ≤ 3; decide⟩, by show p ≤ p + dT t n p; omega, h3⟩
      · rw [if_neg c2]
        by_cases c3 : p + dT t n p < n ∧ t (p + dT t n p) = 44
        · rw [if_pos c3]
          have g := nums_b t n k (p + dT t n p + 1) (by omega)
          exact ⟨g.1, by omega, g.2.2⟩
        · rw [if_neg c3]
          refine ⟨?_, by show p ≤ p + dT t n p; omega, h3⟩
          show 0 ≤ (if p + dT t n p < n then (1 : Int) else 3) ∧ (if p + dT t n p < n then (1 : Int) else 3) ≤ 3
          split <;> omega
    · rw [if_neg c1]
      exact ⟨h1, by show p ≤ p + dT t n p; omega, h3⟩
theorem chrT_b {n : Int} {t : Int → Int} {mT : Mem} (h : TT n t mT) {p : Int} (p0 : 0 ≤ p) : 0 ≤ chrT t n p ∧ chrT t n p ≤ 126 := by
  unfold chrT
  by_cases q : p < n
  · rw [if_pos q]; have := (h.2.2 p p0 q).2; omega
  · rw [if_neg q]; omega
theorem TT.cg {n : Int} {t : Int → Int} {mT mT' : Mem} (h : TT n t mT) (e0 : mT' 0 = mT 0) (e7 : mT' 7 = mT 7) : TT n t mT' := by
  obtain ⟨a, b, c⟩ := h
  exact ⟨a, by rw [e0]; exact b, fun k k0 k1 => by rw [e7]; exact c k k0 k1⟩
theorem s_sign {n : Int} {t : Int → Int} {mT : Mem} (h : TT n t mT) {p : Int} (e1 : mT 1 0 = zI p) (p0 : 0 ≤ p) (p1 : p ≤ n) : f_X7_sign mT = some (zI (chrT t n p)) := by
  obtain ⟨⟨n0, n1⟩, h0, ht⟩ := h
  unfold chrT
  by_cases q : p < n
  · have g := ht p p0 q
    simp (disch := omega) only [f_X7_sign, z_c0, z_c120, z_add, z_sub, z_neg, y_neg, z_mul, z_div, z_l, y_i, y_add, y_sub, y_mul, y_div, z_lt, z_le, z_eq, y_c1, y_c2, y_c3, y_c4, y_c5, z_gi, bd1_s, bd2_s, mul30, z_ofNat, lt_eq, e1, h0, g.1, gch_s]
    rw [if_neg (by omega), if_neg (by omega), if_neg (by omega), if_pos q]
  · simp (disch := omega) only [f_X7_sign, z_c0, z_c120, z_add, z_sub, z_neg, y_neg, z_mul, z_div, z_l, y_i, y_add, y_sub, y_mul, y_div, z_lt, z_le, z_eq, y_c1, y_c2, y_c3, y_c4, y_c5, z_gi, bd1_s, bd2_s, mul30, z_ofNat, lt_eq, e1, h0]
    rw [if_neg (by omega), if_pos (by omega), if_neg q]
theorem s_isDigit {c : Int} (c0 : 0 ≤ c) (c1 : c < 2147483648) : f_X7_isDigit (zI c) = some (zI (if 48 ≤ c ∧ c ≤ 57 then 1 else 0)) := by
  simp (disch := omega) only [f_X7_isDigit, z_c0, z_c1, z_c48, z_c57, z_add, z_sub, z_neg, y_neg, z_mul, z_div, z_l, y_i, y_add, y_sub, y_mul, y_div, z_lt, z_le, z_eq, y_c1, y_c2, y_c3, y_c4, y_c5, z_gi, bd1_s, bd2_s, mul30, z_ofNat, lt_eq]
  repeat' split
  all_goals first | rfl | (exfalso; omega)
theorem s_failHere {n : Int} {t : Int → Int} {mT : Mem} (h : TT n t mT) {p : Int} (e1 : mT 1 0 = zI p) (p0 : 0 ≤ p) (p1 : p ≤ n) : f_X7_failHere mT = some (wrI mT 2 (fun _ => zI (if p < n then 1 else 3))) := by
  obtain ⟨⟨n0, n1⟩, h0, ht⟩ := h
  simp (disch := omega) only [f_X7_failHere, z_c1, z_c3, z_add, z_sub, z_neg, y_neg, z_mul, z_div, z_l, y_i, y_add, y_sub, y_mul, y_div, z_lt, z_le, z_eq, y_c1, y_c2, y_c3, y_c4, y_c5, z_gi, bd1_s, bd2_s, mul30, z_ofNat, lt_eq, e1, h0]
  by_cases q : p < n
  · rw [if_neg (by omega), if_pos q]
  · rw [if_pos (by omega), if_neg q]
theorem s_num21 {n : Int} {t : Int → Int} {i : Int} : ∀ (j fu : Nat) (a c p : Int) (mT : Mem), TT n t mT → mT 1 0 = zI p → 0 ≤ p → p ≤ n → 0 ≤ c → c + j = 6 → j < fu → ∃ mT', f_X7_readNumber_L21 (zI i) fu (zI a) (zI c) mT = f_X7_readNumber_b66 (zI i) (zI (vlT t a p (dgc t n p j))) (zI (c + (dgc t n p j : Int))) mT' ∧ mT' 1 0 = zI (p + (dgc t n p j : Int)) ∧ ∀ k : Nat, k ≠ 1 → mT' k = mT k := by
  intro j
  induction j with
  | zero =>
    intro fu a c p mT h e1 p0 p1 c0 hc hf
    obtain ⟨fu, rfl⟩ : ∃ m, fu = m + 1 := ⟨fu - 1, by omega⟩
    refine ⟨mT, ?_, ?_, fun _ _ => rfl⟩
    · show _ = f_X7_readNumber_b66 (zI i) (zI a) (zI (c + ((0 : Nat) : Int))) mT
      rw [show c + ((0 : Nat) : Int) = c by omega]
      simp (disch := omega) only [f_X7_readNumber_L21, z_c0, z_c1, z_c6, z_c10, z_c48, z_add, z_sub, z_neg, y_neg, z_mul, z_div, z_l, y_i, y_add, y_sub, y_mul, y_div, z_lt, z_le, z_eq, y_c1, y_c2, y_c3, y_c4, y_c5, z_gi, bd1_s, bd2_s, mul30, z_ofNat, lt_eq]
      rw [if_pos (by omega)]
    · show mT 1 0 = zI (p + ((0 : Nat) : Int))
      rw [show p + ((0 : Nat) : Int) = p by omega]; exact e1
  | succ j ih =>
    intro fu a c p mT h e1 p0 p1 c0 hc hf
    obtain ⟨fu, rfl⟩ : ∃ m, fu = m + 1 := ⟨fu - 1, by omega⟩
    have n1 := h.1
    have es := s_sign h e1 p0 p1
    have cb := chrT_b h p0
    have ed := s_isDigit (c := chrT t n p) cb.1 (by omega)
    have l6 : (6 ≤ c) = False := eq_false (by omega)
    by_cases q : p < n ∧ 48 ≤ t p ∧ t p ≤ 57
    · have ec : chrT t n p = t p := if_pos q.1
      rw [ec] at es ed
      rw [if_pos q.2] at ed
      rw [show dgc t n p (j + 1) = dgc t n (p + 1) j + 1 from if_pos q]
      obtain ⟨mT', g1, g2, g3⟩ := ih fu (a * 10 + (t p - 48)) (c + 1) (p + 1) (wrI mT 1 (fun _ => zI (p + 1))) (h.cg (wrI_ne _ _ (by decide)) (wrI_ne _ _ (by decide))) (by rw [wrI_same]) (by omega) (by omega) (by omega) (by omega) (by omega)
      refine ⟨mT', ?_, ?_, fun k hk => by rw [g3 k hk, wrI_ne _ _ hk]⟩
      · simp (disch := omega) only [f_X7_readNumber_L21, z_c0, z_c1, z_c6, z_c10, z_c48, z_add, z_sub, z_neg, y_neg, z_mul, z_div, z_l, y_i, y_add, y_sub, y_mul, y_div, z_lt, z_le, z_eq, y_c1, y_c2, y_c3, y_c4, y_c5, z_gi, bd1_s, bd2_s, mul30, z_ofNat, lt_eq, es, ed, e1, l6, iz1, if_false]
        rw [g1, show c + ((dgc t n (p + 1) j + 1 : Nat) : Int) = c + 1 + (dgc t n (p + 1) j : Int) by omega]
        show _ = f_X7_readNumber_b66 (zI i) (zI (vlT t (10 * a + (t p - 48)) (p + 1) (dgc t n (p + 1) j))) _ _
        rw [show a * 10 + (t p - 48) = 10 * a + (t p - 48) by omega]
      · rw [g2]; congr 1; omega
    · rw [show dgc t n p (j + 1) = 0 from if_neg q]
      have ec : ¬ (48 ≤ chrT t n p ∧ chrT t n p ≤ 57) := by
        unfold chrT
        by_cases q2 : p < n
        · rw [if_pos q2]; exact fun w => q ⟨q2, w⟩
        · rw [if_neg q2]; omega
      rw [if_neg ec] at ed
      refine ⟨mT, ?_, ?_, fun _ _ => rfl⟩
      · show _ = f_X7_readNumber_b66 (zI i) (zI a) (zI (c + ((0 : Nat) : Int))) mT
        rw [show c + ((0 : Nat) : Int) = c by omega]
        simp (disch := omega) only [f_X7_readNumber_L21, z_c0, z_c1, z_c6, z_c10, z_c48, z_add, z_sub, z_neg, y_neg, z_mul, z_div, z_l, y_i, y_add, y_sub, y_mul, y_div, z_lt, z_le, z_eq, y_c1, y_c2, y_c3, y_c4, y_c5, z_gi, bd1_s, bd2_s, mul30, z_ofNat, lt_eq, es, ed, l6, eq_self, if_true, if_false]
      · rw [show p + ((0 : Nat) : Int) = p by omega]; exact e1
/-- a number is read -/
theorem s_readNumber {n : Int} {t : Int → Int} {mT : Mem} {x : VI} (h : TT n t mT) {i p : Int} (i0 : 0 ≤ i) (i1 : i < 3) (e1 : mT 1 0 = zI p) (e2 : mT 2 0 = zI 0) (e5 : Row 3 (mT 5) x) (p0 : 0 ≤ p) (p1 : p ≤ n) :
    Ev (f_X7_readNumber (zI i) mT) (fun m => m 1 0 = zI (p + dT t n p) ∧ m 2 0 = zI (nE t n p) ∧ Row 3 (m 5) (upV x i (vlT t 0 p (dgc t n p 6))) ∧ ∀ k : Nat, k ≠ 1 → k ≠ 2 → k ≠ 5 → m k = mT k) := by
  have n1 := h.1
  have db := dT_b t n p
  have dn := dT_n t p1
  obtain ⟨m, g1, g2, g3⟩ := s_num21 (i := i) 6 fuel 0 0 p mT h e1 p0 p1 (by omega) (by omega) (fuel_gt (by omega))
  have hm : TT n t m := h.cg (g3 0 (by decide)) (g3 7 (by decide))
  have l3 : (i < 3) = True := eq_true i1
  rw [show (0 : Int) + (dgc t n p 6 : Int) = dT t n p by unfold dT; omega] at g1
  rw [show p + (dgc t n p 6 : Int) = p + dT t n p from rfl] at g2
  unfold f_X7_readNumber
  rw [z_c0, e2]
  simp (disch := omega) only [z_add, z_sub, z_neg, y_neg, z_mul, z_div, z_l, y_i, y_add, y_sub, y_mul, y_div, z_lt, z_le, z_eq, y_c1, y_c2, y_c3, y_c4, y_c5, z_gi, bd1_s, bd2_s, mul30, z_ofNat, z_c3, l3, eq_self, if_true]
  rw [g1]
  have e5' : Row 3 (m 5) x := by rw [g3 5 (by decide)]; exact e5
  have hw := e5'.wr i0 i1 (by omega) (vlT t 0 p (dgc t n p 6))
  have hm2 : TT n t (wrI m 5 (upd (m 5) (zI i).toNatClampNeg (zI (vlT t 0 p (dgc t n p 6))))) := hm.cg (wrI_ne _ _ (by decide)) (wrI_ne _ _ (by decide))
  have w1 : (wrI m 5 (upd (m 5) (zI i).toNatClampNeg (zI (vlT t 0 p (dgc t n p 6))))) 1 0 = zI (p + dT t n p) := by rw [wrI_ne _ _ (by decide)]; exact g2
  have w2 : (wrI m 5 (upd (m 5) (zI i).toNatClampNeg (zI (vlT t 0 p (dgc t n p 6))))) 2 0 = zI 0 := by rw [wrI_ne _ _ (by decide), g3 2 (by decide)]; exact e2
  have w5 : Row 3 ((wrI m 5 (upd (m 5) (zI i).toNatClampNeg (zI (vlT t 0 p (dgc t n p 6))))) 5) (upV x i (vlT t 0 p (dgc t n p 6))) := by rw [wrI_same]; exact hw
  have wk : ∀ k : Nat, k ≠ 1 → k ≠ 2 → k ≠ 5 → (wrI m 5 (upd (m 5) (zI i).toNatClampNeg (zI (vlT t 0 p (dgc t n p 6))))) k = mT k := fun k a _ b => by rw [wrI_ne _ _ b, g3 k a]
  unfold f_X7_readNumber_b66
  refine Ev_gi i0 (by show i < (3 : Int); exact i1) (by decide) (Ev_lt ?_)
  generalize wrI m 5 (upd (m 5) (zI i).toNatClampNeg (zI (vlT t 0 p (dgc t n p 6)))) = m2 at hm2 w1 w2 w5 wk
  unfold nE
  rw [z_c0]
  by_cases c : dT t n p = 0
  · rw [if_pos c, c, if_pos rfl]
    rw [show p + dT t n p = p by omega] at w1
    rw [s_failHere hm2 w1 p0 p1, bd1_s]
    refine Ev_some ⟨?_, congrFun (wrI_same m2 2 _) 0, ?_, fun k a b d => ?_⟩
    · rw [wrI_ne _ _ (by decide), w1]; congr 1; omega
    · rw [wrI_ne _ _ (by decide)]; exact w5
    · rw [wrI_ne _ _ b]; exact wk k a b d
  · rw [if_neg c]
    have es := s_sign hm2 w1 (by omega) dn
    have cb := chrT_b hm2 (p := p + dT t n p) (by omega)
    have ed := s_isDigit (c := chrT t n (p + dT t n p)) cb.1 (by omega)
    have l0 : (dT t n p = 0) = False := eq_false c
    simp (disch := omega) only [z_add, z_sub, z_neg, y_neg, z_mul, z_div, z_l, y_i, y_add, y_sub, y_mul, y_div, z_lt, z_le, z_eq, y_c1, y_c2, y_c3, y_c4, y_c5, z_gi, bd1_s, bd2_s, mul30, z_ofNat, es, ed, l0, if_false]
    by_cases q : p + dT t n p < n ∧ 48 ≤ t (p + dT t n p) ∧ t (p + dT t n p) ≤ 57
    · rw [if_pos q]
      have ec : chrT t n (p + dT t n p) = t (p + dT t n p) := if_pos q.1
      have lq : (48 ≤ chrT t n (p + dT t n p) ∧ chrT t n (p + dT t n p) ≤ 57) = True := eq_true (by rw [ec]; exact q.2)
      simp only [lq, if_true, iz1, if_false, z_c2]
      refine Ev_lt (Ev_some ⟨?_, congrFun (wrI_same m2 2 _) 0, ?_, fun k a b d => ?_⟩)
      · rw [wrI_ne _ _ (by decide)]; exact w1
      · rw [wrI_ne _ _ (by decide)]; exact w5
      · rw [wrI_ne _ _ b]; exact wk k a b d
    · rw [if_neg q]
      have ec : ¬ (48 ≤ chrT t n (p + dT t n p) ∧ chrT t n (p + dT t n p) ≤ 57) := by
        unfold chrT
        by_cases q2 : p + dT t n p < n
        · rw [if_pos q2]; exact fun w => q ⟨q2, w⟩
        · rw [if_neg q2]; omega
      have lq := eq_false ec
      simp only [lq, if_true, eq_self, if_false]
      exact Ev_some ⟨w1, w2, w5, wk⟩
