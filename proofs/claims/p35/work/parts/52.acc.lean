/-! accounts, receipts, debts, prices -/
def RA (mA : Mem) (nA : MemL) (v : VI) : Prop := mA 0 0 = zI (v 1886) ∧ Row 16 (mA 1) (fun a => v (1811 + a)) ∧ Row 16 (mA 2) (fun a => v (1827 + a)) ∧ RowL 16 (nA 3) (fun a => v (1843 + a)) ∧ RowL 16 (nA 4) (fun a => v (1859 + a))
def IA (v : VI) : Prop := (0 ≤ v 1886 ∧ v 1886 ≤ 16) ∧ (∀ a : Int, 0 ≤ a → a < v 1886 → (0 ≤ v (1811 + a) ∧ v (1811 + a) < 8) ∧ (0 ≤ v (1827 + a) ∧ v (1827 + a) ≤ 1)) ∧ (∀ a b : Int, 0 ≤ a → a < b → b < v 1886 → ¬ (v (1811 + a) = v (1811 + b) ∧ v (1827 + a) = v (1827 + b))) ∧ (∀ a : Int, v 1886 ≤ a → a < 16 → v (1843 + a) = 0 ∧ v (1859 + a) = 0)
theorem RA.cg {mA : Mem} {nA : MemL} {v v' : VI} (h : RA mA nA v) (e1 : v' 1886 = v 1886) (e2 : ∀ j : Int, 1811 ≤ j → j < 1875 → v' j = v j) : RA mA nA v' := by
  obtain ⟨h1, h2, h3, h4, h5⟩ := h
  exact ⟨by rw [e1]; exact h1, h2.cg fun k q1 q2 => e2 _ (by omega) (by omega), h3.cg fun k q1 q2 => e2 _ (by omega) (by omega), h4.cg fun k q1 q2 => e2 _ (by omega) (by omega), h5.cg fun k q1 q2 => e2 _ (by omega) (by omega)⟩
theorem IA.cg {v v' : VI} (h : IA v) (e1 : v' 1886 = v 1886) (e2 : ∀ j : Int, 1811 ≤ j → j < 1875 → v' j = v j) : IA v' := by
  obtain ⟨h1, h2, h3, h4⟩ := h
  refine ⟨by rw [e1]; exact h1, fun a q1 q2 => ?_, fun a b q1 q2 q3 => ?_, fun a q1 q2 => ?_⟩
  · rw [e1] at q2; rw [e2 _ (by omega) (by omega), e2 _ (by omega) (by omega)]; exact h2 a q1 q2
  · rw [e1] at q3; rw [e2 _ (by omega) (by omega), e2 _ (by omega) (by omega), e2 _ (by omega) (by omega), e2 _ (by omega) (by omega)]; exact h3 a b q1 q2 q3
  · rw [e1] at q1; rw [e2 _ (by omega) (by omega), e2 _ (by omega) (by omega)]; exact h4 a q1 q2
def accF (v : VI) (b d : Int) : Nat → Int → Int
  | 0, _ => -1
  | n + 1, a => if v (1811 + a) = b ∧ v (1827 + a) = d then a else accF v b d n (a + 1)
def accOf (v : VI) (b d : Int) : Int := accF v b d (v 1886).toNat 0
theorem accF_in (v : VI) (b d : Int) : ∀ (n : Nat) (a : Int), (accF v b d n a = -1 ∧ ∀ q : Int, a ≤ q → q < a + n → ¬ (v (1811 + q) = b ∧ v (1827 + q) = d)) ∨ (a ≤ accF v b d n a ∧ accF v b d n a < a + n ∧ v (1811 + accF v b d n a) = b ∧ v (1827 + accF v b d n a) = d ∧ ∀ q : Int, a ≤ q → q < accF v b d n a → ¬ (v (1811 + q) = b ∧ v (1827 + q) = d))
  | 0, a => Or.inl ⟨rfl, fun q q1 q2 => by omega⟩
  | n + 1, a => by
    unfold accF
    by_cases c : v (1811 + a) = b ∧ v (1827 + a) = d
    · rw [if_pos c]; exact Or.inr ⟨Int.le_refl _, by omega, c.1, c.2, fun q q1 q2 => by omega⟩
    · rw [if_neg c]
      rcases accF_in v b d n (a + 1) with h | h
      · refine Or.inl ⟨h.1, fun q q1 q2 => ?_⟩
        by_cases e : q = a
        · rw [e]; exact c
        · exact h.2 q (by omega) (by omega)
      · refine Or.inr ⟨by omega, by omega, h.2.2.1, h.2.2.2.1, fun q q1 q2 => ?_⟩
        by_cases e : q = a
        · rw [e]; exact c
        · exact h.2.2.2.2 q (by omega) q2
theorem accOf_in {v : VI} (hI : IA v) (b d : Int) : (accOf v b d = -1 ∧ ∀ q : Int, 0 ≤ q → q < v 1886 → ¬ (v (1811 + q) = b ∧ v (1827 + q) = d)) ∨ (0 ≤ accOf v b d ∧ accOf v b d < v 1886 ∧ v (1811 + accOf v b d) = b ∧ v (1827 + accOf v b d) = d) := by
  have hb := hI.1
  rcases accF_in v b d (v 1886).toNat 0 with h | h
  · exact Or.inl ⟨h.1, fun q q1 q2 => h.2 q q1 (by omega)⟩
  · refine Or.inr ⟨h.1, ?_, h.2.2.1, h.2.2.2.1⟩
    have := h.2.1
    unfold accOf; omega
theorem s_find2 {mA : Mem} {nA : MemL} {v : VI} (h : RA mA nA v) (hI : IA v) {b d : Int} (b1 : -2147483648 ≤ b) (b2 : b < 2147483648) (d1 : -2147483648 ≤ d) (d2 : d < 2147483648) : ∀ (n fu : Nat) (a : Int), 0 ≤ a → a + n = v 1886 → n < fu →
    f_X0_find_L2 (zI b) (zI d) mA nA fu (zI a) = some (zI (accF v b d n a)) := by
  have hb := hI.1
  intro n
  induction n with
  | zero =>
    intro fu a ha hn hf
    obtain ⟨fu, rfl⟩ : ∃ m, fu = m + 1 := ⟨fu - 1, by omega⟩
    simp (disch := omega) only [f_X0_find_L2, z_c1, z_add, z_sub, z_neg, y_neg, z_mul, z_div, z_l, y_i, y_add, y_sub, y_mul, y_div, z_lt, z_le, z_eq, y_c1, y_c2, y_c3, y_c4, y_c5, z_gi, bd1_s, bd2_s, mul30, z_ofNat, lt_eq, accF, h.1]
    rw [if_pos (by omega)]
  | succ n ih =>
    intro fu a ha hn hf
    obtain ⟨fu, rfl⟩ : ∃ m, fu = m + 1 := ⟨fu - 1, by omega⟩
    have hj := ih fu (a + 1) (by omega) (by omega) (by omega)
    have hw := hI.2.1 a ha (by omega)
    have h1 := h.2.1 a ha (by omega)
    have h2 := h.2.2.1 a ha (by omega)
    simp (disch := omega) only [f_X0_find_L2, f_X0_find_b32, z_c1, z_add, z_sub, z_neg, y_neg, z_mul, z_div, z_l, y_i, y_add, y_sub, y_mul, y_div, z_lt, z_le, z_eq, y_c1, y_c2, y_c3, y_c4, y_c5, z_gi, bd1_s, bd2_s, mul30, z_ofNat, lt_eq, accF, h.1, h1, h2, hj]
    rw [if_neg (by omega)]
    by_cases c : v (1811 + a) = b
    · rw [if_pos c]
      by_cases c2 : v (1827 + a) = d
      · rw [if_pos c2, if_pos ⟨c, c2⟩]
      · rw [if_neg c2, if_neg (fun q => c2 q.2)]
    · rw [if_neg c, if_neg (fun q => c q.1)]
theorem s_find {mA : Mem} {nA : MemL} {v : VI} (h : RA mA nA v) (hI : IA v) {b d : Int} (b1 : -2147483648 ≤ b) (b2 : b < 2147483648) (d1 : -2147483648 ≤ d) (d2 : d < 2147483648) : f_X0_find (zI b) (zI d) mA nA = some (zI (accOf v b d)) := by
  have hb := hI.1
  unfold f_X0_find
  rw [z_c0]
  exact s_find2 h hI b1 b2 d1 d2 (v 1886).toNat fuel 0 (by omega) (by omega) (fuel_gt (by omega))
theorem m_acc2 {mM : Mem} {nM : MemL} {sv tv : Nat → Int64} {v : VI} (hM : MR nM v sv tv) (hI : IA v) {b d : Int} (b1 : -2147483648 ≤ b) (b2 : b < 2147483648) (d1 : -2147483648 ≤ d) (d2 : d < 2147483648) : ∀ (n fu : Nat) (a : Int), 0 ≤ a → a + n = v 1886 → n < fu →
    f_X9_accountOf_L2 (zI b) (zI d) mM nM fu (zI a) = some (zI (accF v b d n a)) := by
  have hb := hI.1
  intro n
  induction n with
  | zero =>
    intro fu a ha hn hf
    obtain ⟨fu, rfl⟩ : ∃ m, fu = m + 1 := ⟨fu - 1, by omega⟩
    simp (disch := omega) only [f_X9_accountOf_L2, z_c0, z_c1, z_c1811, z_c1827, z_c1886, z_add, z_sub, z_neg, y_neg, z_mul, z_div, z_l, y_i, y_add, y_sub, y_mul, y_div, z_lt, z_le, z_eq, y_c1, y_c2, y_c3, y_c4, y_c5, z_gi, bd1_s, bd2_s, mul30, z_ofNat, lt_eq, accF, hM.rd]
    rw [if_pos (by omega)]
  | succ n ih =>
    intro fu a ha hn hf
    obtain ⟨fu, rfl⟩ : ∃ m, fu = m + 1 := ⟨fu - 1, by omega⟩
    have hj := ih fu (a + 1) (by omega) (by omega) (by omega)
    have hw := hI.2.1 a ha (by omega)
    simp (disch := omega) only [f_X9_accountOf_L2, f_X9_accountOf_b50, z_c0, z_c1, z_c1811, z_c1827, z_c1886, z_add, z_sub, z_neg, y_neg, z_mul, z_div, z_l, y_i, y_add, y_sub, y_mul, y_div, z_lt, z_le, z_eq, y_c1, y_c2, y_c3, y_c4, y_c5, z_gi, bd1_s, bd2_s, mul30, z_ofNat, lt_eq, accF, hM.rd, hj]
    rw [if_neg (by omega)]
    by_cases c : v (1811 + a) = b
    · rw [if_pos c]
      by_cases c2 : v (1827 + a) = d
      · rw [if_pos c2, if_pos ⟨c, c2⟩]
      · rw [if_neg c2, if_neg (fun q => c2 q.2)]
    · rw [if_neg c, if_neg (fun q => c q.1)]
theorem m_accountOf {mM : Mem} {nM : MemL} {sv tv : Nat → Int64} {v : VI} (hM : MR nM v sv tv) (hI : IA v) {b d : Int} (b1 : -2147483648 ≤ b) (b2 : b < 2147483648) (d1 : -2147483648 ≤ d) (d2 : d < 2147483648) : f_X9_accountOf (zI b) (zI d) mM nM = some (zI (accOf v b d)) := by
  have hb := hI.1
  unfold f_X9_accountOf
  rw [z_c0]
  exact m_acc2 hM hI b1 b2 d1 d2 (v 1886).toNat fuel 0 (by omega) (by omega) (fuel_gt (by omega))
/-- counting: n different codes below m are at most m -/
theorem pig (f : Int → Int) : ∀ (m n : Nat), (∀ i : Int, 0 ≤ i → i < n → 0 ≤ f i ∧ f i < m) → (∀ i j : Int, 0 ≤ i → i < j → j < n → f i ≠ f j) → n ≤ m := by
  have key : ∀ (m n : Nat), (∀ i : Int, 0 ≤ i → i < n → 0 ≤ f i ∧ f i < m) → sumR (fun c => sumR (fun i => if f i = c then 1 else 0) n 0) m 0 = n := by
    intro m n
    induction n with
    | zero =>
      intro _
      have : sumR (fun c => sumR (fun i => if f i = c then (1 : Int) else 0) 0 0) m 0 = sumR (fun _ => 0) m 0 := sumR_cg fun _ _ _ => rfl
      rw [this]
      have z : ∀ (k : Nat) (s : Int), sumR (fun _ => (0 : Int)) k s = 0 := by
        intro k
        induction k with
        | zero => intro s; rfl
        | succ k ih => intro s; show (0 : Int) + sumR _ k (s + 1) = 0; rw [ih]; rfl
      exact z m 0
    | succ n ih =>
      intro h
      have hn := h n (by omega) (by omega)
      have e : sumR (fun c => sumR (fun i => if f i = c then (1 : Int) else 0) (n + 1) 0) m 0 = sumR (fun c => sumR (fun i => if f i = c then (1 : Int) else 0) n 0) m 0 + sumR (fun c => if f n = c then (1 : Int) else 0) m 0 := by
        have g : ∀ (k : Nat) (s : Int), sumR (fun c => sumR (fun i => if f i = c then (1 : Int) else 0) (n + 1) 0) k s = sumR (fun c => sumR (fun i => if f i = c then (1 : Int) else 0) n 0) k s + sumR (fun c => if f n = c then (1 : Int) else 0) k s := by
          intro k
          induction k with
          | zero => intro s; rfl
          | succ k ihk =>
            intro s
            show sumR (fun i => if f i = s then (1 : Int) else 0) (n + 1) 0 + sumR _ k (s + 1) = (sumR (fun i => if f i = s then (1 : Int) else 0) n 0 + sumR _ k (s + 1)) + ((if f n = s then (1 : Int) else 0) + sumR _ k (s + 1))
            rw [ihk, sumR_succ, Int.zero_add]; omega
        exact g m 0
      rw [e, ih (fun i a b => h i a (by omega))]
      have one : ∀ (k : Nat) (s : Int), s ≤ f n → f n < s + k → sumR (fun c => if f n = c then (1 : Int) else 0) k s = 1 := by
        intro k
        induction k with
        | zero => intro s a b; omega
        | succ k ihk =>
          intro s a b
          show (if f n = s then (1 : Int) else 0) + sumR _ k (s + 1) = 1
          by_cases c : f n = s
          · rw [if_pos c]
            have z : sumR (fun c => if f n = c then (1 : Int) else 0) k (s + 1) = sumR (fun _ => 0) k (s + 1) := sumR_cg fun j a1 _ => by
              show (if f n = j then (1 : Int) else 0) = 0
              rw [if_neg (by omega)]
            have z2 : ∀ (k : Nat) (s : Int), sumR (fun _ => (0 : Int)) k s = 0 := by
              intro k
              induction k with
              | zero => intro s; rfl
              | succ k ih => intro s; show (0 : Int) + sumR _ k (s + 1) = 0; rw [ih]; rfl
            rw [z, z2]; rfl
          · rw [if_neg c, ihk (s + 1) (by omega) (by omega)]; rfl
      rw [one m 0 hn.1 (by omega)]; omega
  intro m n h hinj
  have hs := key m n h
  have le1 : ∀ (k : Nat) (c : Int), (k : Int) ≤ n → sumR (fun i => if f i = c then (1 : Int) else 0) k 0 ≤ 1 ∧ (0 < sumR (fun i => if f i = c then (1 : Int) else 0) k 0 → ∃ i : Int, 0 ≤ i ∧ i < k ∧ f i = c) := by
    intro k c
    induction k with
    | zero => intro _; exact ⟨by show (0 : Int) ≤ 1; omega, fun q => absurd q (by show ¬ (0 : Int) < 0; omega)⟩
    | succ k ih =>
      intro hk
      obtain ⟨a1, a2⟩ := ih (by omega)
      rw [sumR_succ, Int.zero_add]
      by_cases d : f k = c
      · rw [if_pos d]
        have : ¬ 0 < sumR (fun i => if f i = c then (1 : Int) else 0) k 0 := fun q => by
          obtain ⟨i, b1, b2, b3⟩ := a2 q
          exact hinj i k b1 b2 (by omega) (b3.trans d.symm)
        exact ⟨by omega, fun _ => ⟨k, by omega, by omega, d⟩⟩
      · rw [if_neg d]
        exact ⟨by omega, fun q => by obtain ⟨i, b1, b2, b3⟩ := a2 (by omega); exact ⟨i, b1, by omega, b3⟩⟩
  have tot : ∀ (k : Nat) (s : Int), sumR (fun c => sumR (fun i => if f i = c then (1 : Int) else 0) n 0) k s ≤ k := by
    intro k
    induction k with
    | zero => intro s; exact Int.le_refl _
    | succ k ih =>
      intro s
      show sumR (fun i => if f i = s then (1 : Int) else 0) n 0 + sumR _ k (s + 1) ≤ _
      have := ih (s + 1)
      have := (le1 n s (Int.le_refl _)).1
      omega
  have := tot m 0
  omega
theorem acc_room {v : VI} (hI : IA v) {b d : Int} (b0 : 0 ≤ b) (b1 : b < 8) (d0 : 0 ≤ d) (d1 : d ≤ 1) (h : accOf v b d = -1) : v 1886 < 16 := by
  have hb := hI.1
  have hn := ((accOf_in hI b d).resolve_right (by omega)).2
  have := pig (fun i => if i = v 1886 then 2 * b + d else 2 * v (1811 + i) + v (1827 + i)) 16 ((v 1886).toNat + 1) (fun i i0 i1 => by
    show 0 ≤ (if i = v 1886 then 2 * b + d else 2 * v (1811 + i) + v (1827 + i)) ∧ (if i = v 1886 then 2 * b + d else 2 * v (1811 + i) + v (1827 + i)) < 16
    by_cases c : i = v 1886
    · rw [if_pos c]; omega
    · rw [if_neg c]; have := hI.2.1 i i0 (by omega); omega) (fun i j i0 ij j1 => by
    show (if i = v 1886 then 2 * b + d else 2 * v (1811 + i) + v (1827 + i)) ≠ (if j = v 1886 then 2 * b + d else 2 * v (1811 + j) + v (1827 + j))
    rw [if_neg (by omega)]
    have hi := hI.2.1 i i0 (by omega)
    by_cases c : j = v 1886
    · rw [if_pos c]
      have := hn i i0 (by omega)
      omega
    · rw [if_neg c]
      have hj := hI.2.1 j (by omega) (by omega)
      have := hI.2.2.1 i j i0 ij (by omega)
      omega)
  omega
/-- an entry of the mass m and the price p -/
def entV (v : VI) (b d m p : Int) : VI := if accOf v b d = -1 then upV (upV (upV (upV (upV v 1886 (v 1886 + 1)) (1811 + v 1886) b) (1827 + v 1886) d) (1843 + v 1886) (v (1843 + v 1886) + m)) (1859 + v 1886) (v (1859 + v 1886) + p) else upV (upV v (1843 + accOf v b d) (v (1843 + accOf v b d) + m)) (1859 + accOf v b d) (v (1859 + accOf v b d) + p)
theorem entV_out {v : VI} (hI : IA v) {b d m p j : Int} (hr : accOf v b d = -1 → v 1886 < 16) (h : ¬ (1811 ≤ j ∧ j < 1875) ∧ j ≠ 1886) : entV v b d m p j = v j := by
  have hb := hI.1
  unfold entV
  rcases accOf_in hI b d with c | c
  · have := hr c.1
    rw [if_pos c.1, upV_ne _ _ (by omega), upV_ne _ _ (by omega), upV_ne _ _ (by omega), upV_ne _ _ (by omega), upV_ne _ _ (by omega)]
  · rw [if_neg (by omega), upV_ne _ _ (by omega), upV_ne _ _ (by omega)]
theorem accF_skip (v : VI) (b d : Int) : ∀ (n : Nat) (a m : Int), a ≤ m → m < a + n → v (1811 + m) = b → v (1827 + m) = d → (∀ q : Int, a ≤ q → q < m → ¬ (v (1811 + q) = b ∧ v (1827 + q) = d)) → accF v b d n a = m
  | 0, a, m, h1, h2, _, _, _ => by omega
  | n + 1, a, m, h1, h2, h3, h4, h5 => by
    unfold accF
    by_cases c : a = m
    · subst c; rw [if_pos ⟨h3, h4⟩]
    · rw [if_neg (h5 a (Int.le_refl _) (by omega))]
      exact accF_skip v b d n (a + 1) m (by omega) (by omega) h3 h4 (fun q q1 q2 => h5 q (by omega) q2)
theorem entV_IA {v : VI} (hI : IA v) {b d m p : Int} (b0 : 0 ≤ b) (b1 : b < 8) (d0 : 0 ≤ d) (d1 : d ≤ 1) : IA (entV v b d m p) := by
  have hb := hI.1
  obtain ⟨h1, h2, h3, h4⟩ := hI
  rcases accOf_in ⟨h1, h2, h3, h4⟩ b d with c | c
  · have hr := acc_room ⟨h1, h2, h3, h4⟩ b0 b1 d0 d1 c.1
    have e86 : entV v b d m p 1886 = v 1886 + 1 := by
      unfold entV; rw [if_pos c.1]; simp (disch := omega) only [upV_ne, upV_same]
    have e11 : ∀ a : Int, 0 ≤ a → a < 16 → entV v b d m p (1811 + a) = if a = v 1886 then b else v (1811 + a) := fun a q1 q2 => by
      unfold entV; rw [if_pos c.1]
      rw [upV_ne _ _ (by omega), upV_ne _ _ (by omega), upV_ne _ _ (by omega)]
      by_cases e : a = v 1886
      · rw [if_pos e, e, upV_same]
      · rw [if_neg e, upV_ne _ _ (by omega), upV_ne _ _ (by omega)]
    have e27 : ∀ a : Int, 0 ≤ a → a < 16 → entV v b d m p (1827 + a) = if a = v 1886 then d else v (1827 + a) := fun a q1 q2 => by
      unfold entV; rw [if_pos c.1]
      rw [upV_ne _ _ (by omega), upV_ne _ _ (by omega)]
      by_cases e : a = v 1886
      · rw [if_pos e, e, upV_same]
      · rw [if_neg e, upV_ne _ _ (by omega), upV_ne _ _ (by omega), upV_ne _ _ (by omega)]
    refine ⟨by rw [e86]; omega, fun a q1 q2 => ?_, fun a a' q1 q2 q3 => ?_, fun a q1 q2 => ?_⟩
    · rw [e86] at q2
      rw [e11 a q1 (by omega), e27 a q1 (by omega)]
      by_cases e : a = v 1886
      · rw [if_pos e, if_pos e]; omega
      · rw [if_neg e, if_neg e]; exact h2 a q1 (by omega)
    · rw [e86] at q3
      have na : ¬ a = v 1886 := by omega
      rw [e11 a q1 (by omega), e27 a q1 (by omega), e11 a' (by omega) (by omega), e27 a' (by omega) (by omega)]
      simp only [if_neg na]
      by_cases e : a' = v 1886
      · simp only [if_pos e]; exact c.2 a q1 (by omega)
      · simp only [if_neg e]; exact h3 a a' q1 q2 (by omega)
    · rw [e86] at q1
      unfold entV; rw [if_pos c.1]
      simp (disch := omega) only [upV_ne]
      exact h4 a (by omega) q2
  · have o : ∀ j : Int, j ≠ 1843 + accOf v b d → j ≠ 1859 + accOf v b d → entV v b d m p j = v j := fun j a1 a2 => by
      unfold entV; rw [if_neg (by omega), upV_ne _ _ a2, upV_ne _ _ a1]
    refine ⟨by rw [o _ (by omega) (by omega)]; exact h1, fun a q1 q2 => ?_, fun a a' q1 q2 q3 => ?_, fun a q1 q2 => ?_⟩
    · rw [o _ (by omega) (by omega)] at q2
      rw [o _ (by omega) (by omega), o _ (by omega) (by omega)]; exact h2 a q1 q2
    · rw [o _ (by omega) (by omega)] at q3
      rw [o _ (by omega) (by omega), o _ (by omega) (by omega), o _ (by omega) (by omega), o _ (by omega) (by omega)]; exact h3 a a' q1 q2 q3
    · rw [o _ (by omega) (by omega)] at q1
      rw [o _ (by omega) (by omega), o _ (by omega) (by omega)]; exact h4 a q1 q2
theorem accOf_cg {v v' : VI} (hI : IA v) (e1 : v' 1886 = v 1886) (e2 : ∀ j : Int, 1811 ≤ j → j < 1875 → v' j = v j) (b d : Int) : accOf v' b d = accOf v b d := by
  have hb := hI.1
  unfold accOf
  rw [e1]
  have g : ∀ (n : Nat) (a : Int), 0 ≤ a → a + n ≤ 16 → accF v' b d n a = accF v b d n a := by
    intro n
    induction n with
    | zero => intro a _ _; rfl
    | succ n ih =>
      intro a a0 a1
      unfold accF
      rw [e2 _ (by omega) (by omega), e2 _ (by omega) (by omega), ih (a + 1) (by omega) (by omega)]
  exact g _ 0 (by omega) (by omega)
theorem entV_cg {v v' : VI} (hI : IA v) {b d m p : Int} (e1 : v' 1886 = v 1886) (e2 : ∀ j : Int, 1811 ≤ j → j < 1875 → v' j = v j) {j : Int} (hj : v' j = v j) (hr : accOf v b d = -1 → v 1886 < 16) : entV v' b d m p j = entV v b d m p j := by
  have hb := hI.1
  have ha := accOf_cg hI e1 e2 b d
  unfold entV
  rw [ha]
  rcases accOf_in hI b d with c | c
  · have := hr c.1
    rw [if_pos c.1, if_pos c.1, e1, e2 _ (by omega) (by omega), e2 _ (by omega) (by omega)]
    simp only [upV, hj]
  · rw [if_neg (by omega), if_neg (by omega), e2 _ (by omega) (by omega), e2 _ (by omega) (by omega)]
    simp only [upV, hj]
theorem entV_two {v : VI} (hI : IA v) {b d m p m2 p2 : Int} (b0 : 0 ≤ b) (b1 : b < 8) (d0 : 0 ≤ d) (d1 : d ≤ 1) (j : Int) : entV (entV v b d m p) b d m2 p2 j = entV v b d (m + m2) (p + p2) j := by
  have hb := hI.1
  have hI2 := entV_IA hI (m := m) (p := p) b0 b1 d0 d1
  rcases accOf_in hI b d with c | c
  · have hr := acc_room hI b0 b1 d0 d1 c.1
    have e : ∀ j : Int, entV v b d m p j = upV (upV (upV (upV (upV v 1886 (v 1886 + 1)) (1811 + v 1886) b) (1827 + v 1886) d) (1843 + v 1886) (v (1843 + v 1886) + m)) (1859 + v 1886) (v (1859 + v 1886) + p) j := fun j => by unfold entV; rw [if_pos c.1]
    have ea : accOf (entV v b d m p) b d = v 1886 := by
      unfold accOf
      have e86 : entV v b d m p 1886 = v 1886 + 1 := by rw [e]; simp (disch := omega) only [upV_ne, upV_same]
      refine accF_skip _ b d _ 0 (v 1886) hb.1 (by omega) ?_ ?_ (fun q q1 q2 => ?_)
      · rw [e]; simp (disch := omega) only [upV_ne, upV_same]
      · rw [e]; simp (disch := omega) only [upV_ne, upV_same]
      · rw [e, e]; simp (disch := omega) only [upV_ne]; exact c.2 q q1 q2
    have l : entV (entV v b d m p) b d m2 p2 j = upV (upV (entV v b d m p) (1843 + v 1886) (entV v b d m p (1843 + v 1886) + m2)) (1859 + v 1886) (entV v b d m p (1859 + v 1886) + p2) j := by
      show (if accOf (entV v b d m p) b d = -1 then _ else _ : VI) j = _
      rw [ea, if_neg (by omega)]
    have r : entV v b d (m + m2) (p + p2) j = upV (upV (upV (upV (upV v 1886 (v 1886 + 1)) (1811 + v 1886) b) (1827 + v 1886) d) (1843 + v 1886) (v (1843 + v 1886) + (m + m2))) (1859 + v 1886) (v (1859 + v 1886) + (p + p2)) j := by unfold entV; rw [if_pos c.1]
    rw [l, r]
    simp only [upV, e, ↓reduceIte]
    repeat' split
    all_goals first | rfl | omega
  · have e : ∀ j : Int, entV v b d m p j = upV (upV v (1843 + accOf v b d) (v (1843 + accOf v b d) + m)) (1859 + accOf v b d) (v (1859 + accOf v b d) + p) j := fun j => by unfold entV; rw [if_neg (by omega)]
    have ea : accOf (entV v b d m p) b d = accOf v b d := by
      have h3 := accF_in v b d (v 1886).toNat 0
      have h4 : accF v b d (v 1886).toNat 0 = accOf v b d := rfl
      rw [h4] at h3
      have h5 := h3.resolve_left (by omega)
      show accF (entV v b d m p) b d (entV v b d m p 1886).toNat 0 = _
      rw [e 1886, upV_ne _ _ (by omega), upV_ne _ _ (by omega)]
      refine accF_skip _ b d _ 0 (accOf v b d) c.1 (by omega) ?_ ?_ (fun q q1 q2 => ?_)
      · rw [e]; simp (disch := omega) only [upV_ne]; exact c.2.2.1
      · rw [e]; simp (disch := omega) only [upV_ne]; exact c.2.2.2
      · rw [e, e]; simp (disch := omega) only [upV_ne]; exact h5.2.2.2.2 q q1 q2
    have l : entV (entV v b d m p) b d m2 p2 j = upV (upV (entV v b d m p) (1843 + accOf v b d) (entV v b d m p (1843 + accOf v b d) + m2)) (1859 + accOf v b d) (entV v b d m p (1859 + accOf v b d) + p2) j := by
      show (if accOf (entV v b d m p) b d = -1 then _ else _ : VI) j = _
      rw [ea, if_neg (by omega)]
    have r : entV v b d (m + m2) (p + p2) j = upV (upV v (1843 + accOf v b d) (v (1843 + accOf v b d) + (m + m2))) (1859 + accOf v b d) (v (1859 + accOf v b d) + (p + p2)) j := by unfold entV; rw [if_neg (by omega)]
    rw [l, r]
    simp only [upV, e, ↓reduceIte]
    repeat' split
    all_goals first | rfl | omega
theorem s_enter {mA : Mem} {nA : MemL} {v : VI} (h : RA mA nA v) (hI : IA v) {b d m p : Int} (b0 : 0 ≤ b) (b1 : b < 8) (d0 : 0 ≤ d) (d1 : d ≤ 1) (m0 : -2147483648 ≤ m) (m1 : m < 2147483648) (p0 : -2147483648 ≤ p) (p1 : p < 2147483648) : Ev (f_X0_enter (zI b) (zI d) (zI m) (zI p) mA nA) (fun r => RA r.1 r.2 (entV v b d m p)) := by
  have hb := hI.1
  have hf := s_find h hI (b := b) (d := d) (by omega) (by omega) (by omega) (by omega)
  unfold f_X0_enter
  rw [hf, bd1_s]
  rcases accOf_in hI b d with c | c
  · have hr := acc_room hI b0 b1 d0 d1 c.1
    have hz := hI.2.2.2 (v 1886) (Int.le_refl _) hr
    obtain ⟨g1, g2, g3, g4, g5⟩ := h
    rw [c.1]
    simp (disch := omega) only [z_c1, z_c16, z_neg, g1, z_le]
    rw [if_pos trivial, if_neg (by omega)]
    refine Ev_lt ?_
    simp (disch := omega) only [z_gi, y_c0_]
    refine Ev_lt (Ev_lt (Ev_lt (Ev_lt (Ev_lt ?_))))
    simp (disch := omega) only [wrI_ne, wrI_same, wrL_ne, wrL_same, g1, z_add, f_X0_enter_b71, z_c1, z_neg, z_eq, z_gi, z_l]
    rw [if_neg (by omega)]
    have hw3 := (g4.wr hb.1 hr (by omega) 0).wr (a := v 1886) hb.1 hr (by omega) m
    have hw4 := (g5.wr hb.1 hr (by omega) 0).wr (a := v 1886) hb.1 hr (by omega) p
    have r3 : vp_updL (nA 3) (zI (v 1886)).toNatClampNeg (zL 0) (zI (v 1886)).toNatClampNeg = zL 0 := if_pos rfl
    have r4 : vp_updL (nA 4) (zI (v 1886)).toNatClampNeg (zL 0) (zI (v 1886)).toNatClampNeg = zL 0 := if_pos rfl
    rw [r3, y_add, Int.zero_add]
    refine Ev_lt ?_
    simp (disch := omega) only [wrI_ne, wrI_same, wrL_ne, wrL_same, z_gi]
    rw [r4, y_add, Int.zero_add]
    refine Ev_lt (Ev_some ?_)
    unfold RA
    simp (disch := omega) only [wrI_ne, wrI_same, wrL_ne, wrL_same]
    unfold entV
    rw [if_pos c.1]
    refine ⟨?_, (g2.wr hb.1 hr (by omega) b).cg fun k q1 q2 => ?_, (g3.wr hb.1 hr (by omega) d).cg fun k q1 q2 => ?_, hw3.cg fun k q1 q2 => ?_, hw4.cg fun k q1 q2 => ?_⟩
    · simp (disch := omega) only [upV_ne, upV_same]
    · simp (disch := omega) only [upV_ne]
      unfold upV
      by_cases e : k = v 1886
      · rw [if_pos (by omega), if_pos e]
      · rw [if_neg (by omega), if_neg e, if_neg (by omega)]
    · simp (disch := omega) only [upV_ne]
      unfold upV
      by_cases e : k = v 1886
      · rw [if_pos (by omega), if_pos e]
      · rw [if_neg (by omega), if_neg e, if_neg (by omega), if_neg (by omega)]
    · simp (disch := omega) only [upV_ne]
      unfold upV
      by_cases e : k = v 1886
      · rw [if_pos (by omega), if_pos e, hz.1]; omega
      · rw [if_neg (by omega), if_neg e, if_neg e, if_neg (by omega), if_neg (by omega), if_neg (by omega)]
    · unfold upV
      by_cases e : k = v 1886
      · rw [if_pos (by omega), if_pos e, hz.2]; omega
      · rw [if_neg (by omega), if_neg e, if_neg e, if_neg (by omega), if_neg (by omega), if_neg (by omega), if_neg (by omega)]
  · obtain ⟨g1, g2, g3, g4, g5⟩ := h
    have r3 := g4 (accOf v b d) c.1 (by omega)
    have r4 := g5 (accOf v b d) c.1 (by omega)
    simp (disch := omega) only [z_c1, z_neg, z_eq, f_X0_enter_b71, z_gi, z_l, r3, y_add]
    rw [if_neg (by omega), if_neg (by omega)]
    refine Ev_lt ?_
    simp (disch := omega) only [wrL_ne, wrL_same, z_gi, r4, y_add]
    refine Ev_lt (Ev_some ?_)
    unfold RA
    simp (disch := omega) only [wrL_ne, wrL_same]
    unfold entV
    rw [if_neg (by omega)]
    refine ⟨?_, g2.cg fun k q1 q2 => ?_, g3.cg fun k q1 q2 => ?_, (g4.wr c.1 (by omega) (by omega) _).cg fun k q1 q2 => ?_, (g5.wr c.1 (by omega) (by omega) _).cg fun k q1 q2 => ?_⟩
    · simp (disch := omega) only [upV_ne]; exact g1
    · simp (disch := omega) only [upV_ne]
    · simp (disch := omega) only [upV_ne]
    · simp (disch := omega) only [upV_ne]
      unfold upV
      by_cases e : k = accOf v b d
      · rw [if_pos (by omega), if_pos e]
      · rw [if_neg (by omega), if_neg e]
    · unfold upV
      by_cases e : k = accOf v b d
      · rw [if_pos (by omega), if_pos e]
      · rw [if_neg (by omega), if_neg e, if_neg (by omega)]
def bandF (v : VI) : Int := if 6 ≤ hourF v ∧ hourF v ≤ 21 then 1 else 0
theorem bandF_b (v : VI) : 0 ≤ bandF v ∧ bandF v ≤ 1 := by unfold bandF; split <;> omega
theorem m_band {mM : Mem} {nM : MemL} {sv tv : Nat → Int64} {v : VI} (hM : MR nM v sv tv) (ht : 0 ≤ v 1875 ∧ v 1875 ≤ 10049) : f_X9_bandNow mM nM = some (zI (bandF v)) := by
  simp (disch := omega) only [f_X9_bandNow, z_c0, z_c1, z_c1875, y_c6_, y_c21_, y_c24_, z_add, z_sub, z_neg, y_neg, z_mul, z_div, z_l, y_i, y_add, y_sub, y_mul, y_div, z_lt, z_le, z_eq, y_c1, y_c2, y_c3, y_c4, y_c5, z_gi, bd1_s, bd2_s, mul30, z_ofNat, lt_eq, hM.rd, m_in]
  rw [show v 1875 - v 1875 / 24 * 24 = hourF v from rfl]
  unfold bandF
  repeat' split
  all_goals first | rfl | (exfalso; omega)
theorem m_enter {mM : Mem} {nM : MemL} {sv tv : Nat → Int64} {v : VI} (hM : MR nM v sv tv) (hI : IA v) (ht : 0 ≤ v 1875 ∧ v 1875 ≤ 10049) {b m p : Int} (b0 : 0 ≤ b) (b1 : b < 8) : Ev (f_X9_enter (zI b) (zL m) (zL p) mM nM) (fun nM' => MR nM' (entV v b (bandF v) m p) sv tv) := by
  have hb := hI.1
  have hd := bandF_b v
  have hf := m_accountOf (mM := mM) hM hI (b := b) (d := bandF v) (by omega) (by omega) (by omega) (by omega)
  unfold f_X9_enter
  rw [m_band hM ht, bd1_s, hf, bd1_s]
  rcases accOf_in hI b (bandF v) with c | c
  · have hr := acc_room hI b0 b1 hd.1 hd.2 c.1
    rw [c.1]
    simp (disch := omega) only [z_c1, z_neg, hM.rd, z_c1886, y_c1_, y_add, y_i]
    rw [if_pos trivial]
    refine Ev_lt (Ev_wr hM (by omega) (by omega) (fun nM hM => ?_))
    simp (disch := omega) only [z_c1811, z_add, z_gi, z_l]
    refine Ev_wr hM (by omega) (by omega) (fun nM hM => ?_)
    have hb2 := m_band (mM := mM) hM (by simp (disch := omega) only [upV_ne]; exact ht)
    have eb : bandF (upV (upV v 1886 (v 1886 + 1)) (1811 + v 1886) b) = bandF v := by
      unfold bandF hourF; simp (disch := omega) only [upV_ne]
    rw [hb2, bd1_s, eb]
    simp (disch := omega) only [z_c1827, z_add, z_gi, z_l]
    refine Ev_wr hM (by omega) (by omega) (fun nM hM => ?_)
    simp (disch := omega) only [f_X9_enter_b69, z_c1843, z_c1859, z_add, z_sub, z_neg, y_neg, z_mul, z_div, z_l, y_i, y_add, y_sub, y_mul, y_div, z_lt, z_le, z_eq, y_c1, y_c2, y_c3, y_c4, y_c5, z_gi, bd1_s, bd2_s, mul30, z_ofNat, hM.rd, upV_ne]
    refine Ev_wr hM (by omega) (by omega) (fun nM hM => ?_)
    simp (disch := omega) only [z_gi, hM.rd, upV_ne, y_add]
    refine Ev_wr hM (by omega) (by omega) (fun nM hM => Ev_some ?_)
    unfold entV
    rw [if_pos c.1]
    exact hM
  · simp (disch := omega) only [z_c1, z_neg, z_eq]
    rw [if_neg (by omega)]
    simp (disch := omega) only [f_X9_enter_b69, z_c1843, z_c1859, z_add, z_sub, z_neg, y_neg, z_mul, z_div, z_l, y_i, y_add, y_sub, y_mul, y_div, z_lt, z_le, z_eq, y_c1, y_c2, y_c3, y_c4, y_c5, z_gi, bd1_s, bd2_s, mul30, z_ofNat, hM.rd]
    refine Ev_wr hM (by omega) (by omega) (fun nM hM => ?_)
    simp (disch := omega) only [z_gi, hM.rd, upV_ne, y_add]
    refine Ev_wr hM (by omega) (by omega) (fun nM hM => Ev_some ?_)
    unfold entV
    rw [if_neg (by omega)]
    exact hM
