/-! the sequence of the open orders: the class sorts by insertion, the reference by ranks -/
theorem mul_cancel_le {a b c : Int} (h : a * c ≤ b * c) (hc : 0 < c) : a ≤ b := Int.le_of_mul_le_mul_right h hc
theorem mul_cancel_lt {a b c : Int} (h : a * c < b * c) (hc : 0 < c) : a < b := Int.lt_of_mul_lt_mul_right h (by omega)
/-- a ratio's order goes on -/
theorem ratio_trans {x y z p q r : Int} (hp : 0 < p) (hq : 0 < q) (hr : 0 < r) (h1 : y * p ≤ x * q) (h2 : z * q ≤ y * r) : z * p ≤ x * r ∧ (y * p < x * q ∨ z * q < y * r → z * p < x * r) := by
  have a1 : y * p * r ≤ x * q * r := Int.mul_le_mul_of_nonneg_right h1 (by omega)
  have a2 : z * q * p ≤ y * r * p := Int.mul_le_mul_of_nonneg_right h2 (by omega)
  have e1 : y * p * r = y * r * p := Int.mul_right_comm y p r
  have e2 : z * q * p = z * p * q := Int.mul_right_comm z q p
  have e3 : x * q * r = x * r * q := Int.mul_right_comm x q r
  refine ⟨mul_cancel_le (c := q) (by omega) hq, fun h => mul_cancel_lt (c := q) ?_ hq⟩
  rcases h with h | h
  · have := Int.mul_lt_mul_of_pos_right h hr
    omega
  · have := Int.mul_lt_mul_of_pos_right h hp
    omega
/-- an open order's place in a sequence: the lead's sign decides, then the number -/
theorem lead_anti (v : VI) (a b : Int) : leadF v b a = -leadF v a b := by
  unfold leadF; repeat' split
  all_goals omega
theorem lead_trans {v : VI} {a b c : Int} (ha : 0 < remF v a) (hb : 0 < remF v b) (hc : 0 < remF v c) (h1 : 0 ≤ leadF v a b) (h2 : 0 ≤ leadF v b c) : 0 ≤ leadF v a c ∧ (0 < leadF v a b ∨ 0 < leadF v b c → 0 < leadF v a c) := by
  unfold leadF at *
  by_cases p1 : v 2 = 1
  · simp only [if_pos p1] at *; omega
  · by_cases p2 : v 2 = 2
    · simp only [if_neg p1, if_pos p2] at *; omega
    · by_cases p3 : v 2 = 3
      · simp only [if_neg p1, if_neg p2, if_pos p3] at *
        have := ratio_trans (x := v (507 + v (531 + a))) (y := v (507 + v (531 + b))) (z := v (507 + v (531 + c))) ha hb hc (by omega) (by omega)
        refine ⟨by omega, fun h => ?_⟩
        have := this.2 (by omega)
        omega
      · simp only [if_neg p1, if_neg p2, if_neg p3] at *; omega
theorem bef_iff (v : VI) (a b : Int) : befF v a b = 1 ↔ 0 < leadF v a b ∨ (leadF v a b = 0 ∧ a < b) := by
  unfold befF
  repeat' split
  all_goals omega
theorem bef_asym {v : VI} {a b : Int} (h : befF v a b = 1) : befF v b a = 0 := by
  rcases befF_01 v b a with q | q
  · exact q
  · rw [bef_iff] at h q
    rw [lead_anti] at q
    omega
theorem bef_self (v : VI) (a : Int) : befF v a a = 0 := by
  rcases befF_01 v a a with q | q
  · exact q
  · exact bef_asym q
theorem bef_total {v : VI} {a b : Int} (hne : a ≠ b) (h : befF v a b = 0) : befF v b a = 1 := by
  have hn : ¬ befF v a b = 1 := by omega
  rw [bef_iff] at hn ⊢
  rw [lead_anti]
  omega
theorem bef_trans {v : VI} {a b c : Int} (ha : 0 < remF v a) (hb : 0 < remF v b) (hc : 0 < remF v c) (h1 : befF v a b = 1) (h2 : befF v b c = 1) : befF v a c = 1 := by
  rw [bef_iff] at *
  have := lead_trans ha hb hc (by omega) (by omega)
  by_cases s : 0 < leadF v a b ∨ 0 < leadF v b c
  · have := this.2 s; omega
  · omega
theorem remF_open {v : VI} (hI : IOr v) {o : Int} (h1 : 0 ≤ o) (h2 : o < v 1882) (hz : v (1531 + o) = 0) : 0 < remF v o := by
  have hb := hI.1
  have hs2 := (hI.2.2 o h1 (by omega)).2.2.2.2.2 h2
  have := hs2.2.2 hz
  unfold remF; split <;> omega
/-- the class's sequence of the first i open orders -/
def SeqI (v : VI) (i : Int) (sq : Int → Int) : Prop := (∀ p : Int, 0 ≤ p → p < i → ∃ k : Int, 0 ≤ k ∧ k < i ∧ sq p = ordN v k) ∧ (∀ p q : Int, 0 ≤ p → p < q → q < i → befF v (sq p) (sq q) = 1) ∧ (∀ g : Int → Int, sumR (fun p => g (sq p)) i.toNat 0 = sumR (fun k => g (ordN v k)) i.toNat 0)
def insF (sq : Int → Int) (m x : Int) : Int → Int := fun q => if q < m then sq q else if q = m then x else sq (q - 1)
theorem sumR_ins (g : Int → Int) (sq : Int → Int) (x : Int) : ∀ (n : Nat) (m : Int), 0 ≤ m → m ≤ n → sumR (fun q => g (insF sq m x q)) (n + 1) 0 = sumR (fun q => g (sq q)) n 0 + g x
  | 0, m, h0, h1 => by
    have : m = 0 := by omega
    subst this
    show g (insF sq 0 x 0) + 0 = 0 + g x
    unfold insF
    rw [if_neg (by omega), if_pos rfl]; omega
  | n + 1, m, h0, h1 => by
    by_cases c : m = ((n + 1 : Nat) : Int)
    · subst c
      rw [sumR_succ]
      have e : sumR (fun q => g (insF sq ((n + 1 : Nat) : Int) x q)) (n + 1) 0 = sumR (fun q => g (sq q)) (n + 1) 0 := sumR_cg fun j q1 q2 => by
        show g (insF _ _ _ j) = _
        unfold insF; rw [if_pos (by omega)]
      rw [e]
      show _ + g (insF sq ((n + 1 : Nat) : Int) x (0 + ((n + 1 : Nat) : Int))) = _
      unfold insF
      rw [if_neg (by omega), if_pos (by omega)]
    · rw [sumR_succ, sumR_ins g sq x n m h0 (by omega), sumR_succ]
      have e : g (insF sq m x (0 + ((n + 1 : Nat) : Int))) = g (sq (0 + (n : Int))) := by
        unfold insF
        rw [if_neg (by omega), if_neg (by omega)]
        exact congrArg g (congrArg sq (by omega))
      rw [e]; omega
theorem ordN_inj {v : VI} (hI : IOr v) {i j : Int} (i0 : 0 ≤ i) (i1 : i < openC v) (j0 : 0 ≤ j) (j1 : j < openC v) (h : ordN v i = ordN v j) : i = j := by
  obtain ⟨a, a1, a2, a3, a4⟩ := nthZ_in (stF v) (v 1882).toNat i i0 i1
  obtain ⟨b, b1, b2, b3, b4⟩ := nthZ_in (stF v) (v 1882).toNat j j0 j1
  have e : (a : Int) = b := by rw [← a2, ← b2]; exact h
  have e2 : a = b := by omega
  subst e2
  omega
theorem SeqI.ins {v : VI} (hI : IOr v) {i : Int} {sq : Int → Int} (h : SeqI v i sq) (i0 : 0 ≤ i) (i1 : i < openC v) {m : Int} (m0 : 0 ≤ m) (m1 : m ≤ i) (hlo : m = 0 ∨ befF v (ordN v i) (sq (m - 1)) = 0) (hhi : ∀ q : Int, m ≤ q → q < i → befF v (ordN v i) (sq q) = 1) : SeqI v (i + 1) (insF sq m (ordN v i)) := by
  obtain ⟨h1, h2, h3⟩ := h
  have op : ∀ p : Int, 0 ≤ p → p < i → 0 < remF v (sq p) := fun p p0 p1 => by
    obtain ⟨k, k0, k1, e⟩ := h1 p p0 p1
    rw [e]
    have := ordN_in hI k0 (by omega)
    exact remF_open hI this.1 this.2.1 this.2.2
  have ox : 0 < remF v (ordN v i) := by
    have := ordN_in hI i0 i1
    exact remF_open hI this.1 this.2.1 this.2.2
  have nex : ∀ p : Int, 0 ≤ p → p < i → ordN v i ≠ sq p := fun p p0 p1 e => by
    obtain ⟨k, k0, k1, e2⟩ := h1 p p0 p1
    have := ordN_inj hI i0 i1 k0 (by omega) (e.trans e2)
    omega
  have lo : ∀ p : Int, 0 ≤ p → p < m → befF v (sq p) (ordN v i) = 1 := fun p p0 p1 => by
    rcases hlo with e | e
    · omega
    · have hm := bef_total (nex (m - 1) (by omega) (by omega)) e
      by_cases c : p = m - 1
      · rw [c]; exact hm
      · exact bef_trans (op p p0 (by omega)) (op (m - 1) (by omega) (by omega)) ox (h2 p (m - 1) p0 (by omega) (by omega)) hm
  refine ⟨fun p p0 p1 => ?_, fun p q p0 pq q1 => ?_, fun g => ?_⟩
  · unfold insF
    by_cases c : p < m
    · rw [if_pos c]
      obtain ⟨k, k0, k1, e⟩ := h1 p p0 (by omega)
      exact ⟨k, k0, by omega, e⟩
    · rw [if_neg c]
      by_cases d : p = m
      · rw [if_pos d]; exact ⟨i, i0, by omega, rfl⟩
      · rw [if_neg d]
        obtain ⟨k, k0, k1, e⟩ := h1 (p - 1) (by omega) (by omega)
        exact ⟨k, k0, by omega, e⟩
  · unfold insF
    by_cases c : q < m
    · rw [if_pos (by omega), if_pos c]; exact h2 p q p0 pq (by omega)
    · rw [if_neg c]
      by_cases d : q = m
      · rw [if_pos d, if_pos (by omega)]; exact lo p p0 (by omega)
      · rw [if_neg d]
        by_cases e : p < m
        · rw [if_pos e]; exact h2 p (q - 1) p0 (by omega) (by omega)
        · rw [if_neg e]
          by_cases f : p = m
          · rw [if_pos f]; exact hhi (q - 1) (by omega) (by omega)
          · rw [if_neg f]; exact h2 (p - 1) (q - 1) (by omega) (by omega) (by omega)
  · have := h3 g
    rw [show (i + 1).toNat = i.toNat + 1 by omega, sumR_ins g sq (ordN v i) i.toNat m m0 (by omega), this, sumR_succ]
    congr 1
    exact congrArg g (congrArg (ordN v) (by omega))
/-- the rank of an order in the sorted sequence is its place -/
theorem SeqI.rank {v : VI} {sq : Int → Int} (h : SeqI v (openC v) sq) {p : Int} (p0 : 0 ≤ p) (p1 : p < openC v) : ahF v (sq p) = p := by
  obtain ⟨h1, h2, h3⟩ := h
  have e : ahF v (sq p) = sumR (fun k => befF v (ordN v k) (sq p)) (openC v).toNat 0 := by
    unfold ahF openC
    rw [← sumR_nth (f := stF v) (g := fun k => befF v k (sq p))]
    rfl
  rw [e, ← h3 (fun k => befF v k (sq p))]
  have key : ∀ n : Nat, (n : Int) ≤ openC v → sumR (fun q => befF v (sq q) (sq p)) n 0 = if (n : Int) ≤ p then (n : Int) else p := by
    intro n
    induction n with
    | zero => intro _; rw [if_pos (by omega)]; rfl
    | succ n ih =>
      intro hn
      rw [sumR_succ, ih (by omega), Int.zero_add]
      by_cases c : (n : Int) < p
      · rw [if_pos (by omega), if_pos (by omega), h2 n p (by omega) c p1]; omega
      · rw [if_neg (by omega : ¬ ((n + 1 : Nat) : Int) ≤ p)]
        by_cases d : (n : Int) = p
        · rw [if_pos (by omega), d, bef_self]; omega
        · rw [if_neg (by omega), bef_asym (h2 p n p0 (by omega) (by omega))]; omega
  rw [key (openC v).toNat (by omega)]
  by_cases c : ((openC v).toNat : Int) ≤ p
  · omega
  · rw [if_neg c]
/-- every open order stands in the sequence -/
theorem SeqI.onto {v : VI} {sq : Int → Int} (h : SeqI v (openC v) sq) {k : Int} (k0 : 0 ≤ k) (k1 : k < openC v) : ∃ p : Int, 0 ≤ p ∧ p < openC v ∧ sq p = ordN v k := by
  obtain ⟨-, -, h3⟩ := h
  have hs := h3 (fun o => if o = ordN v k then 1 else 0)
  have pos : ∀ (n : Nat) (f : Int → Int), (∃ j : Int, 0 ≤ j ∧ j < n ∧ f j = ordN v k) → 0 < sumR (fun j => if f j = ordN v k then 1 else 0) n 0 := by
    intro n f
    induction n with
    | zero => intro ⟨j, a, b, _⟩; omega
    | succ n ih =>
      intro ⟨j, a, b, c⟩
      rw [sumR_succ, Int.zero_add]
      have nn := sumR_le (f := fun j => if f j = ordN v k then 1 else 0) (c := 1) (n := n) (s := 0) (fun j _ _ => by
        show 0 ≤ (if f j = ordN v k then (1 : Int) else 0) ∧ (if f j = ordN v k then (1 : Int) else 0) ≤ 1
        split <;> omega)
      by_cases d : j = n
      · show 0 < _ + (if f n = ordN v k then (1 : Int) else 0)
        rw [if_pos (by rw [← d]; exact c)]; omega
      · have := ih ⟨j, a, by omega, c⟩
        have : 0 ≤ (if f n = ordN v k then (1 : Int) else 0) := by split <;> omega
        show 0 < _ + (if f n = ordN v k then (1 : Int) else 0)
        omega
  have neg : ∀ (n : Nat) (f : Int → Int), (∀ j : Int, 0 ≤ j → j < n → f j ≠ ordN v k) → sumR (fun j => if f j = ordN v k then (1 : Int) else 0) n 0 = 0 := by
    intro n f
    induction n with
    | zero => intro _; rfl
    | succ n ih =>
      intro h
      rw [sumR_succ, Int.zero_add, ih (fun j a b => h j a (by omega)), if_neg (h n (by omega) (by omega))]; rfl
  have h1 := pos (openC v).toNat (ordN v) ⟨k, k0, by omega, rfl⟩
  apply Classical.byContradiction
  intro hn
  have h2 := neg (openC v).toNat sq (fun j a b e => hn ⟨j, a, by omega, e⟩)
  omega
theorem s_arr13 {mB M0 : Mem} {v : VI} {T : Int} (hB : RB mB v) (hIB : IB T v) (hI : IOr v) (hp : 0 ≤ v 2 ∧ v 2 ≤ 3) (kk : Int32 → Mem → Option (Int32 × Mem)) {i : Int} (i0 : 0 ≤ i) (i1 : i < openC v) {sq : Int → Int} (hq : SeqI v i sq) : ∀ (m fu : Nat) (M : Mem), (m : Int) ≤ i → m < fu → RO M v → (∀ q : Int, 0 ≤ q → q < i + 1 → q ≠ m → M 9 (zI q).toNatClampNeg = zI (insF sq m (ordN v i) q)) → (∀ q : Int, (m : Int) ≤ q → q < i → befF v (ordN v i) (sq q) = 1) →
    ∃ M' sq', f_X3_arrange_L13 kk (zI (v 2)) (zI i) mB fu (zI m) M = kk (zI (i + 1)) M' ∧ RO M' v ∧ SeqI v (i + 1) sq' ∧ (∀ q : Int, 0 ≤ q → q < i + 1 → M' 9 (zI q).toNatClampNeg = zI (sq' q)) := by
  have h20 := hI.2.1
  have hoi := ordN_in hI i0 i1
  have hb := hI.1
  have fin : ∀ (m : Int) (M : Mem), 0 ≤ m → m ≤ i → RO M v → (∀ q : Int, 0 ≤ q → q < i + 1 → q ≠ m → M 9 (zI q).toNatClampNeg = zI (insF sq m (ordN v i) q)) → (∀ q : Int, m ≤ q → q < i → befF v (ordN v i) (sq q) = 1) → (m = 0 ∨ befF v (ordN v i) (sq (m - 1)) = 0) →
      ∃ M' sq', f_X3_arrange_b64 kk (zI (v 2)) (zI i) (zI m) mB M = kk (zI (i + 1)) M' ∧ RO M' v ∧ SeqI v (i + 1) sq' ∧ (∀ q : Int, 0 ≤ q → q < i + 1 → M' 9 (zI q).toNatClampNeg = zI (sq' q)) := by
    intro m M m0 m1 hR hM hhi hlo
    have hop := hR.opn i0 i1
    refine ⟨wrI M 9 (upd (M 9) (zI m).toNatClampNeg (zI (ordN v i))), insF sq m (ordN v i), ?_, hR.seqw _, hq.ins hI i0 i1 m0 m1 hlo hhi, fun q q0 q1 => ?_⟩
    · simp (disch := omega) only [f_X3_arrange_b64, z_c1, z_add, z_sub, z_neg, y_neg, z_mul, z_div, z_l, y_i, y_add, y_sub, y_mul, y_div, z_lt, z_le, z_eq, y_c1, y_c2, y_c3, y_c4, y_c5, z_gi, bd1_s, bd2_s, mul30, z_ofNat, lt_eq, hop]
    · rw [wrI_same, upd_rd _ _ m0 (by omega) q0 (by omega)]
      by_cases c : q = m
      · rw [if_pos c, c]
        unfold insF; rw [if_neg (by omega), if_pos rfl]
      · rw [if_neg c]; exact hM q q0 q1 c
  intro m
  induction m with
  | zero =>
    intro fu M hm hf hR hM hhi
    obtain ⟨fu, rfl⟩ : ∃ m, fu = m + 1 := ⟨fu - 1, by omega⟩
    simp (disch := omega) only [f_X3_arrange_L13, z_c0, z_c1, z_add, z_sub, z_neg, y_neg, z_mul, z_div, z_l, y_i, y_add, y_sub, y_mul, y_div, z_lt, z_le, z_eq, y_c1, y_c2, y_c3, y_c4, y_c5, z_gi, bd1_s, bd2_s, mul30, z_ofNat]
    rw [if_pos (by omega)]
    exact fin 0 M (by omega) i0 hR hM hhi (Or.inl rfl)
  | succ m ih =>
    intro fu M hm hf hR hM hhi
    obtain ⟨fu, rfl⟩ : ∃ m, fu = m + 1 := ⟨fu - 1, by omega⟩
    have hop := hR.opn i0 i1
    have e0 : ((m + 1 : Nat) : Int) - 1 = m := by omega
    have h9 := hM m (by omega) (by omega) (by omega)
    have e9 : insF sq ((m + 1 : Nat) : Int) (ordN v i) m = sq m := by unfold insF; rw [if_pos (by omega)]
    rw [e9] at h9
    obtain ⟨k, k0, k1, ek⟩ := hq.1 m (by omega) (by omega)
    have hok := ordN_in hI k0 (by omega)
    have hbf := s_before hB hIB hR hI hp hoi.1 hoi.2.1 (b := sq m) (by rw [ek]; exact hok.1) (by rw [ek]; exact hok.2.1)
    simp (disch := omega) only [f_X3_arrange_L13, z_c0, z_c1, z_add, z_sub, z_neg, y_neg, z_mul, z_div, z_l, y_i, y_add, y_sub, y_mul, y_div, z_lt, z_le, z_eq, y_c1, y_c2, y_c3, y_c4, y_c5, z_gi, bd1_s, bd2_s, mul30, z_ofNat, e0, hop, h9, hbf, lt_eq]
    rw [if_neg (by omega)]
    rcases befF_01 v (ordN v i) (sq m) with q | q
    · rw [q, if_pos (by rfl)]
      exact fin ((m + 1 : Nat) : Int) M (by omega) hm hR hM hhi (Or.inr (by rw [e0]; exact q))
    · rw [q, if_neg (by decide), show ((m + 1 : Nat) : Int) + -1 = m by omega]
      refine ih fu _ (by omega) (by omega) (hR.seqw _) (fun r r0 r1 rm => ?_) (fun r r0 r1 => ?_)
      · rw [wrI_same, upd_rd _ _ (by omega) (by omega) r0 (by omega)]
        by_cases c : r = ((m + 1 : Nat) : Int)
        · rw [if_pos c, c]
          unfold insF
          rw [if_neg (by omega), if_neg (by omega), e0]
        · rw [if_neg c, hM r r0 r1 c]
          unfold insF
          by_cases d : r < m
          · rw [if_pos (by omega), if_pos d]
          · rw [if_neg (by omega), if_neg c, if_neg d, if_neg rm]
      · by_cases c : r = m
        · rw [c]; exact q
        · exact hhi r (by omega) r1
theorem s_arr2 {mB : Mem} {v : VI} {T : Int} (hB : RB mB v) (hIB : IB T v) (hI : IOr v) (hp : 0 ≤ v 2 ∧ v 2 ≤ 3) : ∀ (n fu : Nat) (i : Int) (M : Mem) (sq : Int → Int), 0 ≤ i → i + n = openC v → n < fu → RO M v → SeqI v i sq → (∀ q : Int, 0 ≤ q → q < i → M 9 (zI q).toNatClampNeg = zI (sq q)) →
    Ev (f_X3_arrange_L2 (zI (v 2)) mB fu (zI i) M) (fun r => r.1 = zI (openC v) ∧ RO r.2 v ∧ ∃ sq, SeqI v (openC v) sq ∧ (∀ q : Int, 0 ≤ q → q < openC v → r.2 9 (zI q).toNatClampNeg = zI (sq q))) := by
  have h20 := hI.2.1
  intro n
  induction n with
  | zero =>
    intro fu i M sq i0 hn hf hR hq h9
    obtain ⟨fu, rfl⟩ : ∃ m, fu = m + 1 := ⟨fu - 1, by omega⟩
    simp (disch := omega) only [f_X3_arrange_L2, z_add, z_sub, z_neg, y_neg, z_mul, z_div, z_l, y_i, y_add, y_sub, y_mul, y_div, z_lt, z_le, z_eq, y_c1, y_c2, y_c3, y_c4, y_c5, z_gi, bd1_s, bd2_s, mul30, z_ofNat, hR.2.1]
    rw [if_pos (by omega)]
    have e : i = openC v := by omega
    rw [e] at hq h9
    exact Ev_some ⟨rfl, hR, sq, hq, h9⟩
  | succ n ih =>
    intro fu i M sq i0 hn hf hR hq h9
    obtain ⟨fu, rfl⟩ : ∃ m, fu = m + 1 := ⟨fu - 1, by omega⟩
    obtain ⟨j, rfl⟩ : ∃ j : Nat, i = j := ⟨i.toNat, by omega⟩
    obtain ⟨M', sq', g1, g2, g3, g4⟩ := s_arr13 (M0 := M) hB hIB hI hp (f_X3_arrange_L2 (zI (v 2)) mB fu) i0 (by omega) hq j fuel M (Int.le_refl _) (fuel_gt (by omega)) hR (fun q q0 q1 q2 => by
      rw [h9 q q0 (by omega)]
      unfold insF; rw [if_pos (by omega)]) (fun q a b => by omega)
    simp (disch := omega) only [f_X3_arrange_L2, z_add, z_sub, z_neg, y_neg, z_mul, z_div, z_l, y_i, y_add, y_sub, y_mul, y_div, z_lt, z_le, z_eq, y_c1, y_c2, y_c3, y_c4, y_c5, z_gi, bd1_s, bd2_s, mul30, z_ofNat, hR.2.1]
    rw [if_neg (by omega), g1]
    exact ih fu (j + 1) M' sq' (by omega) (by omega) (by omega) g2 g3 g4
theorem s_arrange {mB mO : Mem} {v : VI} {T : Int} (hB : RB mB v) (hIB : IB T v) (hO : RO mO v) (hI : IOr v) (hp : 0 ≤ v 2 ∧ v 2 ≤ 3) : Ev (f_X3_arrange (zI (v 2)) mB mO) (fun r => r.1 = zI (openC v) ∧ RO r.2 v ∧ ∃ sq, SeqI v (openC v) sq ∧ (∀ q : Int, 0 ≤ q → q < openC v → r.2 9 (zI q).toNatClampNeg = zI (sq q))) := by
  have hc := openC_0 v
  unfold f_X3_arrange
  rw [z_c0]
  exact s_arr2 hB hIB hI hp (openC v).toNat fuel 0 mO (fun _ => 0) (by omega) (by omega) (fuel_gt (by have := hI.2.1; omega)) hO ⟨fun p a b => by omega, fun p q a b c => by omega, fun g => rfl⟩ (fun q a b => by omega)
/-- the reference's line -/
theorem m_line7 {nM : MemL} {sv tv : Nat → Int64} {v : VI} {T : Int} (hM : MR nM v sv tv) (hIB : IB T v) (hI : IOr v) (hp : 0 ≤ v 2 ∧ v 2 ≤ 3) {sq : Int → Int} (hq : SeqI v (openC v) sq) (x1 : Int32) : ∀ (n fu k : Nat) (mM : Mem), (k : Int) + n = v 1882 → n < fu → (∀ p : Int, 0 ≤ p → p < openC v → sq p < k → mM 3 (zI p).toNatClampNeg = zI (sq p)) →
    ∃ mM', f_X9_deliver_L7 x1 nM fu (zI k) mM = f_X9_deliver_L55 x1 mM' fuel (zI 0) nM ∧ (∀ p : Int, 0 ≤ p → p < openC v → mM' 3 (zI p).toNatClampNeg = zI (sq p)) ∧ (∀ j : Nat, j ≠ 3 → mM' j = mM j) := by
  have hb := hI.1
  have h20 := hI.2.1
  have opn : ∀ p : Int, 0 ≤ p → p < openC v → 0 ≤ sq p ∧ sq p < v 1882 ∧ v (1531 + sq p) = 0 := fun p p0 p1 => by
    obtain ⟨k, k0, k1, e⟩ := hq.1 p p0 p1
    rw [e]; exact ordN_in hI k0 k1
  intro n
  induction n with
  | zero =>
    intro fu k mM hn hf h3
    obtain ⟨fu, rfl⟩ : ∃ m, fu = m + 1 := ⟨fu - 1, by omega⟩
    refine ⟨mM, ?_, fun p p0 p1 => h3 p p0 p1 (by have := opn p p0 p1; omega), fun j _ => rfl⟩
    simp (disch := omega) only [f_X9_deliver_L7, z_c0, z_c1531, z_c1882, y_c0_, z_add, z_sub, z_neg, y_neg, z_mul, z_div, z_l, y_i, y_add, y_sub, y_mul, y_div, z_lt, z_le, z_eq, y_c1, y_c2, y_c3, y_c4, y_c5, z_gi, bd1_s, bd2_s, mul30, z_ofNat, lt_eq, hM.rd]
    rw [if_pos (by omega)]
  | succ n ih =>
    intro fu k mM hn hf h3
    obtain ⟨fu, rfl⟩ : ∃ m, fu = m + 1 := ⟨fu - 1, by omega⟩
    have hs := (hI.2.2 k (by omega) (by omega)).2.2.2.1
    have hah := m_ahead (mM := mM) hM hIB hI hp (o := k) (by omega) (by omega)
    by_cases z : v (1531 + k) = 0
    · have hk1 : cntZ (stF v) k < openC v := cntZ_lt (stF v) (n := k) (m := (v 1882).toNat) (by omega) z
      have hk2 : ordN v (cntZ (stF v) k) = k := nthZ_of (stF v) (v 1882).toNat k (by omega) z
      obtain ⟨p, p0, p1, ep⟩ := hq.onto (cntZ_le (stF v) k).1 hk1
      rw [hk2] at ep
      have hr := hq.rank p0 p1
      rw [ep] at hr
      rw [hr] at hah
      obtain ⟨mM', g1, g2, g3⟩ := ih fu (k + 1) (wrI mM 3 (upd (mM 3) (zI p).toNatClampNeg (zI k))) (by omega) (by omega) (fun r r0 r1 r2 => by
        rw [wrI_same, upd_rd _ _ p0 (by omega) r0 (by omega)]
        by_cases c : r = p
        · rw [if_pos c, c, ep]
        · rw [if_neg c]
          refine h3 r r0 r1 ?_
          have : sq r ≠ k := fun q => by
            have a1 := hq.rank r0 r1
            rw [q] at a1
            omega
          omega)
      rw [show ((k + 1 : Nat) : Int) = (k : Int) + 1 by omega] at g1
      refine ⟨mM', ?_, g2, fun j hj => (g3 j hj).trans (wrI_ne _ _ hj)⟩
      simp (disch := omega) only [f_X9_deliver_L7, f_X9_deliver_b47, z_c0, z_c1, z_c1531, z_c1882, y_c0_, z_add, z_sub, z_neg, y_neg, z_mul, z_div, z_l, y_i, y_add, y_sub, y_mul, y_div, z_lt, z_le, z_eq, y_c1, y_c2, y_c3, y_c4, y_c5, z_gi, bd1_s, bd2_s, mul30, z_ofNat, lt_eq, hM.rd, hah]
      rw [if_neg (by omega), if_pos z]
      exact g1
    · obtain ⟨mM', g1, g2, g3⟩ := ih fu (k + 1) mM (by omega) (by omega) (fun r r0 r1 r2 => by
        refine h3 r r0 r1 ?_
        have : sq r ≠ k := fun q => by
          have := (opn r r0 r1).2.2
          rw [q] at this
          exact z this
        omega)
      rw [show ((k + 1 : Nat) : Int) = (k : Int) + 1 by omega] at g1
      refine ⟨mM', ?_, g2, g3⟩
      simp (disch := omega) only [f_X9_deliver_L7, f_X9_deliver_b47, z_c0, z_c1, z_c1531, z_c1882, y_c0_, z_add, z_sub, z_neg, y_neg, z_mul, z_div, z_l, y_i, y_add, y_sub, y_mul, y_div, z_lt, z_le, z_eq, y_c1, y_c2, y_c3, y_c4, y_c5, z_gi, bd1_s, bd2_s, mul30, z_ofNat, lt_eq, hM.rd]
      rw [if_neg (by omega), if_neg z]
      exact g1
