/-! counting zeros, and the n-th of them -/
def cntZ (f : Int → Int) : Nat → Int
  | 0 => 0
  | n + 1 => cntZ f n + (if f n = 0 then 1 else 0)
theorem cntZ_le (f : Int → Int) : ∀ n : Nat, 0 ≤ cntZ f n ∧ cntZ f n ≤ n
  | 0 => ⟨Int.le_refl _, Int.le_refl _⟩
  | n + 1 => by
    have := cntZ_le f n
    unfold cntZ
    split <;> omega
theorem cntZ_mono (f : Int → Int) : ∀ (n m : Nat), n ≤ m → cntZ f n ≤ cntZ f m
  | n, 0, h => by rw [show n = 0 by omega]; exact Int.le_refl _
  | n, m + 1, h => by
    by_cases e : n = m + 1
    · rw [e]; exact Int.le_refl _
    · have := cntZ_mono f n m (by omega)
      show cntZ f n ≤ cntZ f m + _
      split <;> omega
theorem cntZ_lt (f : Int → Int) {n m : Nat} (h : n < m) (hn : f n = 0) : cntZ f n < cntZ f m := by
  have := cntZ_mono f (n + 1) m h
  have e : cntZ f (n + 1) = cntZ f n + 1 := by
    show cntZ f n + _ = _
    rw [if_pos hn]
  omega
theorem cntZ_cg {f g : Int → Int} : ∀ {n : Nat}, (∀ j : Nat, j < n → (f j = 0 ↔ g j = 0)) → cntZ f n = cntZ g n
  | 0, _ => rfl
  | n + 1, h => by
    show cntZ f n + _ = cntZ g n + _
    rw [cntZ_cg (fun j hj => h j (by omega))]
    by_cases c : f n = 0
    · rw [if_pos c, if_pos ((h n (by omega)).mp c)]
    · rw [if_neg c, if_neg (fun q => c ((h n (by omega)).mpr q))]
/-- the place of the i-th zero -/
def nthZ (f : Int → Int) : Nat → Int → Int
  | 0, _ => 0
  | n + 1, i => if f n = 0 ∧ cntZ f n = i then n else nthZ f n i
theorem nthZ_in (f : Int → Int) : ∀ (n : Nat) (i : Int), 0 ≤ i → i < cntZ f n → ∃ o : Nat, o < n ∧ nthZ f n i = o ∧ f o = 0 ∧ cntZ f o = i
  | 0, i, h0, h1 => absurd h1 (by show ¬ i < 0; omega)
  | n + 1, i, h0, h1 => by
    unfold nthZ
    by_cases c : f n = 0 ∧ cntZ f n = i
    · rw [if_pos c]; exact ⟨n, by omega, rfl, c.1, c.2⟩
    · rw [if_neg c]
      have e : cntZ f (n + 1) = cntZ f n + (if f n = 0 then 1 else 0) := rfl
      rw [e] at h1
      have h2 : i < cntZ f n := by
        by_cases z : f n = 0
        · rw [if_pos z] at h1
          have : cntZ f n ≠ i := fun q => c ⟨z, q⟩
          omega
        · rw [if_neg z] at h1; omega
      obtain ⟨o, a, b, d⟩ := nthZ_in f n i h0 h2
      exact ⟨o, by omega, b, d⟩
theorem nthZ_of (f : Int → Int) : ∀ (n o : Nat), o < n → f o = 0 → nthZ f n (cntZ f o) = o
  | 0, o, h, _ => absurd h (Nat.not_lt_zero o)
  | n + 1, o, h, z => by
    unfold nthZ
    by_cases c : o = n
    · subst c; rw [if_pos ⟨z, rfl⟩]
    · rw [if_neg, nthZ_of f n o (by omega) z]
      intro q
      have := cntZ_lt f (n := o) (m := n) (by omega) z
      omega
theorem nthZ_succ (f : Int → Int) (n : Nat) (i : Int) : nthZ f (n + 1) i = if f n = 0 ∧ cntZ f n = i then (n : Int) else nthZ f n i := rfl
/-- with one zero less -/
theorem cntZ_up {f g : Int → Int} {o : Nat} (ho : f o = 0) (go : g o ≠ 0) (e : ∀ j : Int, j ≠ o → g j = f j) : ∀ n : Nat, cntZ g n = if o < n then cntZ f n - 1 else cntZ f n
  | 0 => by rw [if_neg (by omega)]; rfl
  | n + 1 => by
    have h := cntZ_up ho go e n
    show cntZ g n + _ = _
    have e1 : cntZ f (n + 1) = cntZ f n + (if f n = 0 then 1 else 0) := rfl
    rw [h, e1]
    by_cases c : o = n
    · subst c
      rw [if_neg (by omega), if_neg go, if_pos (by omega), if_pos ho]; omega
    · rw [e n (by omega)]
      generalize (if f n = 0 then (1 : Int) else 0) = x
      by_cases d : o < n
      · rw [if_pos d, if_pos (by omega)]; omega
      · rw [if_neg d, if_neg (by omega)]
theorem nthZ_up {f g : Int → Int} {o n : Nat} (ho : f o = 0) (go : g o ≠ 0) (e : ∀ j : Int, j ≠ o → g j = f j) (hon : o < n) {i : Int} (h0 : 0 ≤ i) (h1 : i < cntZ f n - 1) : nthZ g n i = if i < cntZ f o then nthZ f n i else nthZ f n (i + 1) := by
  have hg := cntZ_up ho go e
  by_cases c : i < cntZ f o
  · rw [if_pos c]
    obtain ⟨a, a1, a2, a3, a4⟩ := nthZ_in f n i h0 (by omega)
    have hao : a < o := by
      apply Decidable.byContradiction; intro q
      have := cntZ_mono f o a (by omega)
      omega
    rw [a2, ← nthZ_of g n a a1 (by rw [e a (by omega)]; exact a3), hg a, if_neg (by omega), a4]
  · rw [if_neg c]
    obtain ⟨a, a1, a2, a3, a4⟩ := nthZ_in f n (i + 1) (by omega) (by omega)
    have hao : o < a := by
      apply Decidable.byContradiction; intro q
      have := cntZ_mono f a o (by omega)
      omega
    rw [a2, ← nthZ_of g n a a1 (by rw [e a (by omega)]; exact a3), hg a, if_pos hao, a4]
    rw [show i + 1 - 1 = i by omega]
/-- a sum over the zeros -/
theorem sumR_nth {f g : Int → Int} : ∀ n : Nat, sumR (fun i => g (nthZ f n i)) (cntZ f n).toNat 0 = sumR (fun k => if f k = 0 then g k else 0) n 0
  | 0 => rfl
  | n + 1 => by
    have hl := cntZ_le f n
    rw [sumR_succ, ← sumR_nth n]
    have e1 : cntZ f (n + 1) = cntZ f n + (if f n = 0 then 1 else 0) := rfl
    have e2 : sumR (fun i => g (nthZ f (n + 1) i)) (cntZ f n).toNat 0 = sumR (fun i => g (nthZ f n i)) (cntZ f n).toNat 0 := sumR_cg fun j h0 h1 => by
      show g (nthZ f (n + 1) j) = g (nthZ f n j)
      rw [nthZ_succ, if_neg (by omega)]
    rw [e1]
    by_cases z : f n = 0
    · rw [if_pos z, show (cntZ f n + 1).toNat = (cntZ f n).toNat + 1 by omega, sumR_succ, e2]
      congr 1
      show g (nthZ f (n + 1) (0 + ((cntZ f n).toNat : Int))) = if f (0 + (n : Int)) = 0 then g (0 + (n : Int)) else 0
      rw [show 0 + ((cntZ f n).toNat : Int) = cntZ f n by omega, Int.zero_add, if_pos z, nthZ_succ, if_pos ⟨z, rfl⟩]
    · rw [if_neg z, Int.add_zero, e2]
      show _ = _ + (if f (0 + (n : Int)) = 0 then g (0 + (n : Int)) else 0)
      rw [Int.zero_add, if_neg z, Int.add_zero]
/-! the boats and the orders -/
def RB (mB : Mem) (v : VI) : Prop := mB 0 0 = zI (v 1881) ∧ Row 8 (mB 1) (fun b => v (507 + b)) ∧ Row 8 (mB 2) (fun b => v (515 + b)) ∧ Row 8 (mB 3) (fun b => v (523 + b))
def IB (T : Int) (v : VI) : Prop := (0 ≤ v 1881 ∧ v 1881 ≤ 8) ∧ (∀ b : Int, 0 ≤ b → b < 8 → (0 ≤ v (507 + b) ∧ v (507 + b) ≤ 1000000) ∧ (-1000000 ≤ v (515 + b) ∧ v (515 + b) ≤ 30970000) ∧ (0 ≤ v (523 + b) ∧ v (523 + b) ≤ 30000 * T) ∧ (v 1881 ≤ b → v (515 + b) = 0 ∧ v (523 + b) = 0))
/-- the states of the orders -/
def stF (v : VI) : Int → Int := fun o => v (1531 + o)
def openC (v : VI) : Int := cntZ (stF v) (v 1882).toNat
def ordN (v : VI) (i : Int) : Int := nthZ (stF v) (v 1882).toNat i
def RO (mO : Mem) (v : VI) : Prop := mO 0 0 = zI (v 1882) ∧ mO 1 0 = zI (openC v) ∧ Row 200 (mO 2) (fun o => v (531 + o)) ∧ Row 200 (mO 3) (fun o => v (731 + o)) ∧ Row 200 (mO 4) (fun o => v (931 + o)) ∧ Row 200 (mO 5) (fun o => v (1131 + o)) ∧ Row 200 (mO 6) (fun o => v (1331 + o)) ∧ Row 200 (mO 7) (fun o => v (1531 + o)) ∧ (∀ i : Int, 0 ≤ i → i < openC v → mO 8 (zI i).toNatClampNeg = zI (ordN v i))
def IOr (v : VI) : Prop := (0 ≤ v 1882 ∧ v 1882 ≤ 200) ∧ openC v ≤ 20 ∧ (∀ o : Int, 0 ≤ o → o < 200 → (0 ≤ v (931 + o) ∧ v (931 + o) ≤ 10300) ∧ (0 ≤ v (1131 + o) ∧ v (1131 + o) ≤ 200) ∧ (0 ≤ v (1331 + o) ∧ v (1331 + o) ≤ 1) ∧ (0 ≤ v (1531 + o) ∧ v (1531 + o) ≤ 3) ∧ (v 1882 ≤ o → v (931 + o) = 0 ∧ v (1531 + o) = 0) ∧ (o < v 1882 → (0 ≤ v (531 + o) ∧ v (531 + o) < v 1881) ∧ (1 ≤ v (731 + o) ∧ v (731 + o) ≤ 9999) ∧ (v (1531 + o) = 0 → v (931 + o) < v (731 + o) ∧ 1 ≤ v (1131 + o))))
theorem openC_0 (v : VI) : 0 ≤ openC v := (cntZ_le _ _).1
theorem ordN_in {v : VI} (hI : IOr v) {i : Int} (h0 : 0 ≤ i) (h1 : i < openC v) : 0 ≤ ordN v i ∧ ordN v i < v 1882 ∧ v (1531 + ordN v i) = 0 := by
  obtain ⟨o, a, b, c, d⟩ := nthZ_in (stF v) (v 1882).toNat i h0 h1
  have hb := hI.1
  unfold ordN
  rw [b]
  exact ⟨by omega, by omega, c⟩
theorem RB.cat {mB : Mem} {v : VI} (h : RB mB v) {b : Int} (h1 : 0 ≤ b) (h2 : b < 8) : mB 1 (zI b).toNatClampNeg = zI (v (507 + b)) := h.2.1 b h1 h2
theorem RB.deb {mB : Mem} {v : VI} (h : RB mB v) {b : Int} (h1 : 0 ≤ b) (h2 : b < 8) : mB 2 (zI b).toNatClampNeg = zI (v (515 + b)) := h.2.2.1 b h1 h2
theorem RB.got {mB : Mem} {v : VI} (h : RB mB v) {b : Int} (h1 : 0 ≤ b) (h2 : b < 8) : mB 3 (zI b).toNatClampNeg = zI (v (523 + b)) := h.2.2.2 b h1 h2
theorem RO.buy {mO : Mem} {v : VI} (h : RO mO v) {o : Int} (h1 : 0 ≤ o) (h2 : o < 200) : mO 2 (zI o).toNatClampNeg = zI (v (531 + o)) := h.2.2.1 o h1 h2
theorem RO.wan {mO : Mem} {v : VI} (h : RO mO v) {o : Int} (h1 : 0 ≤ o) (h2 : o < 200) : mO 3 (zI o).toNatClampNeg = zI (v (731 + o)) := h.2.2.2.1 o h1 h2
theorem RO.giv {mO : Mem} {v : VI} (h : RO mO v) {o : Int} (h1 : 0 ≤ o) (h2 : o < 200) : mO 4 (zI o).toNatClampNeg = zI (v (931 + o)) := h.2.2.2.2.1 o h1 h2
theorem RO.hou {mO : Mem} {v : VI} (h : RO mO v) {o : Int} (h1 : 0 ≤ o) (h2 : o < 200) : mO 5 (zI o).toNatClampNeg = zI (v (1131 + o)) := h.2.2.2.2.2.1 o h1 h2
theorem RO.who {mO : Mem} {v : VI} (h : RO mO v) {o : Int} (h1 : 0 ≤ o) (h2 : o < 200) : mO 6 (zI o).toNatClampNeg = zI (v (1331 + o)) := h.2.2.2.2.2.2.1 o h1 h2
theorem RO.sta {mO : Mem} {v : VI} (h : RO mO v) {o : Int} (h1 : 0 ≤ o) (h2 : o < 200) : mO 7 (zI o).toNatClampNeg = zI (v (1531 + o)) := h.2.2.2.2.2.2.2.1 o h1 h2
theorem RO.opn {mO : Mem} {v : VI} (h : RO mO v) {i : Int} (h1 : 0 ≤ i) (h2 : i < openC v) : mO 8 (zI i).toNatClampNeg = zI (ordN v i) := h.2.2.2.2.2.2.2.2 i h1 h2
theorem s_hasB {mB : Mem} {v : VI} {T : Int} (h : RB mB v) (hI : IB T v) {a : Int} (h1 : -2147483648 ≤ a) (h2 : a < 2147483648) : f_X1_has (zI a) mB = some (zI (if 0 ≤ a ∧ a < v 1881 then 1 else 0)) := by
  have hb := hI.1
  simp (disch := omega) only [f_X1_has, z_c0, z_c1, z_add, z_sub, z_neg, y_neg, z_mul, z_div, z_l, y_i, y_add, y_sub, y_mul, y_div, z_lt, z_le, z_eq, y_c1, y_c2, y_c3, y_c4, y_c5, z_gi, bd1_s, bd2_s, mul30, z_ofNat, lt_eq, h.1]
  repeat' split
  all_goals first | rfl | (exfalso; omega)
theorem s_hasO {mO : Mem} {v : VI} (h : RO mO v) (hb : 0 ≤ v 1882 ∧ v 1882 ≤ 200) {a : Int} (h1 : -2147483648 ≤ a) (h2 : a < 2147483648) : f_X3_has (zI a) mO = some (zI (if 0 ≤ a ∧ a < v 1882 then 1 else 0)) := by
  simp (disch := omega) only [f_X3_has, z_c0, z_c1, z_add, z_sub, z_neg, y_neg, z_mul, z_div, z_l, y_i, y_add, y_sub, y_mul, y_div, z_lt, z_le, z_eq, y_c1, y_c2, y_c3, y_c4, y_c5, z_gi, bd1_s, bd2_s, mul30, z_ofNat, lt_eq, h.1]
  repeat' split
  all_goals first | rfl | (exfalso; omega)
theorem s_isOpen {mO : Mem} {v : VI} (h : RO mO v) (hI : IOr v) {a : Int} (h1 : -2147483648 ≤ a) (h2 : a < 2147483648) : f_X3_isOpen (zI a) mO = some (zI (if (0 ≤ a ∧ a < v 1882) ∧ v (1531 + a) = 0 then 1 else 0)) := by
  have hb := hI.1
  unfold f_X3_isOpen
  rw [s_hasO h hI.1 h1 h2, bd1_s]
  by_cases c : 0 ≤ a ∧ a < v 1882
  · have hs := (hI.2.2 a (by omega) (by omega)).2.2.2.1
    rw [if_pos c]
    simp (disch := omega) only [f_X3_isOpen, z_c0, z_c1, z_add, z_sub, z_neg, y_neg, z_mul, z_div, z_l, y_i, y_add, y_sub, y_mul, y_div, z_lt, z_le, z_eq, y_c1, y_c2, y_c3, y_c4, y_c5, z_gi, bd1_s, bd2_s, mul30, z_ofNat, h.sta]
    repeat' split
    all_goals first | rfl | (exfalso; omega)
  · rw [if_neg c, if_pos (show zI 0 = 0 from rfl), if_neg (fun q => c q.1)]; rfl
theorem s_isComplete {mO : Mem} {v : VI} (h : RO mO v) (hI : IOr v) {a : Int} (h1 : 0 ≤ a) (h2 : a < v 1882) : f_X3_isComplete (zI a) mO = some (zI (if v (1531 + a) = 1 then 1 else 0)) := by
  have hb := hI.1
  unfold f_X3_isComplete
  rw [s_hasO h hI.1 (by omega) (by omega), if_pos ⟨h1, h2⟩, bd1_s]
  have hs := (hI.2.2 a (by omega) (by omega)).2.2.2.1
  simp (disch := omega) only [f_X3_isComplete, z_c0, z_c1, z_add, z_sub, z_neg, y_neg, z_mul, z_div, z_l, y_i, y_add, y_sub, y_mul, y_div, z_lt, z_le, z_eq, y_c1, y_c2, y_c3, y_c4, y_c5, z_gi, bd1_s, bd2_s, mul30, z_ofNat, h.sta]
  repeat' split
  all_goals first | rfl | (exfalso; omega)
def remF (v : VI) (o : Int) : Int := if 0 ≤ v (731 + o) - v (931 + o) then v (731 + o) - v (931 + o) else 0
theorem remF_b {v : VI} (hI : IOr v) {o : Int} (h1 : 0 ≤ o) (h2 : o < v 1882) : 0 ≤ remF v o ∧ remF v o ≤ 9999 := by
  have hb := hI.1
  have hs := hI.2.2 o h1 (by omega)
  have := hs.2.2.2.2.2 h2
  unfold remF; split <;> omega
theorem s_remaining {mO : Mem} {v : VI} (h : RO mO v) (hI : IOr v) {o : Int} (h1 : 0 ≤ o) (h2 : o < v 1882) : f_X3_remaining (zI o) mO = some (zI (remF v o)) := by
  have hb := hI.1
  have hs := hI.2.2 o h1 (by omega)
  have hs2 := hs.2.2.2.2.2 h2
  unfold f_X3_remaining
  rw [s_valueIn (n := 200) h.2.2.2.1 (by omega) h1 (by omega), bd1_s, s_valueIn (n := 200) h.2.2.2.2.1 (by omega) h1 (by omega), bd1_s]
  simp (disch := omega) only [f_X3_remaining, z_c0, z_add, z_sub, z_neg, y_neg, z_mul, z_div, z_l, y_i, y_add, y_sub, y_mul, y_div, z_lt, z_le, z_eq, y_c1, y_c2, y_c3, y_c4, y_c5, z_gi, bd1_s, bd2_s, mul30, z_ofNat, lt_eq]
  unfold remF
  by_cases c : v (731 + o) - v (931 + o) ≤ 0
  · rw [if_pos c]
    by_cases d : 0 ≤ v (731 + o) - v (931 + o)
    · rw [if_pos d, show v (731 + o) - v (931 + o) = 0 by omega]
    · rw [if_neg d]
  · rw [if_neg c, if_pos (by omega)]
theorem m_remaining {mM : Mem} {nM : MemL} {sv tv : Nat → Int64} {v : VI} (hM : MR nM v sv tv) (hI : IOr v) {o : Int} (h1 : 0 ≤ o) (h2 : o < v 1882) : f_X9_remaining (zI o) mM nM = some (zL (remF v o)) := by
  have hb := hI.1
  have hs := hI.2.2 o h1 (by omega)
  have hs2 := hs.2.2.2.2.2 h2
  simp (disch := omega) only [f_X9_remaining, z_c0, z_c731, z_c931, y_c0_, z_add, z_sub, z_neg, y_neg, z_mul, z_div, z_l, y_i, y_add, y_sub, y_mul, y_div, z_lt, z_le, z_eq, y_c1, y_c2, y_c3, y_c4, y_c5, z_gi, bd1_s, bd2_s, mul30, z_ofNat, lt_eq, hM.rd]
  unfold remF
  repeat' split
  all_goals first | rfl | (exfalso; omega)
