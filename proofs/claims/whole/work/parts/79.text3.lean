/-! the text: the reference goes through a command, whatever its loop says of it (P) -/
theorem upV_upV (x : VI) (i a b : Int) : upV (upV x i a) i b = upV x i b := by
  funext k
  by_cases e : k = i
  · rw [e, upV_same, upV_same]
  · rw [upV_ne _ _ e, upV_ne _ _ e, upV_ne _ _ e]
def BadAt (t : Int → Int) (n e q : Int) (S : TS) : Prop := (q < n ∧ Rx (t q) e S) ∨ (q = n ∧ e = 3 ∧ ∀ (mM : Mem) (nM : MemL), RT mM S → f_X9_ends mM nM = some (zI 0))
theorem go_dg {t : Int → Int} {n : Int} {P : Int → TS → Prop} (hst : ∀ (k : Int) (S S' : TS), 0 ≤ k → k < n → t k ≠ 59 → Rd (t k) S S' → P (k + 1) S' → P k S) {w i : Int} (w0 : 0 < w ∧ w < 200) (i0 : 0 ≤ i ∧ i < 3) : ∀ (j : Nat) (p c : Int) (x : VI), 0 ≤ p → p + j ≤ n → 0 ≤ c → c + j ≤ 6 → (∀ q : Int, p ≤ q → q < p + j → 48 ≤ t q ∧ t q ≤ 57) → P (p + j) (w, i, c + j, 0, if j = 0 then x else upV x i (vlT t (if c = 0 then 0 else x i) p j)) → P p (w, i, c, 0, x) := by
  intro j
  induction j with
  | zero =>
    intro p c x p0 p1 c0 c1 hd hP
    rw [show p + ((0 : Nat) : Int) = p by omega, show c + ((0 : Nat) : Int) = c by omega, if_pos rfl] at hP
    exact hP
  | succ j ih =>
    intro p c x p0 p1 c0 c1 hd hP
    have g := hd p (Int.le_refl _) (by omega)
    refine hst p _ (w, i, c + 1, 0, upV x i (if c = 0 then t p - 48 else 10 * x i + t p - 48)) p0 (by omega) (by omega) (rd_dig w0 i0 (by omega) g) ?_
    refine ih (p + 1) (c + 1) _ (by omega) (by omega) (by omega) (by omega) (fun q q0 q1 => hd q (by omega) (by omega)) ?_
    rw [show p + 1 + (j : Int) = p + ((j + 1 : Nat) : Int) by omega, show c + 1 + (j : Int) = c + ((j + 1 : Nat) : Int) by omega]
    rw [if_neg (show ¬ j + 1 = 0 by omega)] at hP
    have e1 : (if c = 0 then t p - 48 else 10 * x i + t p - 48) = 10 * (if c = 0 then 0 else x i) + (t p - 48) := by
      by_cases q : c = 0
      · rw [if_pos q, if_pos q]; omega
      · rw [if_neg q, if_neg q]; omega
    have e2 : vlT t (if c = 0 then 0 else x i) p (j + 1) = vlT t (10 * (if c = 0 then 0 else x i) + (t p - 48)) (p + 1) j := rfl
    rw [e2] at hP
    rw [e1]
    by_cases q : j = 0
    · rw [if_pos q]
      rw [q] at hP ⊢
      exact hP
    · rw [if_neg q, if_neg (show ¬ c + 1 = 0 by omega), upV_same, upV_upV]
      exact hP
theorem nE_0 {t : Int → Int} {n p : Int} (h : nE t n p = 0) : 0 < dT t n p ∧ ¬ (p + dT t n p < n ∧ 48 ≤ t (p + dT t n p) ∧ t (p + dT t n p) ≤ 57) := by
  have hb := dT_b t n p
  unfold nE at h
  by_cases c : dT t n p = 0
  · rw [if_pos c] at h
    split at h <;> omega
  · rw [if_neg c] at h
    refine ⟨by omega, fun q => ?_⟩
    rw [if_pos q] at h; omega
/-- the reference reads the first number from p on -/
theorem go_num {t : Int → Int} {n : Int} {P : Int → TS → Prop} (hst : ∀ (k : Int) (S S' : TS), 0 ≤ k → k < n → t k ≠ 59 → Rd (t k) S S' → P (k + 1) S' → P k S) (ht : ∀ k : Int, 0 ≤ k → k < n → 32 ≤ t k ∧ t k ≤ 126) {w i p : Int} {x : VI} (w0 : 0 < w ∧ w < 200) (i0 : 0 ≤ i ∧ i < 3) (p0 : 0 ≤ p) (p1 : p ≤ n)
    (hgood : nE t n p = 0 → P (p + dT t n p) (w, i, dT t n p, 0, upV x i (vlT t 0 p (dgc t n p 6)))) (hbad : nE t n p ≠ 0 → ∀ S : TS, BadAt t n (nE t n p) (p + dT t n p) S → P (p + dT t n p) S) : P p (w, i, 0, 0, x) := by
  have hb := dT_b t n p
  have hn := dT_n t p1
  have hall := dgc_all t n 6 p
  refine go_dg hst w0 i0 (dgc t n p 6) p 0 x p0 hn (Int.le_refl _) (by unfold dT at hb; omega) (fun q q0 q1 => (hall q q0 q1).2) ?_
  rw [show (0 : Int) + (dgc t n p 6 : Int) = dT t n p by unfold dT; omega]
  show P (p + dT t n p) _
  by_cases c : nE t n p = 0
  · have g := nE_0 c
    rw [if_neg (fun q => by unfold dT at g; omega), if_pos rfl]
    exact hgood c
  · refine hbad c _ ?_
    have c' := c
    unfold nE at c'
    by_cases z : dT t n p = 0
    · rw [if_pos z] at c'
      rw [z]
      rw [show p + 0 = p by omega]
      have eE : nE t n p = if p < n then 1 else 3 := by unfold nE; rw [if_pos z]
      by_cases q : p < n
      · rw [if_pos q] at eE
        rw [eE]
        have hnd : ¬ (48 ≤ t p ∧ t p ≤ 57) := fun r => by
          have e6 : dgc t n p 6 = dgc t n (p + 1) 5 + 1 := by
            show (if p < n ∧ 48 ≤ t p ∧ t p ≤ 57 then dgc t n (p + 1) 5 + 1 else 0) = _
            rw [if_pos ⟨q, r⟩]
          unfold dT at z; omega
        have := ht p p0 q
        exact Or.inl ⟨q, rd_d0 w0 (by omega) (Or.inl rfl) hnd⟩
      · rw [if_neg q] at eE
        rw [eE]
        refine Or.inr ⟨by omega, rfl, fun mM nM hR => ?_⟩
        rw [m_ends hR ⟨by show 0 ≤ w; omega, by show w < 200; omega⟩ i0 ⟨Int.le_refl _, by show (0 : Int) ≤ 7; omega⟩, if_neg (fun r => by have r2 : (0 : Int) < 0 := r.2.1; omega)]
    · rw [if_neg z] at c'
      by_cases q : p + dT t n p < n ∧ 48 ≤ t (p + dT t n p) ∧ t (p + dT t n p) ≤ 57
      · have e6 : dT t n p = 6 := by
          have := dgc_le t n 6 p
          by_cases r : dgc t n p 6 < 6
          · exact absurd q (dgc_end t n 6 p r)
          · unfold dT; omega
        have eE : nE t n p = 2 := by unfold nE; rw [if_neg z, if_pos q]
        rw [eE]
        refine Or.inl ⟨q.1, ?_⟩
        rw [e6] at q ⊢
        exact rd_7th w0 i0 q.2
      · rw [if_neg q] at c'
        exact absurd rfl c'
theorem go_nums {t : Int → Int} {n : Int} {P : Int → TS → Prop} (hst : ∀ (k : Int) (S S' : TS), 0 ≤ k → k < n → t k ≠ 59 → Rd (t k) S S' → P (k + 1) S' → P k S) (ht : ∀ k : Int, 0 ≤ k → k < n → 32 ≤ t k ∧ t k ≤ 126) {w : Int} (w0 : 0 < w ∧ w < 200) : ∀ (k : Nat) (i p : Int) (x : VI), needT w = i + k + 1 → 0 ≤ i → 0 ≤ p → p ≤ n →
    ((nums t n (k + 1) p).1 = 0 → ∀ D : Int, 0 < D → D ≤ 6 → ¬ ((nums t n (k + 1) p).2 < n ∧ 48 ≤ t (nums t n (k + 1) p).2 ∧ t (nums t n (k + 1) p).2 ≤ 57) → P (nums t n (k + 1) p).2 (w, i + k, D, 0, valsT t n (k + 1) i p x)) →
    ((nums t n (k + 1) p).1 ≠ 0 → ∀ S : TS, BadAt t n (nums t n (k + 1) p).1 (nums t n (k + 1) p).2 S → P (nums t n (k + 1) p).2 S) → P p (w, i, 0, 0, x) := by
  intro k
  induction k with
  | zero =>
    intro i p x hw i0 p0 p1 hgood hbad
    have nb := needT_b w
    have hb := dT_b t n p
    refine go_num hst ht w0 ⟨i0, by omega⟩ p0 p1 (fun c => ?_) (fun c S hS => ?_)
    · have en : nums t n (0 + 1) p = (0, p + dT t n p) := by
        show (if nE t n p = 0 then (if (0 : Nat) = 0 then ((0 : Int), p + dT t n p) else _) else _) = _
        rw [if_pos c, if_pos rfl]
      rw [en] at hgood
      have g := nE_0 c
      have := hgood rfl (dT t n p) g.1 hb.2 g.2
      rw [show i + ((0 : Nat) : Int) = i by omega] at this
      exact this
    · have en : nums t n (0 + 1) p = (nE t n p, p + dT t n p) := by
        show (if nE t n p = 0 then _ else (nE t n p, p + dT t n p)) = _
        rw [if_neg c]
      rw [en] at hbad
      exact hbad c S hS
  | succ k ih =>
    intro i p x hw i0 p0 p1 hgood hbad
    have nb := needT_b w
    have hb := dT_b t n p
    have hn := dT_n t p1
    refine go_num hst ht w0 ⟨i0, by omega⟩ p0 p1 (fun c => ?_) (fun c S hS => ?_)
    · have g := nE_0 c
      by_cases c3 : p + dT t n p < n ∧ t (p + dT t n p) = 44
      · have en : nums t n (k + 1 + 1) p = nums t n (k + 1) (p + dT t n p + 1) := by
          show (if nE t n p = 0 then (if k + 1 = 0 then ((0 : Int), p + dT t n p) else if p + dT t n p < n ∧ t (p + dT t n p) = 44 then nums t n (k + 1) (p + dT t n p + 1) else _) else _) = _
          rw [if_pos c, if_neg (by omega), if_pos c3]
        rw [en] at hgood hbad
        refine hst _ _ (w, i + 1, 0, 0, upV x i (vlT t 0 p (dgc t n p 6))) (by omega) c3.1 (by omega) (by rw [c3.2]; exact rd_comma w0 ⟨i0, by omega⟩ ⟨g.1, hb.2⟩ (by omega)) ?_
        refine ih (i + 1) (p + dT t n p + 1) _ (by omega) (by omega) (by omega) (by omega) (fun e D D0 D6 hd => ?_) hbad
        have := hgood e D D0 D6 hd
        rw [show i + ((k + 1 : Nat) : Int) = i + 1 + (k : Int) by omega] at this
        exact this
      · have en : nums t n (k + 1 + 1) p = ((if p + dT t n p < n then 1 else 3), p + dT t n p) := by
          show (if nE t n p = 0 then (if k + 1 = 0 then ((0 : Int), p + dT t n p) else if p + dT t n p < n ∧ t (p + dT t n p) = 44 then nums t n (k + 1) (p + dT t n p + 1) else ((if p + dT t n p < n then 1 else 3), p + dT t n p)) else _) = _
          rw [if_pos c, if_neg (by omega), if_neg c3]
        rw [en] at hbad
        refine hbad (by show (if p + dT t n p < n then (1 : Int) else 3) ≠ 0; split <;> omega) _ ?_
        by_cases q : p + dT t n p < n
        · have hc := ht (p + dT t n p) (by omega) q
          show BadAt t n (if p + dT t n p < n then 1 else 3) (p + dT t n p) _
          rw [if_pos q]
          exact Or.inl ⟨q, rd_else w0 ⟨i0, by omega⟩ ⟨g.1, hb.2⟩ (by omega) (Or.inl rfl) (Or.inl (fun r => g.2 ⟨q, r⟩)) (fun r => c3 ⟨q, r.1⟩) (by omega) (by omega)⟩
        · show BadAt t n (if p + dT t n p < n then 1 else 3) (p + dT t n p) _
          rw [if_neg q]
          refine Or.inr ⟨by show p + dT t n p = n; omega, rfl, fun mM nM hR => ?_⟩
          rw [m_ends hR ⟨by show 0 ≤ w; omega, by show w < 200; omega⟩ ⟨i0, by show i < 3; omega⟩ ⟨hb.1, by show dT t n p ≤ 7; omega⟩, if_neg (fun r => by have r2 : i + 1 = needT w := r.2.2; omega)]
    · have en : nums t n (k + 1 + 1) p = (nE t n p, p + dT t n p) := by
        show (if nE t n p = 0 then _ else (nE t n p, p + dT t n p)) = _
        rw [if_neg c]
      rw [en] at hbad
      exact hbad c S hS
/-- a command's mark, its place behind the numbers and the mark -/
def mkT (t : Int → Int) (n w q : Int) : Int := if w = 111 ∧ q < n ∧ t q = 33 then 1 else 0
theorem go_cmd {t : Int → Int} {n : Int} {P : Int → TS → Prop} (hst : ∀ (k : Int) (S S' : TS), 0 ≤ k → k < n → t k ≠ 59 → Rd (t k) S S' → P (k + 1) S' → P k S) (ht : ∀ k : Int, 0 ≤ k → k < n → 32 ≤ t k ∧ t k ≤ 126) {K : Nat} {p a d h : Int} {x : VI} (p0 : 0 ≤ p) (p1 : p < n) (hK : dueT (t p) = K + 1)
    (hgood : (nums t n (K + 1) (p + 1)).1 = 0 → ∀ D : Int, 0 < D → D ≤ 6 → (mkT t n (t p) (nums t n (K + 1) (p + 1)).2 = 1 ∨ ¬ ((nums t n (K + 1) (p + 1)).2 < n ∧ 48 ≤ t (nums t n (K + 1) (p + 1)).2 ∧ t (nums t n (K + 1) (p + 1)).2 ≤ 57)) → P ((nums t n (K + 1) (p + 1)).2 + mkT t n (t p) (nums t n (K + 1) (p + 1)).2) (t p, K, D, mkT t n (t p) (nums t n (K + 1) (p + 1)).2, valsT t n (K + 1) 0 (p + 1) x))
    (hbad : (nums t n (K + 1) (p + 1)).1 ≠ 0 → ∀ S : TS, BadAt t n (nums t n (K + 1) (p + 1)).1 (nums t n (K + 1) (p + 1)).2 S → P (nums t n (K + 1) (p + 1)).2 S) : P p (0, a, d, h, x) := by
  have hd : dueT (t p) ≠ 0 := by omega
  obtain ⟨hn, hw⟩ := dueT_need hd
  have w0 : 0 < t p ∧ t p < 200 := by omega
  have n59 : t p ≠ 59 := by omega
  have nbs := nums_b t n (K + 1) (p + 1) (by omega)
  refine hst p _ _ p0 p1 n59 (rd_letter hd) ?_
  refine go_nums hst ht w0 K 0 (p + 1) x (by omega) (Int.le_refl _) (by omega) (by omega) (fun e D D0 D6 hdg => ?_) hbad
  rw [show (0 : Int) + (K : Int) = K by omega]
  have hg := hgood e D D0 D6 (Or.inr hdg)
  revert hg
  unfold mkT
  by_cases c : t p = 111 ∧ (nums t n (K + 1) (p + 1)).2 < n ∧ t (nums t n (K + 1) (p + 1)).2 = 33
  · rw [if_pos c]
    intro hg
    have eK : (K : Int) = 2 := by
      rw [hK, c.1] at hn
      have : needT 111 = 3 := rfl
      omega
    refine hst _ _ _ (by omega) c.2.1 (by omega) ?_ hg
    rw [c.2.2, c.1, eK]
    exact rd_mark ⟨D0, D6⟩
  · rw [if_neg c, Int.add_zero]
    exact id
