/-! what is billed -/
theorem sumR_tail {f : Int → Int} : ∀ (d n : Nat) (s : Int), (∀ j : Int, s + n ≤ j → j < s + n + d → f j = 0) → sumR f (n + d) s = sumR f n s
  | 0, n, s, _ => rfl
  | d + 1, n, s, h => by
    rw [show n + (d + 1) = (n + d) + 1 by omega, sumR_last, h _ (by omega) (by omega), sumR_tail d n s (fun j a b => h j a (by omega)), Int.add_zero]
theorem sumR_plus {f g : Int → Int} : ∀ (n : Nat) (s : Int), sumR (fun j => f j + g j) n s = sumR f n s + sumR g n s
  | 0, _ => rfl
  | n + 1, s => by
    show f s + g s + sumR (fun j => f j + g j) n (s + 1) = f s + sumR f n (s + 1) + (g s + sumR g n (s + 1))
    rw [sumR_plus n (s + 1)]; omega
theorem sumR_swap (g : Int → Int → Int) : ∀ (m n : Nat) (s t : Int), sumR (fun b => sumR (fun k => g b k) n t) m s = sumR (fun k => sumR (fun b => g b k) m s) n t
  | 0, n, s, t => (sumR_zero (fun _ _ _ => rfl)).symm
  | m + 1, n, s, t => by
    show sumR (fun k => g s k) n t + sumR (fun b => sumR (fun k => g b k) n t) m (s + 1) = sumR (fun k => g s k + sumR (fun b => g b k) m (s + 1)) n t
    rw [sumR_swap g m n (s + 1) t]
    exact (sumR_plus n t).symm
theorem cntZ_sum (f : Int → Int) : ∀ n : Nat, sumR (fun k => if f k = 0 then 1 else 0) n 0 = cntZ f n
  | 0 => rfl
  | n + 1 => by
    rw [sumR_last, cntZ_sum f n, Int.zero_add]; rfl
/-- every open order is some boat's -/
theorem opOf_sum {v : VI} (hI : IOr v) (hb : 0 ≤ v 1881 ∧ v 1881 ≤ 8) : sumR (fun b => opOf v b) (v 1881).toNat 0 = openC v := by
  have ho := hI.1
  unfold opOf
  rw [sumR_swap (fun b k => if stF v k = 0 then (if v (531 + k) = b then 1 else 0) else 0)]
  unfold openC
  rw [← cntZ_sum]
  refine sumR_cg fun k k0 k1 => ?_
  show sumR (fun b => if stF v k = 0 then (if v (531 + k) = b then 1 else 0) else 0) (v 1881).toNat 0 = if stF v k = 0 then 1 else 0
  by_cases q : stF v k = 0
  · rw [if_pos q]
    have g := ((hI.2.2 k k0 (by omega)).2.2.2.2.2 (by omega)).1
    have a := sumR_at (f := fun _ => 0) (g := fun b => if stF v k = 0 then (if v (531 + k) = b then 1 else 0) else 0) (p := v (531 + k)) (x := 1) (n := (v 1881).toNat) (s := 0) g.1 (by omega) (fun j j0 j1 hj => by
      show (if stF v k = 0 then (if v (531 + k) = j then 1 else 0) else 0) = 0
      rw [if_pos q, if_neg (fun e => hj e.symm)]) (by
      show (if stF v k = 0 then (if v (531 + k) = v (531 + k) then 1 else 0) else 0) = 0 + 1
      rw [if_pos q, if_pos rfl]; rfl)
    rw [a, sumR_zero (fun _ _ _ => rfl)]; rfl
  · rw [if_neg q]
    exact sumR_zero fun j _ _ => if_neg q
theorem opOf_b {v : VI} (hI : IOr v) (b : Int) : 0 ≤ opOf v b ∧ opOf v b ≤ 200 := by
  have ho := hI.1
  have hl := sumR_le (f := fun k => if stF v k = 0 then (if v (531 + k) = b then 1 else 0) else 0) (c := 1) (n := (v 1882).toNat) (s := 0) (fun j _ _ => by
    show 0 ≤ (if stF v j = 0 then (if v (531 + j) = b then (1 : Int) else 0) else 0) ∧ _ ≤ 1
    split
    · split <;> omega
    · omega)
  unfold opOf
  omega
section
variable {v : VI} {c : Int} {H : Int → VI} {imT imdP : Mem} {indP : MemL} {imdS imdB imdO imdR imdA : Mem} {indA : MemL} {mP : Mem} {nP : MemL} {mS mB mO mR mA : Mem} {nA : MemL} {mH : Mem} {hs : Nat → PSt}
theorem b_acc (h : WF v c H) {a : Int} (a0 : 0 ≤ a) (a1 : a < v 1886) : accOf v (v (1811 + a)) (v (1827 + a)) = a := by
  have hIA := h.1.1.2.2.2.1
  rcases accOf_in hIA (v (1811 + a)) (v (1827 + a)) with q | q
  · exact absurd ⟨rfl, rfl⟩ (q.2 a a0 a1)
  · obtain ⟨q0, q1, q2, q3⟩ := q
    rcases Int.lt_trichotomy (accOf v (v (1811 + a)) (v (1827 + a))) a with d | d | d
    · exact absurd ⟨q2, q3⟩ (hIA.2.2.1 _ a q0 d a1)
    · exact d
    · exact absurd ⟨q2.symm, q3.symm⟩ (hIA.2.2.1 a _ a0 d q1)
theorem b_sums (h : WF v c H) : sumR (fun b => v (515 + b)) (v 1881).toNat 0 = v 1883 - v 1884 ∧ sumR (fun b => v (523 + b)) (v 1881).toNat 0 = v 1877 ∧ sumR (fun a => v (1843 + a)) (v 1886).toNat 0 = v 1877 ∧ sumR (fun a => v (1859 + a)) (v 1886).toNat 0 = v 1883 := by
  obtain ⟨w1, w2, w3, w4, w5, w6⟩ := h.1.2.2
  have hIB := h.1.1.2.1
  have hIA := h.1.1.2.2.2.1
  have hb := hIB.1
  have ha := hIA.1
  have e8 : (v 1881).toNat + (8 - (v 1881).toNat) = 8 := by omega
  have e16 : (v 1886).toNat + (16 - (v 1886).toNat) = 16 := by omega
  refine ⟨?_, ?_, ?_, ?_⟩
  · rw [← w5, ← sumR_tail (8 - (v 1881).toNat) (v 1881).toNat 0 (fun j a b => ((hIB.2 j (by omega) (by omega)).2.2.2 (by omega)).1), e8]
  · rw [← w2, ← sumR_tail (8 - (v 1881).toNat) (v 1881).toNat 0 (fun j a b => ((hIB.2 j (by omega) (by omega)).2.2.2 (by omega)).2), e8]
  · rw [← w3, ← sumR_tail (16 - (v 1886).toNat) (v 1886).toNat 0 (fun j a b => (hIA.2.2.2 j (by omega) (by omega)).1), e16]
  · rw [← w4, ← sumR_tail (16 - (v 1886).toNat) (v 1886).toNat 0 (fun j a b => (hIA.2.2.2 j (by omega) (by omega)).2), e16]
theorem b_loop2 (h : WF v c H) (R : RW mP nP mS mB mO mR mA nA v) (hH : HR c H mH hs) : ∀ (n fu s : Nat), s + n = (v 1886).toNat → n < fu → f_L_isBilled_L72 (zL (v 1883 - v 1884)) (zL (v 1877)) (zL (openC v)) imT imdP indP imdS imdB imdO imdR imdA indA mP nP mS mB mO mR mA nA mH hs fu (zL (sumR (fun a => v (1843 + a)) s 0)) (zL (sumR (fun a => v (1859 + a)) s 0)) (zI s) = some 1 := by
  have hIA := h.1.1.2.2.2.1
  have ha := hIA.1
  have t14 : f_L_total_N (14 : Int32) imT imdP indP imdS imdB imdO imdR imdA indA mP nP mS mB mO mR mA nA mH hs = some (zL (v 1886)) := n_total h R hH (a := 14) (by omega) (by omega)
  intro n
  induction n with
  | zero =>
    intro fu s hsn hf
    obtain ⟨fu, rfl⟩ : ∃ m, fu = m + 1 := ⟨fu - 1, by omega⟩
    have t11 : f_L_total_N (11 : Int32) imT imdP indP imdS imdB imdO imdR imdA indA mP nP mS mB mO mR mA nA mH hs = some (zL (v 1883)) := n_total h R hH (a := 11) (by omega) (by omega)
    have t12 : f_L_total_N (12 : Int32) imT imdP indP imdS imdB imdO imdR imdA indA mP nP mS mB mO mR mA nA mH hs = some (zL (v 1884)) := n_total h R hH (a := 12) (by omega) (by omega)
    have t2 : f_L_total_N (2 : Int32) imT imdP indP imdS imdB imdO imdR imdA indA mP nP mS mB mO mR mA nA mH hs = some (zL (v 1877)) := n_total h R hH (a := 2) (by omega) (by omega)
    have t10 : f_L_total_N (10 : Int32) imT imdP indP imdS imdB imdO imdR imdA indA mP nP mS mB mO mR mA nA mH hs = some (zL (openC v)) := n_total h R hH (a := 10) (by omega) (by omega)
    obtain rfl : s = (v 1886).toNat := by omega
    obtain ⟨-, -, q3, q4⟩ := b_sums h
    rw [q3, q4]
    unfold f_L_isBilled_L72
    rw [t14, bd1_s, y_i, if_pos (by rw [z_le (by omega) (by omega) (by omega) (by omega)]; omega), t11, bd1_s, t12, bd1_s, y_sub, if_pos (lg_cmp_self _), t2, bd1_s, if_pos (lg_cmp_self _), t10, bd1_s, if_pos (lg_cmp_self _), if_pos (lg_cmp_self _), bd1_s, if_pos (lg_cmp_self _)]
  | succ n ih =>
    intro fu s hsn hf
    obtain ⟨fu, rfl⟩ : ∃ m, fu = m + 1 := ⟨fu - 1, by omega⟩
    obtain ⟨g0, g1, g2, g3⟩ := n_account (imT := imT) (imdP := imdP) (indP := indP) (imdS := imdS) (imdB := imdB) (imdO := imdO) (imdR := imdR) (imdA := imdA) (indA := indA) (mH := mH) (hs := hs) h R (a := (s : Int)) (by omega) (by omega)
    have hia := hIA.2.1 (s : Int) (by omega) (by omega)
    have h6 := h.1.2.2.2.2.2.2.2 (s : Int) (by omega) (by omega)
    have gf := n_find (imT := imT) (imdP := imdP) (indP := indP) (imdS := imdS) (imdB := imdB) (imdO := imdO) (imdR := imdR) (imdA := imdA) (indA := indA) (mH := mH) (hs := hs) h R (a := v (1811 + (s : Int))) (d := v (1827 + (s : Int))) hia.1.1 h6 hia.2.1 hia.2.2
    rw [b_acc h (by omega) (by omega)] at gf
    have i1 := ih fu (s + 1) (by omega) (by omega)
    rw [sumR_last, sumR_last, Int.zero_add] at i1
    unfold f_L_isBilled_L72
    rw [t14, bd1_s, y_i, if_neg (by rw [z_le (by omega) (by omega) (by omega) (by omega)]; omega)]
    rw [show (2 : Int32) = zI 2 from rfl, g2, bd1_s, lt_eq, show (3 : Int32) = zI 3 from rfl, g3, bd1_s, lt_eq, show (0 : Int32) = zI 0 from rfl, g0, bd1_s, show (1 : Int32) = zI 1 from rfl, g1, bd1_s, y_i, y_i, gf, bd1_s, if_pos rfl, lt_eq, y_add, y_add, z_add, show (s : Int) + 1 = ((s + 1 : Nat) : Int) by omega]
    exact i1
theorem b_loop1 (h : WF v c H) (R : RW mP nP mS mB mO mR mA nA v) (hH : HR c H mH hs) : ∀ (n fu s : Nat), s + n = (v 1881).toNat → n < fu → f_L_isBilled_L10 imT imdP indP imdS imdB imdO imdR imdA indA mP nP mS mB mO mR mA nA mH hs fu (zL (sumR (fun b => v (515 + b)) s 0)) (zL (sumR (fun b => v (523 + b)) s 0)) (zL (sumR (fun b => opOf v b) s 0)) (zI s) = some 1 := by
  have hIB := h.1.1.2.1
  have hIO := h.1.1.2.2.1
  have hb := hIB.1
  have t8 : f_L_total_N (8 : Int32) imT imdP indP imdS imdB imdO imdR imdA indA mP nP mS mB mO mR mA nA mH hs = some (zL (v 1881)) := n_total h R hH (a := 8) (by omega) (by omega)
  have hT := h.1.2.1
  intro n
  induction n with
  | zero =>
    intro fu s hsn hf
    obtain ⟨fu, rfl⟩ : ∃ m, fu = m + 1 := ⟨fu - 1, by omega⟩
    obtain rfl : s = (v 1881).toNat := by omega
    obtain ⟨q1, q2, -, -⟩ := b_sums h
    have ha := h.1.1.2.2.2.1.1
    rw [q1, q2, opOf_sum hIO hb]
    unfold f_L_isBilled_L10
    rw [t8, bd1_s, y_i, if_pos (by rw [z_le (by omega) (by omega) (by omega) (by omega)]; omega)]
    exact b_loop2 (imT := imT) (imdP := imdP) (indP := indP) (imdS := imdS) (imdB := imdB) (imdO := imdO) (imdR := imdR) (imdA := imdA) (indA := indA) (mH := mH) (hs := hs) h R hH (v 1886).toNat fuel 0 (by omega) (fuel_gt (by omega))
  | succ n ih =>
    intro fu s hsn hf
    obtain ⟨fu, rfl⟩ : ∃ m, fu = m + 1 := ⟨fu - 1, by omega⟩
    obtain ⟨g1, g2, g3⟩ := n_boat (imT := imT) (imdP := imdP) (indP := indP) (imdS := imdS) (imdB := imdB) (imdO := imdO) (imdR := imdR) (imdA := imdA) (indA := indA) (mH := mH) (hs := hs) h R (a := (s : Int)) (by omega) (by omega)
    have hg := hIB.2 (s : Int) (by omega) (by omega)
    have ho := opOf_b hIO (s : Int)
    have i1 := ih fu (s + 1) (by omega) (by omega)
    rw [sumR_last, sumR_last, sumR_last, Int.zero_add] at i1
    unfold f_L_isBilled_L10
    rw [t8, bd1_s, y_i, if_neg (by rw [z_le (by omega) (by omega) (by omega) (by omega)]; omega)]
    rw [show (1 : Int32) = zI 1 from rfl, g1, bd1_s, lt_eq, show (2 : Int32) = zI 2 from rfl, g2, bd1_s, lt_eq, show (3 : Int32) = zI 3 from rfl, g3, bd1_s, lt_eq, lt_eq, z_l (by omega) (by omega), z_l (by omega) (by omega), z_l (by omega) (by omega), y_add, y_add, y_add, z_add, show (s : Int) + 1 = ((s + 1 : Nat) : Int) by omega]
    exact i1
theorem w_isBilled (hI : LQ mP nP mS mB mO mR mA nA mH hs) : f_L_isBilled imT imdP indP imdS imdB imdO imdR imdA indA mP nP mS mB mO mR mA nA mH hs = some 1 := by
  obtain ⟨v, c, H, h, R, hH⟩ := hI
  have hb := h.1.1.2.1.1
  exact b_loop1 (imT := imT) (imdP := imdP) (indP := indP) (imdS := imdS) (imdB := imdB) (imdO := imdO) (imdR := imdR) (imdA := imdA) (indA := indA) (mH := mH) (hs := hs) h R hH (v 1881).toNat fuel 0 (by omega) (fuel_gt (by omega))
/-- two plants with the same numbers forecast alike, whatever lies in their trials -/
theorem w_massAfter {jmT jmdP : Mem} {jndP : MemL} {jmdS jmdB jmdO jmdR jmdA : Mem} {jndA : MemL} (hI : LQ mP nP mS mB mO mR mA nA mH hs) (w1 : Int32) : ∃ r : Int32, Ev (f_L_massAfter w1 imT imdP indP imdS imdB imdO imdR imdA indA mP nP mS mB mO mR mA nA mH hs) (fun o => o.1 = r) ∧ Ev (f_L_massAfter w1 jmT jmdP jndP jmdS jmdB jmdO jmdR jmdA jndA mP nP mS mB mO mR mA nA mH hs) (fun o => o.1 = r) := by
  obtain ⟨v, c, H, h, R, hH⟩ := hI
  obtain ⟨mM, nM, hM⟩ := MS_ex v H h.2.1.2
  obtain ⟨a, a0, a1, ea⟩ := z_ex w1
  subst ea
  obtain ⟨k, cd, r, hk, e8, e9⟩ := t_massAfter (imT := imT) (imdP := imdP) (indP := indP) (imdS := imdS) (imdB := imdB) (imdO := imdO) (imdR := imdR) (imdA := imdA) (indA := indA) (mH := mH) (hs := hs) (mP := mP) (nP := nP) (mS := mS) (mB := mB) (mO := mO) (mR := mR) (mA := mA) (nA := nA) (mM := mM) (nM := nM) h R hM a0 a1
  obtain ⟨k', cd', r', hk', e8', e9'⟩ := t_massAfter (imT := jmT) (imdP := jmdP) (indP := jndP) (imdS := jmdS) (imdB := jmdB) (imdO := jmdO) (imdR := jmdR) (imdA := jmdA) (indA := jndA) (mH := mH) (hs := hs) (mP := mP) (nP := nP) (mS := mS) (mB := mB) (mO := mO) (mR := mR) (mA := mA) (nA := nA) (mM := mM) (nM := nM) h R hM a0 a1
  obtain ⟨⟨k0, r0, d1, d2, d3, d4, d5, d6, d7, d8⟩, e8, q1, q2⟩ := e8
  obtain ⟨⟨k1, r1, g1, g2, g3, g4, g5, g6, g7, g8⟩, e8', q1', q2'⟩ := e8'
  obtain ⟨o9, e9, m1, m2, -⟩ := e9
  obtain ⟨o9', e9', m1', m2', -⟩ := e9'
  obtain rfl : o9 = o9' := Option.some.inj (e9.symm.trans e9')
  dsimp only at q1 q2 q1' q2'
  subst q1
  subst q1'
  have hcd : zI cd = zI cd' := m1.symm.trans m1'
  unfold f_L_massAfter
  rw [e8, e8']
  rcases hk with ⟨rfl, rfl⟩ | ⟨rfl, rfl⟩
  · rcases hk' with ⟨rfl, rfl⟩ | ⟨rfl, rfl⟩
    · exact ⟨r0, Ev_some rfl, Ev_some (((q2' rfl).trans (m2' rfl).symm).trans ((m2 rfl).trans (q2 rfl).symm))⟩
    · exact absurd hcd (by decide)
  · rcases hk' with ⟨rfl, rfl⟩ | ⟨rfl, rfl⟩
    · exact absurd hcd (by decide)
    · exact ⟨-2000002, Ev_some rfl, Ev_some rfl⟩
theorem a_receiptV (hI : LQ mP nP mS mB mO mR mA nA mH hs) (w1 w2 : Int32) : ∃ r : Int32, f_L_receipt w1 w2 imT imdP indP imdS imdB imdO imdR imdA indA mP nP mS mB mO mR mA nA mH hs = some r := by
  obtain ⟨r, e, -⟩ := a_receipt (imT := imT) (imdP := imdP) (indP := indP) (imdS := imdS) (imdB := imdB) (imdO := imdO) (imdR := imdR) (imdA := imdA) (indA := indA) (mH := mH) (hs := hs) (mP := mP) (nP := nP) (mS := mS) (mB := mB) (mO := mO) (mR := mR) (mA := mA) (nA := nA) hI w1 w2
  exact ⟨r, e⟩
theorem a_totalV (hI : LQ mP nP mS mB mO mR mA nA mH hs) {a : Int} (a0 : 0 ≤ a) (a15 : a ≤ 15) : ∃ r : Int64, f_L_total_N (zI a) imT imdP indP imdS imdB imdO imdR imdA indA mP nP mS mB mO mR mA nA mH hs = some r := by
  obtain ⟨v, c, H, h, R, hH⟩ := hI
  exact ⟨_, n_total h R hH a0 a15⟩
end
