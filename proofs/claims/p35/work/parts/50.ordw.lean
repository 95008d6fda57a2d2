/-! writes of the orders' rows -/
theorem openC_cg {v v' : VI} (e : v' 1882 = v 1882) (hb : 0 ≤ v 1882 ∧ v 1882 ≤ 200) (h : ∀ o : Int, 0 ≤ o → o < v 1882 → v' (1531 + o) = v (1531 + o)) : openC v' = openC v := by
  unfold openC
  rw [e]
  exact cntZ_cg fun j hj => by show v' (1531 + j) = 0 ↔ v (1531 + j) = 0; rw [h j (by omega) (by omega)]
theorem nthZ_cg {f g : Int → Int} : ∀ (n : Nat) (i : Int), (∀ j : Nat, j < n → (f j = 0 ↔ g j = 0)) → nthZ f n i = nthZ g n i
  | 0, _, _ => rfl
  | n + 1, i, h => by
    rw [nthZ_succ, nthZ_succ, nthZ_cg n i (fun j hj => h j (by omega)), cntZ_cg (f := f) (g := g) (n := n) (fun j hj => h j (by omega))]
    by_cases c : f n = 0 ∧ cntZ g n = i
    · rw [if_pos c, if_pos ⟨(h n (by omega)).mp c.1, c.2⟩]
    · rw [if_neg c, if_neg (fun q => c ⟨(h n (by omega)).mpr q.1, q.2⟩)]
theorem ordN_cg {v v' : VI} (e : v' 1882 = v 1882) (hb : 0 ≤ v 1882 ∧ v 1882 ≤ 200) (h : ∀ o : Int, 0 ≤ o → o < v 1882 → v' (1531 + o) = v (1531 + o)) (i : Int) : ordN v' i = ordN v i := by
  unfold ordN
  rw [e]
  exact nthZ_cg _ i fun j hj => by show v' (1531 + j) = 0 ↔ v (1531 + j) = 0; rw [h j (by omega) (by omega)]
theorem RO.cg {mO : Mem} {v v' : VI} (h : RO mO v) (hb : 0 ≤ v 1882 ∧ v 1882 ≤ 200) (e1 : v' 1882 = v 1882) (e2 : ∀ j : Int, 531 ≤ j → j < 1731 → v' j = v j) : RO mO v' := by
  obtain ⟨h1, h2, h3, h4, h5, h6, h7, h8, h9⟩ := h
  have eo := openC_cg e1 hb (fun o q1 q2 => e2 _ (by omega) (by omega))
  refine ⟨by rw [e1]; exact h1, by rw [eo]; exact h2, h3.cg fun k q1 q2 => e2 _ (by omega) (by omega), h4.cg fun k q1 q2 => e2 _ (by omega) (by omega), h5.cg fun k q1 q2 => e2 _ (by omega) (by omega), h6.cg fun k q1 q2 => e2 _ (by omega) (by omega), h7.cg fun k q1 q2 => e2 _ (by omega) (by omega), h8.cg fun k q1 q2 => e2 _ (by omega) (by omega), fun i q1 q2 => ?_⟩
  rw [eo] at q2
  rw [ordN_cg e1 hb (fun o a1 a2 => e2 _ (by omega) (by omega))]
  exact h9 i q1 q2
theorem RO.givw {mO : Mem} {v : VI} (h : RO mO v) (hb : 0 ≤ v 1882 ∧ v 1882 ≤ 200) {o : Int} (x : Int) (o1 : 0 ≤ o) (o2 : o < 200) : RO (wrI mO 4 (upd (mO 4) (zI o).toNatClampNeg (zI x))) (upV v (931 + o) x) := by
  obtain ⟨h1, h2, h3, h4, h5, h6, h7, h8, h9⟩ := h
  have e1 : upV v (931 + o) x 1882 = v 1882 := upV_ne _ _ (by omega)
  have es : ∀ k : Int, 0 ≤ k → k < v 1882 → upV v (931 + o) x (1531 + k) = v (1531 + k) := fun k q1 q2 => upV_ne _ _ (by omega)
  unfold RO
  rw [e1, openC_cg e1 hb es, wrI_same, wrI_ne _ _ (by decide), wrI_ne _ _ (by decide), wrI_ne _ _ (by decide), wrI_ne _ _ (by decide), wrI_ne _ _ (by decide), wrI_ne _ _ (by decide), wrI_ne _ _ (by decide), wrI_ne _ _ (by decide)]
  refine ⟨h1, h2, h3.cg fun k q1 q2 => upV_ne _ _ (by omega), h4.cg fun k q1 q2 => upV_ne _ _ (by omega), (h5.wr o1 o2 (by omega) x).cg fun k q1 q2 => ?_, h6.cg fun k q1 q2 => upV_ne _ _ (by omega), h7.cg fun k q1 q2 => upV_ne _ _ (by omega), h8.cg fun k q1 q2 => upV_ne _ _ (by omega), fun i q1 q2 => ?_⟩
  · unfold upV
    by_cases e : k = o
    · rw [if_pos e, if_pos (by omega)]
    · rw [if_neg e, if_neg (by omega)]
  · rw [ordN_cg e1 hb es]; exact h9 i q1 q2
theorem RO.houw {mO : Mem} {v : VI} (h : RO mO v) (hb : 0 ≤ v 1882 ∧ v 1882 ≤ 200) {o : Int} (x : Int) (o1 : 0 ≤ o) (o2 : o < 200) : RO (wrI mO 5 (upd (mO 5) (zI o).toNatClampNeg (zI x))) (upV v (1131 + o) x) := by
  obtain ⟨h1, h2, h3, h4, h5, h6, h7, h8, h9⟩ := h
  have e1 : upV v (1131 + o) x 1882 = v 1882 := upV_ne _ _ (by omega)
  have es : ∀ k : Int, 0 ≤ k → k < v 1882 → upV v (1131 + o) x (1531 + k) = v (1531 + k) := fun k q1 q2 => upV_ne _ _ (by omega)
  unfold RO
  rw [e1, openC_cg e1 hb es, wrI_same, wrI_ne _ _ (by decide), wrI_ne _ _ (by decide), wrI_ne _ _ (by decide), wrI_ne _ _ (by decide), wrI_ne _ _ (by decide), wrI_ne _ _ (by decide), wrI_ne _ _ (by decide), wrI_ne _ _ (by decide)]
  refine ⟨h1, h2, h3.cg fun k q1 q2 => upV_ne _ _ (by omega), h4.cg fun k q1 q2 => upV_ne _ _ (by omega), h5.cg fun k q1 q2 => upV_ne _ _ (by omega), (h6.wr o1 o2 (by omega) x).cg fun k q1 q2 => ?_, h7.cg fun k q1 q2 => upV_ne _ _ (by omega), h8.cg fun k q1 q2 => upV_ne _ _ (by omega), fun i q1 q2 => ?_⟩
  · unfold upV
    by_cases e : k = o
    · rw [if_pos e, if_pos (by omega)]
    · rw [if_neg e, if_neg (by omega)]
  · rw [ordN_cg e1 hb es]; exact h9 i q1 q2
theorem RO.seqw {mO : Mem} {v : VI} (h : RO mO v) (f : Nat → Int32) : RO (wrI mO 9 f) v := by
  obtain ⟨h1, h2, h3, h4, h5, h6, h7, h8, h9⟩ := h
  unfold RO
  rw [wrI_ne _ _ (by decide), wrI_ne _ _ (by decide), wrI_ne _ _ (by decide), wrI_ne _ _ (by decide), wrI_ne _ _ (by decide), wrI_ne _ _ (by decide), wrI_ne _ _ (by decide), wrI_ne _ _ (by decide), wrI_ne _ _ (by decide)]
  exact ⟨h1, h2, h3, h4, h5, h6, h7, h8, h9⟩
/-- where close stands at the i-th open order -/
def CloI (v v' : VI) (r : Int) (M0 : Mem) (i : Int) (M : Mem) : Prop := (∀ j : Nat, j ≠ 8 → M j = M0 j) ∧ (∀ q : Int, 0 ≤ q → q < (if i ≤ r then i else i - 1) → M 8 (zI q).toNatClampNeg = zI (ordN v' q)) ∧ (∀ q : Int, i ≤ q → q < openC v → M 8 (zI q).toNatClampNeg = zI (ordN v q))
theorem s_close21 {v v' : VI} {M0 : Mem} {o : Nat} (hb : 0 ≤ v 1882 ∧ v 1882 ≤ 200) (h20 : openC v ≤ 20) (ho : (o : Int) < v 1882) (hz : v (1531 + o) = 0) (h10 : M0 1 0 = zI (openC v)) (hv' : ∀ q : Int, 0 ≤ q → q < openC v - 1 → ordN v' q = if q < cntZ (stF v) o then ordN v q else ordN v (q + 1)) : ∀ (n fu : Nat) (i : Int) (M : Mem), 0 ≤ i → i + n = openC v → n < fu → CloI v v' (cntZ (stF v) o) M0 i M →
    Ev (f_X3_close_L21 (zI o) fu (zI (if i ≤ cntZ (stF v) o then i else i - 1)) (zI i) M) (fun M' => M' 1 0 = zI (openC v - 1) ∧ (∀ j : Nat, j ≠ 8 → j ≠ 1 → M' j = M0 j) ∧ (∀ q : Int, 0 ≤ q → q < openC v - 1 → M' 8 (zI q).toNatClampNeg = zI (ordN v' q))) := by
  have hr0 := (cntZ_le (stF v) o).1
  have hr1 : cntZ (stF v) o < openC v := cntZ_lt (stF v) (n := o) (m := (v 1882).toNat) (by omega) hz
  intro n
  induction n with
  | zero =>
    intro fu i M h0 hn hf hC
    obtain ⟨fu, rfl⟩ : ∃ m, fu = m + 1 := ⟨fu - 1, by omega⟩
    obtain ⟨C1, C2, C3⟩ := hC
    have hM1 : M 1 0 = zI (openC v) := by rw [C1 1 (by decide)]; exact h10
    rw [if_neg (by omega)] at C2 ⊢
    simp (disch := omega) only [f_X3_close_L21, z_c1, z_add, z_sub, z_neg, y_neg, z_mul, z_div, z_l, y_i, y_add, y_sub, y_mul, y_div, z_lt, z_le, z_eq, y_c1, y_c2, y_c3, y_c4, y_c5, z_gi, bd1_s, bd2_s, mul30, z_ofNat, hM1]
    rw [if_pos (by omega)]
    refine Ev_lt (Ev_some ⟨?_, fun j j8 j1 => ?_, fun q q1 q2 => ?_⟩)
    · rw [wrI_same, show i - 1 = openC v - 1 by omega]
    · rw [wrI_ne _ _ j1]; exact C1 j j8
    · rw [wrI_ne _ _ (by decide)]; exact C2 q q1 (by omega)
  | succ n ih =>
    intro fu i M h0 hn hf hC
    obtain ⟨fu, rfl⟩ : ∃ m, fu = m + 1 := ⟨fu - 1, by omega⟩
    obtain ⟨C1, C2, C3⟩ := hC
    have hM1 : M 1 0 = zI (openC v) := by rw [C1 1 (by decide)]; exact h10
    have hM8 := C3 i (Int.le_refl _) (by omega)
    obtain ⟨a, a1, a2, a3, a4⟩ := nthZ_in (stF v) (v 1882).toNat i h0 (by show i < openC v; omega)
    have a2' : ordN v i = a := a2
    rw [a2'] at hM8
    simp (disch := omega) only [f_X3_close_L21, f_X3_close_b57, z_c1, z_add, z_sub, z_neg, y_neg, z_mul, z_div, z_l, y_i, y_add, y_sub, y_mul, y_div, z_lt, z_le, z_eq, y_c1, y_c2, y_c3, y_c4, y_c5, z_gi, bd1_s, bd2_s, mul30, z_ofNat, hM1, hM8]
    rw [if_neg (by omega)]
    by_cases c : (a : Int) = o
    · have c2 : a = o := by omega
      rw [if_pos c, lt_eq]
      subst c2
      rw [if_pos (by omega)]
      have := ih fu (i + 1) M (by omega) (by omega) (by omega) ⟨C1, fun q q1 q2 => C2 q q1 (by rw [if_neg (by omega)] at q2; rw [if_pos (by omega)]; omega), fun q q1 q2 => C3 q (by omega) q2⟩
      rw [if_neg (by omega), show i + 1 - 1 = i by omega] at this
      exact this
    · rw [if_neg c]
      have hir : i ≠ cntZ (stF v) o := fun q => by
        have := nthZ_of (stF v) (v 1882).toNat o (by omega) hz
        rw [← q] at this
        exact c (a2.symm.trans this)
      have hk : 0 ≤ (if i ≤ cntZ (stF v) o then i else i - 1) ∧ (if i ≤ cntZ (stF v) o then i else i - 1) < 20 := by split <;> omega
      have hval : ordN v' (if i ≤ cntZ (stF v) o then i else i - 1) = a := by
        by_cases q : i ≤ cntZ (stF v) o
        · rw [if_pos q, hv' i h0 (by omega), if_pos (by omega)]; exact a2
        · rw [if_neg q, hv' (i - 1) (by omega) (by omega), if_neg (by omega), show i - 1 + 1 = i by omega]; exact a2
      have e1 : (if i ≤ cntZ (stF v) o then i else i - 1) + 1 = (if i + 1 ≤ cntZ (stF v) o then i + 1 else i + 1 - 1) := by
        by_cases q : i ≤ cntZ (stF v) o
        · rw [if_pos q, if_pos (by omega)]
        · rw [if_neg q, if_neg (by omega)]; omega
      have e2 : (if i ≤ cntZ (stF v) o then i else i - 1) ≤ i := by split <;> omega
      generalize (if i ≤ cntZ (stF v) o then i else i - 1) = k at hk hval e1 e2 C2 ⊢
      refine Ev_lt ?_
      rw [e1, lt_eq, lt_eq]
      refine ih fu (i + 1) _ (by omega) (by omega) (by omega) ⟨fun j j8 => ?_, fun q q1 q2 => ?_, fun q q1 q2 => ?_⟩
      · rw [wrI_ne _ _ j8]; exact C1 j j8
      · rw [← e1] at q2
        rw [wrI_same, upd_rd _ _ hk.1 (by omega) q1 (by omega)]
        by_cases q3 : q = k
        · rw [if_pos q3, q3, hval]
        · rw [if_neg q3]; exact C2 q q1 (by omega)
      · rw [wrI_same, upd_rd _ _ hk.1 (by omega) (by omega) (by omega), if_neg (by omega)]
        exact C3 q (by omega) q2
theorem s_close {mO : Mem} {v : VI} (h : RO mO v) (hb : 0 ≤ v 1882 ∧ v 1882 ≤ 200) (h20 : openC v ≤ 20) {o : Int} (o1 : 0 ≤ o) (o2 : o < v 1882) (hz : v (1531 + o) = 0) {st : Int} (hst : st ≠ 0) : Ev (f_X3_close (zI o) (zI st) mO) (fun M' => RO M' (upV v (1531 + o) st) ∧ M' 9 = mO 9) := by
  obtain ⟨o, rfl⟩ : ∃ n : Nat, o = n := ⟨o.toNat, by omega⟩
  have hho := s_hasO h hb (a := o) (by omega) (by omega)
  rw [if_pos ⟨o1, o2⟩] at hho
  obtain ⟨g1, g2, g3, g4, g5, g6, g7, g8, g9⟩ := h
  have e1882 : upV v (1531 + o) st 1882 = v 1882 := upV_ne _ _ (by omega)
  have es : ∀ j : Int, j ≠ o → stF (upV v (1531 + o) st) j = stF v j := fun j q => upV_ne _ _ (by omega)
  have es0 : stF (upV v (1531 + o) st) o ≠ 0 := by show upV v (1531 + o) st (1531 + o) ≠ 0; rw [upV_same]; exact hst
  have eo : openC (upV v (1531 + o) st) = openC v - 1 := by
    unfold openC
    rw [e1882, cntZ_up (f := stF v) (o := o) hz es0 es, if_pos (by omega)]
  have hv' : ∀ q : Int, 0 ≤ q → q < openC v - 1 → ordN (upV v (1531 + o) st) q = if q < cntZ (stF v) o then ordN v q else ordN v (q + 1) := fun q q1 q2 => by
    unfold ordN
    rw [e1882]
    exact nthZ_up (f := stF v) (o := o) hz es0 es (by omega) q1 q2
  have hr0 := (cntZ_le (stF v) o).1
  unfold f_X3_close
  rw [hho, bd1_s, if_neg (by decide)]
  simp (disch := omega) only [z_gi, z_c0]
  refine Ev_lt ?_
  have hm := s_close21 (M0 := wrI mO 7 (upd (mO 7) (zI o).toNatClampNeg (zI st))) hb h20 o2 hz (by rw [wrI_ne _ _ (by decide)]; exact g2) hv' (openC v).toNat fuel 0 (wrI mO 7 (upd (mO 7) (zI o).toNatClampNeg (zI st))) (by omega) (by have := openC_0 v; omega) (fuel_gt (by omega)) ⟨fun _ _ => rfl, fun q q1 q2 => by rw [if_pos (by omega)] at q2; omega, fun q q1 q2 => by rw [wrI_ne _ _ (by decide)]; exact g9 q q1 q2⟩
  rw [if_pos (by omega)] at hm
  refine Ev_mono hm (fun M' hM' => ?_)
  obtain ⟨k1, k2, k3⟩ := hM'
  have kk : ∀ j : Nat, j ≠ 8 → j ≠ 1 → j ≠ 7 → M' j = mO j := fun j a b c => by rw [k2 j a b, wrI_ne _ _ c]
  unfold RO
  rw [e1882, eo, k1, kk 0 (by decide) (by decide) (by decide), kk 2 (by decide) (by decide) (by decide), kk 3 (by decide) (by decide) (by decide), kk 4 (by decide) (by decide) (by decide), kk 5 (by decide) (by decide) (by decide), kk 6 (by decide) (by decide) (by decide), kk 9 (by decide) (by decide) (by decide), k2 7 (by decide) (by decide), wrI_same]
  refine ⟨⟨g1, rfl, g3.cg fun k q1 q2 => upV_ne _ _ (by omega), g4.cg fun k q1 q2 => upV_ne _ _ (by omega), g5.cg fun k q1 q2 => upV_ne _ _ (by omega), g6.cg fun k q1 q2 => upV_ne _ _ (by omega), g7.cg fun k q1 q2 => upV_ne _ _ (by omega), (g8.wr o1 (by omega) (by omega) st).cg fun k q1 q2 => ?_, k3⟩, rfl⟩
  unfold upV
  by_cases e : k = o
  · rw [if_pos e, if_pos (by omega)]
  · rw [if_neg e, if_neg (by omega)]
/-- what a delivery of the mass m leaves of the order o -/
def delV (v : VI) (o m : Int) : VI := if v (931 + o) + m < v (731 + o) then upV v (931 + o) (v (931 + o) + m) else upV (upV v (931 + o) (v (931 + o) + m)) (1531 + o) 1
theorem s_deliver {mO : Mem} {v : VI} (h : RO mO v) (hI : IOr v) {o m : Int} (o1 : 0 ≤ o) (o2 : o < v 1882) (hz : v (1531 + o) = 0) (m0 : 0 ≤ m) (m1 : m ≤ 40000) : Ev (f_X3_deliver (zI o) (zI m) mO) (fun M' => RO M' (delV v o m) ∧ M' 9 = mO 9) := by
  have hb := hI.1
  have hs := hI.2.2 o o1 (by omega)
  have hs2 := hs.2.2.2.2.2 o2
  have hho := s_hasO h hb (a := o) (by omega) (by omega)
  rw [if_pos ⟨o1, o2⟩] at hho
  have hg := h.giv o1 (show o < 200 by omega)
  have hw := h.givw hb (o := o) (v (931 + o) + m) o1 (by omega)
  have hg1 := hw.giv o1 (show o < 200 by omega)
  rw [upV_same] at hg1
  have hg2 := hw.wan o1 (show o < 200 by omega)
  rw [upV_ne _ _ (by omega)] at hg2
  have e9 : wrI mO 4 (upd (mO 4) (zI o).toNatClampNeg (zI (v (931 + o) + m))) 9 = mO 9 := wrI_ne _ _ (by decide)
  unfold f_X3_deliver
  rw [hho, bd1_s, if_neg (by decide)]
  simp (disch := omega) only [z_gi, hg, z_add]
  refine Ev_lt ?_
  generalize wrI mO 4 (upd (mO 4) (zI o).toNatClampNeg (zI (v (931 + o) + m))) = M1 at hw hg1 hg2 e9 ⊢
  simp (disch := omega) only [z_gi, hg1, hg2, z_lt]
  unfold delV
  by_cases c : v (931 + o) + m < v (731 + o)
  · rw [if_pos c, if_pos c]; exact Ev_some ⟨hw, e9⟩
  · rw [if_neg c, if_neg c]
    have e1 : upV v (931 + o) (v (931 + o) + m) 1882 = v 1882 := upV_ne _ _ (by omega)
    have eo : openC (upV v (931 + o) (v (931 + o) + m)) = openC v := openC_cg e1 hb (fun k q1 q2 => upV_ne _ _ (by omega))
    refine Ev_bd1 (s_close hw (by rw [e1]; exact hb) (by rw [eo]; exact hI.2.1) o1 (by rw [e1]; exact o2) (by rw [upV_ne _ _ (by omega)]; exact hz) (st := 1) (by omega)) (fun M' hM' => ?_)
    exact Ev_some ⟨hM'.1, hM'.2.trans e9⟩
/-- the open orders from m on have an hour less -/
def expV (v : VI) (m : Int) : VI := fun j => if 1131 + m ≤ j ∧ j < 1131 + v 1882 ∧ v (j + 400) = 0 then v j - 1 else if 1531 + m ≤ j ∧ j < 1531 + v 1882 ∧ v j = 0 ∧ v (j - 400) = 1 then 2 else v j
theorem expV_out {v : VI} {m j : Int} (h : ¬ (1131 + m ≤ j ∧ j < 1131 + v 1882)) (h2 : ¬ (1531 + m ≤ j ∧ j < 1531 + v 1882)) : expV v m j = v j := by
  unfold expV; rw [if_neg (by omega), if_neg (by omega)]
theorem s_expire7 {v : VI} (hI : IOr v) : ∀ (n fu m : Nat) (mO : Mem), (m : Int) ≤ v 1882 → cntZ (stF v) m = n → n < fu → RO mO (expV v m) →
    Ev (f_X3_expire_L7 fu (zI (n - 1)) mO) (fun M' => RO M' (expV v 0) ∧ M' 9 = mO 9) := by
  have hb := hI.1
  intro n
  induction n with
  | zero =>
    intro fu m mO hm hc hf h
    obtain ⟨fu, rfl⟩ : ∃ m, fu = m + 1 := ⟨fu - 1, by omega⟩
    simp (disch := omega) only [f_X3_expire_L7, z_c0, z_c1, z_c2, z_add, z_sub, z_neg, y_neg, z_mul, z_div, z_l, y_i, y_add, y_sub, y_mul, y_div, z_lt, z_le, z_eq, y_c1, y_c2, y_c3, y_c4, y_c5, z_gi, bd1_s, bd2_s, mul30, z_ofNat]
    rw [if_pos (by omega)]
    have e : ∀ k : Int, 0 ≤ k → k < m → v (1531 + k) ≠ 0 := fun k q1 q2 z => by
      have := cntZ_lt (stF v) (n := k.toNat) (m := m) (by omega) (by show v (1531 + (k.toNat : Int)) = 0; rw [show (k.toNat : Int) = k by omega]; exact z)
      have := (cntZ_le (stF v) k.toNat).1
      omega
    refine Ev_some ⟨h.cg (by rw [expV_out (by omega) (by omega)]; exact hb) (by rw [expV_out (by omega) (by omega), expV_out (by omega) (by omega)]) (fun j q1 q2 => ?_), rfl⟩
    by_cases c1 : 1131 ≤ j ∧ j < 1131 + m
    · have := e (j - 1131) (by omega) (by omega)
      rw [show 1531 + (j - 1131) = j + 400 by omega] at this
      unfold expV
      rw [if_neg (by omega), if_neg (by omega), if_neg (by omega), if_neg (by omega)]
    · by_cases c2 : 1531 ≤ j ∧ j < 1531 + m
      · have := e (j - 1531) (by omega) (by omega)
        rw [show 1531 + (j - 1531) = j by omega] at this
        unfold expV
        rw [if_neg (by omega), if_neg (by omega), if_neg (by omega), if_neg (by omega)]
      · unfold expV
        by_cases c3 : 1131 + (m : Int) ≤ j ∧ j < 1131 + v 1882 ∧ v (j + 400) = 0
        · rw [if_pos (by omega), if_pos c3]
        · rw [if_neg (by omega), if_neg c3]
          by_cases c4 : 1531 + (m : Int) ≤ j ∧ j < 1531 + v 1882 ∧ v j = 0 ∧ v (j - 400) = 1
          · rw [if_pos (by omega), if_pos c4]
          · rw [if_neg (by omega), if_neg c4]
  | succ n ih =>
    intro fu m mO hm hc hf h
    obtain ⟨fu, rfl⟩ : ∃ m, fu = m + 1 := ⟨fu - 1, by omega⟩
    obtain ⟨o, o1, o2, o3, o4⟩ := nthZ_in (stF v) m n (by omega) (by omega)
    have hs := hI.2.2 o (by omega) (by omega)
    have hs2 := hs.2.2.2.2.2 (by omega)
    have hz : v (1531 + o) = 0 := o3
    have hh := hs2.2.2 hz
    have out : ∀ {j : Int}, ¬ (1131 + (m : Int) ≤ j ∧ j < 1131 + v 1882) → ¬ (1531 + (m : Int) ≤ j ∧ j < 1531 + v 1882) → expV v m j = v j := fun a b => expV_out a b
    have eb : 0 ≤ expV v m 1882 ∧ expV v m 1882 ≤ 200 := by rw [out (by omega) (by omega)]; exact hb
    have e1882 : expV v m 1882 = v 1882 := out (by omega) (by omega)
    have ecl : ∀ k : Nat, k ≤ m → cntZ (stF (expV v m)) k = cntZ (stF v) k := fun k hk => cntZ_cg fun j hj => by
      show expV v m (1531 + j) = 0 ↔ v (1531 + j) = 0
      rw [out (by omega) (by omega)]
    have eord : ordN (expV v m) n = o := by
      have := nthZ_of (stF (expV v m)) (v 1882).toNat o (by omega) (by show expV v m (1531 + o) = 0; rw [out (by omega) (by omega)]; exact hz)
      rw [ecl o (by omega), o4] at this
      unfold ordN; rw [e1882]; exact this
    have eopn : openC (expV v m) ≤ openC v := by
      unfold openC
      rw [e1882]
      have g : ∀ k : Nat, (k : Int) ≤ v 1882 → cntZ (stF (expV v m)) k ≤ cntZ (stF v) k := by
        intro k
        induction k with
        | zero => intro _; exact Int.le_refl _
        | succ k ihk =>
          intro hk
          have := ihk (by omega)
          show cntZ _ k + _ ≤ cntZ _ k + _
          by_cases z : stF v k = 0
          · rw [if_pos z]; split <;> omega
          · rw [if_neg z, if_neg]
            · omega
            · show ¬ expV v m (1531 + k) = 0
              have z' : v (1531 + k) ≠ 0 := z
              unfold expV
              rw [if_neg (by omega), if_neg (by omega)]
              exact z'
      exact g _ (by omega)
    have eopn2 : (n : Int) < openC (expV v m) := by
      have := cntZ_lt (stF (expV v m)) (n := o) (m := (v 1882).toNat) (by omega) (by show expV v m (1531 + o) = 0; rw [out (by omega) (by omega)]; exact hz)
      rw [ecl o (by omega), o4] at this
      unfold openC; rw [e1882]; exact this
    have h8 := h.opn (i := n) (by omega) eopn2
    rw [eord] at h8
    have hho := s_hasO h eb (a := o) (by omega) (by omega)
    rw [e1882, if_pos (by omega)] at hho
    have hhou := h.hou (o := o) (by omega) (by omega)
    rw [out (by omega) (by omega)] at hhou
    have hw := h.houw eb (o := o) (v (1131 + o) - 1) (by omega) (by omega)
    have hhw := hw.hou (o := o) (by omega) (by omega)
    rw [upV_same] at hhw
    have e9 : wrI mO 5 (upd (mO 5) (zI o).toNatClampNeg (zI (v (1131 + o) - 1))) 9 = mO 9 := wrI_ne _ _ (by decide)
    have h20 := hI.2.1
    have emid : ∀ k : Int, o < k → k < m → v (1531 + k) ≠ 0 := fun k q1 q2 z => by
      have z' : stF v k.toNat = 0 := by show v (1531 + (k.toNat : Int)) = 0; rw [show (k.toNat : Int) = k by omega]; exact z
      have a := cntZ_lt (stF v) (n := o) (m := k.toNat) (by omega) o3
      have b := cntZ_lt (stF v) (n := k.toNat) (m := m) (by omega) z'
      omega
    have ej : ((n + 1 : Nat) : Int) - 1 = n := by omega
    rw [ej]
    simp (disch := omega) only [f_X3_expire_L7, f_X3_expire_b51, z_c0, z_c1, z_c2, z_add, z_sub, z_neg, y_neg, z_mul, z_div, z_l, y_i, y_add, y_sub, y_mul, y_div, z_lt, z_le, z_eq, y_c1, y_c2, y_c3, y_c4, y_c5, z_gi, bd1_s, bd2_s, mul30, z_ofNat, h8]
    rw [if_neg (by omega)]
    refine Ev_lt ?_
    rw [hho, bd1_s, if_neg (by decide)]
    simp (disch := omega) only [z_gi, hhou, z_sub]
    refine Ev_lt ?_
    generalize wrI mO 5 (upd (mO 5) (zI o).toNatClampNeg (zI (v (1131 + o) - 1))) = M1 at hw hhw e9 ⊢
    simp (disch := omega) only [z_gi, hhw, z_lt, z_add, lt_eq]
    by_cases c : 0 < v (1131 + o) - 1
    · rw [if_pos c]
      have hR : RO M1 (expV v o) := hw.cg (by rw [upV_ne _ _ (by omega)]; exact eb) (by rw [upV_ne _ _ (by omega), e1882, expV_out (by omega) (by omega)]) (fun j q1 q2 => by
        by_cases d : j = 1131 + o
        · subst d
          rw [upV_same]
          unfold expV
          rw [if_pos ⟨by omega, by omega, by rw [show 1131 + (o : Int) + 400 = 1531 + o by omega]; exact hz⟩]
        · rw [upV_ne _ _ d]
          by_cases d1 : 1131 + (o : Int) < j ∧ j < 1131 + m
          · have := emid (j - 1131) (by omega) (by omega)
            rw [show 1531 + (j - 1131) = j + 400 by omega] at this
            unfold expV
            rw [if_neg (by omega), if_neg (by omega), if_neg (by omega), if_neg (by omega)]
          · by_cases d2 : 1531 + (o : Int) ≤ j ∧ j < 1531 + m
            · by_cases d3 : j = 1531 + o
              · subst d3
                unfold expV
                rw [if_neg (by omega), if_neg, if_neg (by omega), if_neg (by omega)]
                rw [show 1531 + (o : Int) - 400 = 1131 + o by omega]; omega
              · have := emid (j - 1531) (by omega) (by omega)
                rw [show 1531 + (j - 1531) = j by omega] at this
                unfold expV
                rw [if_neg (by omega), if_neg (by omega), if_neg (by omega), if_neg (by omega)]
            · unfold expV
              by_cases c3 : 1131 + (m : Int) ≤ j ∧ j < 1131 + v 1882 ∧ v (j + 400) = 0
              · rw [if_pos (by omega), if_pos c3]
              · rw [if_neg (by omega), if_neg c3]
                by_cases c4 : 1531 + (m : Int) ≤ j ∧ j < 1531 + v 1882 ∧ v j = 0 ∧ v (j - 400) = 1
                · rw [if_pos (by omega), if_pos c4]
                · rw [if_neg (by omega), if_neg c4])
      have := ih fu o M1 (by omega) o4 (by omega) hR
      rw [show (n : Int) + -1 = n - 1 by omega]
      exact Ev_mono this (fun M' q => ⟨q.1, q.2.trans e9⟩)
    · rw [if_neg c]
      have eu : upV (expV v m) (1131 + o) (v (1131 + o) - 1) 1882 = v 1882 := by rw [upV_ne _ _ (by omega), e1882]
      have eou : openC (upV (expV v m) (1131 + o) (v (1131 + o) - 1)) = openC (expV v m) := openC_cg (upV_ne _ _ (by omega)) eb (fun k q1 q2 => upV_ne _ _ (by omega))
      refine Ev_bd1 (s_close hw (by rw [eu]; exact hb) (by rw [eou]; omega) (by omega) (by rw [eu]; omega) (by rw [upV_ne _ _ (by omega), out (by omega) (by omega)]; exact hz) (st := 2) (by omega)) (fun M2 hM2 => ?_)
      have hR : RO M2 (expV v o) := hM2.1.cg (by rw [upV_ne _ _ (by omega), eu]; exact hb) (by rw [upV_ne _ _ (by omega), eu, expV_out (by omega) (by omega)]) (fun j q1 q2 => by
        by_cases d0 : j = 1531 + o
        · subst d0
          rw [upV_same]
          unfold expV
          rw [if_neg (by omega), if_pos ⟨by omega, by omega, hz, by rw [show 1531 + (o : Int) - 400 = 1131 + o by omega]; omega⟩]
        · rw [upV_ne _ _ d0]
          by_cases d : j = 1131 + o
          · subst d
            rw [upV_same]
            unfold expV
            rw [if_pos ⟨by omega, by omega, by rw [show 1131 + (o : Int) + 400 = 1531 + o by omega]; exact hz⟩]
          · rw [upV_ne _ _ d]
            by_cases d1 : 1131 + (o : Int) < j ∧ j < 1131 + m
            · have := emid (j - 1131) (by omega) (by omega)
              rw [show 1531 + (j - 1131) = j + 400 by omega] at this
              unfold expV
              rw [if_neg (by omega), if_neg (by omega), if_neg (by omega), if_neg (by omega)]
            · by_cases d2 : 1531 + (o : Int) ≤ j ∧ j < 1531 + m
              · have := emid (j - 1531) (by omega) (by omega)
                rw [show 1531 + (j - 1531) = j by omega] at this
                unfold expV
                rw [if_neg (by omega), if_neg (by omega), if_neg (by omega), if_neg (by omega)]
              · unfold expV
                by_cases c3 : 1131 + (m : Int) ≤ j ∧ j < 1131 + v 1882 ∧ v (j + 400) = 0
                · rw [if_pos (by omega), if_pos c3]
                · rw [if_neg (by omega), if_neg c3]
                  by_cases c4 : 1531 + (m : Int) ≤ j ∧ j < 1531 + v 1882 ∧ v j = 0 ∧ v (j - 400) = 1
                  · rw [if_pos (by omega), if_pos c4]
                  · rw [if_neg (by omega), if_neg c4])
      have := ih fu o M2 (by omega) o4 (by omega) hR
      rw [show (n : Int) + -1 = n - 1 by omega]
      exact Ev_mono this (fun M' q => ⟨q.1, q.2.trans (hM2.2.trans e9)⟩)
theorem s_expire {mO : Mem} {v : VI} (h : RO mO v) (hI : IOr v) : Ev (f_X3_expire mO) (fun M' => RO M' (expV v 0) ∧ M' 9 = mO 9) := by
  have hb := hI.1
  have hc := openC_0 v
  have e : expV v (v 1882) = v := by
    funext j
    unfold expV
    rw [if_neg (by omega), if_neg (by omega)]
  have := s_expire7 hI (openC v).toNat fuel (v 1882).toNat mO (by omega) (by show openC v = _; omega) (fuel_gt (by have := hI.2.1; omega)) (by rw [show ((v 1882).toNat : Int) = v 1882 by omega, e]; exact h)
  unfold f_X3_expire
  rw [h.2.1, z_c1, z_sub, lt_eq]
  rw [show ((openC v).toNat : Int) - 1 = openC v - 1 by omega] at this
  exact this
