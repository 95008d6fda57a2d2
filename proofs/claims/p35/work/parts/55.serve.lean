/-! serving an order, block by block -/
def nxtU (v : VI) (b o : Int) : VI := upV (upV (upV (upV (upV (remV v (oldQ v / 30) (oldQ v % 30)) (931 + o) (v (931 + o) + v (207 + oldQ v))) (515 + b) (v (515 + b) + prF v b (v (207 + oldQ v)) (bandF v))) (523 + b) (v (523 + b) + v (207 + oldQ v))) 1877 (v 1877 + v (207 + oldQ v))) 1883 (v 1883 + prF v b (v (207 + oldQ v)) (bandF v))
def nxtV (v : VI) (b o : Int) : VI := entV (nxtU v b o) b (bandF v) (v (207 + oldQ v)) (prF v b (v (207 + oldQ v)) (bandF v))
def srvS (o b rem0 : Int) : Nat → Int → Int → VI → Int × Int × VI
  | 0, M, P, v => (M, P, v)
  | n + 1, M, P, v => if rem0 ≤ M ∨ oldQ v = -1 then (M, P, v) else srvS o b rem0 n (M + v (207 + oldQ v)) (P + prF v b (v (207 + oldQ v)) (bandF v)) (nxtV v b o)
def SrvI (v0 : VI) (b o d M P : Int) (v : VI) : Prop :=
  v (931 + o) = v0 (931 + o) + M ∧ v (515 + b) = v0 (515 + b) + P ∧ v (523 + b) = v0 (523 + b) + M ∧ v 1877 = v0 1877 + M ∧ v 1883 = v0 1883 + P ∧
  (∀ j : Int, (1811 ≤ j ∧ j < 1875) ∨ j = 1886 → v j = if M = 0 then v0 j else entV v0 b d M P j) ∧
  (∀ j : Int, ¬ (47 ≤ j ∧ j < 52) → ¬ (57 ≤ j ∧ j < 507) → ¬ (1811 ≤ j ∧ j < 1875) → j ≠ 1886 → j ≠ 931 + o → j ≠ 515 + b → j ≠ 523 + b → j ≠ 1877 → j ≠ 1883 → v j = v0 j)
/-- what holds while an order is served -/
def Lp (T : Int) (v0 : VI) (b o d rem0 M P : Int) (v : VI) : Prop := SrvI v0 b o d M P v ∧ IS T v ∧ IA v ∧ 0 ≤ M ∧ 0 ≤ P ∧ M + 200 * blocksF v ≤ 200 * blocksF v0 ∧ P + 199800 * blocksF v ≤ 199800 * blocksF v0 ∧ M ≤ rem0 + 199 ∧ (M = 0 → P = 0)
/-- the fixed part: the plant as the order's turn begins -/
def Fx (T : Int) (v0 : VI) (b o d rem0 : Int) : Prop := IP v0 ∧ IB T v0 ∧ IOr v0 ∧ IA v0 ∧ IS T v0 ∧ (0 ≤ v0 1875 ∧ v0 1875 ≤ 10049) ∧ (0 ≤ o ∧ o < v0 1882) ∧ v0 (1531 + o) = 0 ∧ b = v0 (531 + o) ∧ d = bandF v0 ∧ rem0 = remF v0 o
theorem Fx.b {T : Int} {v0 : VI} {b o d rem0 : Int} (F : Fx T v0 b o d rem0) : 0 ≤ b ∧ b < v0 1881 ∧ v0 1881 ≤ 8 ∧ v0 1882 ≤ 200 ∧ (d = 0 ∨ d = 1) ∧ 0 < rem0 ∧ rem0 = v0 (731 + o) - v0 (931 + o) ∧ 0 ≤ v0 (931 + o) ∧ 1 ≤ v0 (731 + o) ∧ v0 (731 + o) ≤ 9999 := by
  obtain ⟨F1, F2, F3, F4, F5, F6, F7, F8, F9, F10, F11⟩ := F
  have hs := F3.2.2 o F7.1 (by have := F3.1; omega)
  have hs2 := hs.2.2.2.2.2 F7.2
  have h3 := hs2.2.2 F8
  have hb := F3.1
  have hbb := F2.1
  have hd := bandF_b v0
  have : remF v0 o = v0 (731 + o) - v0 (931 + o) := by unfold remF; rw [if_pos (by omega)]
  omega
theorem old_sk {T : Int} {v : VI} (hI : IS T v) (hq : isB v (oldQ v)) (h : oldQ v ≠ -1) : 0 ≤ oldQ v / 30 ∧ oldQ v / 30 < v 1880 ∧ 0 ≤ oldQ v % 30 ∧ oldQ v % 30 < v (47 + oldQ v / 30) ∧ oldQ v = 30 * (oldQ v / 30) + oldQ v % 30 := by
  have hb := hI.1
  obtain ⟨s, k, a, b, c, d, e⟩ := hq.resolve_left h
  have hz := hI.sz (s := s) a (by omega)
  have e1 : oldQ v / 30 = s := by omega
  have e2 : oldQ v % 30 = k := by omega
  rw [e1, e2]; omega
theorem oldQ_isB {T : Int} {v : VI} (hI : IS T v) : isB v (oldQ v) := by
  have hb := hI.1
  have key30 : ∀ (s : Int), 0 ≤ s → s < v 1880 → ∀ (n : Nat) (k best : Int), 0 ≤ k → k + n = v (47 + s) → isB v best → isB v (oldIn v s n k best) := by
    intro s s0 s1 n
    induction n with
    | zero => intro k best _ _ h; exact h
    | succ n ih =>
      intro k best k0 kn h
      have hB1 : isB v (30 * s + k) := Or.inr ⟨s, k, s0, s1, k0, by omega, rfl⟩
      refine ih (k + 1) _ (by omega) (by omega) ?_
      by_cases c : best = -1
      · rw [if_pos c]; exact hB1
      · rw [if_neg c]
        by_cases c2 : v (57 + (30 * s + k)) < v (57 + best)
        · rw [if_pos c2]; exact hB1
        · rw [if_neg c2]; exact h
  have key : ∀ (n : Nat) (s best : Int), 0 ≤ s → s + n = v 1880 → isB v best → isB v (oldOut v n s best) := by
    intro n
    induction n with
    | zero => intro s best _ _ h; exact h
    | succ n ih =>
      intro s best s0 sn h
      have hz := hI.sz s0 (show s < 5 by omega)
      exact ih (s + 1) _ (by omega) (by omega) (key30 s s0 (by omega) _ 0 best (by omega) (by omega) h)
  exact key _ 0 (-1) (by omega) (by omega) (Or.inl rfl)
theorem old_none {T : Int} {v : VI} (hI : IS T v) (h : blocksF v = 0) : oldQ v = -1 := by
  apply Decidable.byContradiction
  intro hn
  have h1 := old_sk hI (oldQ_isB hI) hn
  have := (blocksF_b hI).2.2 (oldQ v / 30) h1.1 h1.2.1
  omega
theorem nxtU_out (v : VI) {b o j : Int} (h1 : ¬ (47 ≤ j ∧ j < 52)) (h2 : ¬ (57 ≤ j ∧ j < 507)) (h3 : j ≠ 931 + o) (h4 : j ≠ 515 + b) (h5 : j ≠ 523 + b) (h6 : j ≠ 1877) (h7 : j ≠ 1883) {T : Int} (hI : IS T v) (hq : oldQ v ≠ -1) : nxtU v b o j = v j := by
  have hs := old_sk hI (oldQ_isB hI) hq
  have hb := hI.1
  have hz := hI.sz hs.1 (show oldQ v / 30 < 5 by omega)
  unfold nxtU
  rw [upV_ne _ _ h7, upV_ne _ _ h6, upV_ne _ _ h5, upV_ne _ _ h4, upV_ne _ _ h3]
  unfold remV
  rw [upV_ne _ _ (by omega), shV_out v (by omega)]
theorem Lp.next {T : Int} {v0 : VI} {b o d rem0 M P : Int} {v : VI} (F : Fx T v0 b o d rem0) (L : Lp T v0 b o d rem0 M P v) (hq : oldQ v ≠ -1) (hM : M < rem0) : Lp T v0 b o d rem0 (M + v (207 + oldQ v)) (P + prF v b (v (207 + oldQ v)) (bandF v)) (nxtV v b o) ∧ blocksF (nxtV v b o) = blocksF v - 1 ∧ (1 ≤ v (207 + oldQ v) ∧ v (207 + oldQ v) ≤ 200) ∧ bandF v = d ∧ prF v b (v (207 + oldQ v)) (bandF v) = prF v0 b (v (207 + oldQ v)) d ∧ (0 ≤ prF v b (v (207 + oldQ v)) (bandF v) ∧ prF v b (v (207 + oldQ v)) (bandF v) ≤ 199800) ∧ IA (nxtU v b o) := by
  have Fb := F.b
  obtain ⟨⟨L1, L2, L3, L4, L5, L6, L7⟩, LS, LA, M0, P0, MB, PB, MR0, MP⟩ := L
  obtain ⟨F1, F2, F3, F4, F5, F6, F7, F8, F9, F10, F11⟩ := F
  have hs := old_sk LS (oldQ_isB LS) hq
  have hb := LS.1
  have hz := LS.sz hs.1 (show oldQ v / 30 < 5 by omega)
  have hblk := LS.blk hs.1 (show oldQ v / 30 < 5 by omega) hs.2.2.1 hs.2.2.2.1
  rw [← hs.2.2.2.2] at hblk
  have hm := hblk.2.1
  have e7 : ∀ j : Int, ¬ (47 ≤ j ∧ j < 52) → ¬ (57 ≤ j ∧ j < 507) → ¬ (1811 ≤ j ∧ j < 1875) → j ≠ 1886 → j ≠ 931 + o → j ≠ 515 + b → j ≠ 523 + b → j ≠ 1877 → j ≠ 1883 → v j = v0 j := L7
  have hband : bandF v = d := by
    rw [F10]; unfold bandF hourF
    rw [e7 1875 (by omega) (by omega) (by omega) (by omega) (by omega) (by omega) (by omega) (by omega) (by omega)]
  have hpr : prF v b (v (207 + oldQ v)) (bandF v) = prF v0 b (v (207 + oldQ v)) d := by
    rw [hband]
    unfold prF
    rw [e7 (507 + b) (by omega) (by omega) (by omega) (by omega) (by omega) (by omega) (by omega) (by omega) (by omega), e7 6 (by omega) (by omega) (by omega) (by omega) (by omega) (by omega) (by omega) (by omega) (by omega), e7 4 (by omega) (by omega) (by omega) (by omega) (by omega) (by omega) (by omega) (by omega) (by omega), e7 5 (by omega) (by omega) (by omega) (by omega) (by omega) (by omega) (by omega) (by omega) (by omega), e7 7 (by omega) (by omega) (by omega) (by omega) (by omega) (by omega) (by omega) (by omega) (by omega)]
  have hpb := prF_b F1 (b := b) (m := v (207 + oldQ v)) (d := d) (by omega) (by omega)
  rw [← hpr] at hpb
  have hpb2 : prF v b (v (207 + oldQ v)) (bandF v) ≤ 199800 := by omega
  have hd : 0 ≤ d ∧ d ≤ 1 := by omega
  have hu : ∀ j : Int, ¬ (47 ≤ j ∧ j < 52) → ¬ (57 ≤ j ∧ j < 507) → j ≠ 931 + o → j ≠ 515 + b → j ≠ 523 + b → j ≠ 1877 → j ≠ 1883 → nxtU v b o j = v j := fun j a1 a2 a3 a4 a5 a6 a7 => nxtU_out v a1 a2 a3 a4 a5 a6 a7 LS hq
  have IAu : IA (nxtU v b o) := LA.cg (hu 1886 (by omega) (by omega) (by omega) (by omega) (by omega) (by omega) (by omega)) (fun j a1 a2 => hu j (by omega) (by omega) (by omega) (by omega) (by omega) (by omega) (by omega))
  have rm : accOf (nxtU v b o) b (bandF v) = -1 → nxtU v b o 1886 < 16 := fun h => acc_room IAu (by omega) (by omega) (by omega) (by omega) h
  have hn : ∀ j : Int, ¬ (1811 ≤ j ∧ j < 1875) → j ≠ 1886 → nxtV v b o j = nxtU v b o j := fun j a1 a2 => entV_out IAu rm ⟨a1, a2⟩
  have hnr : ∀ j : Int, 32 ≤ j → j < 507 → nxtV v b o j = remV v (oldQ v / 30) (oldQ v % 30) j := fun j a1 a2 => by
    rw [hn j (by omega) (by omega)]
    unfold nxtU
    rw [upV_ne _ _ (by omega), upV_ne _ _ (by omega), upV_ne _ _ (by omega), upV_ne _ _ (by omega), upV_ne _ _ (by omega)]
  have hr18 : ∀ j : Int, j = 1880 ∨ j = 1887 ∨ j = 1875 → nxtV v b o j = remV v (oldQ v / 30) (oldQ v % 30) j := fun j a => by
    rw [hn j (by omega) (by omega)]
    unfold nxtU
    rw [upV_ne _ _ (by omega), upV_ne _ _ (by omega), upV_ne _ _ (by omega), upV_ne _ _ (by omega), upV_ne _ _ (by omega)]
  have ISr := LS.rem hs.1 hs.2.1 hs.2.2.1 hs.2.2.2.1
  have e80 : remV v (oldQ v / 30) (oldQ v % 30) 1880 = v 1880 := by unfold remV; rw [upV_ne _ _ (by omega), shV_out v (by omega)]
  have hbl : blocksF (nxtV v b o) = blocksF v - 1 := by
    rw [blocksF_cg (v := remV v (oldQ v / 30) (oldQ v % 30)) (hr18 1880 (Or.inl rfl)) (by omega) (fun s a1 a2 => hnr _ (by omega) (by omega))]
    exact blocksF_rem hs.1 hs.2.1 (by omega) hs.2.2.1 hs.2.2.2.1 (by omega)
  refine ⟨⟨⟨?_, ?_, ?_, ?_, ?_, fun j hj => ?_, fun j a1 a2 a3 a4 a5 a6 a7 a8 a9 => ?_⟩, ISr.cg (hr18 1880 (Or.inl rfl)) (hr18 1887 (Or.inr (Or.inl rfl))) (hr18 1875 (Or.inr (Or.inr rfl))) hnr, ?_, by omega, by omega, by omega, by omega, by omega, by omega⟩, hbl, hm, hband, hpr, ⟨hpb.1, hpb2⟩, IAu⟩
  · rw [hn _ (by omega) (by omega)]; unfold nxtU
    simp (disch := omega) only [upV_ne, upV_same]; omega
  · rw [hn _ (by omega) (by omega)]; unfold nxtU
    simp (disch := omega) only [upV_ne, upV_same]; omega
  · rw [hn _ (by omega) (by omega)]; unfold nxtU
    simp (disch := omega) only [upV_ne, upV_same]; omega
  · rw [hn _ (by omega) (by omega)]; unfold nxtU
    simp (disch := omega) only [upV_ne, upV_same]; omega
  · rw [hn _ (by omega) (by omega)]; unfold nxtU
    simp (disch := omega) only [upV_same]; omega
  · have hu2 : ∀ j : Int, (1811 ≤ j ∧ j < 1875) ∨ j = 1886 → nxtU v b o j = v j := fun j hj => hu j (by omega) (by omega) (by omega) (by omega) (by omega) (by omega) (by omega)
    rw [if_neg (by omega)]
    unfold nxtV
    rw [hband] at rm ⊢
    generalize v (207 + oldQ v) = m at hm ⊢
    generalize prF v b m d = p
    by_cases c : M = 0
    · have ev : ∀ j : Int, (1811 ≤ j ∧ j < 1875) ∨ j = 1886 → nxtU v b o j = v0 j := fun j hj => by rw [hu2 j hj, L6 j hj, if_pos c]
      have hP : P = 0 := MP c
      rw [entV_cg F4 (ev 1886 (Or.inr rfl)) (fun j a1 a2 => ev j (Or.inl ⟨a1, a2⟩)) (ev j hj) (fun h => acc_room F4 (by omega) (by omega) hd.1 hd.2 h), c, hP, Int.zero_add, Int.zero_add]
    · have ev : ∀ j : Int, (1811 ≤ j ∧ j < 1875) ∨ j = 1886 → nxtU v b o j = entV v0 b d M P j := fun j hj => by rw [hu2 j hj, L6 j hj, if_neg c]
      have IA2 := entV_IA F4 (m := M) (p := P) (b := b) (d := d) (by omega) (by omega) hd.1 hd.2
      rw [entV_cg IA2 (ev 1886 (Or.inr rfl)) (fun j a1 a2 => ev j (Or.inl ⟨a1, a2⟩)) (ev j hj) (fun h => acc_room IA2 (by omega) (by omega) hd.1 hd.2 h)]
      exact entV_two F4 (by omega) (by omega) hd.1 hd.2 j
  · rw [hn j a3 a4, hu j a1 a2 a5 a6 a7 a8 a9]; exact L7 j a1 a2 a3 a4 a5 a6 a7 a8 a9
  · exact entV_IA IAu (by omega) (by omega) (by omega) (by omega)
theorem Lp.fin {T : Int} {v0 : VI} {b o d rem0 : Int} (F : Fx T v0 b o d rem0) : ∀ (n : Nat) (M P : Int) (v : VI), Lp T v0 b o d rem0 M P v → Lp T v0 b o d rem0 (srvS o b rem0 n M P v).1 (srvS o b rem0 n M P v).2.1 (srvS o b rem0 n M P v).2.2
  | 0, M, P, v, L => L
  | n + 1, M, P, v, L => by
    unfold srvS
    by_cases c : rem0 ≤ M ∨ oldQ v = -1
    · rw [if_pos c]; exact L
    · rw [if_neg c]
      exact Lp.fin F n _ _ _ (L.next F (fun q => c (Or.inr q)) (by omega)).1
theorem s_srv50 {T : Int} {v0 : VI} {b o d rem0 : Int} {mP mB mO mR mA : Mem} {nP nA : MemL} (F : Fx T v0 b o d rem0) (hP : RPs mP nP v0) (hB : RB mB v0) : ∀ (n fu : Nat) (M P t : Int) (v : VI) (mS : Mem), blocksF v ≤ n → 0 ≤ t → t + blocksF v ≤ 150 → n < fu → Lp T v0 b o d rem0 M P v → RS mS v →
    ∃ mS', f_X4_serve_L50 (zI o) (zI d) (zI b) (zI rem0) mP nP mB mO mR mA nA fu (zI M) (zI P) (zI (oldQ v)) (zI t) mS = f_X4_serve_b117 (zI o) (zI d) (zI b) (zI (srvS o b rem0 n M P v).1) (zI (srvS o b rem0 n M P v).2.1) mP nP mS' mB mO mR mA nA ∧ RS mS' (srvS o b rem0 n M P v).2.2 := by
  have Fb := F.b
  obtain ⟨F1, F2, F3, F4, F5, F6, F7, F8, F9, F10, F11⟩ := id F
  have hB0 := blocksF_b F5
  intro n
  induction n with
  | zero =>
    intro fu M P t v mS hbl ht htb hf L hS
    obtain ⟨fu, rfl⟩ : ∃ m, fu = m + 1 := ⟨fu - 1, by omega⟩
    have hq := old_none L.2.1 (by have := blocksF_b L.2.1; omega)
    refine ⟨mS, ?_, hS⟩
    have hbv := blocksF_b L.2.1
    simp (disch := omega) only [f_X4_serve_L50, z_c1, z_c150, z_add, z_sub, z_neg, y_neg, z_mul, z_div, z_l, y_i, y_add, y_sub, y_mul, y_div, z_lt, z_le, z_eq, y_c1, y_c2, y_c3, y_c4, y_c5, z_gi, bd1_s, bd2_s, mul30, z_ofNat, lt_eq, hq]
    by_cases c : (150 : Int) ≤ t
    · rw [if_pos c]; rfl
    · rw [if_neg c, if_pos trivial]; rfl
  | succ n ih =>
    intro fu M P t v mS hbl ht htb hf L hS
    obtain ⟨fu, rfl⟩ : ∃ m, fu = m + 1 := ⟨fu - 1, by omega⟩
    have hbv := blocksF_b L.2.1
    have hM0 := L.2.2.2.1
    have hMb := L.2.2.2.2.2.1
    by_cases hq : oldQ v = -1
    · refine ⟨mS, ?_, ?_⟩
      · unfold srvS
        simp (disch := omega) only [f_X4_serve_L50, z_c1, z_c150, z_add, z_sub, z_neg, y_neg, z_mul, z_div, z_l, y_i, y_add, y_sub, y_mul, y_div, z_lt, z_le, z_eq, y_c1, y_c2, y_c3, y_c4, y_c5, z_gi, bd1_s, bd2_s, mul30, z_ofNat, lt_eq, hq]
        rw [if_pos (Or.inr trivial)]
        by_cases c : (150 : Int) ≤ t
        · rw [if_pos c]
        · rw [if_neg c, if_pos trivial]
      · unfold srvS; rw [if_pos (Or.inr hq)]; exact hS
    · have hs := old_sk L.2.1 (oldQ_isB L.2.1) hq
      have h5 := L.2.1.1
      have hz := L.2.1.sz hs.1 (show oldQ v / 30 < 5 by omega)
      have hbs := hbv.2.2 (oldQ v / 30) hs.1 hs.2.1
      by_cases c : rem0 ≤ M
      · refine ⟨mS, ?_, ?_⟩
        · unfold srvS
          simp (disch := omega) only [f_X4_serve_L50, z_c1, z_c150, z_add, z_sub, z_neg, y_neg, z_mul, z_div, z_l, y_i, y_add, y_sub, y_mul, y_div, z_lt, z_le, z_eq, y_c1, y_c2, y_c3, y_c4, y_c5, z_gi, bd1_s, bd2_s, mul30, z_ofNat, lt_eq]
          rw [if_pos (Or.inl c), if_neg (by omega), if_neg hq, if_pos c]
        · unfold srvS; rw [if_pos (Or.inl c)]; exact hS
      · obtain ⟨L1, hbl1, hm, hband, hpr, hpb, -⟩ := L.next F hq (by omega)
        have hrem := s_remove hS L.2.1 hs.1 (show oldQ v / 30 < 5 by omega) hs.2.2.1 hs.2.2.2.1
        rw [← hs.2.2.2.2] at hrem
        obtain ⟨⟨r, mS1⟩, e1, hr1, hS1⟩ := hrem
        replace hr1 : r = zI (v (207 + oldQ v)) := hr1
        subst hr1
        have hpo := s_priceOf (mP := mP) (nP := nP) (mS := mS1) (mB := mB) (mO := mO) (mR := mR) (mA := mA) (nA := nA) hP hB F1 (b := b) (m := v (207 + oldQ v)) (d := d) (F2.2 b (by omega) (by omega)).1 (by omega) (by omega) (by omega) (by omega) Fb.2.2.2.2.1
        rw [← hpr] at hpo
        have hu : ∀ j : Int, (32 ≤ j ∧ j < 507) ∨ j = 1880 ∨ j = 1887 → nxtV v b o j = remV v (oldQ v / 30) (oldQ v % 30) j := fun j hj => by
          have IAu := (L.next F hq (by omega)).2.2.2.2.2.2
          have e : nxtV v b o j = nxtU v b o j := entV_out IAu (fun h => acc_room IAu (by omega) (by omega) (bandF_b v).1 (bandF_b v).2 h) (by omega)
          rw [e]
          unfold nxtU
          rw [upV_ne _ _ (by omega), upV_ne _ _ (by omega), upV_ne _ _ (by omega), upV_ne _ _ (by omega), upV_ne _ _ (by omega)]
        have hS2 : RS mS1 (nxtV v b o) := hS1.cg (hu 1880 (by omega)) (hu 1887 (by omega)) (fun j a1 a2 => hu j (by omega)) (fun s' a1 a2 => by
          have := (L.2.1.rem hs.1 hs.2.1 hs.2.2.1 hs.2.2.2.1).sz a1 a2
          omega)
        have hol := (s_oldest hS2 L1.2.1).1
        obtain ⟨mS', g1, g2⟩ := ih fu (M + v (207 + oldQ v)) (P + prF v b (v (207 + oldQ v)) (bandF v)) (t + 1) (nxtV v b o) mS1 (by omega) (by omega) (by omega) (by omega) L1 hS2
        refine ⟨mS', ?_, ?_⟩
        · unfold srvS
          rw [if_neg (by omega)]
          simp (disch := omega) only [f_X4_serve_L50, z_c1, z_c150, z_add, z_sub, z_neg, y_neg, z_mul, z_div, z_l, y_i, y_add, y_sub, y_mul, y_div, z_lt, z_le, z_eq, y_c1, y_c2, y_c3, y_c4, y_c5, z_gi, bd1_s, bd2_s, mul30, z_ofNat]
          rw [if_neg (by omega), if_neg hq, if_neg c, e1, bd2_s, lt_eq, hpo, bd1_s, lt_eq, hol, bd1_s]
          simp only [z_add, lt_eq]
          exact g1
        · unfold srvS; rw [if_neg (by omega)]; exact g2
theorem m_srv72 {T : Int} {v0 : VI} {b o d rem0 : Int} {mM : Mem} {sv tv : Nat → Int64} (F : Fx T v0 b o d rem0) : ∀ (n fu : Nat) (M P : Int) (v : VI) (nM : MemL), blocksF v ≤ n → n < fu → Lp T v0 b o d rem0 M P v → MR nM v sv tv →
    ∃ nM', f_X9_serve_L72 (zI o) (zI b) mM fu (zL M) (zL P) (zI (oldQ v)) nM = f_X9_serve_b229 (zI o) (zL (srvS o b rem0 n M P v).1) (zL (srvS o b rem0 n M P v).2.1) mM nM' ∧ MR nM' (srvS o b rem0 n M P v).2.2 sv tv := by
  have Fb := F.b
  obtain ⟨F1, F2, F3, F4, F5, F6, F7, F8, F9, F10, F11⟩ := id F
  have hB0 := blocksF_b F5
  have o200 := F3.1
  intro n
  induction n with
  | zero =>
    intro fu M P v nM hbl hf L hM
    obtain ⟨fu, rfl⟩ : ∃ m, fu = m + 1 := ⟨fu - 1, by omega⟩
    have hq := old_none L.2.1 (by have := blocksF_b L.2.1; omega)
    have hbv := blocksF_b L.2.1
    obtain ⟨⟨L1, L2, L3, L4, L5, L6, L7⟩, -, -, M0, P0, MB, PB, MR0, MP⟩ := id L
    have ew : v (731 + o) = v0 (731 + o) := L7 _ (by omega) (by omega) (by omega) (by omega) (by omega) (by omega) (by omega) (by omega) (by omega)
    have hrm := m_rem2 (mM := mM) hM (o := o) F7.1 (by omega) (by omega) (by rw [ew]; omega)
    have hrb : 0 ≤ remF v o ∧ remF v o ≤ 9999 := by unfold remF; split <;> omega
    refine ⟨nM, ?_, hM⟩
    simp (disch := omega) only [f_X9_serve_L72, z_c0, z_c1, z_c30, z_c207, z_c515, z_c523, z_c931, z_c1877, z_c1883, y_c0_, z_add, z_sub, z_neg, y_neg, z_mul, z_div, z_l, y_i, y_add, y_sub, y_mul, y_div, z_lt, z_le, z_eq, y_c1, y_c2, y_c3, y_c4, y_c5, z_gi, bd1_s, bd2_s, mul30, z_ofNat, lt_eq, hq, hrm]
    by_cases c : remF v o ≤ 0
    · rw [if_pos c]; rfl
    · rw [if_neg c, if_pos trivial]; rfl
  | succ n ih =>
    intro fu M P v nM hbl hf L hM
    obtain ⟨fu, rfl⟩ : ∃ m, fu = m + 1 := ⟨fu - 1, by omega⟩
    have hbv := blocksF_b L.2.1
    obtain ⟨⟨L1, L2, L3, L4, L5, L6, L7⟩, -, LA, M0, P0, MB, PB, MR0, MP⟩ := id L
    have ew : v (731 + o) = v0 (731 + o) := L7 _ (by omega) (by omega) (by omega) (by omega) (by omega) (by omega) (by omega) (by omega) (by omega)
    have hrm := m_rem2 (mM := mM) hM (o := o) F7.1 (by omega) (by omega) (by rw [ew]; omega)
    have hrb : 0 ≤ remF v o ∧ remF v o ≤ 9999 := by unfold remF; split <;> omega
    have hre : remF v o ≤ 0 ↔ rem0 ≤ M := by unfold remF; split <;> omega
    by_cases hq : oldQ v = -1
    · refine ⟨nM, ?_, ?_⟩
      · unfold srvS
        simp (disch := omega) only [f_X9_serve_L72, z_c0, z_c1, z_c30, z_c207, z_c515, z_c523, z_c931, z_c1877, z_c1883, y_c0_, z_add, z_sub, z_neg, y_neg, z_mul, z_div, z_l, y_i, y_add, y_sub, y_mul, y_div, z_lt, z_le, z_eq, y_c1, y_c2, y_c3, y_c4, y_c5, z_gi, bd1_s, bd2_s, mul30, z_ofNat, lt_eq, hq, hrm]
        rw [if_pos (Or.inr trivial)]
        by_cases c : remF v o ≤ 0
        · rw [if_pos c]
        · rw [if_neg c, if_pos trivial]
      · unfold srvS; rw [if_pos (Or.inr hq)]; exact hM
    · by_cases c : rem0 ≤ M
      · refine ⟨nM, ?_, ?_⟩
        · unfold srvS
          simp (disch := omega) only [f_X9_serve_L72, z_c0, z_c1, z_c30, z_c207, z_c515, z_c523, z_c931, z_c1877, z_c1883, y_c0_, z_add, z_sub, z_neg, y_neg, z_mul, z_div, z_l, y_i, y_add, y_sub, y_mul, y_div, z_lt, z_le, z_eq, y_c1, y_c2, y_c3, y_c4, y_c5, z_gi, bd1_s, bd2_s, mul30, z_ofNat, lt_eq, hrm]
          rw [if_pos (Or.inl c), if_pos (hre.mpr c)]
        · unfold srvS; rw [if_pos (Or.inl c)]; exact hM
      · have hs := old_sk L.2.1 (oldQ_isB L.2.1) hq
        have h5 := L.2.1.1
        have hz := L.2.1.sz hs.1 (show oldQ v / 30 < 5 by omega)
        obtain ⟨Ln, hbl1, hm, hband, hpr, hpb, IAu⟩ := L.next F hq (by omega)
        have ht : 0 ≤ v 1875 ∧ v 1875 ≤ 10049 := by rw [L7 1875 (by omega) (by omega) (by omega) (by omega) (by omega) (by omega) (by omega) (by omega) (by omega)]; exact F6
        have hpo := m_priceOf (mM := mM) hM (F1.cg fun j a1 a2 => L7 j (by omega) (by omega) (by omega) (by omega) (by omega) (by omega) (by omega) (by omega) (by omega)) (b := b) (m := v (207 + oldQ v)) (d := bandF v) (by rw [L7 (507 + b) (by omega) (by omega) (by omega) (by omega) (by omega) (by omega) (by omega) (by omega) (by omega)]; exact (F2.2 b (by omega) (by omega)).1) (by omega) (by omega) (by omega) (by omega) (by have := bandF_b v; omega)
        have hbn := m_band (mM := mM) hM ht
        have emod : oldQ v - oldQ v / 30 * 30 = oldQ v % 30 := by omega
        have key : ∃ nM', f_X9_serve_L72 (zI o) (zI b) mM (fu + 1) (zL M) (zL P) (zI (oldQ v)) nM = f_X9_serve_L72 (zI o) (zI b) mM fu (zL (M + v (207 + oldQ v))) (zL (P + prF v b (v (207 + oldQ v)) (bandF v))) (zI (oldQ (nxtV v b o))) nM' ∧ MR nM' (nxtV v b o) sv tv := by
          simp (disch := omega) only [f_X9_serve_L72, z_c0, z_c1, z_c30, z_c207, z_c515, z_c523, z_c931, z_c1877, z_c1883, y_c0_, z_add, z_sub, z_neg, y_neg, z_mul, z_div, z_l, y_i, y_add, y_sub, y_mul, y_div, z_lt, z_le, z_eq, y_c1, y_c2, y_c3, y_c4, y_c5, z_gi, bd1_s, bd2_s, mul30, z_ofNat, hrm, hM.rd]
          rw [if_neg (by omega), if_neg hq, lt_eq, hbn, bd1_s, hpo, bd1_s]
          obtain ⟨nM1, e1, hM1⟩ := m_remove (mM := mM) hM (s := oldQ v / 30) (k := oldQ v % 30) (by omega) hs.1 (by omega) hs.2.2.1 hs.2.2.2.1
          rw [show oldQ v - 30 * (oldQ v / 30) = oldQ v % 30 by omega, e1, bd1_s]
          have o1 : ∀ j : Int, j ≠ 47 + oldQ v / 30 → ¬ (57 ≤ j ∧ j < 507) → remV v (oldQ v / 30) (oldQ v % 30) j = v j := fun j a b => by
            unfold remV; rw [upV_ne _ _ a, shV_out v (by omega)]
          simp (disch := omega) only [z_gi, hM1.rd, o1, y_add]
          refine P_wr (P := fun z => ∃ nM', z = f_X9_serve_L72 (zI o) (zI b) mM fu (zL (M + v (207 + oldQ v))) (zL (P + prF v b (v (207 + oldQ v)) (bandF v))) (zI (oldQ (nxtV v b o))) nM' ∧ MR nM' (nxtV v b o) sv tv) hM1 (by omega) (by omega) (fun nM hM => ?_)
          simp (disch := omega) only [z_gi, hM.rd, upV_ne, o1, y_add]
          refine P_wr (P := fun z => ∃ nM', z = f_X9_serve_L72 (zI o) (zI b) mM fu (zL (M + v (207 + oldQ v))) (zL (P + prF v b (v (207 + oldQ v)) (bandF v))) (zI (oldQ (nxtV v b o))) nM' ∧ MR nM' (nxtV v b o) sv tv) hM (by omega) (by omega) (fun nM hM => ?_)
          simp (disch := omega) only [z_gi, hM.rd, upV_ne, o1, y_add]
          refine P_wr (P := fun z => ∃ nM', z = f_X9_serve_L72 (zI o) (zI b) mM fu (zL (M + v (207 + oldQ v))) (zL (P + prF v b (v (207 + oldQ v)) (bandF v))) (zI (oldQ (nxtV v b o))) nM' ∧ MR nM' (nxtV v b o) sv tv) hM (by omega) (by omega) (fun nM hM => ?_)
          simp (disch := omega) only [z_gi, hM.rd, upV_ne, o1, y_add]
          refine P_wr (P := fun z => ∃ nM', z = f_X9_serve_L72 (zI o) (zI b) mM fu (zL (M + v (207 + oldQ v))) (zL (P + prF v b (v (207 + oldQ v)) (bandF v))) (zI (oldQ (nxtV v b o))) nM' ∧ MR nM' (nxtV v b o) sv tv) hM (by omega) (by omega) (fun nM hM => ?_)
          simp (disch := omega) only [z_gi, hM.rd, upV_ne, o1, y_add]
          refine P_wr (P := fun z => ∃ nM', z = f_X9_serve_L72 (zI o) (zI b) mM fu (zL (M + v (207 + oldQ v))) (zL (P + prF v b (v (207 + oldQ v)) (bandF v))) (zI (oldQ (nxtV v b o))) nM' ∧ MR nM' (nxtV v b o) sv tv) hM (by omega) (by omega) (fun nM hM => ?_)
          have hMu : MR nM (nxtU v b o) sv tv := hM
          have ebn : bandF (nxtU v b o) = bandF v := by
            unfold bandF hourF; rw [nxtU_out v (by omega) (by omega) (by omega) (by omega) (by omega) (by omega) (by omega) L.2.1 hq]
          obtain ⟨nM2, e2, hM2⟩ := m_enter (mM := mM) hMu IAu (by rw [nxtU_out v (by omega) (by omega) (by omega) (by omega) (by omega) (by omega) (by omega) L.2.1 hq]; exact ht) (b := b) (m := v (207 + oldQ v)) (p := prF v b (v (207 + oldQ v)) (bandF v)) (by omega) (by omega)
          rw [ebn] at hM2
          have hM3 : MR nM2 (nxtV v b o) sv tv := hM2
          rw [e2, bd1_s, lt_eq, lt_eq, m_oldest hM3 Ln.2.1, bd1_s]
          exact ⟨nM2, rfl, hM3⟩
        obtain ⟨nM1, e1, hM1⟩ := key
        obtain ⟨nM', g1, g2⟩ := ih fu (M + v (207 + oldQ v)) (P + prF v b (v (207 + oldQ v)) (bandF v)) (nxtV v b o) nM1 (by omega) (by omega) Ln hM1
        refine ⟨nM', ?_, ?_⟩
        · unfold srvS
          rw [if_neg (by omega), e1]
          exact g1
        · unfold srvS; rw [if_neg (by omega)]; exact g2
