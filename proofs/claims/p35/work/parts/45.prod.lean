/-! production, on both sides -/
def RPs (mP : Mem) (nP : MemL) (v : VI) : Prop := Row 8 (mP 0) v ∧ Row 24 (mP 1) (fun h => v (8 + h)) ∧ mP 7 0 = zI (v 1875) ∧ mP 8 0 = zI (v 1876) ∧ mP 9 0 = zI (v 1877) ∧ mP 10 0 = zI (v 1879) ∧ nP 11 0 = zL (v 1883) ∧ nP 12 0 = zL (v 1884)
theorem RPs.set {mP : Mem} {nP : MemL} {v : VI} (h : RPs mP nP v) {k : Int} (h1 : 0 ≤ k) (h2 : k < 8) : mP 0 (zI k).toNatClampNeg = zI (v k) := h.1 k h1 h2
theorem RPs.cg {mP : Mem} {nP : MemL} {v v' : VI} (h : RPs mP nP v) (e1 : ∀ k : Int, 0 ≤ k → k < 32 → v' k = v k) (e2 : ∀ k : Int, 1875 ≤ k → k < 1885 → k ≠ 1878 → k ≠ 1880 → k ≠ 1881 → k ≠ 1882 → v' k = v k) : RPs mP nP v' := by
  obtain ⟨h1, h2, h3, h4, h5, h6, h7, h8⟩ := h
  refine ⟨h1.cg fun k q1 q2 => e1 k q1 (by omega), h2.cg fun k q1 q2 => e1 _ (by omega) (by omega), ?_, ?_, ?_, ?_, ?_, ?_⟩
  · rw [e2 _ (by omega) (by omega) (by omega) (by omega) (by omega) (by omega)]; exact h3
  · rw [e2 _ (by omega) (by omega) (by omega) (by omega) (by omega) (by omega)]; exact h4
  · rw [e2 _ (by omega) (by omega) (by omega) (by omega) (by omega) (by omega)]; exact h5
  · rw [e2 _ (by omega) (by omega) (by omega) (by omega) (by omega) (by omega)]; exact h6
  · rw [e2 _ (by omega) (by omega) (by omega) (by omega) (by omega) (by omega)]; exact h7
  · rw [e2 _ (by omega) (by omega) (by omega) (by omega) (by omega) (by omega)]; exact h8
def freeF (v : VI) : Nat → Int → Int
  | 0, _ => -1
  | n + 1, s => if v (32 + s) ≤ v (47 + s) then freeF v n (s + 1) else s
def freeS (v : VI) : Int := freeF v (v 1880).toNat 0
theorem freeF_in (v : VI) : ∀ (n : Nat) (s : Int), freeF v n s = -1 ∨ (s ≤ freeF v n s ∧ freeF v n s < s + n ∧ v (47 + freeF v n s) < v (32 + freeF v n s))
  | 0, _ => Or.inl rfl
  | n + 1, s => by
    unfold freeF
    by_cases c : v (32 + s) ≤ v (47 + s)
    · rw [if_pos c]
      rcases freeF_in v n (s + 1) with h | h
      · exact Or.inl h
      · exact Or.inr (by omega)
    · rw [if_neg c]; exact Or.inr (by omega)
theorem freeS_in {T : Int} {v : VI} (hI : IS T v) : freeS v = -1 ∨ (0 ≤ freeS v ∧ freeS v < v 1880 ∧ v (47 + freeS v) < v (32 + freeS v)) := by
  have hb := hI.1
  rcases freeF_in v (v 1880).toNat 0 with h | h
  · exact Or.inl h
  · refine Or.inr ⟨h.1, ?_, h.2.2⟩
    have := h.2.1
    unfold freeS; omega
theorem m_free2 {mM : Mem} {nM : MemL} {sv tv : Nat → Int64} {T : Int} {v : VI} (hM : MR nM v sv tv) (hI : IS T v) : ∀ (n fu : Nat) (s : Int), 0 ≤ s → s + n = v 1880 → n < fu →
    f_X9_freeSilo_L2 mM nM fu (zI s) = some (zI (freeF v n s)) := by
  have hb := hI.1
  intro n
  induction n with
  | zero =>
    intro fu s hk hn hf
    obtain ⟨fu, rfl⟩ : ∃ m, fu = m + 1 := ⟨fu - 1, by omega⟩
    simp (disch := omega) only [f_X9_freeSilo_L2, z_c0, z_c1, z_c32, z_c47, z_c1880, z_add, z_sub, z_neg, y_neg, z_mul, z_div, z_l, y_i, y_add, y_sub, y_mul, y_div, z_lt, z_le, z_eq, y_c1, y_c2, y_c3, y_c4, y_c5, z_gi, bd1_s, bd2_s, mul30, z_ofNat, lt_eq, freeF, hM.rd]
    rw [if_pos (by omega)]
  | succ n ih =>
    intro fu s hk hn hf
    obtain ⟨fu, rfl⟩ : ∃ m, fu = m + 1 := ⟨fu - 1, by omega⟩
    have hz := hI.sz (s := s) (by omega) (by omega)
    have hj := ih fu (s + 1) (by omega) (by omega) (by omega)
    simp (disch := omega) only [f_X9_freeSilo_L2, z_c0, z_c1, z_c32, z_c47, z_c1880, z_add, z_sub, z_neg, y_neg, z_mul, z_div, z_l, y_i, y_add, y_sub, y_mul, y_div, z_lt, z_le, z_eq, y_c1, y_c2, y_c3, y_c4, y_c5, z_gi, bd1_s, bd2_s, mul30, z_ofNat, lt_eq, freeF, hM.rd, hj]
    rw [if_neg (by omega)]
    by_cases c : v (32 + s) ≤ v (47 + s)
    · rw [if_pos c, if_pos c]
    · rw [if_neg c, if_neg c]
theorem m_free {mM : Mem} {nM : MemL} {sv tv : Nat → Int64} {T : Int} {v : VI} (hM : MR nM v sv tv) (hI : IS T v) : f_X9_freeSilo mM nM = some (zI (freeS v)) := by
  have hb := hI.1
  unfold f_X9_freeSilo
  rw [z_c0]
  exact m_free2 hM hI (v 1880).toNat fuel 0 (by omega) (by omega) (fuel_gt (by omega))
/-- a block of the mass m is stored in the silo f -/
def putV (v : VI) (f m : Int) : VI := upV (upV (filV v (30 * f + v (47 + f)) (v 1887) m 0) (47 + f) (v (47 + f) + 1)) 1887 (v 1887 + 1)
theorem filV_out (v : VI) {a x y z j : Int} (h : j ≠ 57 + a ∧ j ≠ 207 + a ∧ j ≠ 357 + a) : filV v a x y z j = v j := by
  unfold filV
  rw [upV_ne _ _ (by omega), upV_ne _ _ (by omega), upV_ne _ _ (by omega)]
theorem s_make2 {mS : Mem} {T : Int} {v : VI} (h : RS mS v) (hI : IS T v) {m : Int} (hm : 1 ≤ m) (hm2 : m ≤ 200) : ∀ (n fu : Nat) (s : Int), 0 ≤ s → s + n = v 1880 → n < fu →
    Ev (f_X6_makeBlock_L2 (zI m) mS fu (zI s)) (fun r => (freeF v n s = -1 ∧ r = (zI 0, mS)) ∨ (freeF v n s ≠ -1 ∧ r.1 = zI 1 ∧ RS r.2 (putV v (freeF v n s) m))) := by
  have hb := hI.1
  have hv := hI.2.1
  have hzz : ∀ s : Int, 0 ≤ s → s < 5 → v (47 + s) ≤ 30 := fun s q1 q2 => by have := hI.sz q1 q2; omega
  intro n
  induction n with
  | zero =>
    intro fu s hk hn hf
    obtain ⟨fu, rfl⟩ : ∃ m, fu = m + 1 := ⟨fu - 1, by omega⟩
    simp (disch := omega) only [f_X6_makeBlock_L2, z_c0, z_c1, z_c30, z_add, z_sub, z_neg, y_neg, z_mul, z_div, z_l, y_i, y_add, y_sub, y_mul, y_div, z_lt, z_le, z_eq, y_c1, y_c2, y_c3, y_c4, y_c5, z_gi, bd1_s, bd2_s, mul30, z_ofNat, lt_eq, h.1]
    rw [if_pos (by omega)]
    exact Ev_some (Or.inl ⟨rfl, rfl⟩)
  | succ n ih =>
    intro fu s hk hn hf
    obtain ⟨fu, rfl⟩ : ∃ m, fu = m + 1 := ⟨fu - 1, by omega⟩
    have hz := hI.sz (s := s) (by omega) (by omega)
    have hj := ih fu (s + 1) (by omega) (by omega) (by omega)
    have hsz := h.sz (s := s) (by omega) (by omega)
    have hcap := h.cap (s := s) (by omega) (by omega)
    simp (disch := omega) only [f_X6_makeBlock_L2, z_c0, z_c1, z_c30, z_add, z_sub, z_neg, y_neg, z_mul, z_div, z_l, y_i, y_add, y_sub, y_mul, y_div, z_lt, z_le, z_eq, y_c1, y_c2, y_c3, y_c4, y_c5, z_gi, bd1_s, bd2_s, mul30, z_ofNat, h.1, hsz, hcap]
    rw [if_neg (by omega)]
    unfold freeF
    by_cases c : v (32 + s) ≤ v (47 + s)
    · rw [if_pos c]
      simp only [if_pos c]
      exact hj
    · rw [if_neg c]
      simp only [if_neg c]
      rw [s_fill _ _ _ _ (by omega) (by omega), bd1_s, h.2.1]
      have hw := h.fill (a := 30 * s + v (47 + s)) (v 1887) m 0 (by omega) (by omega) hzz
      have e47 : ∀ s' : Int, 0 ≤ s' → s' < 5 → filV v (30 * s + v (47 + s)) (v 1887) m 0 (47 + s') = v (47 + s') := fun s' q1 q2 => filV_out v (by omega)
      have hzz2 : ∀ s' : Int, 0 ≤ s' → s' < 5 → filV v (30 * s + v (47 + s)) (v 1887) m 0 (47 + s') ≤ 30 := fun s' q1 q2 => by rw [e47 s' q1 q2]; exact hzz s' q1 q2
      have hsz2 := hw.sz (s := s) hk (by omega)
      rw [e47 s hk (by omega)] at hsz2
      have hser := hw.2.1
      rw [filV_out v (by omega)] at hser
      generalize hgM : fillM mS (30 * s + v (47 + s)) (zI (v 1887)) (zI m) (zI 0) = M at hw hsz2 hser ⊢
      simp (disch := omega) only [z_gi, hsz2, z_add]
      refine Ev_lt ?_
      have hw2 := hw.size (s := s) (x := v (47 + s) + 1) hk (by omega) (by omega) (fun k q0 q1 q2 => by
        rw [e47 s hk (by omega)] at q1
        have ek : k = v (47 + s) := by omega
        subst ek
        rw [← hgM, fill_7, fill_8, fill_9, upd_rd _ _ (by omega) (by omega) (by omega) (by omega), upd_rd _ _ (by omega) (by omega) (by omega) (by omega), upd_rd _ _ (by omega) (by omega) (by omega) (by omega), if_pos rfl, if_pos rfl, if_pos rfl]
        unfold filV
        simp (disch := omega) only [upV_ne, upV_at, and_self]) hzz2
      have hzz3 : ∀ s' : Int, 0 ≤ s' → s' < 5 → upV (filV v (30 * s + v (47 + s)) (v 1887) m 0) (47 + s) (v (47 + s) + 1) (47 + s') ≤ 30 := fun s' q1 q2 => by
        by_cases e : s' = s
        · subst e; rw [upV_same]; omega
        · rw [upV_ne _ _ (by omega)]; exact hzz2 s' q1 q2
      have hw3 := hw2.serial (v 1887 + 1) hzz3
      refine Ev_lt (Ev_some (Or.inr ⟨by omega, rfl, ?_⟩))
      rw [wrI_ne _ _ (by decide), hser, z_add]
      exact hw3
theorem s_make {mS : Mem} {T : Int} {v : VI} (h : RS mS v) (hI : IS T v) {m : Int} (hm : 1 ≤ m) (hm2 : m ≤ 200) : Ev (f_X6_makeBlock (zI m) mS) (fun r => (freeS v = -1 ∧ r = (zI 0, mS)) ∨ (freeS v ≠ -1 ∧ r.1 = zI 1 ∧ RS r.2 (putV v (freeS v) m))) := by
  have hb := hI.1
  unfold f_X6_makeBlock
  rw [z_c0]
  exact s_make2 h hI hm hm2 (v 1880).toNat fuel 0 (by omega) (by omega) (fuel_gt (by omega))
def stepP (v : VI) : VI := if freeS v = -1 then upV v 1879 (v 1879 + 1) else upV (putV v (freeS v) (v 0)) 1876 (v 1876 + v 0)
def prodV (v : VI) : Nat → VI
  | 0 => v
  | n + 1 => prodV (stepP v) n
theorem putV_out (v : VI) {f m j : Int} (h0 : 0 ≤ f) (h1 : f < 5) (h2 : 0 ≤ v (47 + f)) (h3 : v (47 + f) < 30) (h : ¬ (47 ≤ j ∧ j < 52) ∧ ¬ (57 ≤ j ∧ j < 507) ∧ j ≠ 1887) : putV v f m j = v j := by
  unfold putV
  rw [upV_ne _ _ (by omega), upV_ne _ _ (by omega), filV_out v (by omega)]
theorem IS.put {T : Int} {v : VI} (hI : IS T v) {f m : Int} (h0 : 0 ≤ f) (h1 : f < v 1880) (h3 : v (47 + f) < v (32 + f)) (hm : 1 ≤ m) (hm2 : m ≤ 200) (hs : v 1887 + 1 ≤ 12 * T) : IS T (putV v f m) := by
  have hb := hI.1
  have hz := hI.sz (s := f) (by omega) (by omega)
  have o : ∀ {j : Int}, ¬ (47 ≤ j ∧ j < 52) ∧ ¬ (57 ≤ j ∧ j < 507) ∧ j ≠ 1887 → putV v f m j = v j := fun h => putV_out v h0 (by omega) hz.1 (by omega) h
  have e1887 : putV v f m 1887 = v 1887 + 1 := by unfold putV; rw [upV_same]
  have e47 : ∀ s : Int, 0 ≤ s → s < 5 → putV v f m (47 + s) = if s = f then v (47 + s) + 1 else v (47 + s) := fun s q1 q2 => by
    unfold putV
    rw [upV_ne _ _ (by omega)]
    by_cases e : s = f
    · subst e; rw [upV_same, if_pos rfl]
    · rw [upV_ne _ _ (by omega), filV_out v (by omega), if_neg e]
  refine ⟨by rw [o (by omega)]; exact hI.1, ?_, fun s q1 q2 => ?_, fun s k q1 q2 q3 q4 => ?_⟩
  · rw [e1887, o (j := 1875) (by omega)]; have := hI.2.1; omega
  · have g := hI.2.2.1 s q1 q2
    rw [o (by omega), o (by omega), o (by omega), e47 s q1 q2, o (by omega), o (by omega)]
    by_cases e : s = f
    · subst e; rw [if_pos rfl]; omega
    · rw [if_neg e]; exact g
  · rw [e47 s q1 q2] at q4
    rw [e1887, o (j := 1875) (by omega)]
    have hzs := hI.sz q1 q2
    have hv := hI.2.1
    by_cases e : s = f ∧ k = v (47 + f)
    · obtain ⟨rfl, rfl⟩ := e
      unfold putV filV
      simp (disch := omega) only [upV_ne, upV_at]
      omega
    · have hk : k < v (47 + s) := by
        by_cases e2 : s = f
        · subst e2; rw [if_pos rfl] at q4; omega
        · rw [if_neg e2] at q4; exact q4
      have g := hI.blk q1 q2 q3 hk
      have ne : 30 * s + k ≠ 30 * f + v (47 + f) := by omega
      unfold putV filV
      simp (disch := omega) only [upV_ne]
      omega
theorem IS.cg {T : Int} {v v' : VI} (hI : IS T v) (e1 : v' 1880 = v 1880) (e2 : v' 1887 = v 1887) (e4 : v' 1875 = v 1875) (e3 : ∀ j : Int, 32 ≤ j → j < 507 → v' j = v j) : IS T v' := by
  obtain ⟨h1, h2, h3, h4⟩ := hI
  refine ⟨by rw [e1]; exact h1, by rw [e2, e4]; exact h2, fun s q1 q2 => ?_, fun s k q1 q2 q3 q4 => ?_⟩
  · rw [e1, e3 _ (by omega) (by omega), e3 _ (by omega) (by omega), e3 _ (by omega) (by omega), e3 _ (by omega) (by omega), e3 _ (by omega) (by omega)]
    exact h3 s q1 q2
  · rw [e3 (47 + s) (by omega) (by omega)] at q4
    have hz := h3 s q1 q2
    rw [e2, e4, e3 _ (by omega) (by omega), e3 _ (by omega) (by omega), e3 _ (by omega) (by omega)]
    exact h4 s k q1 q2 q3 q4
theorem stepP_IS {T : Int} {v : VI} (hI : IS T v) (hs : v 1887 + 1 ≤ 12 * T) (hm : 1 ≤ v 0 ∧ v 0 ≤ 200) : IS T (stepP v) ∧ (stepP v 1887 ≤ v 1887 + 1 ∧ v 1887 ≤ stepP v 1887) ∧ (∀ j : Int, ¬ (47 ≤ j ∧ j < 52) ∧ ¬ (57 ≤ j ∧ j < 507) ∧ j ≠ 1887 ∧ j ≠ 1876 ∧ j ≠ 1879 → stepP v j = v j) ∧ (v 1876 ≤ stepP v 1876 ∧ stepP v 1876 ≤ v 1876 + 200) ∧ (v 1879 ≤ stepP v 1879 ∧ stepP v 1879 ≤ v 1879 + 1) := by
  have hb := hI.1
  unfold stepP
  rcases freeS_in hI with c | c
  · rw [if_pos c]
    refine ⟨hI.cg (upV_ne _ _ (by omega)) (upV_ne _ _ (by omega)) (upV_ne _ _ (by omega)) (fun j q1 q2 => upV_ne _ _ (by omega)), ?_, fun j hj => upV_ne _ _ (by omega), ?_, ?_⟩
    · rw [upV_ne _ _ (by omega)]; omega
    · rw [upV_ne _ _ (by omega)]; omega
    · rw [upV_same]; omega
  · have hz := hI.sz (s := freeS v) c.1 (by omega)
    rw [if_neg (by omega)]
    have o : ∀ {j : Int}, ¬ (47 ≤ j ∧ j < 52) ∧ ¬ (57 ≤ j ∧ j < 507) ∧ j ≠ 1887 → putV v (freeS v) (v 0) j = v j := fun h => putV_out v c.1 (by omega) hz.1 (by omega) h
    have hp := hI.put (f := freeS v) c.1 c.2.1 c.2.2 hm.1 hm.2 hs
    have e1887 : putV v (freeS v) (v 0) 1887 = v 1887 + 1 := by unfold putV; rw [upV_same]
    refine ⟨hp.cg (upV_ne _ _ (by omega)) (upV_ne _ _ (by omega)) (upV_ne _ _ (by omega)) (fun j q1 q2 => upV_ne _ _ (by omega)), ?_, fun j hj => ?_, ?_, ?_⟩
    · rw [upV_ne _ _ (by omega), e1887]; omega
    · rw [upV_ne _ _ (by omega), o (by omega)]
    · rw [upV_same]; omega
    · rw [upV_ne _ _ (by omega), o (by omega)]; omega
theorem prodV_IS {T : Int} : ∀ (n : Nat) {v : VI}, IS T v → v 1887 + n ≤ 12 * T → 1 ≤ v 0 ∧ v 0 ≤ 200 → IS T (prodV v n) ∧ (v 1887 ≤ prodV v n 1887) ∧ (∀ j : Int, ¬ (47 ≤ j ∧ j < 52) ∧ ¬ (57 ≤ j ∧ j < 507) ∧ j ≠ 1887 ∧ j ≠ 1876 ∧ j ≠ 1879 → prodV v n j = v j) ∧ (v 1876 ≤ prodV v n 1876 ∧ prodV v n 1876 ≤ v 1876 + 200 * n) ∧ (v 1879 ≤ prodV v n 1879 ∧ prodV v n 1879 ≤ v 1879 + n)
  | 0, v, hI, _, _ => ⟨hI, Int.le_refl _, fun _ _ => rfl, by show v 1876 ≤ v 1876 ∧ _; show v 1876 ≤ v 1876 ∧ v 1876 ≤ _; omega, by show v 1879 ≤ v 1879 ∧ v 1879 ≤ _; omega⟩
  | n + 1, v, hI, hs, hm => by
    obtain ⟨a1, a2, a3, a4, a5⟩ := stepP_IS hI (by omega) hm
    have e0 := a3 0 (by omega)
    obtain ⟨b1, b2, b3, b4, b5⟩ := prodV_IS n a1 (by omega) (by rw [e0]; exact hm)
    refine ⟨b1, by show v 1887 ≤ prodV (stepP v) n 1887; omega, fun j hj => (b3 j hj).trans (a3 j hj), ?_, ?_⟩
    · show v 1876 ≤ prodV (stepP v) n 1876 ∧ prodV (stepP v) n 1876 ≤ _; omega
    · show v 1879 ≤ prodV (stepP v) n 1879 ∧ prodV (stepP v) n 1879 ≤ _; omega
theorem s_prod2 {nP : MemL} {mB mO mR mA : Mem} {nA : MemL} {T : Int} : ∀ (n fu : Nat) (x : Int) (mP mS : Mem) (v : VI), RPs mP nP v → RS mS v → IS T v → v 1887 + n ≤ 12 * T → 1 ≤ v 0 ∧ v 0 ≤ 200 → 0 ≤ x → x + n = v 1 → v 1 ≤ 12 → n < fu →
    Ev (f_X4_produce_L2 nP mB mO mR mA nA fu (zI x) mP mS) (fun r => RPs r.1 nP (prodV v n) ∧ RS r.2 (prodV v n)) := by
  intro n
  induction n with
  | zero =>
    intro fu x mP mS v hP hS hI hs hm hx hn h12 hf
    obtain ⟨fu, rfl⟩ : ∃ m, fu = m + 1 := ⟨fu - 1, by omega⟩
    simp (disch := omega) only [f_X4_produce_L2, z_c0, z_c1, z_add, z_sub, z_neg, y_neg, z_mul, z_div, z_l, y_i, y_add, y_sub, y_mul, y_div, z_lt, z_le, z_eq, y_c1, y_c2, y_c3, y_c4, y_c5, z_gi, bd1_s, bd2_s, mul30, z_ofNat, lt_eq, hP.set]
    rw [if_pos (by omega)]
    exact Ev_some ⟨hP, hS⟩
  | succ n ih =>
    intro fu x mP mS v hP hS hI hs hm hx hn h12 hf
    obtain ⟨fu, rfl⟩ : ∃ m, fu = m + 1 := ⟨fu - 1, by omega⟩
    obtain ⟨a1, a2, a3, a4, a5⟩ := stepP_IS hI (by omega) hm
    have e0 := a3 0 (by omega)
    have e1 := a3 1 (by omega)
    simp (disch := omega) only [f_X4_produce_L2, f_X4_produce_b56, z_c0, z_c1, z_add, z_sub, z_neg, y_neg, z_mul, z_div, z_l, y_i, y_add, y_sub, y_mul, y_div, z_lt, z_le, z_eq, y_c1, y_c2, y_c3, y_c4, y_c5, z_gi, bd1_s, bd2_s, mul30, z_ofNat, hP.set]
    rw [if_neg (by omega)]
    refine Ev_bd2 (s_make hS hI hm.1 hm.2) (fun r mS' hr => ?_)
    rcases hr with ⟨c, hr⟩ | ⟨c, hr, hS'⟩
    · cases hr
      rw [if_pos rfl, hP.2.2.2.2.2.1, z_add]
      refine Ev_lt (Ev_lt (ih fu (x + 1) _ _ (stepP v) ?_ ?_ a1 (by omega) (by rw [e0]; exact hm) (by omega) (by omega) (by omega) (by omega)))
      · obtain ⟨h1, h2, h3, h4, h5, h6, h7, h8⟩ := hP
        unfold stepP; rw [if_pos c]
        refine ⟨h1.cg fun k q1 q2 => upV_ne _ _ (by omega), h2.cg fun k q1 q2 => upV_ne _ _ (by omega), ?_, ?_, ?_, ?_, ?_, ?_⟩
        · rw [upV_ne _ _ (by omega)]; exact h3
        · rw [upV_ne _ _ (by omega)]; exact h4
        · rw [upV_ne _ _ (by omega)]; exact h5
        · rw [upV_same, wrI_same]
        · rw [upV_ne _ _ (by omega)]; exact h7
        · rw [upV_ne _ _ (by omega)]; exact h8
      · unfold stepP; rw [if_pos c]
        exact hS.cg (upV_ne _ _ (by omega)) (upV_ne _ _ (by omega)) (fun k q1 q2 => upV_ne _ _ (by omega)) (fun s q1 q2 => by have := hI.sz q1 q2; omega)
    · replace hr : r = zI 1 := hr
      replace hS' : RS mS' (putV v (freeS v) (v 0)) := hS'
      subst hr
      have hfr := (freeS_in hI).resolve_left c
      have hb := hI.1
      have hz := hI.sz (s := freeS v) hfr.1 (by omega)
      have o : ∀ {j : Int}, ¬ (47 ≤ j ∧ j < 52) ∧ ¬ (57 ≤ j ∧ j < 507) ∧ j ≠ 1887 → putV v (freeS v) (v 0) j = v j := fun h => putV_out v hfr.1 (by omega) hz.1 (by omega) h
      have hp := hI.put (f := freeS v) hfr.1 hfr.2.1 hfr.2.2 hm.1 hm.2 (by omega)
      rw [if_neg (by decide), hP.2.2.2.1, z_add]
      refine Ev_lt (Ev_lt (ih fu (x + 1) _ _ (stepP v) ?_ ?_ a1 (by omega) (by rw [e0]; exact hm) (by omega) (by omega) (by omega) (by omega)))
      · obtain ⟨h1, h2, h3, h4, h5, h6, h7, h8⟩ := hP
        unfold stepP; rw [if_neg c]
        refine ⟨h1.cg fun k q1 q2 => ?_, h2.cg fun k q1 q2 => ?_, ?_, ?_, ?_, ?_, ?_, ?_⟩
        · rw [upV_ne _ _ (by omega), o (by omega)]
        · rw [upV_ne _ _ (by omega), o (by omega)]
        · rw [upV_ne _ _ (by omega), o (by omega)]; exact h3
        · rw [upV_same, wrI_same]
        · rw [upV_ne _ _ (by omega), o (by omega)]; exact h5
        · rw [upV_ne _ _ (by omega), o (by omega)]; exact h6
        · rw [upV_ne _ _ (by omega), o (by omega)]; exact h7
        · rw [upV_ne _ _ (by omega), o (by omega)]; exact h8
      · unfold stepP; rw [if_neg c]
        exact hS'.cg (upV_ne _ _ (by omega)) (upV_ne _ _ (by omega)) (fun k q1 q2 => upV_ne _ _ (by omega)) (fun s q1 q2 => by have := hp.sz q1 q2; omega)
theorem s_produce {mP mS mB mO mR mA : Mem} {nP nA : MemL} {T : Int} {v : VI} (hP : RPs mP nP v) (hS : RS mS v) (hI : IS T v) (hs : v 1887 + 12 ≤ 12 * T) (hm : 1 ≤ v 0 ∧ v 0 ≤ 200) (h1 : 0 ≤ v 1 ∧ v 1 ≤ 12) : Ev (f_X4_produce mP nP mS mB mO mR mA nA) (fun r => RPs r.1 nP (prodV v (v 1).toNat) ∧ RS r.2 (prodV v (v 1).toNat)) := by
  unfold f_X4_produce
  rw [z_c0]
  exact s_prod2 (v 1).toNat fuel 0 mP mS v hP hS hI (by omega) hm (by omega) (by omega) h1.2 (fuel_gt (by omega))
theorem m_prod2 {mM : Mem} {sv tv : Nat → Int64} {T : Int} : ∀ (n fu : Nat) (x : Int) (nM : MemL) (v : VI), MR nM v sv tv → IS T v → v 1887 + n ≤ 12 * T → 1 ≤ v 0 ∧ v 0 ≤ 200 → 0 ≤ x → x + n = v 1 → v 1 ≤ 12 → n < fu →
    Ev (f_X9_produce_L2 mM fu (zI x) nM) (fun nM' => MR nM' (prodV v n) sv tv) := by
  intro n
  induction n with
  | zero =>
    intro fu x nM v hM hI hs hm hx hn h12 hf
    obtain ⟨fu, rfl⟩ : ∃ m, fu = m + 1 := ⟨fu - 1, by omega⟩
    simp (disch := omega) only [f_X9_produce_L2, z_c0, z_c1, z_c30, z_c47, z_c57, z_c207, z_c357, z_c1876, z_c1879, z_c1887, y_c0_, y_c1_, z_add, z_sub, z_neg, y_neg, z_mul, z_div, z_l, y_i, y_add, y_sub, y_mul, y_div, z_lt, z_le, z_eq, y_c1, y_c2, y_c3, y_c4, y_c5, z_gi, bd1_s, bd2_s, mul30, z_ofNat, lt_eq, hM.rd]
    rw [if_pos (by omega)]
    exact Ev_some hM
  | succ n ih =>
    intro fu x nM v hM hI hs hm hx hn h12 hf
    obtain ⟨fu, rfl⟩ : ∃ m, fu = m + 1 := ⟨fu - 1, by omega⟩
    obtain ⟨a1, a2, a3, a4, a5⟩ := stepP_IS hI (by omega) hm
    have e0 := a3 0 (by omega)
    have e1 := a3 1 (by omega)
    have hb := hI.1
    have hfr := freeS_in hI
    simp (disch := omega) only [f_X9_produce_L2, f_X9_produce_b141, z_c0, z_c1, z_c30, z_c47, z_c57, z_c207, z_c357, z_c1876, z_c1879, z_c1887, y_c0_, y_c1_, z_add, z_sub, z_neg, y_neg, z_mul, z_div, z_l, y_i, y_add, y_sub, y_mul, y_div, z_lt, z_le, z_eq, y_c1, y_c2, y_c3, y_c4, y_c5, z_gi, bd1_s, bd2_s, mul30, z_ofNat, hM.rd, m_free hM hI]
    rw [if_neg (by omega)]
    by_cases c : freeS v = -1
    · rw [if_pos c]
      refine Ev_wr hM (by omega) (by omega) (fun nM hM => Ev_lt ?_)
      refine ih fu (x + 1) nM (stepP v) ?_ a1 (by omega) (by rw [e0]; exact hm) (by omega) (by omega) (by omega) (by omega)
      unfold stepP; rw [if_pos c]; exact hM
    · rw [if_neg c]
      have hfr := hfr.resolve_left c
      have hz := hI.sz (s := freeS v) hfr.1 (by omega)
      refine Ev_lt ?_
      try simp (disch := omega) only [z_gi, z_add]
      refine Ev_wr hM (by omega) (by omega) (fun nM hM => ?_)
      try simp (disch := omega) only [z_gi, hM.rd, upV_ne]
      refine Ev_wr hM (by omega) (by omega) (fun nM hM => ?_)
      try simp (disch := omega) only [z_gi, hM.rd, upV_ne]
      refine Ev_wr hM (by omega) (by omega) (fun nM hM => ?_)
      try simp (disch := omega) only [z_gi, hM.rd, upV_ne, y_add]
      refine Ev_wr hM (by omega) (by omega) (fun nM hM => ?_)
      try simp (disch := omega) only [z_gi, hM.rd, upV_ne, y_add]
      refine Ev_wr hM (by omega) (by omega) (fun nM hM => ?_)
      try simp (disch := omega) only [z_gi, hM.rd, upV_ne, y_add]
      refine Ev_wr hM (by omega) (by omega) (fun nM hM => Ev_lt ?_)
      refine ih fu (x + 1) nM (stepP v) (hM.cg fun j q1 q2 => ?_) a1 (by omega) (by rw [e0]; exact hm) (by omega) (by omega) (by omega) (by omega)
      unfold stepP putV filV
      rw [if_neg c]
      simp only [upV]
      repeat' split
      all_goals first | rfl | omega
theorem m_produce {mM : Mem} {nM : MemL} {sv tv : Nat → Int64} {T : Int} {v : VI} (hM : MR nM v sv tv) (hI : IS T v) (hs : v 1887 + 12 ≤ 12 * T) (hm : 1 ≤ v 0 ∧ v 0 ≤ 200) (h1 : 0 ≤ v 1 ∧ v 1 ≤ 12) : Ev (f_X9_produce mM nM) (fun nM' => MR nM' (prodV v (v 1).toNat) sv tv) := by
  unfold f_X9_produce
  rw [z_c0]
  exact m_prod2 (v 1).toNat fuel 0 nM v hM hI (by omega) hm (by omega) (by omega) h1.2 (fuel_gt (by omega))
