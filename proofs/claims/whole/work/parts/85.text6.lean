/-! the public calls of the text -/
theorem s_start {n : Int} {t : Int → Int} {mT : Mem} (h : TT n t mT) : Ev (f_X7_start mT) (fun m => TT n t m ∧ m 1 0 = zI 0 ∧ m 2 0 = zI 0 ∧ m 6 0 = zI (if 0 < n then 1 else 0)) := by
  have n1 := h.1
  unfold f_X7_start
  refine Ev_lt (Ev_lt ?_)
  have h2 : TT n t (wrI (wrI mT 1 (fun _ => (0 : Int32))) 2 (fun _ => (0 : Int32))) := (h.cg (mT' := wrI mT 1 (fun _ => (0 : Int32))) (wrI_ne _ _ (by decide)) (wrI_ne _ _ (by decide))).cg (wrI_ne _ _ (by decide)) (wrI_ne _ _ (by decide))
  have g1 : (wrI (wrI mT 1 (fun _ => (0 : Int32))) 2 (fun _ => (0 : Int32))) 1 0 = zI 0 := by rw [wrI_ne _ _ (by decide), wrI_at]; rfl
  have g2 : (wrI (wrI mT 1 (fun _ => (0 : Int32))) 2 (fun _ => (0 : Int32))) 2 0 = zI 0 := by rw [wrI_at]; rfl
  generalize wrI (wrI mT 1 (fun _ => (0 : Int32))) 2 (fun _ => (0 : Int32)) = m at h2 g1 g2 ⊢
  rw [h2.2.1]
  by_cases q : 0 < n
  · rw [if_neg (show ¬ zI n ≤ (0 : Int32) from fun r => by rw [show (0 : Int32) = zI 0 from rfl, z_le (by omega) (by omega) (by omega) (by omega)] at r; omega), if_pos q]
    exact Ev_lt (Ev_some ⟨h2.cg (wrI_ne _ _ (by decide)) (wrI_ne _ _ (by decide)), by rw [wrI_ne _ _ (by decide)]; exact g1, by rw [wrI_ne _ _ (by decide)]; exact g2, by rw [wrI_at]; rfl⟩)
  · rw [if_pos (show zI n ≤ (0 : Int32) by rw [show (0 : Int32) = zI 0 from rfl, z_le (by omega) (by omega) (by omega) (by omega)]; omega), if_neg q]
    exact Ev_lt (Ev_some ⟨h2.cg (wrI_ne _ _ (by decide)) (wrI_ne _ _ (by decide)), by rw [wrI_ne _ _ (by decide)]; exact g1, by rw [wrI_ne _ _ (by decide)]; exact g2, by rw [wrI_at]; rfl⟩)
theorem CT_any {n : Int} {t : Int → Int} {mT : Mem} (h : TT n t mT) {p e : Int} (e1 : mT 1 0 = zI p) (e2 : mT 2 0 = zI e) : ∃ x, CT t n mT p e x := ⟨fun k => (mT 5 (zI k).toNatClampNeg).toInt, h, e1, e2, fun k _ _ => z_of _⟩
theorem RT_any {mM : Mem} (e9 : mM 9 0 = zI 0) : ∃ (a d h : Int) (y : VI), RT mM (0, a, d, h, y) := ⟨(mM 10 0).toInt, (mM 11 0).toInt, (mM 12 0).toInt, fun k => (mM 5 (zI k).toNatClampNeg).toInt, e9, z_of _, z_of _, z_of _, fun k _ _ => z_of _⟩
def errT (t : Int → Int) (n : Int) : Int × Int := if 0 < n then errF t n 121 0 else (0, 0)
theorem errT_b (t : Int → Int) {n : Int} (h : 0 ≤ n) : (0 ≤ (errT t n).1 ∧ (errT t n).1 ≤ 3) ∧ 0 ≤ (errT t n).2 ∧ (errT t n).2 ≤ n := by
  unfold errT
  by_cases q : 0 < n
  · rw [if_pos q]; exact errF_b t n 121 0 (Int.le_refl _) h
  · rw [if_neg q]; exact ⟨⟨Int.le_refl _, by show (0 : Int) ≤ 3; decide⟩, Int.le_refl _, h⟩
theorem s_readAll {n : Int} {t : Int → Int} {mT : Mem} (h : TT n t mT) : Ev (f_X7_readAll mT) (fun m => TT n t m ∧ m 1 0 = zI (errT t n).2 ∧ m 2 0 = zI (errT t n).1) := by
  have n1 := h.1
  obtain ⟨f, hf⟩ : ∃ f, fuel = f + 1 := ⟨fuel - 1, by have := fuel_gt (n := 9) (by omega); omega⟩
  have hf9 : 200 < f + 1 := by rw [← hf]; exact fuel_gt (by omega)
  unfold f_X7_readAll
  refine Ev_bd1 (s_start h) (fun m hm => ?_)
  obtain ⟨h1, h2, h3, h4⟩ := hm
  rw [hf]
  unfold errT
  by_cases q : 0 < n
  · rw [if_pos q] at h4 ⊢
    obtain ⟨x, hC⟩ := CT_any h1 h2 h3
    exact s_err 121 0 0 (f + 1) m x hC h4 (Int.le_refl _) (by omega) (by omega) (Int.le_refl _) (by omega) (by omega)
  · rw [if_neg q] at h4 ⊢
    have := s_L6stop (c := 0) (g := 0) (e := 0) (fu := f) (by omega) h4 h3 (Or.inl rfl) (by omega) (by omega)
    rw [show (0 : Int32) = zI 0 from rfl, this]
    exact Ev_some ⟨h1, h2, h3⟩
theorem m_error {n : Int} {t : Int → Int} {mM : Mem} {nM : MemL} (h : TM n t mM) : Ev (f_X9_error mM nM) (fun o => o.1 = zI (codT (errT t n)) ∧ SR mM o.2) := by
  have n1 := h.1
  obtain ⟨f, hf⟩ : ∃ f, fuel = f + 1 := ⟨fuel - 1, by have := fuel_gt (n := 9) (by omega); omega⟩
  have hf9 : 200 < f + 1 := by rw [← hf]; exact fuel_gt (by omega)
  unfold f_X9_error
  refine Ev_lt ?_
  have hr : SR mM (wrI mM 9 (fun _ => (0 : Int32))) := SR.w9 (fun _ _ _ _ _ _ => rfl) _
  have hT := h.sr hr
  have h9 : wrI mM 9 (fun _ => (0 : Int32)) 9 0 = zI 0 := by rw [wrI_at]; rfl
  generalize wrI mM 9 (fun _ => (0 : Int32)) = m at hr hT h9 ⊢
  rw [hf]
  unfold errT
  by_cases q : 0 < n
  · rw [if_pos q]
    obtain ⟨a, d, g, y, hR⟩ := RT_any h9
    exact m_err (m0 := mM) q (fun k k0 k1 => (h.2.2 k k0 k1).2) 121 0 a d g y (Int.le_refl _) (by omega) (by omega) (f + 1) m (by omega) hR hT hr
  · rw [if_neg q]
    have en : n = 0 := by omega
    have h7 := hT.2.1
    rw [en] at h7
    conv => arg 1; unfold f_X9_error_L7
    rw [h7, if_pos (show zI 0 ≤ (0 : Int32) by decide), if_pos (show zI 0 = (0 : Int32) from rfl)]
    exact Ev_some ⟨rfl, hr⟩
theorem MS.keep {v : VI} {c : Int} {H : Int → VI} {mM mM' : Mem} {nM : MemL} (h : MS v c H mM nM) (e : mM' 6 = mM 6) : MS v c H mM' nM := ⟨by rw [e]; exact h.1, h.2⟩
section
variable {v : VI} {c : Int} {H : Int → VI} {mT imdP : Mem} {indP : MemL} {imdS imdB imdO imdR imdA : Mem} {indA : MemL} {mP : Mem} {nP : MemL} {mS mB mO mR mA : Mem} {nA : MemL} {mH : Mem} {hs : Nat → PSt} {mM : Mem} {nM : MemL} {n : Int} {t : Int → Int}
/-- what the reference leaves of a call of the text: the kind it threw, the answer, the world -/
def MU (cd r : Int) (k : Nat) (v : VI) (c : Int) (H : Int → VI) (n : Int) (t : Int → Int) (nM : MemL) (o : Int32 × Mem) : Prop := o.2 8 0 = zI cd ∧ (k = 0 → o.1 = zI r) ∧ TM n t o.2 ∧ MS v c H o.2 nM
theorem u_errorPosition (hT : TT n t mT) (hM : TM n t mM) (hS : MS v c H mM nM) : ∃ r : Int, Ev (f_X8_errorPosition mT imdP indP imdS imdB imdO imdR imdA indA mP nP mS mB mO mR mA nA mH hs) (fun o => o.1 = zI r ∧ TT n t o.2) ∧ Ev (f_X9_errorPosition mM nM) (MU 0 r 0 v c H n t nM) := by
  have n1 := hT.1
  have eb := errT_b t n1.1
  have r8 : SX mM (wrI mM 8 (fun _ => zI 0)) → True := fun _ => trivial
  refine ⟨if (errT t n).1 = 0 then -1 else (errT t n).2, ?_, ?_⟩
  · unfold f_X8_errorPosition
    refine Ev_bd1 (s_readAll hT) (fun m hm => ?_)
    rw [hm.2.2, hm.2.1]
    by_cases q : (errT t n).1 = 0
    · rw [if_pos (show zI (errT t n).1 = (0 : Int32) by rw [q]; rfl), if_pos q]
      exact Ev_some ⟨rfl, hm.1⟩
    · rw [if_neg (show ¬ zI (errT t n).1 = (0 : Int32) from z_ne (b := 0) (by omega) (by omega) (by omega) (by omega) q), if_neg q]
      exact Ev_some ⟨rfl, hm.1⟩
  · unfold f_X9_errorPosition
    refine Ev_lt ?_
    have h8 : TM n t (wrI mM 8 (fun _ => (0 : Int32))) := ⟨hM.1, by rw [wrI_ne _ _ (by decide)]; exact hM.2.1, fun k k0 k1 => by rw [wrI_ne _ _ (by decide)]; exact hM.2.2 k k0 k1⟩
    refine Ev_bd2 (m_error (nM := nM) h8) (fun r m hm => ?_)
    obtain ⟨g1, g2⟩ := hm
    dsimp only at g1 g2
    have hT' := h8.sr g2
    have e8 : m 8 0 = zI 0 := by rw [g2 8 (by decide) (by decide) (by decide) (by decide) (by decide), wrI_at]; rfl
    have hS' : MS v c H m nM := hS.keep (by rw [g2 6 (by decide) (by decide) (by decide) (by decide) (by decide), wrI_ne _ _ (by decide)])
    rw [g1]
    unfold codT
    by_cases q : (errT t n).1 = 0
    · rw [if_pos q, if_pos (show zI (-1) = (-1 : Int32) from rfl), if_pos q]
      exact Ev_some ⟨e8, fun _ => rfl, hT', hS'⟩
    · rw [if_neg q, if_neg (show ¬ zI (4 * (errT t n).2 + (errT t n).1) = (-1 : Int32) from z_ne (b := -1) (by omega) (by omega) (by omega) (by omega) (by omega)), if_neg q, show (4 : Int32) = zI 4 from rfl, z_div (by omega) (by omega) (by omega) (by omega)]
      exact Ev_some ⟨e8, fun _ => by dsimp only; congr 1; omega, hT', hS'⟩
theorem u_errorKind (hT : TT n t mT) (hM : TM n t mM) (hS : MS v c H mM nM) : ∃ r : Int, Ev (f_X8_errorKind mT imdP indP imdS imdB imdO imdR imdA indA mP nP mS mB mO mR mA nA mH hs) (fun o => o.1 = zI r ∧ TT n t o.2) ∧ Ev (f_X9_errorKind mM nM) (MU 0 r 0 v c H n t nM) := by
  have n1 := hT.1
  have eb := errT_b t n1.1
  refine ⟨(errT t n).1, ?_, ?_⟩
  · unfold f_X8_errorKind
    refine Ev_bd1 (s_readAll hT) (fun m hm => ?_)
    rw [hm.2.2]
    exact Ev_some ⟨rfl, hm.1⟩
  · unfold f_X9_errorKind
    refine Ev_lt ?_
    have h8 : TM n t (wrI mM 8 (fun _ => (0 : Int32))) := ⟨hM.1, by rw [wrI_ne _ _ (by decide)]; exact hM.2.1, fun k k0 k1 => by rw [wrI_ne _ _ (by decide)]; exact hM.2.2 k k0 k1⟩
    refine Ev_bd2 (m_error (nM := nM) h8) (fun r m hm => ?_)
    obtain ⟨g1, g2⟩ := hm
    dsimp only at g1 g2
    have hT' := h8.sr g2
    have e8 : m 8 0 = zI 0 := by rw [g2 8 (by decide) (by decide) (by decide) (by decide) (by decide), wrI_at]; rfl
    have hS' : MS v c H m nM := hS.keep (by rw [g2 6 (by decide) (by decide) (by decide) (by decide) (by decide), wrI_ne _ _ (by decide)])
    rw [g1]
    unfold codT
    by_cases q : (errT t n).1 = 0
    · rw [if_pos q, if_pos (show zI (-1) = (-1 : Int32) from rfl), q]
      exact Ev_some ⟨e8, fun _ => rfl, hT', hS'⟩
    · rw [if_neg q, if_neg (show ¬ zI (4 * (errT t n).2 + (errT t n).1) = (-1 : Int32) from z_ne (b := -1) (by omega) (by omega) (by omega) (by omega) (by omega)), show (4 : Int32) = zI 4 from rfl, z_div (by omega) (by omega) (by omega) (by omega), z_mul, z_sub]
      exact Ev_some ⟨e8, fun _ => by dsimp only; congr 1; omega, hT', hS'⟩
theorem u_clear (hT : TT n t mT) (hM : TM n t mM) (hS : MS v c H mM nM) : Ev (f_X8_clear mT imdP indP imdS imdB imdO imdR imdA indA mP nP mS mB mO mR mA nA mH hs) (fun o => o.1 = zI n ∧ TT 0 t o.2) ∧ Ev (f_X9_clear mM nM) (MU 0 n 0 v c H 0 t nM) := by
  refine ⟨?_, ?_⟩
  · unfold f_X8_clear f_X7_empty
    rw [lt_eq, lt_eq, bd2_s]
    exact Ev_some ⟨hT.2.1, ⟨by omega, by omega⟩, by dsimp only; rw [wrI_at]; rfl, fun k k0 k1 => by omega⟩
  · unfold f_X9_clear
    refine Ev_lt (Ev_lt (Ev_lt (Ev_some ⟨?_, fun _ => ?_, ⟨⟨by omega, by omega⟩, ?_, fun k k0 k1 => by omega⟩, hS.keep ?_⟩)))
    · dsimp only
      rw [wrI_ne _ _ (by decide), wrI_at]; rfl
    · dsimp only
      rw [wrI_ne _ _ (by decide)]; exact hM.2.1
    · dsimp only
      rw [wrI_at]; rfl
    · dsimp only
      rw [wrI_ne _ _ (by decide), wrI_ne _ _ (by decide)]
theorem c_char : ∀ k : Nat, k < 127 → ((zI (k : Int)).toUInt32 % 65536).toInt32 = zI (k : Int) := by decide +kernel
theorem u_append {a : Int} (a0 : -2147483648 ≤ a) (a1 : a < 2147483648) (hT : TT n t mT) (hM : TM n t mM) (hS : MS v c H mM nM) : ∃ (k : Nat) (cd r n' : Int) (t' : Int → Int), KAS k cd ∧ Ev (f_X8_append (zI a) mT imdP indP imdS imdB imdO imdR imdA indA mP nP mS mB mO mR mA nA mH hs) (fun o => o.1 = k ∧ (k = 0 → o.2.1 = zI r) ∧ TT n' t' o.2.2) ∧ Ev (f_X9_append (zI a) mM nM) (MU cd r k v c H n' t' nM) := by
  have n1 := hT.1
  have e1 := s_within (a := a) (b := 32) (c := 126) a0 a1 (by omega) (by omega) (by omega) (by omega)
  have f1 := m_in (a := a) (b := 32) (c := 126) (by omega) (by omega) (by omega) (by omega) (by omega) (by omega)
  have h8 : TM n t (wrI mM 8 (fun _ => zI 0)) := ⟨hM.1, by rw [wrI_ne _ _ (by decide)]; exact hM.2.1, fun k k0 k1 => by rw [wrI_ne _ _ (by decide)]; exact hM.2.2 k k0 k1⟩
  have hS8 : MS v c H (wrI mM 8 (fun _ => zI 0)) nM := hS.keep (wrI_ne _ _ (by decide))
  have g8 : wrI mM 8 (fun _ => zI 0) 8 0 = zI 0 := wrI_at _ _ _ _
  have bad : ∀ cd : Int, Ev (bd2 (f_X9_refuse (zI cd) (wrI mM 8 (fun _ => zI 0)) nM) fun r m => some (r, m)) (MU cd 0 1 v c H n t nM) := fun cd => by
    unfold f_X9_refuse
    rw [lt_eq, bd2_s]
    exact Ev_some ⟨by dsimp only; rw [wrI_at], fun q => absurd q (by decide), ⟨h8.1, by dsimp only; rw [wrI_ne _ _ (by decide)]; exact h8.2.1, fun k k0 k1 => by dsimp only; rw [wrI_ne _ _ (by decide)]; exact h8.2.2 k k0 k1⟩, hS8.keep (by dsimp only; rw [wrI_ne _ _ (by decide)])⟩
  by_cases c1 : 32 ≤ a ∧ a ≤ 126
  · rw [if_pos c1] at e1 f1
    by_cases c2 : n = 120
    · have l1 : (120 ≤ n) = True := eq_true (by omega)
      have l2 : (n = 120) = True := eq_true c2
      refine ⟨3, 2, 0, n, t, Or.inr (Or.inr ⟨rfl, rfl⟩), ?_, ?_⟩
      · simp (disch := omega) only [f_X8_append, f_X8_append_b28, z_c0, z_c1, z_c32, z_c120, z_c126, z_add, z_sub, z_neg, y_neg, z_mul, z_div, z_l, y_i, y_add, y_sub, y_mul, y_div, z_lt, z_le, z_eq, y_c1, y_c2, y_c3, y_c4, y_c5, z_gi, bd1_s, bd2_s, mul30, z_ofNat, e1, hT.2.1, l1, nAq_1, nSq_0, eq_self, if_true, if_false, lt_eq, iz1, nz1, nz2, nz3, il0, il1, il2, il3, Int.reduceEq, Int.reduceLE, Int.reduceAdd]
        exact Ev_some ⟨rfl, fun q => absurd q (by decide), hT⟩
      · simp (disch := omega) only [f_X9_append, z_c0, z_c1, z_c2, z_c120, y_c32_, y_c126_, z_add, z_sub, z_neg, y_neg, z_mul, z_div, z_l, y_i, y_add, y_sub, y_mul, y_div, z_lt, z_le, z_eq, y_c1, y_c2, y_c3, y_c4, y_c5, z_gi, bd1_s, bd2_s, mul30, z_ofNat, f1, h8.2.1, l2, eq_self, if_true, if_false, lt_eq, iz1, nz1, nz2, nz3, il0, il1, il2, il3, Int.reduceEq, Int.reduceLE, Int.reduceAdd]
        exact Ev_mono (bad 2) (fun o ho => ⟨ho.1, fun q => absurd q (by decide), ho.2.2⟩)
    · have l1 : (120 ≤ n) = False := eq_false (by omega)
      have l2 : (n = 120) = False := eq_false c2
      obtain ⟨k, rfl⟩ : ∃ k : Nat, a = k := ⟨a.toNat, by omega⟩
      have ech := c_char k (by omega)
      refine ⟨0, 0, n + 1, n + 1, upV t n k, Or.inl ⟨rfl, rfl⟩, ?_, ?_⟩
      · have key : Ev (f_X7_addSign (zI (k : Int)) mT) (fun o => o.1 = zI (n + 1) ∧ TT (n + 1) (upV t n k) o.2) := by
          unfold f_X7_addSign
          rw [hT.2.1, if_neg (show ¬ (120 : Int32) ≤ zI n from fun r => by rw [show (120 : Int32) = zI 120 from rfl, z_le (by omega) (by omega) (by omega) (by omega)] at r; omega)]
          refine Ev_gi n1.1 (by show n < (120 : Int); omega) (by decide) (Ev_gch (by omega) (by omega) (Ev_lt ?_))
          rw [wrI_ne _ _ (by decide), hT.2.1, z_c1, z_add]
          refine Ev_lt (Ev_some ⟨by dsimp only; rw [wrI_at], by omega, by dsimp only; rw [wrI_at], fun j j0 j1 => ?_⟩)
          dsimp only
          rw [wrI_ne _ _ (by decide), wrI_same, upd_rd _ _ (by omega) (by omega) j0 (by omega)]
          by_cases q : j = n
          · rw [if_pos q, q, upV_same]; exact ⟨rfl, c1⟩
          · rw [if_neg q, upV_ne _ _ q]; exact hT.2.2 j j0 (by omega)
        simp (disch := omega) only [f_X8_append, f_X8_append_b28, z_c0, z_c1, z_c32, z_c120, z_c126, z_add, z_sub, z_neg, y_neg, z_mul, z_div, z_l, y_i, y_add, y_sub, y_mul, y_div, z_lt, z_le, z_eq, y_c1, y_c2, y_c3, y_c4, y_c5, z_gi, bd1_s, bd2_s, mul30, z_ofNat, e1, hT.2.1, l1, nAq_1, nSq_1, ech, eq_self, if_true, if_false, lt_eq, iz1, nz1, nz2, nz3, il0, il1, il2, il3, Int.reduceEq, Int.reduceLE, Int.reduceAdd]
        exact Ev_bd2 key (fun r m hm => Ev_some ⟨rfl, fun _ => hm.1, hm.2⟩)
      · simp (disch := omega) only [f_X9_append, z_c0, z_c1, z_c2, z_c120, y_c32_, y_c126_, z_add, z_sub, z_neg, y_neg, z_mul, z_div, z_l, y_i, y_add, y_sub, y_mul, y_div, z_lt, z_le, z_eq, y_c1, y_c2, y_c3, y_c4, y_c5, z_gi, bd1_s, bd2_s, mul30, z_ofNat, f1, h8.2.1, l2, eq_self, if_true, if_false, lt_eq, iz1, nz1, nz2, nz3, il0, il1, il2, il3, Int.reduceEq, Int.reduceLE, Int.reduceAdd]
        refine Ev_lt ?_
        have w7 : wrI (wrI mM 8 fun _ => zI 0) 4 (upd ((wrI mM 8 fun _ => zI 0) 4) (zI n).toNatClampNeg (zI (k : Int))) 7 0 = zI n := by rw [wrI_ne _ _ (by decide)]; exact h8.2.1
        rw [w7, z_add]
        refine Ev_lt (Ev_some ⟨?_, fun _ => by dsimp only; rw [wrI_at], ⟨by omega, by dsimp only; rw [wrI_at], fun j j0 j1 => ?_⟩, hS8.keep ?_⟩)
        · dsimp only
          rw [wrI_ne _ _ (by decide), wrI_ne _ _ (by decide)]; exact g8
        · dsimp only
          rw [wrI_ne _ _ (by decide), wrI_same, upd_rd _ _ (by omega) (by omega) j0 (by omega)]
          by_cases q : j = n
          · rw [if_pos q, q, upV_same]; exact ⟨rfl, c1⟩
          · rw [if_neg q, upV_ne _ _ q]; exact h8.2.2 j j0 (by omega)
        · dsimp only
          rw [wrI_ne _ _ (by decide), wrI_ne _ _ (by decide)]
  · rw [if_neg c1] at e1 f1
    refine ⟨2, 1, 0, n, t, Or.inr (Or.inl ⟨rfl, rfl⟩), ?_, ?_⟩
    · simp (disch := omega) only [f_X8_append, f_X8_append_b28, z_c0, z_c1, z_c32, z_c120, z_c126, z_add, z_sub, z_neg, y_neg, z_mul, z_div, z_l, y_i, y_add, y_sub, y_mul, y_div, z_lt, z_le, z_eq, y_c1, y_c2, y_c3, y_c4, y_c5, z_gi, bd1_s, bd2_s, mul30, z_ofNat, e1, nAq_0, eq_self, if_true, if_false, lt_eq, iz1, nz1, nz2, nz3, il0, il1, il2, il3, Int.reduceEq, Int.reduceLE, Int.reduceAdd]
      exact Ev_some ⟨rfl, fun q => absurd q (by decide), hT⟩
    · simp (disch := omega) only [f_X9_append, z_c0, z_c1, z_c2, z_c120, y_c32_, y_c126_, z_add, z_sub, z_neg, y_neg, z_mul, z_div, z_l, y_i, y_add, y_sub, y_mul, y_div, z_lt, z_le, z_eq, y_c1, y_c2, y_c3, y_c4, y_c5, z_gi, bd1_s, bd2_s, mul30, z_ofNat, f1, eq_self, if_true, if_false, lt_eq, iz1, nz1, nz2, nz3, il0, il1, il2, il3, Int.reduceEq, Int.reduceLE, Int.reduceAdd]
      exact Ev_mono (bad 1) (fun o ho => ⟨ho.1, fun q => absurd q (by decide), ho.2.2⟩)
end
