/-! execute: the two loops, command by command -/
abbrev CO : Type := Nat × Int32 × Mem × Mem × MemL × Mem × Mem × Mem × Mem × Mem × MemL × Mem × (Nat → PSt)
def SX (m m' : Mem) : Prop := ∀ k : Nat, k ≠ 3 → k ≠ 5 → k ≠ 7 → k ≠ 9 → k ≠ 10 → k ≠ 11 → k ≠ 12 → m' k = m k
def RQx (m0 : Mem) (sv tv : Nat → Int64) (r : Int) (v : VI) (o : Int32 × Mem × MemL) : Prop := o.1 = zI r ∧ o.2.1 7 0 = zI 0 ∧ SX m0 o.2.1 ∧ MR o.2.2 v sv tv
def CQx (mH : Mem) (hs : Nat → PSt) (r : Int) (v : VI) (o : CO) : Prop := o.1 = 0 ∧ o.2.1 = zI r ∧ o.2.2.1 0 0 = zI 0 ∧ DOs (o.2.2.2.1, o.2.2.2.2.1, o.2.2.2.2.2.1, o.2.2.2.2.2.2.1, o.2.2.2.2.2.2.2.1, o.2.2.2.2.2.2.2.2.1, o.2.2.2.2.2.2.2.2.2.1, o.2.2.2.2.2.2.2.2.2.2.1) v ∧ o.2.2.2.2.2.2.2.2.2.2.2.1 = mH ∧ o.2.2.2.2.2.2.2.2.2.2.2.2 = hs
def GX (X : Option CO) (m0 : Mem) (sv tv : Nat → Int64) (mH : Mem) (hs : Nat → PSt) (y : Option (Int32 × Mem × MemL)) : Prop := ∃ (r : Int) (v : VI), PK v ∧ Ev X (CQx mH hs r v) ∧ Ev y (RQx m0 sv tv r v)
theorem SX.w9 {a b : Mem} (h : SX a b) (f : Nat → Int32) : SX a (wrI b 9 f) := fun k k3 k5 k7 k9 k10 k11 k12 => by rw [wrI_ne _ _ k9]; exact h k k3 k5 k7 k9 k10 k11 k12
theorem SX.w7 {a b : Mem} (h : SX a b) (f : Nat → Int32) : SX a (wrI b 7 f) := fun k k3 k5 k7 k9 k10 k11 k12 => by rw [wrI_ne _ _ k7]; exact h k k3 k5 k7 k9 k10 k11 k12
theorem SX.sr {a b c : Mem} (h : SX a b) (h' : SR b c) : SX a c := fun k k3 k5 k7 k9 k10 k11 k12 => by rw [h' k k5 k9 k10 k11 k12, h k k3 k5 k7 k9 k10 k11 k12]
theorem SX.s3 {a b c : Mem} (h : SX a b) (h' : ∀ j : Nat, j ≠ 3 → c j = b j) : SX a c := fun k k3 k5 k7 k9 k10 k11 k12 => by rw [h' k k3, h k k3 k5 k7 k9 k10 k11 k12]
theorem TM.s3 {n : Int} {t : Int → Int} {mM mM' : Mem} (h : TM n t mM) (e : ∀ j : Nat, j ≠ 3 → mM' j = mM j) : TM n t mM' := by
  obtain ⟨a, b, c⟩ := h
  exact ⟨a, by rw [e 7 (by decide)]; exact b, fun k k0 k1 => by rw [e 4 (by decide)]; exact c k k0 k1⟩
theorem TM.w9 {n : Int} {t : Int → Int} {mM : Mem} (h : TM n t mM) (f : Nat → Int32) : TM n t (wrI mM 9 f) := h.sr (SR.w9 (fun _ _ _ _ _ _ => rfl) f)
/-- one sign in the reference's second loop -/
theorem m_L45 {t : Int → Int} {n k : Int} {c : Int32} {fu : Nat} {mM : Mem} {nM : MemL} (h : TM n t mM) (k0 : 0 ≤ k) (k1 : k < n) : f_X9_execute_L45 (fu + 1) c (zI 1) (zI k) mM nM = bd2 (f_X9_readOne (zI (t k)) mM nM) fun r m => (if m 4 (zI k).toNatClampNeg = 59 then f_X9_execute_b90 (f_X9_execute_L45 fu) c (zI k) m nM else (if zI k = m 7 0 - 1 then f_X9_execute_b90 (f_X9_execute_L45 fu) c (zI k) m nM else f_X9_execute_b112 (f_X9_execute_L45 fu) c (zI 1) (zI k) m nM)) := by
  obtain ⟨⟨n0, n1⟩, h7, h4⟩ := h
  conv => lhs; unfold f_X9_execute_L45
  rw [h7, if_neg (by rw [z_le (by omega) (by omega) (by omega) (by omega)]; omega), if_neg (show ¬ zI 1 = (0 : Int32) by decide), z_gi k0 (by show k < (120 : Int); omega) (by decide), (h4 k k0 k1).1]
  congr 1
  funext r m
  rw [z_gi k0 (by show k < (120 : Int); omega) (by decide)]
theorem m_L45end {k n : Int} {c x2 : Int32} {fu : Nat} {mM : Mem} {nM : MemL} (n0 : 0 ≤ n ∧ n ≤ 120) (k0 : 0 ≤ k ∧ k ≤ 120) (h7 : mM 7 0 = zI n) (h : n ≤ k ∨ x2 = 0) : f_X9_execute_L45 (fu + 1) c x2 (zI k) mM nM = some (c, wrI mM 7 (fun _ => zI 0), nM) := by
  conv => lhs; unfold f_X9_execute_L45 f_X9_execute_b118
  rw [h7]
  by_cases q : n ≤ k
  · rw [if_pos (by rw [z_le (by omega) (by omega) (by omega) (by omega)]; omega), lt_eq]; rfl
  · rw [if_neg (by rw [z_le (by omega) (by omega) (by omega) (by omega)]; omega)]
    rcases h with q2 | q2
    · exact absurd q2 q
    · rw [q2, if_pos rfl, lt_eq]; rfl
theorem m_b105 {k c : Int} {x2 t0 : Int32} {u : Int} (ht : t0 = zI u) {mM : Mem} {nM : MemL} {g : Int32 → Int32 → Int32 → Mem → MemL → Option (Int32 × Mem × MemL)} : f_X9_execute_b105 g x2 (zI k) t0 (zI c) mM nM = g (zI (c + u)) x2 (zI (k + 1)) (wrI mM 9 (fun _ => zI 0)) nM := by
  unfold f_X9_execute_b105 f_X9_execute_b112
  rw [ht, lt_eq, lt_eq, lt_eq, z_add, z_c1, z_add]
  rfl
def PX (t : Int → Int) (n c : Int) (X : Option CO) (m0 : Mem) (sv tv : Nat → Int64) (mH : Mem) (hs : Nat → PSt) (nM : MemL) (k : Int) (S : TS) : Prop := ∀ (fu : Nat) (mM : Mem), n - k + 1 < fu → RT mM S → TM n t mM → SX m0 mM → GX X m0 sv tv mH hs (if k < n then f_X9_execute_L45 fu (zI c) (zI 1) (zI k) mM nM else f_X9_execute_b90 (f_X9_execute_L45 fu) (zI c) (zI (n - 1)) mM nM)
theorem GX_bd2 {X : Option CO} {m0 : Mem} {sv tv : Nat → Int64} {mH : Mem} {hs : Nat → PSt} {a : Option (Int32 × Mem)} {k : Int32 → Mem → Option (Int32 × Mem × MemL)} {R : Int32 × Mem → Prop} (h : Ev a R) (hk : ∀ r m, R (r, m) → GX X m0 sv tv mH hs (k r m)) : GX X m0 sv tv mH hs (bd2 a k) := by
  obtain ⟨⟨r, m⟩, e, h⟩ := h
  rw [e]
  exact hk r m h
theorem PX_step {t : Int → Int} {n c : Int} {X : Option CO} {m0 : Mem} {sv tv : Nat → Int64} {mH : Mem} {hs : Nat → PSt} {nM : MemL} (k : Int) (S S' : TS) (k0 : 0 ≤ k) (k1 : k < n) (k59 : t k ≠ 59) (hR : Rd (t k) S S') (hP : PX t n c X m0 sv tv mH hs nM (k + 1) S') : PX t n c X m0 sv tv mH hs nM k S := by
  intro fu mM hf hS hT hr
  obtain ⟨fu, rfl⟩ : ∃ m, fu = m + 1 := ⟨fu - 1, by omega⟩
  rw [if_pos k1, m_L45 hT k0 k1]
  refine GX_bd2 (hR mM nM hS) (fun r m hm => ?_)
  obtain ⟨g1, g2, g3⟩ := hm
  dsimp only at g1 g2 g3
  have hT' := hT.sr g3
  have tb := hT'.2.2 k k0 k1
  have nb := hT'.1
  rw [tb.1, if_neg (show ¬ zI (t k) = (59 : Int32) from z_ne (b := 59) (by omega) (by omega) (by omega) (by omega) k59), hT'.2.1, z_c1, z_sub]
  have hp := hP fu m (by omega) g2 hT' (hr.sr g3)
  by_cases q : k + 1 < n
  · rw [if_pos q] at hp
    rw [if_neg (fun r => by rw [z_eq (by omega) (by omega) (by omega) (by omega)] at r; omega)]
    unfold f_X9_execute_b112
    rw [lt_eq, z_c1, z_add]
    exact hp
  · rw [if_neg q] at hp
    have e : k = n - 1 := by omega
    rw [e, if_pos rfl]
    exact hp
theorem PX_semi {t : Int → Int} {n c : Int} {X : Option CO} {m0 : Mem} {sv tv : Nat → Int64} {mH : Mem} {hs : Nat → PSt} {nM : MemL} {k : Int} {S : TS} (k0 : 0 ≤ k) (k1 : k < n) (k59 : t k = 59) (hR : Rd 59 S S) (hP : ∀ (fu : Nat) (mM : Mem), n - k < fu → RT mM S → TM n t mM → SX m0 mM → GX X m0 sv tv mH hs (f_X9_execute_b90 (f_X9_execute_L45 fu) (zI c) (zI k) mM nM)) : PX t n c X m0 sv tv mH hs nM k S := by
  intro fu mM hf hS hT hr
  obtain ⟨fu, rfl⟩ : ∃ m, fu = m + 1 := ⟨fu - 1, by omega⟩
  rw [if_pos k1, m_L45 hT k0 k1, k59]
  refine GX_bd2 (hR mM nM hS) (fun r m hm => ?_)
  obtain ⟨g1, g2, g3⟩ := hm
  dsimp only at g1 g2 g3
  have hT' := hT.sr g3
  have tb := hT'.2.2 k k0 k1
  rw [tb.1, k59, if_pos (show zI 59 = (59 : Int32) from rfl)]
  exact hP fu m (by omega) g2 hT' (hr.sr g3)
section
variable {imdP : Mem} {indP : MemL} {imdS imdB imdO imdR imdA : Mem} {indA : MemL} {mH : Mem} {hs : Nat → PSt}
theorem s_E45stop {mT mP : Mem} {nP : MemL} {mS mB mO mR mA : Mem} {nA : MemL} {c g : Int} {fu : Nat} {v : VI} (c0 : 0 ≤ c ∧ c ≤ 120) (e6 : mT 6 0 = zI 0) (e2 : mT 2 0 = zI 0) (R : RW mP nP mS mB mO mR mA nA v) : Ev (f_X8_execute_L45 imdP indP imdS imdB imdO imdR imdA indA mH hs (fu + 1) (zI c) mT mP nP mS mB mO mR mA nA) (CQx mH hs c v) := by
  have eh := s_hasCmd e6 e2 (Or.inl rfl) (by omega)
  rw [if_neg (by omega)] at eh
  have eb : Ev (f_X8_execute_b88 (zI c) mT imdP indP imdS imdB imdO imdR imdA indA mP nP mS mB mO mR mA nA mH hs) (CQx mH hs c v) := by
    unfold f_X8_execute_b88 f_X7_empty
    rw [lt_eq, lt_eq, bd2_s]
    exact Ev_some ⟨rfl, rfl, congrFun (wrI_same mT 0 _) 0, R, rfl, rfl⟩
  conv => arg 1; unfold f_X8_execute_L45
  by_cases q : 120 ≤ c
  · rw [if_pos (by rw [show (120 : Int32) = zI 120 from rfl, z_le (by omega) (by omega) (by omega) (by omega)]; exact q)]; exact eb
  · rw [if_neg (by rw [show (120 : Int32) = zI 120 from rfl, z_le (by omega) (by omega) (by omega) (by omega)]; exact q), eh, bd1_s, if_pos (by rfl)]; exact eb
theorem s_E45go {mT mT2 mP : Mem} {nP : MemL} {mS mB mO mR mA : Mem} {nA : MemL} {c : Int} {fu : Nat} (c0 : 0 ≤ c ∧ c < 120) (e6 : mT 6 0 = zI 1) (e2 : mT 2 0 = zI 0) (er : f_X7_readCommand mT = some mT2) {f : Int} (ef : f_X8_commandFault mT2 imdP indP imdS imdB imdO imdR imdA indA mP nP mS mB mO mR mA nA mH hs = some (zI f)) (f0 : 0 ≤ f ∧ f ≤ 3) : f_X8_execute_L45 imdP indP imdS imdB imdO imdR imdA indA mH hs (fu + 1) (zI c) mT mP nP mS mB mO mR mA nA = if f = 0 then bd8 (f_X8_runCommand mT2 imdP indP imdS imdB imdO imdR imdA indA mP nP mS mB mO mR mA nA mH hs) fun a1 a2 a3 a4 a5 a6 a7 a8 => f_X8_execute_L45 imdP indP imdS imdB imdO imdR imdA indA mH hs fu (zI (c + 1)) mT2 a1 a2 a3 a4 a5 a6 a7 a8 else f_X8_execute_b88 (zI c) mT2 imdP indP imdS imdB imdO imdR imdA indA mP nP mS mB mO mR mA nA mH hs := by
  have eh := s_hasCmd e6 e2 (Or.inr rfl) (by omega)
  conv => lhs; unfold f_X8_execute_L45
  rw [if_neg (by rw [show (120 : Int32) = zI 120 from rfl, z_le (by omega) (by omega) (by omega) (by omega)]; omega), eh, bd1_s, if_neg (by decide), er, bd1_s, ef, bd1_s]
  by_cases q : f = 0
  · rw [if_pos q, if_pos (by rw [q]; rfl)]
    simp only [lt_eq, z_c1, z_add]
  · rw [if_neg q, if_neg (show ¬ zI (f) = (0 : Int32) from z_ne (b := 0) (by omega) (by omega) (by omega) (by omega) q)]
theorem s_b88 {mT mP : Mem} {nP : MemL} {mS mB mO mR mA : Mem} {nA : MemL} {c : Int} {v : VI} (R : RW mP nP mS mB mO mR mA nA v) : Ev (f_X8_execute_b88 (zI c) mT imdP indP imdS imdB imdO imdR imdA indA mP nP mS mB mO mR mA nA mH hs) (CQx mH hs c v) := by
  unfold f_X8_execute_b88 f_X7_empty
  rw [lt_eq, lt_eq, bd2_s]
  exact Ev_some ⟨rfl, rfl, congrFun (wrI_same mT 0 _) 0, R, rfl, rfl⟩
theorem valsT_lo (t : Int → Int) (n : Int) : ∀ (k : Nat) (i p : Int) (x : VI) (q : Int), q < i → valsT t n k i p x q = x q
  | 0, _, _, _, _, _ => rfl
  | k + 1, i, p, x, q, h => by
    show valsT t n k (i + 1) (p + dT t n p + 1) (upV x i (vlT t 0 p (dgc t n p 6))) q = x q
    rw [valsT_lo t n k (i + 1) _ _ q (by omega), upV_ne _ _ (by omega)]
theorem valsT_cg (t : Int → Int) (n : Int) : ∀ (k : Nat) (i p : Int) (x y : VI) (q : Int), i ≤ q → q < i + k → valsT t n k i p x q = valsT t n k i p y q
  | 0, i, _, _, _, q, h1, h2 => by omega
  | k + 1, i, p, x, y, q, h1, h2 => by
    show valsT t n k (i + 1) (p + dT t n p + 1) (upV x i (vlT t 0 p (dgc t n p 6))) q = valsT t n k (i + 1) (p + dT t n p + 1) (upV y i (vlT t 0 p (dgc t n p 6))) q
    by_cases e : q = i
    · rw [valsT_lo t n k (i + 1) _ _ q (by omega), valsT_lo t n k (i + 1) _ _ q (by omega), e, upV_same, upV_same]
    · exact valsT_cg t n k (i + 1) _ _ _ q (by omega) (by omega)
/-- from a command on -/
theorem exec_pair {t : Int → Int} {n : Int} {sv tv : Nat → Int64} : ∀ (j : Nat) (p c a d h : Int) (fu1 fu2 : Nat) (v x y : VI) (mT mP : Mem) (nP : MemL) (mS mB mO mR mA : Mem) (nA : MemL) (m0 mM : Mem) (nM : MemL), CT t n mT p 0 x → mT 6 0 = zI 1 → 0 ≤ p → p ≤ n → 0 < n → 0 ≤ c → 2 * c ≤ p → j + 1 < fu1 → n - p + 1 < fu2 → (errF t n j p).1 = 0 → n - p < j → PK v → RW mP nP mS mB mO mR mA nA v → MR nM v sv tv → TM n t mM → RT mM (0, a, d, h, y) → SX m0 mM →
    GX (f_X8_execute_L45 imdP indP imdS imdB imdO imdR imdA indA mH hs fu1 (zI c) mT mP nP mS mB mO mR mA nA) m0 sv tv mH hs (f_X9_execute_L45 fu2 (zI c) (zI 1) (zI p) mM nM) := by
  intro j
  induction j with
  | zero => intro p c a d h fu1 fu2 v x y mT mP nP mS mB mO mR mA nA m0 mM nM hC h6 p0 p1 n0 c0 cp hf1 hf2 he hj; omega
  | succ j ih =>
    intro p c a d h fu1 fu2 v x y mT mP nP mS mB mO mR mA nA m0 mM nM hC h6 p0 p1 n0 c0 cp hf1 hf2 he hj hPK hRW hMR hTM hRT hSX
    obtain ⟨fu1, rfl⟩ : ∃ m, fu1 = m + 1 := ⟨fu1 - 1, by omega⟩
    obtain ⟨fu1, rfl⟩ : ∃ m, fu1 = m + 1 := ⟨fu1 - 1, by omega⟩
    have n1 := hC.1.1
    have ht : ∀ k : Int, 0 ≤ k → k < n → 32 ≤ t k ∧ t k ≤ 126 := fun k k0 k1 => (hC.1.2.2 k k0 k1).2
    unfold errF at he
    by_cases cc : p < n ∧ dueT (t p) ≠ 0
    · rw [if_pos cc] at he
      by_cases c1 : (rTx t n p).1 = 0
      · rw [if_pos c1] at he
        obtain ⟨K, hK⟩ : ∃ K, dueT (t p) = K + 1 := ⟨dueT (t p) - 1, by omega⟩
        have kb := dueT_b (t p)
        obtain ⟨kn, kw⟩ := dueT_need cc.2
        have nb : (0 ≤ (rTx t n p).1 ∧ (rTx t n p).1 ≤ 3) ∧ p + 1 ≤ (rTx t n p).2 ∧ (rTx t n p).2 ≤ n := nums_b t n (dueT (t p)) (p + 1) (by omega)
        have mb := mkT_b t (t p) nb.2.2
        have mb2 : (rTx t n p).2 ≤ qTx t n p ∧ qTx t n p ≤ n := by unfold qTx; omega
        have eR : nums t n (K + 1) (p + 1) = rTx t n p := by unfold rTx; rw [hK]
        have w0 : 0 < t p ∧ t p < 200 := by omega
        -- the class reads the command
        obtain ⟨mT1, x1, b1, b2, b3, b4, b5⟩ := s_rc1 hC p0 cc.1 cc.2
        rw [c1] at b2
        obtain ⟨mT2, er, hE⟩ := s_b68o b2 (by omega) nb.2.2 (by omega) (by rw [b5]; exact h6) b4
        have hE : EndT t n (qTx t n p) (t p) _ x1 mT2 := hE
        obtain ⟨g1, g2, g3, g4⟩ := hE
        have er : f_X7_readCommand mT = some mT2 := by rw [b1]; exact er
        have qc : qTx t n p < n → t (qTx t n p) = 59 := fun q => by
          rw [if_pos q] at he
          by_cases z : t (qTx t n p) = 59
          · exact z
          · rw [if_neg z] at he; exact absurd (show (1 : Int) = 0 from he) (by decide)
        rw [if_neg (show ¬ (qTx t n p < n ∧ t (qTx t n p) ≠ 59) from fun r => r.2 (qc r.1))] at g1
        have x1e := b3 c1
        -- what happens when the reference has read it, at the place e
        have key : ∀ (D : Int) (e : Int) (fu : Nat) (m : Mem), 0 ≤ e → e < n → (if qTx t n p < n then e = qTx t n p else e = n - 1) → n - e < fu → RT m (t p, K, D, mkT t n (t p) (rTx t n p).2, valsT t n (K + 1) 0 (p + 1) y) → (∀ k : Int, 0 ≤ k → k < K + 1 → valsT t n (K + 1) 0 (p + 1) y k = x1 k) → TM n t m → SX m0 m → GX (f_X8_execute_L45 imdP indP imdS imdB imdO imdR imdA indA mH hs (fu1 + 1 + 1) (zI c) mT mP nP mS mB mO mR mA nA) m0 sv tv mH hs (f_X9_execute_b90 (f_X9_execute_L45 fu) (zI c) (zI e) m nM) := by
          intro D e fu m e0 e1 ee hf hRm hy hTm hSm
          obtain ⟨fu, rfl⟩ : ∃ m, fu = m + 1 := ⟨fu - 1, by omega⟩
          obtain ⟨f, v1, ef, f0, hP1, hno, hyes⟩ := xc_all (imdP := imdP) (indP := indP) (imdS := imdS) (imdB := imdB) (imdO := imdO) (imdR := imdR) (imdA := imdA) (indA := indA) (mH := mH) (hs := hs) hPK hRW hMR kw mb.1 g3 g4 g1.2.2.2 hRm (fun k k0 k1 => hy k k0 (by omega))
          rw [s_E45go (by omega) h6 hC.2.2.1 er ef f0]
          by_cases cf : f = 0
          · rw [if_pos cf]
            obtain ⟨hc, hm⟩ := hyes cf
            obtain ⟨⟨a1, a2, a3, a4, a5, a6, a7, a8⟩, e8, hD⟩ := hc
            obtain ⟨⟨r, m2, n2⟩, e3, q1, q2, q3⟩ := hm
            dsimp only at q1 q2 q3
            unfold f_X9_execute_b90
            rw [e8, bd8_s, e3, bd3_s', q1, if_neg (show ¬ zI 1 = (0 : Int32) by decide), m_b105 (t0 := (1 : Int32)) (u := 1) rfl]
            have hTm2 := (hTm.s3 q2).w9 (fun _ => zI 0)
            have hSm2 := (hSm.s3 q2).w9 (fun _ => zI 0)
            by_cases q : qTx t n p < n
            · rw [if_pos q] at ee g2 he
              rw [if_pos (qc q)] at he
              rw [if_pos ⟨q, qc q⟩] at g1
              have hRm2 : RT m2 (t p, K, D, mkT t n (t p) (rTx t n p).2, valsT t n (K + 1) 0 (p + 1) y) := ⟨by rw [q2 9 (by decide)]; exact hRm.1, by rw [q2 10 (by decide)]; exact hRm.2.1, by rw [q2 11 (by decide)]; exact hRm.2.2.1, by rw [q2 12 (by decide)]; exact hRm.2.2.2.1, by rw [q2 5 (by decide)]; exact hRm.2.2.2.2⟩
              rw [ee]
              exact ih (qTx t n p + 1) (c + 1) K D _ (fu1 + 1) (fu + 1) v1 x1 _ mT2 a1 a2 a3 a4 a5 a6 a7 a8 m0 _ n2 g1 g2 (by omega) (by omega) n0 (by omega) (by omega) (by omega) (by omega) he (by omega) hP1 hD q3 hTm2 (hRm2.w9 0) hSm2
            · rw [if_neg q] at ee g2
              refine ⟨c + 1, v1, hP1, s_E45stop (g := 0) (by omega) g2 g1.2.2.1 hD, ?_⟩
              rw [m_L45end (n := n) n1 (by omega) hTm2.2.1 (Or.inl (by omega))]
              exact Ev_some ⟨rfl, by dsimp only; rw [wrI_at], hSm2.w7 _, q3⟩
          · rw [if_neg cf]
            obtain ⟨-, ed⟩ := hno cf
            unfold f_X9_execute_b90
            rw [ed, bd3_s', if_pos (show zI 0 = (0 : Int32) from rfl), m_b105 (t0 := (0 : Int32)) (u := 0) rfl, Int.add_zero]
            refine ⟨c, v, hPK, s_b88 hRW, ?_⟩
            have hTm2 := hTm.w9 (fun _ => zI 0)
            rw [m_L45end (x2 := zI 0) (n := n) n1 (by omega) hTm2.2.1 (Or.inr rfl)]
            exact Ev_some ⟨rfl, by dsimp only; rw [wrI_at], (hSm.w9 _).w7 _, hMR⟩
        have hy : ∀ k : Int, 0 ≤ k → k < K + 1 → valsT t n (K + 1) 0 (p + 1) y k = x1 k := fun k k0 k1 => by
          rw [x1e, hK]
          exact valsT_cg t n (K + 1) 0 (p + 1) y x k k0 (by omega)
        have hgo : PX t n c (f_X8_execute_L45 imdP indP imdS imdB imdO imdR imdA indA mH hs (fu1 + 1 + 1) (zI c) mT mP nP mS mB mO mR mA nA) m0 sv tv mH hs nM p (0, a, d, h, y) := by
          refine go_cmd (fun k S S' => PX_step k S S') ht p0 cc.1 hK ?_ ?_
          · rw [eR]
            intro _ D D0 D6 hd
            show PX t n c _ m0 sv tv mH hs nM (qTx t n p) _
            by_cases q : qTx t n p < n
            · refine PX_semi (by omega) q (qc q) (rd_semi w0 ⟨by omega, by omega⟩ ⟨D0, D6⟩ mb.1 (by omega)) (fun fu m hf hR hT hS => ?_)
              exact key D (qTx t n p) fu m (by omega) q (by rw [if_pos q]) hf hR hy hT hS
            · intro fu m hf hR hT hS
              rw [if_neg q]
              exact key D (n - 1) fu m (by omega) (by omega) (by rw [if_neg q]) (by omega) hR hy hT hS
          · rw [eR]
            intro e
            exact absurd c1 e
        have := hgo fu2 mM hf2 hRT hTM hSX
        rw [if_pos cc.1] at this
        exact this
      · rw [if_neg c1] at he
        exact absurd he c1
    · rw [if_neg cc] at he
      exact absurd he (by show (if p < n then (1 : Int) else 3) ≠ 0; split <;> omega)
end
