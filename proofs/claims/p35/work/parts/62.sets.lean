/-! the public calls: what they share, and the settings -/
theorem RB.cg {mB : Mem} {v v' : VI} (h : RB mB v) (e1 : v' 1881 = v 1881) (e2 : ∀ j : Int, 507 ≤ j → j < 531 → v' j = v j) : RB mB v' := by
  obtain ⟨q1, q2, q3, q4⟩ := h
  exact ⟨by rw [e1]; exact q1, q2.cg fun k a1 a2 => e2 _ (by omega) (by omega), q3.cg fun k a1 a2 => e2 _ (by omega) (by omega), q4.cg fun k a1 a2 => e2 _ (by omega) (by omega)⟩
def MS (v : VI) (c : Int) (H : Int → VI) (mM : Mem) (nM : MemL) : Prop := mM 6 0 = zI c ∧ ∃ sv tv, MR nM v sv tv ∧ HM c H sv
def PK (v : VI) : Prop := Pl v ∧ v 1875 ≤ 10000 ∧ CW v
theorem PK.sameB {v v' : VI} (h : PK v) (hP : Pl v') (ht : v' 1875 = v 1875) (hle : v 1881 ≤ v' 1881) (e : ∀ j : Int, (47 ≤ j ∧ j < 52) ∨ (207 ≤ j ∧ j < 357) ∨ (515 ≤ j ∧ j < 531) ∨ (1811 ≤ j ∧ j < 1827) ∨ (1843 ≤ j ∧ j < 1875) ∨ j = 1876 ∨ j = 1877 ∨ j = 1878 ∨ j = 1880 ∨ j = 1883 ∨ j = 1884 ∨ j = 1886 → v' j = v j) : PK v' :=
  ⟨hP, by rw [ht]; exact h.2.1, h.2.2.cgB h.1.2.2.2.2.1 h.1.2.2.2.1.1.2 hle e⟩
theorem PK.same {v v' : VI} (h : PK v) (hP : Pl v') (ht : v' 1875 = v 1875) (e : ∀ j : Int, (47 ≤ j ∧ j < 52) ∨ (207 ≤ j ∧ j < 357) ∨ (515 ≤ j ∧ j < 531) ∨ (1811 ≤ j ∧ j < 1827) ∨ (1843 ≤ j ∧ j < 1875) ∨ j = 1876 ∨ j = 1877 ∨ j = 1878 ∨ j = 1880 ∨ j = 1881 ∨ j = 1883 ∨ j = 1884 ∨ j = 1886 → v' j = v j) : PK v' :=
  ⟨hP, by rw [ht]; exact h.2.1, h.2.2.cg h.1.2.2.2.2.1 h.1.2.2.2.1.1.2 e⟩
def WF (v : VI) (c : Int) (H : Int → VI) : Prop := PK v ∧ (0 ≤ c ∧ c ≤ 8) ∧ ∀ k : Int, 0 ≤ k → k < c → PK (H k)
def SM (mM mM' : Mem) : Prop := ∀ j : Nat, j ≠ 3 → j ≠ 6 → j ≠ 8 → mM' j = mM j
/-- what a call of the reference leaves: the kind it threw, the answer, the world -/
def MO (cd r : Int) (k : Nat) (v : VI) (c : Int) (H : Int → VI) (mM : Mem) (o : Int32 × Mem × MemL) : Prop := o.2.1 8 0 = zI cd ∧ (k = 0 → o.1 = zI r) ∧ SM mM o.2.1 ∧ MS v c H o.2.1 o.2.2
theorem pushN_b {c : Int} (h : 0 ≤ c ∧ c ≤ 8) : 0 ≤ pushN c ∧ pushN c ≤ 8 := by unfold pushN; split <;> omega
theorem WF.push {v v' : VI} {c : Int} {H : Int → VI} (h : WF v c H) (h' : PK v') : WF v' (pushN c) (pushH c H v) := by
  obtain ⟨h1, h2, h3⟩ := h
  refine ⟨h', pushN_b h2, fun k k0 k1 => ?_⟩
  unfold pushN at k1
  unfold pushH
  by_cases c8 : c = 8
  · rw [if_pos c8] at k1 ⊢
    show PK (if k = 7 then v else H (k + 1))
    by_cases q : k = 7
    · rw [if_pos q]; exact h1
    · rw [if_neg q]; exact h3 _ (by omega) (by omega)
  · rw [if_neg c8] at k1 ⊢
    show PK (if k = c then v else H k)
    by_cases q : k = c
    · rw [if_pos q]; exact h1
    · rw [if_neg q]; exact h3 _ k0 (by omega)
theorem MS.mr {v : VI} {c : Int} {H : Int → VI} {mM : Mem} {nM : MemL} (h : MS v c H mM nM) : ∃ sv tv, MR nM v sv tv ∧ HM c H sv := h.2
theorem MS.w8 {v : VI} {c : Int} {H : Int → VI} {mM : Mem} {nM : MemL} (h : MS v c H mM nM) (f : Nat → Int32) : MS v c H (wrI mM 8 f) nM := ⟨by rw [wrI_ne _ _ (by decide)]; exact h.1, h.2⟩
theorem m_fail {v : VI} {c : Int} {H : Int → VI} {mM : Mem} {nM : MemL} {cd r : Int} {k : Nat} (hk : k ≠ 0) (hM : MS v c H mM nM) (f : Nat → Int32) : Ev (bd2 (f_X9_refuse (zI cd) (wrI mM 8 f) nM) fun r m => some (r, m, nM)) (MO cd r k v c H mM) :=
  Ev_some ⟨congrFun (wrI_same (wrI mM 8 f) 8 (fun _ => zI cd)) 0, fun h => absurd h hk, fun j _ _ j8 => by show wrI (wrI mM 8 f) 8 _ j = _; rw [wrI_ne _ _ j8, wrI_ne _ _ j8], (hM.w8 f).w8 _⟩
/-- the reference saves, within a call -/
theorem m_sv {v : VI} {c : Int} {H : Int → VI} {mM : Mem} {nM : MemL} {β : Type} {k : Mem → MemL → Option β} {Q : β → Prop} (h : WF v c H) (hM : MS v c H mM nM) (hk : ∀ m n sv tv, m 8 0 = zI 0 → SM mM m → m 6 0 = zI (pushN c) → MR n v sv tv → HM (pushN c) (pushH c H v) sv → Ev (k m n) Q) : Ev (bd2 (f_X9_save (wrI mM 8 (fun _ => zI 0)) nM) k) Q := by
  obtain ⟨sv, tv, h1, h2⟩ := hM.2
  have h6 : (wrI mM 8 (fun _ => zI 0)) 6 0 = zI c := by rw [wrI_ne _ _ (by decide)]; exact hM.1
  refine Ev_bd2 (m_save h.2.1 h6 h2 h1) (fun m n hr => ?_)
  obtain ⟨g1, g2, sv', g3, g4⟩ := hr
  refine hk m n sv' tv ?_ (fun j j3 j6 j8 => ?_) g1 g3 g4
  · have := g2 8 (by decide)
    rw [show m 8 = _ from this, wrI_same]
  · rw [show m j = _ from g2 j j6, wrI_ne _ _ j8]
theorem m_change {v : VI} {c : Int} {H : Int → VI} {mM : Mem} {nM : MemL} {i x : Int} (h : WF v c H) (hM : MS v c H mM nM) (i0 : 0 ≤ i) (i1 : i < 1888) (x0 : -2147483648 ≤ x) (x1 : x < 2147483648) : Ev (bd3 (f_X9_change (zI i) (zI x) (wrI mM 8 (fun _ => zI 0)) nM) fun a b c => some (a, b, c)) (MO 0 (v i) 0 (upV v i x) (pushN c) (pushH c H v) mM) := by
  unfold f_X9_change
  refine Ev_bd3 (R := MO 0 (v i) 0 (upV v i x) (pushN c) (pushH c H v) mM) (m_sv h hM (fun m n sv tv h8 hs h6 hMR hHM => ?_)) (fun a b d hr => Ev_some hr)
  simp (disch := omega) only [z_add, z_sub, z_neg, y_neg, z_mul, z_div, z_l, y_i, y_add, y_sub, y_mul, y_div, z_lt, z_le, z_eq, y_c1, y_c2, y_c3, y_c4, y_c5, z_gi, bd1_s, bd2_s, mul30, z_ofNat, hMR.rd]
  refine Ev_lt (Ev_wr hMR i0 i1 (fun nM' hM' => ?_))
  exact Ev_some ⟨h8, fun _ => rfl, hs, h6, sv, tv, hM', hHM⟩
theorem s_within {a b c : Int} (a0 : -2147483648 ≤ a) (a1 : a < 2147483648) (b0 : -2147483648 ≤ b) (b1 : b < 2147483648) (c0 : -2147483648 ≤ c) (c1 : c < 2147483648) : f_X8_isWithin (zI a) (zI b) (zI c) = some (zI (if b ≤ a ∧ a ≤ c then 1 else 0)) := by
  simp (disch := omega) only [f_X8_isWithin, z_c0, z_c1, z_add, z_sub, z_neg, y_neg, z_mul, z_div, z_l, y_i, y_add, y_sub, y_mul, y_div, z_lt, z_le, z_eq, y_c1, y_c2, y_c3, y_c4, y_c5, z_gi, bd1_s, bd2_s, mul30, z_ofNat, lt_eq]
  repeat' split
  all_goals first | rfl | (exfalso; omega)
theorem m_in32 {a b c : Int} (a0 : -2147483648 ≤ a) (a1 : a < 2147483648) (b0 : -2147483648 ≤ b) (b1 : b < 2147483648) (c0 : -2147483648 ≤ c) (c1 : c < 2147483648) : f_X9_in (zI a).toInt64 (zL b) (zL c) = some (zI (if b ≤ a ∧ a ≤ c then 1 else 0)) := by
  rw [z_l a0 a1, m_in (by omega) (by omega) (by omega) (by omega) (by omega) (by omega)]
theorem nIq_1 : f_X8_needItem (zI 1) = some 0 := rfl
theorem nIq_0 : f_X8_needItem (zI 0) = some 1 := rfl
theorem nAq_1 : f_X8_needArgument (zI 1) = some 0 := rfl
theorem nAq_0 : f_X8_needArgument (zI 0) = some 2 := rfl
theorem nSq_1 : f_X8_needState (zI 1) = some 0 := rfl
theorem nSq_0 : f_X8_needState (zI 0) = some 3 := rfl
theorem rfq_0 : f_X8_refuse (zI 0) = some 0 := rfl
theorem rfq_1 : f_X8_refuse (zI 1) = some 1 := rfl
theorem rfq_2 : f_X8_refuse (zI 2) = some 2 := rfl
theorem rfq_3 : f_X8_refuse (zI 3) = some 3 := rfl
theorem iz1 : ((1 : Int) = 0) = False := by decide
theorem nz1 : ((1 : Nat) = 0) = False := by decide
theorem nz2 : ((2 : Nat) = 0) = False := by decide
theorem nz3 : ((3 : Nat) = 0) = False := by decide
theorem il0 : ((0 : Int) ≤ 0) = True := by decide
theorem il1 : ((1 : Int) ≤ 0) = False := by decide
theorem il2 : ((2 : Int) ≤ 0) = False := by decide
theorem il3 : ((3 : Int) ≤ 0) = False := by decide
theorem RS.up {mS : Mem} {v : VI} (h : RS mS v) (hz : ∀ s : Int, 0 ≤ s → s < 5 → v (47 + s) ≤ 30) {s x : Int} (s0 : 0 ≤ s) (s1 : s < 5) : RS (wrI mS 3 (upd (mS 3) (zI s).toNatClampNeg (zI x))) (upV v (37 + s) x) ∧ RS (wrI mS 4 (upd (mS 4) (zI s).toNatClampNeg (zI x))) (upV v (42 + s) x) := by
  obtain ⟨h1, h2, h3, h4, h5, h6, h7, h8⟩ := h
  refine ⟨⟨?_, ?_, ?_, ?_, ?_, ?_, ?_, fun t k t0 t1 k0 k1 => ?_⟩, ⟨?_, ?_, ?_, ?_, ?_, ?_, ?_, fun t k t0 t1 k0 k1 => ?_⟩⟩
  · rw [wrI_ne _ _ (by decide), upV_ne _ _ (by omega)]; exact h1
  · rw [wrI_ne _ _ (by decide), upV_ne _ _ (by omega)]; exact h2
  · rw [wrI_ne _ _ (by decide)]; exact h3.cg fun k a b => upV_ne _ _ (by omega)
  · rw [wrI_same]
    refine (h4.wr s0 s1 (by omega) x).cg fun k a b => ?_
    show upV v (37 + s) x (37 + k) = upV (fun s => v (37 + s)) s x k
    by_cases q : k = s
    · rw [q, upV_same, upV_same]
    · rw [upV_ne _ _ (by omega), upV_ne _ _ q]
  · rw [wrI_ne _ _ (by decide)]; exact h5.cg fun k a b => upV_ne _ _ (by omega)
  · rw [wrI_ne _ _ (by decide)]; exact h6.cg fun k a b => upV_ne _ _ (by omega)
  · rw [wrI_ne _ _ (by decide)]; exact h7.cg fun k a b => upV_ne _ _ (by omega)
  · have := hz t t0 t1
    rw [upV_ne _ _ (by omega)] at k1
    rw [wrI_ne _ _ (by decide), wrI_ne _ _ (by decide), wrI_ne _ _ (by decide), upV_ne _ _ (by omega), upV_ne _ _ (by omega), upV_ne _ _ (by omega)]
    exact h8 t k t0 t1 k0 k1
  · rw [wrI_ne _ _ (by decide), upV_ne _ _ (by omega)]; exact h1
  · rw [wrI_ne _ _ (by decide), upV_ne _ _ (by omega)]; exact h2
  · rw [wrI_ne _ _ (by decide)]; exact h3.cg fun k a b => upV_ne _ _ (by omega)
  · rw [wrI_ne _ _ (by decide)]; exact h4.cg fun k a b => upV_ne _ _ (by omega)
  · rw [wrI_same]
    refine (h5.wr s0 s1 (by omega) x).cg fun k a b => ?_
    show upV v (42 + s) x (42 + k) = upV (fun s => v (42 + s)) s x k
    by_cases q : k = s
    · rw [q, upV_same, upV_same]
    · rw [upV_ne _ _ (by omega), upV_ne _ _ q]
  · rw [wrI_ne _ _ (by decide)]; exact h6.cg fun k a b => upV_ne _ _ (by omega)
  · rw [wrI_ne _ _ (by decide)]; exact h7.cg fun k a b => upV_ne _ _ (by omega)
  · have := hz t t0 t1
    rw [upV_ne _ _ (by omega)] at k1
    rw [wrI_ne _ _ (by decide), wrI_ne _ _ (by decide), wrI_ne _ _ (by decide), upV_ne _ _ (by omega), upV_ne _ _ (by omega), upV_ne _ _ (by omega)]
    exact h8 t k t0 t1 k0 k1
/-- what a plant at rest does not lose by a new number at the place i -/
theorem Pl.up {v : VI} {i x : Int} (h : Pl v) (hi : 0 ≤ i ∧ i < 47) (hP : IP (upV v i x)) (hS : IS (v 1875) (upV v i x)) : Pl (upV v i x) := by
  obtain ⟨h1, h2, h3, h4, h5, h6, h7, h8, h9, h10, h11⟩ := h
  have e : ∀ j : Int, 47 ≤ j → upV v i x j = v j := fun j hj => upV_ne _ _ (by omega)
  unfold Pl
  rw [e 1875 (by omega), e 1885 (by omega), e 1878 (by omega), e 52 (by omega), e 53 (by omega), e 54 (by omega), e 55 (by omega), e 56 (by omega), e 1876 (by omega), e 1877 (by omega), e 1879 (by omega)]
  exact ⟨hP, h2.cg (e _ (by omega)) (fun j a b => e j (by omega)), h3.cg (e _ (by omega)) (e _ (by omega)) (fun j a b => e j (by omega)), h4.cg (e _ (by omega)) (fun j a b => e j (by omega)), hS, h6, h7, h8, h9, h10, h11⟩
theorem IS.up {T : Int} {v : VI} (hI : IS T v) {s x : Int} (s0 : 0 ≤ s) (s1 : s < 5) : ((0 ≤ x ∧ x ≤ 3) → IS T (upV v (37 + s) x)) ∧ ((0 ≤ x ∧ x ≤ 100) → IS T (upV v (42 + s) x)) := by
  obtain ⟨h1, h2, h3, h4⟩ := hI
  refine ⟨fun hx => ⟨?_, ?_, fun t t0 t1 => ?_, fun t k t0 t1 k0 k1 => ?_⟩, fun hx => ⟨?_, ?_, fun t t0 t1 => ?_, fun t k t0 t1 k0 k1 => ?_⟩⟩
  · rw [upV_ne _ _ (by omega)]; exact h1
  · rw [upV_ne _ _ (by omega), upV_ne _ _ (by omega)]; exact h2
  · have g := h3 t t0 t1
    rw [upV_ne _ _ (show 32 + t ≠ 37 + s by omega), upV_ne _ _ (show 42 + t ≠ 37 + s by omega), upV_ne _ _ (show 47 + t ≠ 37 + s by omega), upV_ne _ _ (show 52 + t ≠ 37 + s by omega), upV_ne _ _ (show 1880 ≠ 37 + s by omega)]
    refine ⟨g.1, ?_, g.2.2⟩
    by_cases q : t = s
    · rw [q, upV_same]; exact hx
    · rw [upV_ne _ _ (by omega)]; exact g.2.1
  · rw [upV_ne _ _ (by omega)] at k1
    have g := h3 t t0 t1
    rw [upV_ne _ _ (by omega), upV_ne _ _ (by omega), upV_ne _ _ (by omega), upV_ne _ _ (by omega), upV_ne _ _ (by omega)]
    exact h4 t k t0 t1 k0 k1
  · rw [upV_ne _ _ (by omega)]; exact h1
  · rw [upV_ne _ _ (by omega), upV_ne _ _ (by omega)]; exact h2
  · have g := h3 t t0 t1
    rw [upV_ne _ _ (show 32 + t ≠ 42 + s by omega), upV_ne _ _ (show 37 + t ≠ 42 + s by omega), upV_ne _ _ (show 47 + t ≠ 42 + s by omega), upV_ne _ _ (show 52 + t ≠ 42 + s by omega), upV_ne _ _ (show 1880 ≠ 42 + s by omega)]
    refine ⟨g.1, g.2.1, ?_, g.2.2.2⟩
    by_cases q : t = s
    · rw [q, upV_same]; exact hx
    · rw [upV_ne _ _ (by omega)]; exact g.2.2.1
  · rw [upV_ne _ _ (by omega)] at k1
    have g := h3 t t0 t1
    rw [upV_ne _ _ (by omega), upV_ne _ _ (by omega), upV_ne _ _ (by omega), upV_ne _ _ (by omega), upV_ne _ _ (by omega)]
    exact h4 t k t0 t1 k0 k1
theorem RS.zz {T : Int} {v : VI} (hI : IS T v) : ∀ s : Int, 0 ≤ s → s < 5 → v (47 + s) ≤ 30 := fun s a b => by have := hI.sz a b; omega
/-- a world's silos changed at one place below 47 -/
theorem RPl.upS {wr : Int} {mP : Mem} {nP : MemL} {mS mB mO mR mA : Mem} {nA : MemL} {v : VI} {mS' : Mem} {i x : Int} (R : RPl wr mP nP mS mB mO mR mA nA v) (h : Pl v) (hi : 32 ≤ i ∧ i < 47) (hS : RS mS' (upV v i x)) : RPl wr mP nP mS' mB mO mR mA nA (upV v i x) := by
  obtain ⟨R1, R2, R3, R4, R5, R6⟩ := R
  have e : ∀ j : Int, j ≠ i → upV v i x j = v j := fun j hj => upV_ne _ _ hj
  exact ⟨R1.cg (fun k a b => e _ (by omega)) (fun k a b _ _ _ _ => e _ (by omega)), hS, R3.cg (e _ (by omega)) (fun k a b => e _ (by omega)), R4.cg h.2.2.1.1 (e _ (by omega)) (fun k a b => e _ (by omega)), R5.cg (e _ (by omega)) (fun k a b => e _ (by omega)), R6.cg (e _ (by omega)) (fun k a b => e _ (by omega))⟩
section
variable {v : VI} {c : Int} {H : Int → VI} {imT imdP : Mem} {indP : MemL} {imdS imdB imdO imdR imdA : Mem} {indA : MemL} {mP : Mem} {nP : MemL} {mS mB mO mR mA : Mem} {nA : MemL} {mH : Mem} {hs : Nat → PSt} {mM : Mem} {nM : MemL}
theorem p_setRule (h : WF v c H) (R : RW mP nP mS mB mO mR mA nA v) (hH : HR c H mH hs) (hM : MS v c H mM nM) {a x : Int} (a0 : -2147483648 ≤ a) (a1 : a < 2147483648) (x0 : -2147483648 ≤ x) (x1 : x < 2147483648) :
    ∃ (k : Nat) (cd r : Int) (v' : VI) (c' : Int) (H' : Int → VI), WF v' c' H' ∧ (k = 0 ∧ cd = 0 ∨ k = 1 ∧ cd = 1 ∨ k = 2 ∧ cd = 2) ∧
    Ev (f_X8_setRule (zI a) (zI x) imT imdP indP imdS imdB imdO imdR imdA indA mP nP mS mB mO mR mA nA mH hs) (fun o => o.1 = k ∧ (k = 0 → o.2.1 = zI r) ∧ RW mP nP o.2.2.1 mB mO mR mA nA v' ∧ HR c' H' o.2.2.2.1 o.2.2.2.2) ∧
    Ev (f_X9_setRule (zI a) (zI x) mM nM) (MO cd r k v' c' H' mM) := by
  obtain ⟨wr, w0, w1, R⟩ := R
  have hI := h.1.1.2.2.2.2.1
  obtain ⟨sv, tv, hMR, -⟩ := (hM.w8 (fun _ => zI 0)).2
  have e1 := s_hasSilo R.2.1 hI a0 a1
  have f1 := m_isSilo (mM := wrI mM 8 (fun _ => zI 0)) hMR hI a0 a1
  have e2 := s_within (a := x) (b := 0) (c := 3) x0 x1 (by omega) (by omega) (by omega) (by omega)
  have f2 := m_in (a := x) (b := 0) (c := 3) (by omega) (by omega) (by omega) (by omega) (by omega) (by omega)
  have hb := hI.1
  by_cases c1 : 0 ≤ a ∧ a < v 1880
  · rw [if_pos c1] at e1 f1
    by_cases c2 : 0 ≤ x ∧ x ≤ 3
    · rw [if_pos c2] at e2 f2
      have e3 := s_replaceIn (a := a) R.2.1.2.2.2.1 (by decide) (zI x) c1.1 (by show a < (5 : Int); omega)
      simp (disch := omega) only [f_X8_setRule, f_X9_setRule, z_c0, z_c1, z_c2, z_c3, z_c37, y_c0_, y_c3_, z_add, z_sub, z_neg, y_neg, z_mul, z_div, z_l, y_i, y_add, y_sub, y_mul, y_div, z_lt, z_le, z_eq, y_c1, y_c2, y_c3, y_c4, y_c5, z_gi, bd1_s, bd2_s, mul30, z_ofNat, e1, f1, e2, f2, e3, nIq_1, nAq_1, eq_self, if_true, if_false, lt_eq, iz1, nz1, nz2, nz3, il0, il1, il2, il3, Int.reduceEq, Int.reduceLE, Int.reduceAdd]
      have hup := RS.up (x := x) R.2.1 (RS.zz hI) c1.1 (by omega)
      have hP : PK (upV v (37 + a) x) := h.1.same (h.1.1.up (by omega) (h.1.1.1.cg fun j _ _ => upV_ne _ _ (by omega)) ((hI.up c1.1 (by omega)).1 c2)) (upV_ne _ _ (by omega)) (fun j hj => upV_ne _ _ (by omega))
      refine ⟨0, 0, v (37 + a), upV v (37 + a) x, pushN c, pushH c H v, h.push hP, Or.inl ⟨rfl, rfl⟩, ?_, m_change h hM (by omega) (by omega) x0 x1⟩
      refine Ev_bd2 (s_save ⟨wr, w0, w1, R⟩ h.2.1 hH) (fun mH' hs' hH' => ?_)
      exact Ev_some ⟨rfl, fun _ => rfl, ⟨wr, w0, by rw [upV_ne _ _ (by omega)]; exact w1, R.upS h.1.1 (by omega) hup.1⟩, hH'⟩
    · rw [if_neg c2] at e2 f2
      simp (disch := omega) only [f_X8_setRule, f_X9_setRule, z_c0, z_c1, z_c2, z_c3, z_c37, y_c0_, y_c3_, z_add, z_sub, z_neg, y_neg, z_mul, z_div, z_l, y_i, y_add, y_sub, y_mul, y_div, z_lt, z_le, z_eq, y_c1, y_c2, y_c3, y_c4, y_c5, z_gi, bd1_s, bd2_s, mul30, z_ofNat, e1, f1, e2, f2, nIq_1, nAq_0, eq_self, if_true, if_false, lt_eq, iz1, nz1, nz2, nz3, il0, il1, il2, il3, Int.reduceEq, Int.reduceLE, Int.reduceAdd]
      exact ⟨2, 2, 0, v, c, H, h, Or.inr (Or.inr ⟨rfl, rfl⟩), Ev_some ⟨rfl, fun q => absurd q (by decide), ⟨wr, w0, w1, R⟩, hH⟩, m_fail (by decide) hM _⟩
  · rw [if_neg c1] at e1 f1
    simp (disch := omega) only [f_X8_setRule, f_X9_setRule, z_c0, z_c1, z_c2, z_c3, z_c37, y_c0_, y_c3_, z_add, z_sub, z_neg, y_neg, z_mul, z_div, z_l, y_i, y_add, y_sub, y_mul, y_div, z_lt, z_le, z_eq, y_c1, y_c2, y_c3, y_c4, y_c5, z_gi, bd1_s, bd2_s, mul30, z_ofNat, e1, f1, nIq_0, eq_self, if_true, if_false, lt_eq, iz1, nz1, nz2, nz3, il0, il1, il2, il3, Int.reduceEq, Int.reduceLE, Int.reduceAdd]
    exact ⟨1, 1, 0, v, c, H, h, Or.inr (Or.inl ⟨rfl, rfl⟩), Ev_some ⟨rfl, fun q => absurd q (by decide), ⟨wr, w0, w1, R⟩, hH⟩, m_fail (by decide) hM _⟩
theorem p_setStrength (h : WF v c H) (R : RW mP nP mS mB mO mR mA nA v) (hH : HR c H mH hs) (hM : MS v c H mM nM) {a x : Int} (a0 : -2147483648 ≤ a) (a1 : a < 2147483648) (x0 : -2147483648 ≤ x) (x1 : x < 2147483648) :
    ∃ (k : Nat) (cd r : Int) (v' : VI) (c' : Int) (H' : Int → VI), WF v' c' H' ∧ (k = 0 ∧ cd = 0 ∨ k = 1 ∧ cd = 1 ∨ k = 2 ∧ cd = 2) ∧
    Ev (f_X8_setStrength (zI a) (zI x) imT imdP indP imdS imdB imdO imdR imdA indA mP nP mS mB mO mR mA nA mH hs) (fun o => o.1 = k ∧ (k = 0 → o.2.1 = zI r) ∧ RW mP nP o.2.2.1 mB mO mR mA nA v' ∧ HR c' H' o.2.2.2.1 o.2.2.2.2) ∧
    Ev (f_X9_setStrength (zI a) (zI x) mM nM) (MO cd r k v' c' H' mM) := by
  obtain ⟨wr, w0, w1, R⟩ := R
  have hI := h.1.1.2.2.2.2.1
  obtain ⟨sv, tv, hMR, -⟩ := (hM.w8 (fun _ => zI 0)).2
  have e1 := s_hasSilo R.2.1 hI a0 a1
  have f1 := m_isSilo (mM := wrI mM 8 (fun _ => zI 0)) hMR hI a0 a1
  have e2 := s_within (a := x) (b := 0) (c := 100) x0 x1 (by omega) (by omega) (by omega) (by omega)
  have f2 := m_in (a := x) (b := 0) (c := 100) (by omega) (by omega) (by omega) (by omega) (by omega) (by omega)
  have hb := hI.1
  by_cases c1 : 0 ≤ a ∧ a < v 1880
  · rw [if_pos c1] at e1 f1
    by_cases c2 : 0 ≤ x ∧ x ≤ 100
    · rw [if_pos c2] at e2 f2
      have e3 := s_replaceIn (a := a) R.2.1.2.2.2.2.1 (by decide) (zI x) c1.1 (by show a < (5 : Int); omega)
      simp (disch := omega) only [f_X8_setStrength, f_X9_setStrength, z_c0, z_c1, z_c2, z_c42, z_c100, y_c0_, y_c100_, z_add, z_sub, z_neg, y_neg, z_mul, z_div, z_l, y_i, y_add, y_sub, y_mul, y_div, z_lt, z_le, z_eq, y_c1, y_c2, y_c3, y_c4, y_c5, z_gi, bd1_s, bd2_s, mul30, z_ofNat, e1, f1, e2, f2, e3, nIq_1, nAq_1, eq_self, if_true, if_false, lt_eq, iz1, nz1, nz2, nz3, il0, il1, il2, il3, Int.reduceEq, Int.reduceLE, Int.reduceAdd]
      have hup := RS.up (x := x) R.2.1 (RS.zz hI) c1.1 (by omega)
      have hP : PK (upV v (42 + a) x) := h.1.same (h.1.1.up (by omega) (h.1.1.1.cg fun j _ _ => upV_ne _ _ (by omega)) ((hI.up c1.1 (by omega)).2 c2)) (upV_ne _ _ (by omega)) (fun j hj => upV_ne _ _ (by omega))
      refine ⟨0, 0, v (42 + a), upV v (42 + a) x, pushN c, pushH c H v, h.push hP, Or.inl ⟨rfl, rfl⟩, ?_, m_change h hM (by omega) (by omega) x0 x1⟩
      refine Ev_bd2 (s_save ⟨wr, w0, w1, R⟩ h.2.1 hH) (fun mH' hs' hH' => ?_)
      exact Ev_some ⟨rfl, fun _ => rfl, ⟨wr, w0, by rw [upV_ne _ _ (by omega)]; exact w1, R.upS h.1.1 (by omega) hup.2⟩, hH'⟩
    · rw [if_neg c2] at e2 f2
      simp (disch := omega) only [f_X8_setStrength, f_X9_setStrength, z_c0, z_c1, z_c2, z_c42, z_c100, y_c0_, y_c100_, z_add, z_sub, z_neg, y_neg, z_mul, z_div, z_l, y_i, y_add, y_sub, y_mul, y_div, z_lt, z_le, z_eq, y_c1, y_c2, y_c3, y_c4, y_c5, z_gi, bd1_s, bd2_s, mul30, z_ofNat, e1, f1, e2, f2, nIq_1, nAq_0, eq_self, if_true, if_false, lt_eq, iz1, nz1, nz2, nz3, il0, il1, il2, il3, Int.reduceEq, Int.reduceLE, Int.reduceAdd]
      exact ⟨2, 2, 0, v, c, H, h, Or.inr (Or.inr ⟨rfl, rfl⟩), Ev_some ⟨rfl, fun q => absurd q (by decide), ⟨wr, w0, w1, R⟩, hH⟩, m_fail (by decide) hM _⟩
  · rw [if_neg c1] at e1 f1
    simp (disch := omega) only [f_X8_setStrength, f_X9_setStrength, z_c0, z_c1, z_c2, z_c42, z_c100, y_c0_, y_c100_, z_add, z_sub, z_neg, y_neg, z_mul, z_div, z_l, y_i, y_add, y_sub, y_mul, y_div, z_lt, z_le, z_eq, y_c1, y_c2, y_c3, y_c4, y_c5, z_gi, bd1_s, bd2_s, mul30, z_ofNat, e1, f1, nIq_0, eq_self, if_true, if_false, lt_eq, iz1, nz1, nz2, nz3, il0, il1, il2, il3, Int.reduceEq, Int.reduceLE, Int.reduceAdd]
    exact ⟨1, 1, 0, v, c, H, h, Or.inr (Or.inl ⟨rfl, rfl⟩), Ev_some ⟨rfl, fun q => absurd q (by decide), ⟨wr, w0, w1, R⟩, hH⟩, m_fail (by decide) hM _⟩
end
