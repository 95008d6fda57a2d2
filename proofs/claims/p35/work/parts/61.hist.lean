/-! copies, and the ring of them -/
/-- a copy holds what its source holds -/
theorem copy_pl {v : VI} {wr : Int} {mP : Mem} {nP : MemL} {mS mB mO mR mA : Mem} {nA : MemL} {oP : Mem} {qP : MemL} {oS oB oO oR oA : Mem} {qA : MemL} (R : RPl wr oP qP oS oB oO oR oA qA v) : Ev (f_X4_copyFrom mP nP mS mB mO mR mA nA oP qP oS oB oO oR oA qA) (fun r => RPl wr r.1 r.2.1 r.2.2.1 r.2.2.2.1 r.2.2.2.2.1 r.2.2.2.2.2.1 r.2.2.2.2.2.2.1 r.2.2.2.2.2.2.2 v) := by
  obtain ⟨⟨a1, a2, a3, a4, a5, a6, a7, a8⟩, ⟨b1, b2, b3, b4, b5, b6, b7, b8⟩, ⟨c1, c2, c3, c4⟩, ⟨d1, d2, d3, d4, d5, d6, d7, d8, d9⟩, R5, ⟨e1, e2, e3, e4, e5⟩⟩ := R
  refine ⟨_, rfl, ?_, ?_, ?_, ?_, ?_, ?_⟩
  · exact ⟨a1, a2, a3, a4, a5, a6, a7, a8⟩
  · exact ⟨b1, b2, b3, b4, b5, b6, b7, b8⟩
  · exact ⟨c1, c2, c3, c4⟩
  · exact ⟨d1, d2, d3, d4, d5, d6, d7, d8, d9⟩
  · exact R5
  · exact ⟨e1, e2, e3, e4, e5⟩
theorem copy_rw {v : VI} {mP : Mem} {nP : MemL} {mS mB mO mR mA : Mem} {nA : MemL} {oP : Mem} {qP : MemL} {oS oB oO oR oA : Mem} {qA : MemL} (R : RW oP qP oS oB oO oR oA qA v) : Ev (f_X4_copyFrom mP nP mS mB mO mR mA nA oP qP oS oB oO oR oA qA) (fun r => RW r.1 r.2.1 r.2.2.1 r.2.2.2.1 r.2.2.2.2.1 r.2.2.2.2.2.1 r.2.2.2.2.2.2.1 r.2.2.2.2.2.2.2 v) := by
  obtain ⟨wr, w0, w1, R⟩ := R
  exact Ev_mono (copy_pl R) fun r hr => ⟨wr, w0, w1, hr⟩
theorem updL_at (f : Nat → Int64) (x : Int64) {a b : Int} (a0 : 0 ≤ a) (a1 : a < 2147483648) (b0 : 0 ≤ b) (b1 : b < 2147483648) : vp_updL f (zI a).toNatClampNeg x (zI b).toNatClampNeg = if b = a then x else f (zI b).toNatClampNeg := by
  unfold vp_updL
  by_cases e : b = a
  · rw [if_pos ((nZ_eq b0 b1 a0 a1).mpr e), if_pos e]
  · rw [if_neg (fun q => e ((nZ_eq b0 b1 a0 a1).mp q)), if_neg e]
def RQ (p : PSt) (v : VI) : Prop := RW p.1 p.2.1 p.2.2.1 p.2.2.2.1 p.2.2.2.2.1 p.2.2.2.2.2.1 p.2.2.2.2.2.2.1 p.2.2.2.2.2.2.2 v
/-- the saved states, oldest first, as the class's ring holds them -/
def HR (c : Int) (H : Int → VI) (mH : Mem) (hs : Nat → PSt) : Prop := ∃ st : Int, (0 ≤ st ∧ st < 8) ∧ mH 0 0 = zI st ∧ mH 1 0 = zI c ∧ ∀ k : Int, 0 ≤ k → k < c → RQ (hs (zI (st + k - (st + k) / 8 * 8)).toNatClampNeg) (H k)
/-- the same as the reference's row holds them -/
def HM (c : Int) (H : Int → VI) (sv : Nat → Int64) : Prop := ∀ k i : Int, 0 ≤ k → k < c → 0 ≤ i → i < 1888 → sv (zI (k * 1888 + i)).toNatClampNeg = zL (H k i)
def pushN (c : Int) : Int := if c = 8 then 8 else c + 1
def pushH (c : Int) (H : Int → VI) (v : VI) : Int → VI := if c = 8 then fun k => if k = 7 then v else H (k + 1) else fun k => if k = c then v else H k
theorem uph_z {hs : Nat → PSt} {p : PSt} {a b : Int} (h : a = b) : uph hs (zI a).toNatClampNeg p (zI b).toNatClampNeg = p := by
  subst h; unfold uph; rw [Nat.beq_refl]; rfl
theorem uph_zn {hs : Nat → PSt} {p : PSt} {a b : Int} (a0 : 0 ≤ a) (a1 : a < 2147483648) (b0 : 0 ≤ b) (b1 : b < 2147483648) (h : b ≠ a) : uph hs (zI a).toNatClampNeg p (zI b).toNatClampNeg = hs (zI b).toNatClampNeg := by
  unfold uph; rw [nbeq_ne (fun q => h ((nZ_eq b0 b1 a0 a1).mp q))]; rfl
theorem s_save_b {c st : Int} {H : Int → VI} {v : VI} {mP : Mem} {nP : MemL} {mS mB mO mR mA : Mem} {nA : MemL} {mH : Mem} {hs : Nat → PSt} (R : RW mP nP mS mB mO mR mA nA v) (c0 : 0 ≤ c) (c1 : c < 8) (st0 : 0 ≤ st ∧ st < 8) (e0 : mH 0 0 = zI st) (e1 : mH 1 0 = zI c)
    (hh : ∀ k : Int, 0 ≤ k → k < c → RQ (hs (zI (st + k - (st + k) / 8 * 8)).toNatClampNeg) (H k)) :
    Ev (f_X2_save_b32 mP nP mS mB mO mR mA nA mH hs) (fun r => HR (c + 1) (fun k => if k = c then v else H k) r.1 r.2) := by
  simp (disch := omega) only [f_X2_save_b32, z_c1, z_c8, z_add, z_sub, z_neg, y_neg, z_mul, z_div, z_l, y_i, y_add, y_sub, y_mul, y_div, z_lt, z_le, z_eq, y_c1, y_c2, y_c3, y_c4, y_c5, z_gi, bd1_s, bd2_s, mul30, z_ofNat, lt_eq, e0, e1]
  refine Ev_bd1 (copy_rw R) (fun q hq => Ev_some ?_)
  refine ⟨st, st0, e0, ?_, fun k k0 k1 => ?_⟩
  · exact congrFun (wrI_same mH 1 _) 0
  · by_cases c2 : k = c
    · subst c2
      show RQ (uph hs (zI (st + k - (st + k) / 8 * 8)).toNatClampNeg q (zI (st + k - (st + k) / 8 * 8)).toNatClampNeg) (if k = k then v else H k)
      rw [uph_z rfl, if_pos rfl]
      exact hq
    · show RQ (uph hs (zI (st + c - (st + c) / 8 * 8)).toNatClampNeg q (zI (st + k - (st + k) / 8 * 8)).toNatClampNeg) (if k = c then v else H k)
      rw [if_neg c2, uph_zn (by omega) (by omega) (by omega) (by omega) (by omega)]
      exact hh k k0 (by omega)
/-- the class saves -/
theorem s_save {c : Int} {H : Int → VI} {v : VI} {mP : Mem} {nP : MemL} {mS mB mO mR mA : Mem} {nA : MemL} {mH : Mem} {hs : Nat → PSt} (R : RW mP nP mS mB mO mR mA nA v) (c0 : 0 ≤ c ∧ c ≤ 8) (hH : HR c H mH hs) : Ev (f_X2_save mP nP mS mB mO mR mA nA mH hs) (fun r => HR (pushN c) (pushH c H v) r.1 r.2) := by
  obtain ⟨st, st0, e0, e1, hh⟩ := hH
  simp (disch := omega) only [f_X2_save, z_c1, z_c8, z_add, z_sub, z_neg, y_neg, z_mul, z_div, z_l, y_i, y_add, y_sub, y_mul, y_div, z_lt, z_le, z_eq, y_c1, y_c2, y_c3, y_c4, y_c5, z_gi, bd1_s, bd2_s, mul30, z_ofNat, lt_eq, e0, e1]
  unfold pushN pushH
  by_cases c8 : c = 8
  · subst c8
    rw [if_pos rfl, if_pos rfl, if_pos rfl]
    have e1' : (wrI mH 0 (fun _ => zI (st + 1 - (st + 1) / 8 * 8))) 1 0 = zI 8 := by rw [wrI_ne _ _ (by decide)]; exact e1
    rw [e1', z_sub]
    refine s_save_b (c := 7) (st := st + 1 - (st + 1) / 8 * 8) (H := fun k => H (k + 1)) R (by omega) (by omega) (by omega) ?_ ?_ (fun k k0 k1 => ?_)
    · rw [wrI_ne _ _ (by decide), wrI_same]
    · rw [wrI_same]; rfl
    · have := hh (k + 1) (by omega) (by omega)
      rw [show st + 1 - (st + 1) / 8 * 8 + k - (st + 1 - (st + 1) / 8 * 8 + k) / 8 * 8 = st + (k + 1) - (st + (k + 1)) / 8 * 8 by omega]
      exact this
  · rw [if_neg c8, if_neg c8, if_neg c8]
    exact s_save_b R c0.1 (by omega) st0 e0 e1 hh
/-- the class takes the last one back -/
theorem s_restore {c : Int} {H : Int → VI} {mP : Mem} {nP : MemL} {mS mB mO mR mA : Mem} {nA : MemL} {mH : Mem} {hs : Nat → PSt} (c0 : 0 < c ∧ c ≤ 8) (hH : HR c H mH hs) : Ev (f_X2_restore mP nP mS mB mO mR mA nA mH hs) (fun r => r.1 = zI (c - 1) ∧ RW r.2.1 r.2.2.1 r.2.2.2.1 r.2.2.2.2.1 r.2.2.2.2.2.1 r.2.2.2.2.2.2.1 r.2.2.2.2.2.2.2.1 r.2.2.2.2.2.2.2.2.1 (H (c - 1)) ∧ HR (c - 1) H r.2.2.2.2.2.2.2.2.2 hs) := by
  obtain ⟨st, st0, e0, e1, hh⟩ := hH
  have ew0 : (wrI mH 1 (fun _ => zI (c - 1))) 0 0 = zI st := by rw [wrI_ne _ _ (by decide)]; exact e0
  have ew1 : (wrI mH 1 (fun _ => zI (c - 1))) 1 0 = zI (c - 1) := by rw [wrI_same]
  simp (disch := omega) only [f_X2_restore, z_c0, z_c1, z_c8, z_add, z_sub, z_neg, y_neg, z_mul, z_div, z_l, y_i, y_add, y_sub, y_mul, y_div, z_lt, z_le, z_eq, y_c1, y_c2, y_c3, y_c4, y_c5, z_gi, bd1_s, bd2_s, mul30, z_ofNat, lt_eq, e0, e1, ew0, ew1]
  rw [if_neg (by omega)]
  refine Ev_bd8 (copy_rw (hh (c - 1) (by omega) (by omega))) (fun a b c' d e f g i hr => Ev_some ⟨?_, hr, st, st0, ew0, ew1, fun k k0 k1 => hh k k0 (by omega)⟩)
  rfl
theorem m_save52 {c : Int} {v : VI} {mM : Mem} (c0 : 0 ≤ c ∧ c < 8) (e6 : mM 6 0 = zI c) : ∀ (n fu : Nat) (i : Int) (nM : MemL), 0 ≤ i → i + n = 1888 → n < fu → RowL 1888 (nM 0) v → Ev (f_X9_save_L52 mM fu (zI i) nM) (fun r => r.1 6 0 = zI (c + 1) ∧ (∀ j : Nat, j ≠ 6 → r.1 j = mM j) ∧ r.2 0 = nM 0 ∧ r.2 2 = nM 2 ∧ ∀ a : Int, 0 ≤ a → a < 15104 → r.2 1 (zI a).toNatClampNeg = if c * 1888 + i ≤ a ∧ a < c * 1888 + 1888 then zL (v (a - c * 1888)) else nM 1 (zI a).toNatClampNeg) := by
  intro n
  induction n with
  | zero =>
    intro fu i nM i0 i1 hf h
    obtain ⟨fu, rfl⟩ : ∃ m, fu = m + 1 := ⟨fu - 1, by omega⟩
    simp (disch := omega) only [f_X9_save_L52, z_c1, z_c1888, z_add, z_sub, z_neg, y_neg, z_mul, z_div, z_l, y_i, y_add, y_sub, y_mul, y_div, z_lt, z_le, z_eq, y_c1, y_c2, y_c3, y_c4, y_c5, z_gi, bd1_s, bd2_s, mul30, z_ofNat, lt_eq, e6]
    rw [if_pos (by omega)]
    refine Ev_some ⟨congrFun (wrI_same mM 6 _) 0, fun j hj => wrI_ne _ _ hj, rfl, rfl, fun a a0 a1 => ?_⟩
    rw [if_neg (by omega)]
  | succ n ih =>
    intro fu i nM i0 i1 hf h
    obtain ⟨fu, rfl⟩ : ∃ m, fu = m + 1 := ⟨fu - 1, by omega⟩
    simp (disch := omega) only [f_X9_save_L52, z_c1, z_c1888, z_add, z_sub, z_neg, y_neg, z_mul, z_div, z_l, y_i, y_add, y_sub, y_mul, y_div, z_lt, z_le, z_eq, y_c1, y_c2, y_c3, y_c4, y_c5, z_gi, bd1_s, bd2_s, mul30, z_ofNat, lt_eq, e6]
    rw [if_neg (by omega), h i (by omega) (by omega)]
    refine Ev_mono (ih fu (i + 1) _ (by omega) (by omega) (by omega) (by rw [wrL_ne _ _ (by decide)]; exact h)) (fun r hr => ⟨hr.1, hr.2.1, ?_, ?_, fun a a0 a1 => ?_⟩)
    · rw [hr.2.2.1, wrL_ne _ _ (by decide)]
    · rw [hr.2.2.2.1, wrL_ne _ _ (by decide)]
    · rw [hr.2.2.2.2 a a0 a1, wrL_same, updL_at _ _ (by omega) (by omega) a0 (by omega)]
      by_cases q : a = c * 1888 + i
      · rw [if_neg (by omega), if_pos q, if_pos (by omega), show a - c * 1888 = i by omega]
      · rw [if_neg q]
        by_cases q2 : c * 1888 + (i + 1) ≤ a ∧ a < c * 1888 + 1888
        · rw [if_pos q2, if_pos (by omega)]
        · rw [if_neg q2, if_neg (by omega)]
theorem m_save11_s {mM : Mem} {fu : Nat} {i : Int} {nM : MemL} (i0 : 0 ≤ i) (i1 : i < 13216) : f_X9_save_L11 mM (fu + 1) (zI i) nM = f_X9_save_L11 mM fu (zI (i + 1)) (wrL nM 1 (vp_updL (nM 1) (zI i).toNatClampNeg (nM 1 (zI (i + 1888)).toNatClampNeg))) := by
  conv => lhs; unfold f_X9_save_L11
  rw [z_c13216, if_neg (by rw [z_le (by omega) (by omega) (by omega) (by omega)]; omega), z_c1888, z_add, z_gi (by omega) (by show i + 1888 < (15104 : Int); omega) (by decide), z_gi (by omega) (by show i < (15104 : Int); omega) (by decide), lt_eq, lt_eq, z_c1, z_add]
theorem m_save11_z {mM : Mem} {fu : Nat} {nM : MemL} : f_X9_save_L11 mM (fu + 1) (zI 13216) nM = f_X9_save_b50 (wrI mM 6 (fun _ => mM 6 0 - 1)) nM := by
  conv => lhs; unfold f_X9_save_L11
  rw [z_c13216, if_pos (by rw [z_le (by omega) (by omega) (by omega) (by omega)]; omega)]
  rfl
theorem m_save11 {mM : Mem} : ∀ (n fu : Nat) (i : Int) (nM : MemL), 0 ≤ i → i + n = 13216 → n < fu → ∃ nM', f_X9_save_L11 mM fu (zI i) nM = f_X9_save_b50 (wrI mM 6 (fun _ => mM 6 0 - 1)) nM' ∧ nM' 0 = nM 0 ∧ nM' 2 = nM 2 ∧ ∀ a : Int, 0 ≤ a → a < 15104 → nM' 1 (zI a).toNatClampNeg = if i ≤ a ∧ a < 13216 then nM 1 (zI (a + 1888)).toNatClampNeg else nM 1 (zI a).toNatClampNeg := by
  intro n
  induction n with
  | zero =>
    intro fu i nM i0 i1 hf
    obtain ⟨fu, rfl⟩ : ∃ m, fu = m + 1 := ⟨fu - 1, by omega⟩
    refine ⟨nM, ?_, rfl, rfl, fun a a0 a1 => ?_⟩
    · rw [show i = 13216 by omega]; exact m_save11_z
    · rw [if_neg (by omega)]
  | succ n ih =>
    intro fu i nM i0 i1 hf
    obtain ⟨fu, rfl⟩ : ∃ m, fu = m + 1 := ⟨fu - 1, by omega⟩
    obtain ⟨nM', g1, g2, g3, g4⟩ := ih fu (i + 1) (wrL nM 1 (vp_updL (nM 1) (zI i).toNatClampNeg (nM 1 (zI (i + 1888)).toNatClampNeg))) (by omega) (by omega) (by omega)
    refine ⟨nM', ?_, ?_, ?_, fun a a0 a1 => ?_⟩
    · rw [m_save11_s i0 (by omega)]; exact g1
    · rw [g2, wrL_ne _ _ (by decide)]
    · rw [g3, wrL_ne _ _ (by decide)]
    · rw [g4 a a0 a1, wrL_same, updL_at _ _ (by omega) (by omega) a0 (by omega)]
      by_cases q2 : i + 1 ≤ a ∧ a < 13216
      · rw [if_pos q2, updL_at _ _ (by omega) (by omega) (by omega) (by omega), if_neg (by omega), if_pos (by omega)]
      · rw [if_neg q2]
        by_cases q : a = i
        · rw [if_pos q, if_pos (by omega), q]
        · rw [if_neg q, if_neg (by omega)]
/-- the reference saves -/
theorem m_save {c : Int} {H : Int → VI} {v : VI} {mM : Mem} {nM : MemL} {sv tv : Nat → Int64} (c0 : 0 ≤ c ∧ c ≤ 8) (e6 : mM 6 0 = zI c) (hH : HM c H sv) (hM : MR nM v sv tv) : Ev (f_X9_save mM nM) (fun r => r.1 6 0 = zI (pushN c) ∧ (∀ j : Nat, j ≠ 6 → r.1 j = mM j) ∧ ∃ sv', MR r.2 v sv' tv ∧ HM (pushN c) (pushH c H v) sv') := by
  obtain ⟨h1, h2, h3⟩ := hM
  simp (disch := omega) only [f_X9_save, z_c0, z_c8, z_add, z_sub, z_neg, y_neg, z_mul, z_div, z_l, y_i, y_add, y_sub, y_mul, y_div, z_lt, z_le, z_eq, y_c1, y_c2, y_c3, y_c4, y_c5, z_gi, bd1_s, bd2_s, mul30, z_ofNat, lt_eq, e6]
  unfold pushN pushH
  by_cases c8 : c = 8
  · subst c8
    rw [if_pos rfl, if_pos rfl, if_pos rfl]
    obtain ⟨nM', g1, g2, g3, g4⟩ := m_save11 (mM := mM) 13216 fuel 0 nM (by omega) (by omega) (fuel_gt (by omega))
    rw [g1, e6]
    refine Ev_mono (m_save52 (c := 7) (v := v) (by omega) (by rw [wrI_same]; rfl) 1888 fuel 0 nM' (by omega) (by omega) (fuel_gt (by omega)) (by rw [g2]; exact h1)) (fun r hr => ⟨hr.1, fun j hj => by rw [hr.2.1 j hj, wrI_ne _ _ hj], r.2 1, ⟨by rw [hr.2.2.1, g2]; exact h1, rfl, by rw [hr.2.2.2.1, g3]; exact h3⟩, fun k i k0 k1 i0 i1 => ?_⟩)
    rw [hr.2.2.2.2 _ (by omega) (by omega)]
    by_cases q : k = 7
    · rw [if_pos (by omega)]
      show _ = zL ((if k = 7 then v else H (k + 1)) i)
      rw [if_pos q, show k * 1888 + i - 7 * 1888 = i by omega]
    · rw [if_neg (by omega), g4 _ (by omega) (by omega), if_pos (by omega), h2, show k * 1888 + i + 1888 = (k + 1) * 1888 + i by omega]
      show _ = zL ((if k = 7 then v else H (k + 1)) i)
      rw [if_neg q]
      exact hH (k + 1) i (by omega) (by omega) i0 i1
  · rw [if_neg c8, if_neg c8, if_neg c8]
    refine Ev_mono (m_save52 (c := c) (v := v) (by omega) e6 1888 fuel 0 nM (by omega) (by omega) (fuel_gt (by omega)) h1) (fun r hr => ⟨hr.1, hr.2.1, r.2 1, ⟨by rw [hr.2.2.1]; exact h1, rfl, by rw [hr.2.2.2.1]; exact h3⟩, fun k i k0 k1 i0 i1 => ?_⟩)
    rw [hr.2.2.2.2 _ (by omega) (by omega)]
    by_cases q : k = c
    · rw [if_pos (by omega)]
      show _ = zL ((if k = c then v else H k) i)
      rw [if_pos q, show k * 1888 + i - c * 1888 = i by omega]
    · rw [if_neg (by omega), h2]
      show _ = zL ((if k = c then v else H k) i)
      rw [if_neg q]
      exact hH k i k0 (by omega) i0 i1
theorem m_undo30 {c : Int} {u : VI} {sv tv : Nat → Int64} {mM : Mem} (c0 : 0 ≤ c ∧ c < 8) (e6 : mM 6 0 = zI c) (hu : ∀ i : Int, 0 ≤ i → i < 1888 → sv (zI (c * 1888 + i)).toNatClampNeg = zL (u i)) : ∀ (n fu : Nat) (i : Int) (nM : MemL), 0 ≤ i → i + n = 1888 → n < fu → nM 1 = sv → nM 2 = tv → (∀ j : Int, 0 ≤ j → j < i → nM 0 (zI j).toNatClampNeg = zL (u j)) → Ev (f_X9_undo_L30 mM fu (zI i) nM) (fun r => r.1 = zI c ∧ r.2.1 = mM ∧ MR r.2.2 u sv tv) := by
  intro n
  induction n with
  | zero =>
    intro fu i nM i0 i1 hf h1 h2 h
    obtain ⟨fu, rfl⟩ : ∃ m, fu = m + 1 := ⟨fu - 1, by omega⟩
    simp (disch := omega) only [f_X9_undo_L30, z_c1, z_c1888, z_add, z_sub, z_neg, y_neg, z_mul, z_div, z_l, y_i, y_add, y_sub, y_mul, y_div, z_lt, z_le, z_eq, y_c1, y_c2, y_c3, y_c4, y_c5, z_gi, bd1_s, bd2_s, mul30, z_ofNat, lt_eq, e6]
    rw [if_pos (by omega)]
    exact Ev_some ⟨rfl, rfl, fun k k0 k1 => h k k0 (by omega), h1, h2⟩
  | succ n ih =>
    intro fu i nM i0 i1 hf h1 h2 h
    obtain ⟨fu, rfl⟩ : ∃ m, fu = m + 1 := ⟨fu - 1, by omega⟩
    simp (disch := omega) only [f_X9_undo_L30, z_c1, z_c1888, z_add, z_sub, z_neg, y_neg, z_mul, z_div, z_l, y_i, y_add, y_sub, y_mul, y_div, z_lt, z_le, z_eq, y_c1, y_c2, y_c3, y_c4, y_c5, z_gi, bd1_s, bd2_s, mul30, z_ofNat, lt_eq, e6]
    rw [if_neg (by omega)]
    refine ih fu (i + 1) _ (by omega) (by omega) (by omega) (by rw [wrL_ne _ _ (by decide)]; exact h1) (by rw [wrL_ne _ _ (by decide)]; exact h2) (fun j j0 j1 => ?_)
    rw [wrL_same, updL_at _ _ (by omega) (by omega) j0 (by omega)]
    by_cases q : j = i
    · rw [if_pos q, h1, hu i (by omega) (by omega), q]
    · rw [if_neg q]; exact h j j0 (by omega)
theorem m_begin {mM : Mem} {v : VI} {sv : Nat → Int64} : ∀ (n fu : Nat) (i : Int) (nM : MemL), 0 ≤ i → i + n = 1888 → n < fu → RowL 1888 (nM 0) v → nM 1 = sv → (∀ j : Int, 0 ≤ j → j < i → nM 2 (zI j).toNatClampNeg = zL (v j)) → Ev (f_X9_beginTrial_L2 mM fu (zI i) nM) (fun r => ∃ tv, MR r v sv tv ∧ RowL 1888 tv v) := by
  intro n
  induction n with
  | zero =>
    intro fu i nM i0 i1 hf h0 h1 h
    obtain ⟨fu, rfl⟩ : ∃ m, fu = m + 1 := ⟨fu - 1, by omega⟩
    simp (disch := omega) only [f_X9_beginTrial_L2, z_c1, z_c1888, z_add, z_sub, z_neg, y_neg, z_mul, z_div, z_l, y_i, y_add, y_sub, y_mul, y_div, z_lt, z_le, z_eq, y_c1, y_c2, y_c3, y_c4, y_c5, z_gi, bd1_s, bd2_s, mul30, z_ofNat, lt_eq]
    rw [if_pos (by omega)]
    exact Ev_some ⟨nM 2, ⟨h0, h1, rfl⟩, fun k k0 k1 => h k k0 (by omega)⟩
  | succ n ih =>
    intro fu i nM i0 i1 hf h0 h1 h
    obtain ⟨fu, rfl⟩ : ∃ m, fu = m + 1 := ⟨fu - 1, by omega⟩
    simp (disch := omega) only [f_X9_beginTrial_L2, z_c1, z_c1888, z_add, z_sub, z_neg, y_neg, z_mul, z_div, z_l, y_i, y_add, y_sub, y_mul, y_div, z_lt, z_le, z_eq, y_c1, y_c2, y_c3, y_c4, y_c5, z_gi, bd1_s, bd2_s, mul30, z_ofNat, lt_eq]
    rw [if_neg (by omega)]
    refine ih fu (i + 1) _ (by omega) (by omega) (by omega) (by rw [wrL_ne _ _ (by decide)]; exact h0) (by rw [wrL_ne _ _ (by decide)]; exact h1) (fun j j0 j1 => ?_)
    rw [wrL_same, updL_at _ _ (by omega) (by omega) j0 (by omega)]
    by_cases q : j = i
    · rw [if_pos q, h0 i (by omega) (by omega), q]
    · rw [if_neg q]; exact h j j0 (by omega)
theorem m_end {mM : Mem} {u : VI} {sv tv : Nat → Int64} (ht : RowL 1888 tv u) : ∀ (n fu : Nat) (i : Int) (nM : MemL), 0 ≤ i → i + n = 1888 → n < fu → nM 1 = sv → nM 2 = tv → (∀ j : Int, 0 ≤ j → j < i → nM 0 (zI j).toNatClampNeg = zL (u j)) → Ev (f_X9_endTrial_L2 mM fu (zI i) nM) (fun r => MR r u sv tv) := by
  intro n
  induction n with
  | zero =>
    intro fu i nM i0 i1 hf h1 h2 h
    obtain ⟨fu, rfl⟩ : ∃ m, fu = m + 1 := ⟨fu - 1, by omega⟩
    simp (disch := omega) only [f_X9_endTrial_L2, z_c1, z_c1888, z_add, z_sub, z_neg, y_neg, z_mul, z_div, z_l, y_i, y_add, y_sub, y_mul, y_div, z_lt, z_le, z_eq, y_c1, y_c2, y_c3, y_c4, y_c5, z_gi, bd1_s, bd2_s, mul30, z_ofNat, lt_eq]
    rw [if_pos (by omega)]
    exact Ev_some ⟨fun k k0 k1 => h k k0 (by omega), h1, h2⟩
  | succ n ih =>
    intro fu i nM i0 i1 hf h1 h2 h
    obtain ⟨fu, rfl⟩ : ∃ m, fu = m + 1 := ⟨fu - 1, by omega⟩
    simp (disch := omega) only [f_X9_endTrial_L2, z_c1, z_c1888, z_add, z_sub, z_neg, y_neg, z_mul, z_div, z_l, y_i, y_add, y_sub, y_mul, y_div, z_lt, z_le, z_eq, y_c1, y_c2, y_c3, y_c4, y_c5, z_gi, bd1_s, bd2_s, mul30, z_ofNat, lt_eq]
    rw [if_neg (by omega)]
    refine ih fu (i + 1) _ (by omega) (by omega) (by omega) (by rw [wrL_ne _ _ (by decide)]; exact h1) (by rw [wrL_ne _ _ (by decide)]; exact h2) (fun j j0 j1 => ?_)
    rw [wrL_same, updL_at _ _ (by omega) (by omega) j0 (by omega)]
    by_cases q : j = i
    · rw [if_pos q, h2, ht i (by omega) (by omega), q]
    · rw [if_neg q]; exact h j j0 (by omega)
/-- a trial begins, and ends -/
theorem m_beginTrial {mM : Mem} {v : VI} {nM : MemL} {sv tv : Nat → Int64} (hM : MR nM v sv tv) : Ev (f_X9_beginTrial mM nM) (fun r => ∃ tv', MR r v sv tv' ∧ RowL 1888 tv' v) :=
  m_begin 1888 fuel 0 nM (by omega) (by omega) (fuel_gt (by omega)) hM.1 hM.2.1 (fun j j0 j1 => by omega)
theorem m_endTrial {mM : Mem} {u v : VI} {nM : MemL} {sv tv : Nat → Int64} (hM : MR nM v sv tv) (ht : RowL 1888 tv u) : Ev (f_X9_endTrial mM nM) (fun r => MR r u sv tv) :=
  m_end ht 1888 fuel 0 nM (by omega) (by omega) (fuel_gt (by omega)) hM.2.1 hM.2.2 (fun j j0 j1 => by omega)
