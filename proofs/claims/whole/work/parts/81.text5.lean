/-! the text: the errors, on both sides; append, clear, errorPosition, errorKind -/
theorem errF_b (t : Int → Int) (n : Int) : ∀ (j : Nat) (p : Int), 0 ≤ p → p ≤ n → (0 ≤ (errF t n j p).1 ∧ (errF t n j p).1 ≤ 3) ∧ 0 ≤ (errF t n j p).2 ∧ (errF t n j p).2 ≤ n
  | 0, p, h0, h => ⟨⟨Int.le_refl _, by show (0 : Int) ≤ 3; decide⟩, h0, h⟩
  | j + 1, p, h0, h => by
    unfold errF
    by_cases c : p < n ∧ dueT (t p) ≠ 0
    · rw [if_pos c]
      have nb : (0 ≤ (rTx t n p).1 ∧ (rTx t n p).1 ≤ 3) ∧ p + 1 ≤ (rTx t n p).2 ∧ (rTx t n p).2 ≤ n := nums_b t n (dueT (t p)) (p + 1) (by omega)
      have mb := mkT_b t (t p) nb.2.2
      have mb2 : (rTx t n p).2 ≤ qTx t n p ∧ qTx t n p ≤ n := by unfold qTx; omega
      by_cases c1 : (rTx t n p).1 = 0
      · rw [if_pos c1]
        by_cases c2 : qTx t n p < n
        · rw [if_pos c2]
          by_cases c3 : t (qTx t n p) = 59
          · rw [if_pos c3]; exact errF_b t n j (qTx t n p + 1) (by omega) (by omega)
          · rw [if_neg c3]; exact ⟨⟨by show (0 : Int) ≤ 1; decide, by show (1 : Int) ≤ 3; decide⟩, by show 0 ≤ qTx t n p; omega, mb2.2⟩
        · rw [if_neg c2]; exact ⟨⟨Int.le_refl _, by show (0 : Int) ≤ 3; decide⟩, by show 0 ≤ qTx t n p; omega, mb2.2⟩
      · rw [if_neg c1]; exact ⟨nb.1, by omega, nb.2.2⟩
    · rw [if_neg c]
      refine ⟨?_, h0, h⟩
      show 0 ≤ (if p < n then (1 : Int) else 3) ∧ (if p < n then (1 : Int) else 3) ≤ 3
      split <;> omega
theorem s_hasCmd {mT : Mem} {g e : Int} (e6 : mT 6 0 = zI g) (e2 : mT 2 0 = zI e) (g0 : g = 0 ∨ g = 1) (he : 0 ≤ e ∧ e ≤ 3) : f_X7_hasCommand mT = some (zI (if g = 1 ∧ e = 0 then 1 else 0)) := by
  simp (disch := omega) only [f_X7_hasCommand, z_c0, z_c1, z_add, z_sub, z_neg, y_neg, z_mul, z_div, z_l, y_i, y_add, y_sub, y_mul, y_div, z_lt, z_le, z_eq, y_c1, y_c2, y_c3, y_c4, y_c5, z_gi, bd1_s, bd2_s, mul30, z_ofNat, lt_eq, e6, e2]
  repeat' split
  all_goals first | rfl | (exfalso; omega)
theorem s_L6stop {mT : Mem} {c g e : Int} {fu : Nat} (c0 : 0 ≤ c ∧ c ≤ 120) (e6 : mT 6 0 = zI g) (e2 : mT 2 0 = zI e) (g0 : g = 0 ∨ g = 1) (he : 0 ≤ e ∧ e ≤ 3) (hs : ¬ (g = 1 ∧ e = 0)) : f_X7_readAll_L6 (fu + 1) (zI c) mT = some mT := by
  have eh := s_hasCmd e6 e2 g0 he
  rw [if_neg hs] at eh
  conv => lhs; unfold f_X7_readAll_L6
  by_cases q : 120 ≤ c
  · rw [if_pos (by rw [show (120 : Int32) = zI 120 from rfl, z_le (by omega) (by omega) (by omega) (by omega)]; exact q)]
  · rw [if_neg (by rw [show (120 : Int32) = zI 120 from rfl, z_le (by omega) (by omega) (by omega) (by omega)]; exact q), eh, bd1_s, if_pos (by rfl)]
theorem s_L6go {mT : Mem} {c : Int} {fu : Nat} (c0 : 0 ≤ c ∧ c < 120) (e6 : mT 6 0 = zI 1) (e2 : mT 2 0 = zI 0) : f_X7_readAll_L6 (fu + 1) (zI c) mT = bd1 (f_X7_readCommand mT) fun m => f_X7_readAll_L6 fu (zI (c + 1)) m := by
  have eh := s_hasCmd e6 e2 (Or.inr rfl) (by omega)
  conv => lhs; unfold f_X7_readAll_L6
  rw [if_neg (by rw [show (120 : Int32) = zI 120 from rfl, z_le (by omega) (by omega) (by omega) (by omega)]; omega), eh, bd1_s, if_neg (by decide)]
  simp only [lt_eq, z_c1, z_add]
/-- the class's reading of the whole text from a command on -/
theorem s_err {t : Int → Int} {n : Int} : ∀ (j : Nat) (p c : Int) (fu : Nat) (mT : Mem) (x : VI), CT t n mT p 0 x → mT 6 0 = zI 1 → 0 ≤ p → p ≤ n → n - p < j → 0 ≤ c → 2 * c ≤ p → j + 1 < fu → Ev (f_X7_readAll_L6 fu (zI c) mT) (fun m => TT n t m ∧ m 1 0 = zI (errF t n j p).2 ∧ m 2 0 = zI (errF t n j p).1) := by
  intro j
  induction j with
  | zero => intro p c fu mT x h h6 p0 p1 hj; omega
  | succ j ih =>
    intro p c fu mT x h h6 p0 p1 hj c0 cp hf
    obtain ⟨fu, rfl⟩ : ∃ m, fu = m + 1 := ⟨fu - 1, by omega⟩
    obtain ⟨fu, rfl⟩ : ∃ m, fu = m + 1 := ⟨fu - 1, by omega⟩
    have n1 := h.1.1
    rw [s_L6go (by omega) h6 h.2.2.1]
    unfold errF
    by_cases d : p < n ∧ dueT (t p) ≠ 0
    · rw [if_pos d]
      obtain ⟨m, x', a1, a2, a3, a4, a5⟩ := s_rc1 h p0 d.1 d.2
      have nb : (0 ≤ (rTx t n p).1 ∧ (rTx t n p).1 ≤ 3) ∧ p + 1 ≤ (rTx t n p).2 ∧ (rTx t n p).2 ≤ n := nums_b t n (dueT (t p)) (p + 1) (by omega)
      have tb := h.1.2.2 p p0 d.1
      rw [a1]
      by_cases c1 : (rTx t n p).1 = 0
      · rw [if_pos c1]
        rw [c1] at a2
        refine Ev_bd1 (s_b68o a2 (by omega) nb.2.2 (by omega) (by rw [a5]; exact h6) a4) (fun m2 hm => ?_)
        have hm : EndT t n (qTx t n p) (t p) _ x' m2 := hm
        obtain ⟨b1, b2, b3, b4⟩ := hm
        have mb := mkT_b t (t p) nb.2.2
        have mb2 : (rTx t n p).2 ≤ qTx t n p ∧ qTx t n p ≤ n := by unfold qTx; omega
        by_cases c2 : qTx t n p < n
        · rw [if_pos c2]
          rw [if_pos c2] at b2
          by_cases c3 : t (qTx t n p) = 59
          · rw [if_pos c3]
            rw [if_pos ⟨c2, c3⟩, if_neg (fun r => r.2 c3)] at b1
            exact ih _ _ _ _ _ b1 b2 (by omega) (by omega) (by omega) (by omega) (by omega) (by omega)
          · rw [if_neg c3]
            rw [if_neg (fun r => c3 r.2), if_pos ⟨c2, c3⟩] at b1
            rw [s_L6stop (g := 1) (e := 1) (by omega) b2 b1.2.2.1 (Or.inr rfl) (by omega) (by omega)]
            exact Ev_some ⟨b1.1, b1.2.1, b1.2.2.1⟩
        · rw [if_neg c2]
          rw [if_neg c2] at b2
          rw [if_neg (fun r => c2 r.1), if_neg (fun r => c2 r.1)] at b1
          rw [s_L6stop (g := 0) (e := 0) (by omega) b2 b1.2.2.1 (Or.inl rfl) (by omega) (by omega)]
          exact Ev_some ⟨b1.1, b1.2.1, b1.2.2.1⟩
      · rw [if_neg c1]
        refine Ev_bd1 (s_b68e a2 ⟨c1, nb.1⟩) (fun m2 hm => ?_)
        rw [s_L6stop (g := 1) (e := (rTx t n p).1) (by omega) (by rw [hm.2, a5]; exact h6) hm.1.2.2.1 (Or.inr rfl) nb.1 (fun r => c1 r.2)]
        exact Ev_some ⟨hm.1.1, hm.1.2.1, hm.1.2.2.1⟩
    · rw [if_neg d]
      refine Ev_bd1 (s_rc0 h p0 p1 d) (fun m2 hm => ?_)
      have eb : (if p < n then (1 : Int) else 3) ≠ 0 ∧ 0 ≤ (if p < n then (1 : Int) else 3) ∧ (if p < n then (1 : Int) else 3) ≤ 3 := by split <;> omega
      rw [s_L6stop (g := 1) (e := if p < n then 1 else 3) (by omega) (by rw [hm.2]; exact h6) hm.1.2.2.1 (Or.inr rfl) eb.2 (fun r => eb.1 r.2)]
      exact Ev_some ⟨hm.1.1, hm.1.2.1, hm.1.2.2.1⟩
def TM (n : Int) (t : Int → Int) (mM : Mem) : Prop := (0 ≤ n ∧ n ≤ 120) ∧ mM 7 0 = zI n ∧ ∀ k : Int, 0 ≤ k → k < n → mM 4 (zI k).toNatClampNeg = zI (t k) ∧ 32 ≤ t k ∧ t k ≤ 126
theorem TM.sr {n : Int} {t : Int → Int} {mM mM' : Mem} (h : TM n t mM) (e : SR mM mM') : TM n t mM' := by
  obtain ⟨a, b, c⟩ := h
  exact ⟨a, by rw [e 7 (by decide) (by decide) (by decide) (by decide) (by decide)]; exact b, fun k k0 k1 => by rw [e 4 (by decide) (by decide) (by decide) (by decide) (by decide)]; exact c k k0 k1⟩
theorem SR.trans {a b c : Mem} (h : SR a b) (h' : SR b c) : SR a c := fun k k5 k9 k10 k11 k12 => by rw [h' k k5 k9 k10 k11 k12, h k k5 k9 k10 k11 k12]
theorem SR.w9 {a b : Mem} (h : SR a b) (f : Nat → Int32) : SR a (wrI b 9 f) := fun k k5 k9 k10 k11 k12 => by rw [wrI_ne _ _ k9]; exact h k k5 k9 k10 k11 k12
/-- one sign in the reference's first loop -/
theorem m_L7 {t : Int → Int} {n k : Int} {fu : Nat} {mM : Mem} {nM : MemL} (h : TM n t mM) (k0 : 0 ≤ k) (k1 : k < n) : f_X9_error_L7 nM (fu + 1) (zI k) mM = bd2 (f_X9_readOne (zI (t k)) mM nM) fun r m => (if r ≤ 0 then (if m 4 (zI k).toNatClampNeg = 59 then f_X9_error_b56 (f_X9_error_L7 nM fu) (zI k) 0 m nM else f_X9_error_b56 (f_X9_error_L7 nM fu) (zI k) (m 9 0) m nM) else some ((4 : Int32) * zI k + r, m)) := by
  obtain ⟨⟨n0, n1⟩, h7, h4⟩ := h
  conv => lhs; unfold f_X9_error_L7
  rw [h7, if_neg (by rw [z_le (by omega) (by omega) (by omega) (by omega)]; omega), z_gi k0 (by show k < (120 : Int); omega) (by decide), (h4 k k0 k1).1]
  congr 1
  funext r m
  rw [z_gi k0 (by show k < (120 : Int); omega) (by decide)]
theorem m_b56 {k : Int} {w : Int32} {mM : Mem} {nM : MemL} {g : Int32 → Mem → Option (Int32 × Mem)} : f_X9_error_b56 g (zI k) w mM nM = g (zI (k + 1)) (wrI mM 9 (fun _ => w)) := by
  unfold f_X9_error_b56
  rw [lt_eq, lt_eq, z_c1, z_add]
theorem RT.w9 {mM : Mem} {w a d h : Int} {x : VI} (hR : RT mM (w, a, d, h, x)) (u : Int) : RT (wrI mM 9 (fun _ => zI u)) (u, a, d, h, x) := by
  obtain ⟨e9, e10, e11, e12, e5⟩ := hR
  refine ⟨?_, ?_, ?_, ?_, ?_⟩
  · show wrI _ 9 _ 9 0 = zI u
    rw [wrI_same]
  · rw [wrI_ne _ _ (by decide)]; exact e10
  · rw [wrI_ne _ _ (by decide)]; exact e11
  · rw [wrI_ne _ _ (by decide)]; exact e12
  · rw [wrI_ne _ _ (by decide)]; exact e5
/-- what the first loop answers from k on -/
def PE (t : Int → Int) (n R : Int) (m0 : Mem) (nM : MemL) (k : Int) (S : TS) : Prop := ∀ (fu : Nat) (mM : Mem), n - k < fu → RT mM S → TM n t mM → SR m0 mM → Ev (f_X9_error_L7 nM fu (zI k) mM) (fun o => o.1 = zI R ∧ SR m0 o.2)
theorem PE_step {t : Int → Int} {n R : Int} {m0 : Mem} {nM : MemL} (k : Int) (S S' : TS) (k0 : 0 ≤ k) (k1 : k < n) (k59 : t k ≠ 59) (hR : Rd (t k) S S') (hP : PE t n R m0 nM (k + 1) S') : PE t n R m0 nM k S := by
  intro fu mM hf hS hT hr
  obtain ⟨fu, rfl⟩ : ∃ m, fu = m + 1 := ⟨fu - 1, by omega⟩
  rw [m_L7 hT k0 k1]
  refine Ev_bd2 (hR mM nM hS) (fun r m hm => ?_)
  obtain ⟨g1, g2, g3⟩ := hm
  dsimp only at g1 g2 g3
  have hT' := hT.sr g3
  have tb := hT'.2.2 k k0 k1
  rw [g1, if_pos (show zI 0 ≤ (0 : Int32) by decide), tb.1, if_neg (show ¬ zI (t k) = (59 : Int32) from z_ne (b := 59) (by omega) (by omega) (by omega) (by omega) k59), m_b56]
  obtain ⟨w, a, d, h, x⟩ := S'
  rw [show m 9 0 = zI w from g2.1]
  exact hP fu _ (by omega) (g2.w9 w) (hT'.sr (SR.w9 (fun _ _ _ _ _ _ => rfl) _)) ((hr.trans g3).w9 _)
theorem PE_semi {t : Int → Int} {n R : Int} {m0 : Mem} {nM : MemL} {k w a d h : Int} {x : VI} (k0 : 0 ≤ k) (k1 : k < n) (k59 : t k = 59) (hR : Rd 59 (w, a, d, h, x) (w, a, d, h, x)) (hP : PE t n R m0 nM (k + 1) (0, a, d, h, x)) : PE t n R m0 nM k (w, a, d, h, x) := by
  intro fu mM hf hS hT hr
  obtain ⟨fu, rfl⟩ : ∃ m, fu = m + 1 := ⟨fu - 1, by omega⟩
  rw [m_L7 hT k0 k1, k59]
  refine Ev_bd2 (hR mM nM hS) (fun r m hm => ?_)
  obtain ⟨g1, g2, g3⟩ := hm
  dsimp only at g1 g2 g3
  have hT' := hT.sr g3
  have tb := hT'.2.2 k k0 k1
  rw [g1, if_pos (show zI 0 ≤ (0 : Int32) by decide), tb.1, k59, if_pos (show zI 59 = (59 : Int32) from rfl), m_b56]
  exact hP fu _ (by omega) (g2.w9 0) (hT'.sr (SR.w9 (fun _ _ _ _ _ _ => rfl) _)) ((hr.trans g3).w9 _)
theorem PE_bad {t : Int → Int} {n e q : Int} {m0 : Mem} {nM : MemL} {S : TS} (n0 : 0 < n) (q0 : 0 ≤ q) (e0 : 1 ≤ e ∧ e ≤ 3) (h : BadAt t n e q S) : PE t n (4 * q + e) m0 nM q S := by
  intro fu mM hf hS hT hr
  rcases h with ⟨q1, hx⟩ | ⟨q1, e3, hx⟩
  · obtain ⟨fu, rfl⟩ : ∃ m, fu = m + 1 := ⟨fu - 1, by omega⟩
    rw [m_L7 hT q0 q1]
    refine Ev_bd2 (hx mM nM hS) (fun r m hm => ?_)
    obtain ⟨g1, g3⟩ := hm
    dsimp only at g1 g3
    rw [g1, if_neg (fun r => by rw [show (0 : Int32) = zI 0 from rfl, z_le (by omega) (by omega) (by omega) (by omega)] at r; omega)]
    refine Ev_some ⟨?_, hr.trans g3⟩
    show (4 : Int32) * zI q + zI e = zI (4 * q + e)
    rw [show (4 : Int32) = zI 4 from rfl, z_mul, z_add]
  · obtain ⟨fu, rfl⟩ : ∃ m, fu = m + 1 := ⟨fu - 1, by omega⟩
    have n1 := hT.1
    rw [q1, e3]
    conv => arg 1; unfold f_X9_error_L7
    rw [hT.2.1, if_pos (by rw [z_le (by omega) (by omega) (by omega) (by omega)]; omega), if_neg (fun r => by rw [show (0 : Int32) = zI 0 from rfl, z_eq (by omega) (by omega) (by omega) (by omega)] at r; omega), hx mM nM hS, bd1_s, if_pos (show zI 0 = (0 : Int32) from rfl)]
    refine Ev_some ⟨?_, hr⟩
    show (4 : Int32) * zI n + (3 : Int32) = zI (4 * n + 3)
    rw [show (4 : Int32) = zI 4 from rfl, show (3 : Int32) = zI 3 from rfl, z_mul, z_add]
theorem PE_end {t : Int → Int} {n : Int} {m0 : Mem} {nM : MemL} {S : TS} (n0 : 0 < n) (h : ∀ (mM : Mem) (nM : MemL), RT mM S → f_X9_ends mM nM = some (zI 1)) : PE t n (-1) m0 nM n S := by
  intro fu mM hf hS hT hr
  obtain ⟨fu, rfl⟩ : ∃ m, fu = m + 1 := ⟨fu - 1, by omega⟩
  have n1 := hT.1
  conv => arg 1; unfold f_X9_error_L7
  rw [hT.2.1, if_pos (by rw [z_le (by omega) (by omega) (by omega) (by omega)]; omega), if_neg (fun r => by rw [show (0 : Int32) = zI 0 from rfl, z_eq (by omega) (by omega) (by omega) (by omega)] at r; omega), h mM nM hS, bd1_s, if_neg (show ¬ zI 1 = (0 : Int32) by decide)]
  exact Ev_some ⟨rfl, hr⟩
def codT (r : Int × Int) : Int := if r.1 = 0 then -1 else 4 * r.2 + r.1
/-- the reference's reading of the whole text from a command on -/
theorem m_err {t : Int → Int} {n : Int} (n0 : 0 < n) (ht : ∀ k : Int, 0 ≤ k → k < n → 32 ≤ t k ∧ t k ≤ 126) {m0 : Mem} {nM : MemL} : ∀ (j : Nat) (p a d h : Int) (x : VI), 0 ≤ p → p ≤ n → n - p < j → PE t n (codT (errF t n j p)) m0 nM p (0, a, d, h, x) := by
  intro j
  induction j with
  | zero => intro p a d h x p0 p1 hj; omega
  | succ j ih =>
    intro p a d h x p0 p1 hj
    unfold errF
    by_cases c : p < n ∧ dueT (t p) ≠ 0
    · rw [if_pos c]
      obtain ⟨K, hK⟩ : ∃ K, dueT (t p) = K + 1 := ⟨dueT (t p) - 1, by omega⟩
      have kb := dueT_b (t p)
      have kn := (dueT_need c.2).1
      have nb : (0 ≤ (rTx t n p).1 ∧ (rTx t n p).1 ≤ 3) ∧ p + 1 ≤ (rTx t n p).2 ∧ (rTx t n p).2 ≤ n := nums_b t n (dueT (t p)) (p + 1) (by omega)
      have mb := mkT_b t (t p) nb.2.2
      have mb2 : (rTx t n p).2 ≤ qTx t n p ∧ qTx t n p ≤ n := by unfold qTx; omega
      have eR : nums t n (K + 1) (p + 1) = rTx t n p := by unfold rTx; rw [hK]
      have tb := ht p p0 c.1
      have w0 : 0 < t p ∧ t p < 200 := by omega
      refine go_cmd (fun k S S' => PE_step k S S') ht p0 c.1 hK ?_ ?_
      · rw [eR]
        intro e D D0 D6 hd
        rw [if_pos e]
        show PE t n _ m0 nM (qTx t n p) (t p, K, D, mkT t n (t p) (rTx t n p).2, _)
        by_cases c2 : qTx t n p < n
        · rw [if_pos c2]
          by_cases c3 : t (qTx t n p) = 59
          · rw [if_pos c3]
            exact PE_semi (by omega) c2 c3 (rd_semi w0 ⟨by omega, by omega⟩ ⟨D0, D6⟩ mb.1 (by omega)) (ih _ _ _ _ _ (by omega) (by omega) (by omega))
          · rw [if_neg c3]
            have tq := ht (qTx t n p) (by omega) c2
            have hnd : ¬ (48 ≤ t (qTx t n p) ∧ t (qTx t n p) ≤ 57) ∨ mkT t n (t p) (rTx t n p).2 = 1 := by
              rcases hd with r | r
              · exact Or.inr r
              · rcases mb.1 with r2 | r2
                · refine Or.inl (fun s => r ?_)
                  have : qTx t n p = (rTx t n p).2 := by unfold qTx; omega
                  rw [this] at s c2
                  exact ⟨c2, s⟩
                · exact Or.inr r2
            have h33 : ¬ (t (qTx t n p) = 33 ∧ t p = 111 ∧ (K : Int) = 2 ∧ mkT t n (t p) (rTx t n p).2 = 0) := fun r => by
              have e2 : qTx t n p = (rTx t n p).2 := by unfold qTx; omega
              have r4 := r.2.2.2
              unfold mkT at r4
              rw [if_pos ⟨r.2.1, by rw [← e2]; exact c2, by rw [← e2]; exact r.1⟩] at r4
              omega
            have := PE_bad (m0 := m0) (nM := nM) (e := 1) n0 (by omega) (by omega) (Or.inl ⟨c2, rd_else (x := valsT t n (K + 1) 0 (p + 1) x) w0 ⟨by omega, by omega⟩ ⟨D0, D6⟩ (by omega) mb.1 hnd (by omega) h33 (fun r => c3 r.1)⟩)
            exact this
        · rw [if_neg c2]
          have eq : qTx t n p = n := by omega
          rw [eq]
          exact PE_end n0 (fun mM nM hR => by
            rw [m_ends hR ⟨by show 0 ≤ t p; omega, w0.2⟩ ⟨by show 0 ≤ (K : Int); omega, by show (K : Int) < 3; omega⟩ ⟨by show 0 ≤ D; omega, by show D ≤ 7; omega⟩, if_pos ⟨w0.1, D0, by show (K : Int) + 1 = needT (t p); omega⟩])
      · rw [eR]
        intro e S hS
        rw [if_neg e]
        have : codT (rTx t n p) = 4 * (rTx t n p).2 + (rTx t n p).1 := if_neg e
        rw [this]
        exact PE_bad n0 (by omega) (by omega) hS
    · rw [if_neg c]
      by_cases c1 : p < n
      · have z : dueT (t p) = 0 := by
          by_cases q : dueT (t p) = 0
          · exact q
          · exact absurd ⟨c1, q⟩ c
        rw [if_pos c1]
        have tb := ht p p0 c1
        show PE t n (4 * p + 1) m0 nM p (0, a, d, h, x)
        exact PE_bad (e := 1) n0 p0 (by omega) (Or.inl ⟨c1, rd_bad z (by omega)⟩)
      · rw [if_neg c1]
        have ep : p = n := by omega
        show PE t n (4 * p + 3) m0 nM p (0, a, d, h, x)
        refine PE_bad (e := 3) n0 p0 (by omega) (Or.inr ⟨ep, rfl, fun mM nM hR => ?_⟩)
        obtain ⟨e9, -⟩ := hR
        unfold f_X9_ends
        rw [show mM 9 0 = zI 0 from e9, if_pos (show zI 0 ≤ (0 : Int32) by decide)]
        rfl
