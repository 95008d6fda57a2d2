/-! the text: the class reads a command -/
def rTx (t : Int → Int) (n p : Int) : Int × Int := nums t n (dueT (t p)) (p + 1)
def qTx (t : Int → Int) (n p : Int) : Int := (rTx t n p).2 + mkT t n (t p) (rTx t n p).2
/-- the first error from the command at p on: its kind and place; kind 0: none -/
def errF (t : Int → Int) (n : Int) : Nat → Int → Int × Int
  | 0, p => (0, p)
  | j + 1, p => if p < n ∧ dueT (t p) ≠ 0 then (if (rTx t n p).1 = 0 then (if qTx t n p < n then (if t (qTx t n p) = 59 then errF t n j (qTx t n p + 1) else (1, qTx t n p)) else (0, qTx t n p)) else rTx t n p) else ((if p < n then 1 else 3), p)
def CT (t : Int → Int) (n : Int) (mT : Mem) (p e : Int) (x : VI) : Prop := TT n t mT ∧ mT 1 0 = zI p ∧ mT 2 0 = zI e ∧ Row 3 (mT 5) x
def KT (mT mT' : Mem) : Prop := ∀ k : Nat, k ≠ 1 → k ≠ 2 → k ≠ 5 → mT' k = mT k
theorem s_comma1 {t : Int → Int} {n p : Int} {x : VI} {mT : Mem} (h : CT t n mT p 0 x) (p0 : 0 ≤ p) (p1 : p < n) (hc : t p = 44) : f_X7_readComma mT = some (wrI mT 1 (fun _ => zI (p + 1))) := by
  have n1 := h.1.1
  have es := s_sign h.1 h.2.1 p0 (by omega)
  rw [show chrT t n p = t p from if_pos p1, hc] at es
  unfold f_X7_readComma
  rw [es, bd1_s, if_pos (by rfl), lt_eq, h.2.1, z_c1, z_add]
theorem s_comma0 {t : Int → Int} {n p : Int} {x : VI} {mT : Mem} (h : CT t n mT p 0 x) (p0 : 0 ≤ p) (p1 : p ≤ n) (hc : ¬ (p < n ∧ t p = 44)) : f_X7_readComma mT = some (wrI mT 2 (fun _ => zI (if p < n then 1 else 3))) := by
  have n1 := h.1.1
  have es := s_sign h.1 h.2.1 p0 (by omega)
  have cb := chrT_b h.1 p0
  have ne : ¬ chrT t n p = 44 := fun e => by
    unfold chrT at e
    by_cases q : p < n
    · rw [if_pos q] at e; exact hc ⟨q, e⟩
    · rw [if_neg q] at e; omega
  unfold f_X7_readComma
  rw [es, bd1_s, if_neg (show ¬ zI (chrT t n p) = (44 : Int32) from z_ne (b := 44) (by omega) (by omega) (by omega) (by omega) ne), s_failHere h.1 h.2.1 p0 p1, bd1_s]
theorem s_numE {mT : Mem} {e i : Int} (e2 : mT 2 0 = zI e) (he : e ≠ 0 ∧ 0 ≤ e ∧ e ≤ 3) : f_X7_readNumber (zI i) mT = some mT := by
  unfold f_X7_readNumber
  rw [e2, if_neg (show ¬ zI (e) = (0 : Int32) from z_ne (b := 0) (by omega) (by omega) (by omega) (by omega) he.1)]
theorem s_L37 {D i e : Int} {mT : Mem} {fu : Nat} (hD : 0 ≤ D ∧ D ≤ 3) (hi : 0 ≤ i ∧ i ≤ 4) (he : 0 ≤ e ∧ e ≤ 3) (e2 : mT 2 0 = zI e) : f_X7_readCommand_L37 (zI D) (fu + 1) (zI i) mT = if D ≤ i then f_X7_readCommand_b68 mT else if e = 0 then (if i ≤ 0 then f_X7_readCommand_b57 (f_X7_readCommand_L37 (zI D) fu) (zI D) (zI i) mT else bd1 (f_X7_readComma mT) fun m => f_X7_readCommand_b57 (f_X7_readCommand_L37 (zI D) fu) (zI D) (zI i) m) else f_X7_readCommand_b68 mT := by
  conv => lhs; unfold f_X7_readCommand_L37
  rw [e2]
  simp (disch := omega) only [z_c0, z_le, z_eq]
theorem CT.w1 {t : Int → Int} {n : Int} {mT : Mem} {p e : Int} {x : VI} (h : CT t n mT p e x) (q : Int) : CT t n (wrI mT 1 (fun _ => zI q)) q e x :=
  ⟨h.1.cg (wrI_ne _ _ (by decide)) (wrI_ne _ _ (by decide)), by rw [wrI_same], by rw [wrI_ne _ _ (by decide)]; exact h.2.2.1, by rw [wrI_ne _ _ (by decide)]; exact h.2.2.2⟩
theorem CT.w2 {t : Int → Int} {n : Int} {mT : Mem} {p e : Int} {x : VI} (h : CT t n mT p e x) (q : Int) : CT t n (wrI mT 2 (fun _ => zI q)) p q x :=
  ⟨h.1.cg (wrI_ne _ _ (by decide)) (wrI_ne _ _ (by decide)), by rw [wrI_ne _ _ (by decide)]; exact h.2.1, by rw [wrI_same], by rw [wrI_ne _ _ (by decide)]; exact h.2.2.2⟩
theorem CT.wk {t : Int → Int} {n : Int} {mT : Mem} {p e : Int} {x : VI} (h : CT t n mT p e x) {k : Nat} (f : Nat → Int32) (h0 : 0 ≠ k) (h1 : 1 ≠ k) (h2 : 2 ≠ k) (h5 : 5 ≠ k) (h7 : 7 ≠ k) : CT t n (wrI mT k f) p e x :=
  ⟨h.1.cg (wrI_ne _ _ h0) (wrI_ne _ _ h7), by rw [wrI_ne _ _ h1]; exact h.2.1, by rw [wrI_ne _ _ h2]; exact h.2.2.1, by rw [wrI_ne _ _ h5]; exact h.2.2.2⟩
theorem s_b57 {t : Int → Int} {n : Int} : ∀ (k : Nat) (i p : Int) (fu : Nat) (mT : Mem) (x : VI), CT t n mT p 0 x → 0 ≤ p → p ≤ n → 0 ≤ i → i + k < 3 → k + 2 < fu → ∃ (mT' : Mem) (x' : VI), f_X7_readCommand_b57 (f_X7_readCommand_L37 (zI (i + k + 1)) fu) (zI (i + k + 1)) (zI i) mT = f_X7_readCommand_b68 mT' ∧ CT t n mT' (nums t n (k + 1) p).2 (nums t n (k + 1) p).1 x' ∧ ((nums t n (k + 1) p).1 = 0 → x' = valsT t n (k + 1) i p x) ∧ KT mT mT' := by
  intro k
  induction k with
  | zero =>
    intro i p fu mT x h p0 p1 i0 ik hf
    obtain ⟨fu, rfl⟩ : ∃ m, fu = m + 1 := ⟨fu - 1, by omega⟩
    obtain ⟨m, e, g1, g2, g5, gk⟩ := s_readNumber h.1 i0 (by omega) h.2.1 h.2.2.1 h.2.2.2 p0 p1
    have hb := nE_b t n p
    have hm : CT t n m (p + dT t n p) (nE t n p) (upV x i (vlT t 0 p (dgc t n p 6))) := ⟨h.1.cg (gk 0 (by decide) (by decide) (by decide)) (gk 7 (by decide) (by decide) (by decide)), g1, g2, g5⟩
    refine ⟨m, upV x i (vlT t 0 p (dgc t n p 6)), ?_, ?_, fun _ => rfl, gk⟩
    · unfold f_X7_readCommand_b57
      rw [e, bd1_s, lt_eq, z_c1, z_add, s_L37 (by omega) (by omega) hb g2, if_pos (by omega)]
    · by_cases c : nE t n p = 0
      · have en : nums t n (0 + 1) p = (0, p + dT t n p) := by
          show (if nE t n p = 0 then (if (0 : Nat) = 0 then ((0 : Int), p + dT t n p) else _) else _) = _
          rw [if_pos c, if_pos rfl]
        rw [en]; rw [c] at hm; exact hm
      · have en : nums t n (0 + 1) p = (nE t n p, p + dT t n p) := by
          show (if nE t n p = 0 then _ else (nE t n p, p + dT t n p)) = _
          rw [if_neg c]
        rw [en]; exact hm
  | succ k ih =>
    intro i p fu mT x h p0 p1 i0 ik hf
    obtain ⟨fu, rfl⟩ : ∃ m, fu = m + 1 := ⟨fu - 1, by omega⟩
    obtain ⟨m, e, g1, g2, g5, gk⟩ := s_readNumber h.1 i0 (by omega) h.2.1 h.2.2.1 h.2.2.2 p0 p1
    have hb := nE_b t n p
    have db := dT_b t n p
    have dn := dT_n t p1
    have hm : CT t n m (p + dT t n p) (nE t n p) (upV x i (vlT t 0 p (dgc t n p 6))) := ⟨h.1.cg (gk 0 (by decide) (by decide) (by decide)) (gk 7 (by decide) (by decide) (by decide)), g1, g2, g5⟩
    have e57 : f_X7_readCommand_b57 (f_X7_readCommand_L37 (zI (i + ((k + 1 : Nat) : Int) + 1)) (fu + 1)) (zI (i + ((k + 1 : Nat) : Int) + 1)) (zI i) mT = f_X7_readCommand_L37 (zI (i + ((k + 1 : Nat) : Int) + 1)) (fu + 1) (zI (i + 1)) m := by
      conv => lhs; unfold f_X7_readCommand_b57
      rw [e, bd1_s, lt_eq, z_c1, z_add]
    rw [e57, s_L37 (by omega) (by omega) hb g2, if_neg (by omega)]
    by_cases c : nE t n p = 0
    · rw [if_pos c, if_neg (by omega)]
      rw [c] at hm
      by_cases c3 : p + dT t n p < n ∧ t (p + dT t n p) = 44
      · have en : nums t n (k + 1 + 1) p = nums t n (k + 1) (p + dT t n p + 1) := by
          show (if nE t n p = 0 then (if k + 1 = 0 then ((0 : Int), p + dT t n p) else if p + dT t n p < n ∧ t (p + dT t n p) = 44 then nums t n (k + 1) (p + dT t n p + 1) else _) else _) = _
          rw [if_pos c, if_neg (by omega), if_pos c3]
        rw [en, s_comma1 hm (by omega) c3.1 c3.2, bd1_s]
        obtain ⟨m', x', a1, a2, a3, a4⟩ := ih (i + 1) (p + dT t n p + 1) fu _ _ (hm.w1 (p + dT t n p + 1)) (by omega) (by omega) (by omega) (by omega) (by omega)
        rw [show i + 1 + (k : Int) + 1 = i + ((k + 1 : Nat) : Int) + 1 by omega] at a1
        exact ⟨m', x', a1, a2, a3, fun k h1 h2 h5 => by rw [a4 k h1 h2 h5, wrI_ne _ _ h1, gk k h1 h2 h5]⟩
      · have en : nums t n (k + 1 + 1) p = ((if p + dT t n p < n then 1 else 3), p + dT t n p) := by
          show (if nE t n p = 0 then (if k + 1 = 0 then ((0 : Int), p + dT t n p) else if p + dT t n p < n ∧ t (p + dT t n p) = 44 then nums t n (k + 1) (p + dT t n p + 1) else ((if p + dT t n p < n then 1 else 3), p + dT t n p)) else _) = _
          rw [if_pos c, if_neg (by omega), if_neg c3]
        rw [en, s_comma0 hm (by omega) dn c3, bd1_s]
        have hm2 := hm.w2 (if p + dT t n p < n then 1 else 3)
        have eb : (if p + dT t n p < n then (1 : Int) else 3) ≠ 0 ∧ 0 ≤ (if p + dT t n p < n then (1 : Int) else 3) ∧ (if p + dT t n p < n then (1 : Int) else 3) ≤ 3 := by split <;> omega
        obtain ⟨fu, rfl⟩ : ∃ m, fu = m + 1 := ⟨fu - 1, by omega⟩
        refine ⟨_, _, ?_, hm2, fun q => absurd q eb.1, fun k h1 h2 h5 => by rw [wrI_ne _ _ h2, gk k h1 h2 h5]⟩
        conv => lhs; unfold f_X7_readCommand_b57
        rw [s_numE hm2.2.2.1 eb, bd1_s, lt_eq, z_c1, z_add, s_L37 (by omega) (by omega) eb.2 hm2.2.2.1]
        by_cases q : i + ((k + 1 : Nat) : Int) + 1 ≤ i + 1 + 1
        · rw [if_pos q]
        · rw [if_neg q, if_neg eb.1]
    · rw [if_neg c]
      have en : nums t n (k + 1 + 1) p = (nE t n p, p + dT t n p) := by
        show (if nE t n p = 0 then _ else (nE t n p, p + dT t n p)) = _
        rw [if_neg c]
      rw [en]
      exact ⟨m, _, rfl, hm, fun q => absurd q c, gk⟩
theorem s_nbN : ∀ k : Nat, k < 200 → f_X7_numbersBehind (zI (k : Int)) = some (zI ((dueT (k : Int) : Nat) : Int)) := by decide +kernel
theorem s_nb {c : Int} (c0 : 0 ≤ c ∧ c < 200) : f_X7_numbersBehind (zI c) = some (zI (dueT c : Nat)) := by
  obtain ⟨k, rfl⟩ : ∃ k : Nat, c = k := ⟨c.toNat, by omega⟩
  exact s_nbN k (by omega)
/-- behind the numbers: an error was found -/
theorem s_b68e {t : Int → Int} {n q e : Int} {x : VI} {mT : Mem} (h : CT t n mT q e x) (he : e ≠ 0 ∧ 0 ≤ e ∧ e ≤ 3) : Ev (f_X7_readCommand_b68 mT) (fun m => CT t n m q e x ∧ m 6 = mT 6) := by
  have ne : ¬ zI e = (0 : Int32) := fun r => he.1 ((z_eq (a := e) (b := 0) (by omega) (by omega) (by omega) (by omega)).mp r)
  unfold f_X7_readCommand_b68 f_X7_readCommand_b98 f_X7_readCommand_b99 f_X7_readCommand_b119 f_X7_readSeparator
  rw [h.2.2.1, if_neg ne]
  refine Ev_gb (Or.inl rfl) (Ev_lt ?_)
  rw [wrI_at, if_pos rfl, wrI_ne _ _ (by decide), h.2.2.1, if_neg ne, bd1_s]
  exact Ev_some ⟨h.wk _ (by decide) (by decide) (by decide) (by decide) (by decide), wrI_ne _ _ (by decide)⟩
theorem s_sep {t : Int → Int} {n q : Int} {x : VI} {mT : Mem} (h : CT t n mT q 0 x) (q0 : 0 ≤ q) (q1 : q ≤ n) (e6 : mT 6 0 = zI 1) : Ev (f_X7_readSeparator mT) (fun m => CT t n m (if q < n ∧ t q = 59 then q + 1 else q) (if q < n ∧ t q ≠ 59 then 1 else 0) x ∧ m 6 0 = zI (if q < n then 1 else 0) ∧ m 3 = mT 3 ∧ m 4 = mT 4) := by
  have n1 := h.1.1
  have es := s_sign h.1 h.2.1 q0 q1
  have cb := chrT_b h.1 q0
  unfold f_X7_readSeparator
  rw [h.2.2.1, if_pos (show zI 0 = (0 : Int32) from rfl), es, bd1_s]
  by_cases c : q < n
  · rw [show chrT t n q = t q from if_pos c] at cb ⊢
    by_cases c2 : t q = 59
    · rw [if_pos (show zI (t q) = (59 : Int32) by rw [c2]; rfl), if_pos (show q < n ∧ t q = 59 from ⟨c, c2⟩), if_neg (show ¬ (q < n ∧ t q ≠ 59) from fun r => r.2 c2), if_pos c, h.2.1, z_c1, z_add]
      exact Ev_lt (Ev_some ⟨h.w1 (q + 1), by rw [wrI_ne _ _ (by decide)]; exact e6, wrI_ne _ _ (by decide), wrI_ne _ _ (by decide)⟩)
    · rw [if_neg (show ¬ zI (t q) = (59 : Int32) from z_ne (b := 59) (by omega) (by omega) (by omega) (by omega) c2), if_neg (show ¬ (q < n ∧ t q = 59) from fun r => c2 r.2), if_pos (show q < n ∧ t q ≠ 59 from ⟨c, c2⟩), if_pos c, h.2.1, h.1.2.1]
      rw [if_neg (fun r => by rw [z_le (by omega) (by omega) (by omega) (by omega)] at r; omega), s_failHere h.1 h.2.1 q0 q1, if_pos c, bd1_s]
      exact Ev_some ⟨h.w2 1, by rw [wrI_ne _ _ (by decide)]; exact e6, wrI_ne _ _ (by decide), wrI_ne _ _ (by decide)⟩
  · rw [show chrT t n q = 0 from if_neg c]
    rw [if_neg (show ¬ zI 0 = (59 : Int32) by decide), h.2.1, h.1.2.1, if_pos (show zI n ≤ zI q by rw [z_le (by omega) (by omega) (by omega) (by omega)]; omega), if_neg (show ¬ (q < n ∧ t q = 59) from fun r => c r.1), if_neg (show ¬ (q < n ∧ t q ≠ 59) from fun r => c r.1), if_neg c]
    exact Ev_lt (Ev_some ⟨h.wk _ (by decide) (by decide) (by decide) (by decide) (by decide), by rw [wrI_same]; rfl, wrI_ne _ _ (by decide), wrI_ne _ _ (by decide)⟩)
/-- what is behind a command at the place q: the sign that ends it, or the end, or an error -/
def EndT (t : Int → Int) (n q w M : Int) (x : VI) (m : Mem) : Prop := CT t n m (if q < n ∧ t q = 59 then q + 1 else q) (if q < n ∧ t q ≠ 59 then 1 else 0) x ∧ m 6 0 = zI (if q < n then 1 else 0) ∧ m 3 0 = zI w ∧ m 4 0 = zI M
theorem s_b99 {t : Int → Int} {n q w M : Int} {x : VI} {mT : Mem} (h : CT t n mT q 0 x) (q0 : 0 ≤ q) (hM : M = 0 ∨ M = 1) (q1 : q + M ≤ n) (e6 : mT 6 0 = zI 1) (e3 : mT 3 0 = zI w) : Ev (f_X7_readCommand_b99 (zI M) mT) (EndT t n (q + M) w M x) := by
  unfold f_X7_readCommand_b99 f_X7_readCommand_b119
  have hw : CT t n (wrI mT 4 (fun _ => zI M)) q 0 x := h.wk _ (by decide) (by decide) (by decide) (by decide) (by decide)
  have g6 : wrI mT 4 (fun _ => zI M) 6 0 = zI 1 := by rw [wrI_ne _ _ (by decide)]; exact e6
  have g3 : wrI mT 4 (fun _ => zI M) 3 0 = zI w := by rw [wrI_ne _ _ (by decide)]; exact e3
  have g4 : wrI mT 4 (fun _ => zI M) 4 0 = zI M := by rw [wrI_same]
  refine Ev_gb (by rcases hM with r | r <;> rw [r]; exact Or.inl rfl; exact Or.inr rfl) (Ev_lt ?_)
  generalize wrI mT 4 (fun _ => zI M) = m4 at hw g6 g3 g4 ⊢
  rw [g4]
  rcases hM with r | r
  · rw [r, if_pos (show zI 0 = (0 : Int32) from rfl)]
    rw [r] at q1 g4
    rw [show q + 0 = q by omega] at q1 ⊢
    refine Ev_bd1 (s_sep hw q0 q1 g6) (fun m hm => Ev_some ⟨hm.1, hm.2.1, by rw [hm.2.2.1]; exact g3, by rw [hm.2.2.2]; exact g4⟩)
  · rw [r, if_neg (show ¬ zI 1 = (0 : Int32) by decide), hw.2.1, z_c1, z_add]
    rw [r] at q1 g4
    refine Ev_lt (Ev_bd1 (s_sep (hw.w1 (q + 1)) (by omega) q1 (by rw [wrI_ne _ _ (by decide)]; exact g6)) (fun m hm => Ev_some ⟨hm.1, hm.2.1, ?_, ?_⟩))
    · rw [hm.2.2.1, wrI_ne _ _ (by decide)]; exact g3
    · rw [hm.2.2.2, wrI_ne _ _ (by decide)]; exact g4
theorem mkT_b (t : Int → Int) {n q : Int} (w : Int) (h : q ≤ n) : (mkT t n w q = 0 ∨ mkT t n w q = 1) ∧ q + mkT t n w q ≤ n := by
  unfold mkT; split <;> omega
theorem s_b68o {t : Int → Int} {n q w : Int} {x : VI} {mT : Mem} (h : CT t n mT q 0 x) (q0 : 0 ≤ q) (q1 : q ≤ n) (w0 : 0 ≤ w ∧ w < 200) (e6 : mT 6 0 = zI 1) (e3 : mT 3 0 = zI w) : Ev (f_X7_readCommand_b68 mT) (EndT t n (q + mkT t n w q) w (mkT t n w q) x) := by
  have es := s_sign h.1 h.2.1 q0 q1
  have cb := chrT_b h.1 q0
  have mb := mkT_b t w q1
  have key : f_X7_readCommand_b68 mT = f_X7_readCommand_b99 (zI (mkT t n w q)) mT := by
    unfold f_X7_readCommand_b68 f_X7_readCommand_b98
    rw [h.2.2.1, if_pos (show zI 0 = (0 : Int32) from rfl), e3, es, bd1_s]
    unfold mkT
    by_cases c1 : w = 111
    · rw [if_pos (show zI w = (111 : Int32) by rw [c1]; rfl)]
      by_cases c2 : q < n
      · rw [show chrT t n q = t q from if_pos c2] at cb ⊢
        by_cases c3 : t q = 33
        · rw [if_pos (show zI (t q) = (33 : Int32) by rw [c3]; rfl), if_pos ⟨c1, c2, c3⟩]; rfl
        · rw [if_neg (show ¬ zI (t q) = (33 : Int32) from z_ne (b := 33) (by omega) (by omega) (by omega) (by omega) c3), if_neg (fun r => c3 r.2.2)]; rfl
      · rw [show chrT t n q = 0 from if_neg c2, if_neg (show ¬ zI 0 = (33 : Int32) by decide), if_neg (fun r => c2 r.2.1)]; rfl
    · rw [if_neg (show ¬ zI (w) = (111 : Int32) from z_ne (b := 111) (by omega) (by omega) (by omega) (by omega) c1), if_neg (fun r => c1 r.1)]; rfl
  rw [key]
  exact s_b99 h q0 mb.1 mb.2 e6 e3
/-- no command begins here -/
theorem s_rc0 {t : Int → Int} {n p : Int} {x : VI} {mT : Mem} (h : CT t n mT p 0 x) (p0 : 0 ≤ p) (p1 : p ≤ n) (hd : ¬ (p < n ∧ dueT (t p) ≠ 0)) : Ev (f_X7_readCommand mT) (fun m => CT t n m p (if p < n then 1 else 3) x ∧ m 6 = mT 6) := by
  have es := s_sign h.1 h.2.1 p0 p1
  have cb := chrT_b h.1 p0
  have en := s_nb (c := chrT t n p) (by omega)
  have z : dueT (chrT t n p) = 0 := by
    unfold chrT
    by_cases c : p < n
    · rw [if_pos c]
      by_cases c2 : dueT (t p) = 0
      · exact c2
      · exact absurd ⟨c, c2⟩ hd
    · rw [if_neg c]; rfl
  rw [z] at en
  unfold f_X7_readCommand
  rw [es, bd1_s]
  refine Ev_gch cb.1 (by omega) (Ev_lt ?_)
  have h3 : CT t n (wrI mT 3 (fun _ => zI (chrT t n p))) p 0 x := h.wk _ (by decide) (by decide) (by decide) (by decide) (by decide)
  rw [wrI_at, en, bd1_s, if_pos (show zI ((0 : Nat) : Int) = (0 : Int32) from rfl), s_failHere h3.1 h3.2.1 p0 p1, bd1_s]
  exact Ev_some ⟨h3.w2 _, by rw [wrI_ne _ _ (by decide), wrI_ne _ _ (by decide)]⟩
/-- a command begins here -/
theorem s_rc1 {t : Int → Int} {n p : Int} {x : VI} {mT : Mem} (h : CT t n mT p 0 x) (p0 : 0 ≤ p) (p1 : p < n) (hd : dueT (t p) ≠ 0) : ∃ (mT' : Mem) (x' : VI), f_X7_readCommand mT = f_X7_readCommand_b68 mT' ∧ CT t n mT' (rTx t n p).2 (rTx t n p).1 x' ∧ ((rTx t n p).1 = 0 → x' = valsT t n (dueT (t p)) 0 (p + 1) x) ∧ mT' 3 0 = zI (t p) ∧ mT' 6 = mT 6 := by
  have es := s_sign h.1 h.2.1 p0 (by omega)
  have cb := chrT_b h.1 p0
  have en := s_nb (c := chrT t n p) (by omega)
  have ec : chrT t n p = t p := if_pos p1
  rw [ec] at es cb en
  obtain ⟨K, hK⟩ : ∃ K, dueT (t p) = K + 1 := ⟨dueT (t p) - 1, by omega⟩
  have kb := dueT_b (t p)
  have h3 : CT t n (wrI mT 3 (fun _ => zI (t p))) p 0 x := h.wk _ (by decide) (by decide) (by decide) (by decide) (by decide)
  have h4 := h3.w1 (p + 1)
  obtain ⟨f, hf⟩ : ∃ f, fuel = f + 1 := ⟨fuel - 1, by have := fuel_gt (n := 9) (by omega); omega⟩
  have hf9 : 9 < f + 1 := by rw [← hf]; exact fuel_gt (by omega)
  obtain ⟨m, x', a1, a2, a3, a4⟩ := s_b57 K 0 (p + 1) f _ _ h4 (by omega) (by omega) (Int.le_refl _) (by omega) (by omega)
  unfold rTx
  rw [hK]
  rw [hK] at en
  refine ⟨m, x', ?_, a2, a3, ?_, ?_⟩
  · conv => lhs; unfold f_X7_readCommand
    rw [es, bd1_s, gch_s cb.1 (by omega), lt_eq, wrI_at, en, bd1_s, if_neg (fun r => by have := (z_eq (a := ((K + 1 : Nat) : Int)) (b := 0) (by omega) (by omega) (by omega) (by omega)).mp r; omega), lt_eq, h3.2.1, z_c1, z_add, z_c0, hf]
    rw [s_L37 (e := 0) (by omega) (by omega) (by omega) h4.2.2.1, if_neg (by omega), if_pos rfl, if_pos (Int.le_refl _)]
    rw [show ((0 : Int) + (K : Int) + 1) = ((K + 1 : Nat) : Int) by omega] at a1
    exact a1
  · rw [a4 3 (by decide) (by decide) (by decide), wrI_ne _ _ (by decide), wrI_same]
  · rw [a4 6 (by decide) (by decide) (by decide), wrI_ne _ _ (by decide), wrI_ne _ _ (by decide)]
