/-! the law's change and its question -/
theorem Ev_bdn4 {t1 t2 t3 t4 γ : Type} {x : Option (t1 × t2 × t3 × t4)} {k : t1 → t2 → t3 → t4 → Option γ} {R : t1 × t2 × t3 × t4 → Prop} {Q : γ → Prop} (h : Ev x R) (hk : ∀ a1 a2 a3 a4, R (a1, a2, a3, a4) → Ev (k a1 a2 a3 a4) Q) : Ev (bd4 x k) Q := by
  obtain ⟨⟨a1, a2, a3, a4⟩, e0, h⟩ := h; rw [e0]; exact hk a1 a2 a3 a4 h
theorem Ev_bdn5 {t1 t2 t3 t4 t5 γ : Type} {x : Option (t1 × t2 × t3 × t4 × t5)} {k : t1 → t2 → t3 → t4 → t5 → Option γ} {R : t1 × t2 × t3 × t4 × t5 → Prop} {Q : γ → Prop} (h : Ev x R) (hk : ∀ a1 a2 a3 a4 a5, R (a1, a2, a3, a4, a5) → Ev (k a1 a2 a3 a4 a5) Q) : Ev (bd5 x k) Q := by
  obtain ⟨⟨a1, a2, a3, a4, a5⟩, e0, h⟩ := h; rw [e0]; exact hk a1 a2 a3 a4 a5 h
theorem Ev_bdn9 {t1 t2 t3 t4 t5 t6 t7 t8 t9 γ : Type} {x : Option (t1 × t2 × t3 × t4 × t5 × t6 × t7 × t8 × t9)} {k : t1 → t2 → t3 → t4 → t5 → t6 → t7 → t8 → t9 → Option γ} {R : t1 × t2 × t3 × t4 × t5 × t6 × t7 × t8 × t9 → Prop} {Q : γ → Prop} (h : Ev x R) (hk : ∀ a1 a2 a3 a4 a5 a6 a7 a8 a9, R (a1, a2, a3, a4, a5, a6, a7, a8, a9) → Ev (k a1 a2 a3 a4 a5 a6 a7 a8 a9) Q) : Ev (bd9 x k) Q := by
  obtain ⟨⟨a1, a2, a3, a4, a5, a6, a7, a8, a9⟩, e0, h⟩ := h; rw [e0]; exact hk a1 a2 a3 a4 a5 a6 a7 a8 a9 h
theorem Ev_bdn10 {t1 t2 t3 t4 t5 t6 t7 t8 t9 t10 γ : Type} {x : Option (t1 × t2 × t3 × t4 × t5 × t6 × t7 × t8 × t9 × t10)} {k : t1 → t2 → t3 → t4 → t5 → t6 → t7 → t8 → t9 → t10 → Option γ} {R : t1 × t2 × t3 × t4 × t5 × t6 × t7 × t8 × t9 × t10 → Prop} {Q : γ → Prop} (h : Ev x R) (hk : ∀ a1 a2 a3 a4 a5 a6 a7 a8 a9 a10, R (a1, a2, a3, a4, a5, a6, a7, a8, a9, a10) → Ev (k a1 a2 a3 a4 a5 a6 a7 a8 a9 a10) Q) : Ev (bd10 x k) Q := by
  obtain ⟨⟨a1, a2, a3, a4, a5, a6, a7, a8, a9, a10⟩, e0, h⟩ := h; rw [e0]; exact hk a1 a2 a3 a4 a5 a6 a7 a8 a9 a10 h
theorem Ev_bdn11 {t1 t2 t3 t4 t5 t6 t7 t8 t9 t10 t11 γ : Type} {x : Option (t1 × t2 × t3 × t4 × t5 × t6 × t7 × t8 × t9 × t10 × t11)} {k : t1 → t2 → t3 → t4 → t5 → t6 → t7 → t8 → t9 → t10 → t11 → Option γ} {R : t1 × t2 × t3 × t4 × t5 × t6 × t7 × t8 × t9 × t10 × t11 → Prop} {Q : γ → Prop} (h : Ev x R) (hk : ∀ a1 a2 a3 a4 a5 a6 a7 a8 a9 a10 a11, R (a1, a2, a3, a4, a5, a6, a7, a8, a9, a10, a11) → Ev (k a1 a2 a3 a4 a5 a6 a7 a8 a9 a10 a11) Q) : Ev (bd11 x k) Q := by
  obtain ⟨⟨a1, a2, a3, a4, a5, a6, a7, a8, a9, a10, a11⟩, e0, h⟩ := h; rw [e0]; exact hk a1 a2 a3 a4 a5 a6 a7 a8 a9 a10 a11 h
theorem low_ev (x n : Int32) (h : n ≠ 0) : Ev (f_L_low x n) (fun _ => True) := by
  unfold f_L_low
  rw [if_neg h]
  exact Ev_some trivial
section
variable {imT : Mem} {imdP : Mem} {indP : MemL} {imdS : Mem} {imdB : Mem} {imdO : Mem} {imdR : Mem} {imdA : Mem} {indA : MemL} {mP : Mem} {nP : MemL} {mS : Mem} {mB : Mem} {mO : Mem} {mR : Mem} {mA : Mem} {nA : MemL} {mH : Mem} {hs : (Nat → PSt)}
def QC (o : Int32 × Mem × MemL × Mem × Mem × Mem × Mem × Mem × MemL × Mem × (Nat → PSt)) : Prop := LQ o.2.1 o.2.2.1 o.2.2.2.1 o.2.2.2.2.1 o.2.2.2.2.2.1 o.2.2.2.2.2.2.1 o.2.2.2.2.2.2.2.1 o.2.2.2.2.2.2.2.2.1 o.2.2.2.2.2.2.2.2.2.1 o.2.2.2.2.2.2.2.2.2.2
theorem ev_f_L_change_b370 (hI : LQ mP nP mS mB mO mR mA nA mH hs) {t0 : Int32} {t1 : Int32} : Ev (f_L_change_b370 t0 t1 imT imdP indP imdS imdB imdO imdR imdA indA mP nP mS mB mO mR mA nA mH hs) QC := by
  unfold f_L_change_b370
  exact Ev_bdn4 (h_set hI _ _) (fun _ _ _ _ hr => Ev_some hr)
theorem ev_f_L_change_b326 (hI : LQ mP nP mS mB mO mR mA nA mH hs) {x5 : Int32} {t0 : Int32} : Ev (f_L_change_b326 x5 t0 imT imdP indP imdS imdB imdO imdR imdA indA mP nP mS mB mO mR mA nA mH hs) QC := by
  unfold f_L_change_b326
  refine Ev_bd1 (low_ev _ _ (by decide)) (fun _ _ => ?_)
  exact Ev_bdn4 (h_set hI _ _) (fun _ _ _ _ hr => Ev_some hr)
theorem ev_f_L_change_b211 (hI : LQ mP nP mS mB mO mR mA nA mH hs) {t0 : Int32} {t1 : Int32} {t2 : Int32} {t3 : Int32} (hu : t0 = 0 ∨ t0 = 1) : Ev (f_L_change_b211 t0 t1 t2 t3 imT imdP indP imdS imdB imdO imdR imdA indA mP nP mS mB mO mR mA nA mH hs) QC := by
  unfold f_L_change_b211
  exact Ev_bdn4 (h_order hI _ _ _ _ hu) (fun _ _ _ _ hr => Ev_some hr)
theorem ev_f_L_change_b175 (hI : LQ mP nP mS mB mO mR mA nA mH hs) {x2 : Int32} {x4 : Int32} {x5 : Int32} : Ev (f_L_change_b175 x2 x4 x5 imT imdP indP imdS imdB imdO imdR imdA indA mP nP mS mB mO mR mA nA mH hs) QC := by
  unfold f_L_change_b175
  refine Ev_bd1 (low_ev _ _ (by decide)) (fun _ _ => ?_)
  refine Ev_bd1 (low_ev _ _ (by decide)) (fun _ _ => ?_)
  refine Ev_if (fun _ => ?_) (fun _ => ?_)
  · exact ev_f_L_change_b211 hI (Or.inr rfl)
  · exact ev_f_L_change_b211 hI (Or.inl rfl)
theorem ev_f_L_change_b171 (hI : LQ mP nP mS mB mO mR mA nA mH hs) {t0 : Int32} : Ev (f_L_change_b171 t0 imT imdP indP imdS imdB imdO imdR imdA indA mP nP mS mB mO mR mA nA mH hs) QC := by
  unfold f_L_change_b171
  exact Ev_bdn4 (h_addBoat hI _) (fun _ _ _ _ hr => Ev_some hr)
theorem ev_f_L_change_b120 (hI : LQ mP nP mS mB mO mR mA nA mH hs) {x2 : Int32} : Ev (f_L_change_b120 x2 imT imdP indP imdS imdB imdO imdR imdA indA mP nP mS mB mO mR mA nA mH hs) QC := by
  unfold f_L_change_b120
  refine Ev_bd1 (low_ev _ _ (by decide)) (fun _ _ => ?_)
  refine Ev_bd1 (low_ev _ _ (by decide)) (fun _ _ => ?_)
  refine Ev_bd1 (low_ev _ _ (by decide)) (fun _ _ => ?_)
  exact Ev_bdn4 (h_addSilo hI _ _ _) (fun _ _ _ _ hr => Ev_some hr)
theorem ev_f_L_change (hI : LQ mP nP mS mB mO mR mA nA mH hs) {x1 : Int32} {x2 : Int32} : Ev (f_L_change x1 x2 imT imdP indP imdS imdB imdO imdR imdA indA mP nP mS mB mO mR mA nA mH hs) QC := by
  unfold f_L_change
  refine Ev_bd1 (low_ev _ _ (by decide)) (fun _ _ => ?_)
  refine Ev_bd1 (low_ev _ _ (by decide)) (fun _ _ => ?_)
  refine Ev_bd1 (low_ev _ _ (by decide)) (fun _ _ => ?_)
  refine Ev_bd1 (low_ev _ _ (by decide)) (fun _ _ => ?_)
  refine Ev_if (fun _ => ?_) (fun _ => ?_)
  · exact ev_f_L_change_b120 hI
  · refine Ev_if (fun _ => ?_) (fun _ => ?_)
    · exact ev_f_L_change_b120 hI
    · refine Ev_if (fun _ => ?_) (fun _ => ?_)
      · refine Ev_bd1 (low_ev _ _ (by decide)) (fun _ _ => ?_)
        refine Ev_if (fun _ => ?_) (fun _ => ?_)
        · exact ev_f_L_change_b171 hI
        · refine Ev_bd1 (low_ev _ _ (by decide)) (fun _ _ => ?_)
          exact ev_f_L_change_b171 hI
      · refine Ev_if (fun _ => ?_) (fun _ => ?_)
        · exact ev_f_L_change_b175 hI
        · refine Ev_if (fun _ => ?_) (fun _ => ?_)
          · exact ev_f_L_change_b175 hI
          · refine Ev_if (fun _ => ?_) (fun _ => ?_)
            · exact ev_f_L_change_b175 hI
            · refine Ev_if (fun _ => ?_) (fun _ => ?_)
              · refine Ev_bd1 (low_ev _ _ (by decide)) (fun _ _ => ?_)
                exact Ev_bdn4 (h_cancel hI _) (fun _ _ _ _ hr => Ev_some hr)
              · refine Ev_if (fun _ => ?_) (fun _ => ?_)
                · exact Ev_bdn5 (h_pay hI _ _) (fun _ _ _ _ _ hr => Ev_some hr)
                · refine Ev_if (fun _ => ?_) (fun _ => ?_)
                  · exact Ev_bdn4 (h_setCatch hI _ _) (fun _ _ _ _ hr => Ev_some hr)
                  · refine Ev_if (fun _ => ?_) (fun _ => ?_)
                    · refine Ev_bd1 (low_ev _ _ (by decide)) (fun _ _ => ?_)
                      exact Ev_bdn4 (h_setRule hI _ _) (fun _ _ _ _ hr => Ev_some hr)
                    · refine Ev_if (fun _ => ?_) (fun _ => ?_)
                      · refine Ev_bd1 (low_ev _ _ (by decide)) (fun _ _ => ?_)
                        exact Ev_bdn4 (h_setStrength hI _ _) (fun _ _ _ _ hr => Ev_some hr)
                      · refine Ev_if (fun _ => ?_) (fun _ => ?_)
                        · refine Ev_bd1 (low_ev _ _ (by decide)) (fun _ _ => ?_)
                          refine Ev_bd1 (low_ev _ _ (by decide)) (fun _ _ => ?_)
                          exact Ev_bdn4 (h_setTemperature hI _ _) (fun _ _ _ _ hr => Ev_some hr)
                        · refine Ev_if (fun _ => ?_) (fun _ => ?_)
                          · refine Ev_bd1 (low_ev _ _ (by decide)) (fun _ _ => ?_)
                            exact Ev_bdn4 (h_set hI _ _) (fun _ _ _ _ hr => Ev_some hr)
                          · refine Ev_if (fun _ => ?_) (fun _ => ?_)
                            · refine Ev_bd1 (low_ev _ _ (by decide)) (fun _ _ => ?_)
                              refine Ev_if (fun _ => ?_) (fun _ => ?_)
                              · exact ev_f_L_change_b326 hI
                              · exact ev_f_L_change_b326 hI
                            · refine Ev_if (fun _ => ?_) (fun _ => ?_)
                              · refine Ev_bd1 (low_ev _ _ (by decide)) (fun _ _ => ?_)
                                refine Ev_bd1 (low_ev _ _ (by decide)) (fun _ _ => ?_)
                                refine Ev_if (fun _ => ?_) (fun _ => ?_)
                                · exact ev_f_L_change_b370 hI
                                · refine Ev_bd1 (low_ev _ _ (by decide)) (fun _ _ => ?_)
                                  exact ev_f_L_change_b370 hI
                              · refine Ev_if (fun _ => ?_) (fun _ => ?_)
                                · refine Ev_bd1 (low_ev _ _ (by decide)) (fun _ _ => ?_)
                                  exact Ev_bdn4 (h_move hI _ _) (fun _ _ _ _ hr => Ev_some hr)
                                · refine Ev_if (fun _ => ?_) (fun _ => ?_)
                                  · exact Ev_bdn10 (h_undo hI) (fun _ _ _ _ _ _ _ _ _ _ hr => Ev_some hr)
                                  · refine Ev_bd1 (low_ev _ _ (by decide)) (fun _ _ => ?_)
                                    exact Ev_bdn11 (h_pass hI _) (fun _ _ _ _ _ _ _ _ _ _ _ hr => Ev_some hr)
end
section
variable {imT : Mem} {imdP : Mem} {indP : MemL} {imdS : Mem} {imdB : Mem} {imdO : Mem} {imdR : Mem} {imdA : Mem} {indA : MemL} {mP : Mem} {nP : MemL} {mS : Mem} {mB : Mem} {mO : Mem} {mR : Mem} {mA : Mem} {nA : MemL} {mH : Mem} {hs : (Nat → PSt)} {jmT : Mem} {jmdP : Mem} {jndP : MemL} {jmdS : Mem} {jmdB : Mem} {jmdO : Mem} {jmdR : Mem} {jmdA : Mem} {jndA : MemL}
set_option maxRecDepth 10000 in
theorem i_change (w1 w2 : Int32) : f_L_change w1 w2 imT imdP indP imdS imdB imdO imdR imdA indA mP nP mS mB mO mR mA nA mH hs = f_L_change w1 w2 jmT jmdP jndP jmdS jmdB jmdO jmdR jmdA jndA mP nP mS mB mO mR mA nA mH hs := rfl
theorem i_receipt (w1 w2 : Int32) : f_L_receipt w1 w2 imT imdP indP imdS imdB imdO imdR imdA indA mP nP mS mB mO mR mA nA mH hs = f_L_receipt w1 w2 jmT jmdP jndP jmdS jmdB jmdO jmdR jmdA jndA mP nP mS mB mO mR mA nA mH hs := rfl
theorem i_total (w1 : Int32) : f_L_total_N w1 imT imdP indP imdS imdB imdO imdR imdA indA mP nP mS mB mO mR mA nA mH hs = f_L_total_N w1 jmT jmdP jndP jmdS jmdB jmdO jmdR jmdA jndA mP nP mS mB mO mR mA nA mH hs := rfl
theorem i_meanAge : f_X8_meanAge imT imdP indP imdS imdB imdO imdR imdA indA mP nP mS mB mO mR mA nA mH hs = f_X8_meanAge jmT jmdP jndP jmdS jmdB jmdO jmdR jmdA jndA mP nP mS mB mO mR mA nA mH hs := rfl
theorem i_weighed : f_L_isWeighed imT imdP indP imdS imdB imdO imdR imdA indA mP nP mS mB mO mR mA nA mH hs = f_L_isWeighed imT imdP indP imdS imdB imdO imdR imdA indA mP nP mS mB mO mR mA nA mH hs := rfl
end
