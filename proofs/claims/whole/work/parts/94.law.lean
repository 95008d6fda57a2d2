theorem and31 (x : Int32) : ∃ j : Nat, j < 32 ∧ x &&& 31 = nI j := by
  have h : (x &&& 31).toBitVec.toNat < 32 := by
    rw [Int32.toBitVec_and, BitVec.toNat_and]
    exact Nat.lt_of_le_of_lt Nat.and_le_right (by decide)
  refine ⟨(x &&& 31).toBitVec.toNat, h, Int32.toBitVec_inj.mp ?_⟩
  show (x &&& 31).toBitVec = BitVec.ofNat 32 (x &&& 31).toBitVec.toNat
  rw [BitVec.ofNat_toNat, BitVec.setWidth_eq]
theorem l_gt {L i : Nat} (hL : L ≤ 2560) (hi : i ≤ L) : (Int32.ofNat L - 5 < nI i) ↔ L < i + 5 := by
  have e5 : (5 : Int32) = zI 5 := rfl
  rw [show nI i = zI (i : Int) from z_ofNat i, z_ofNat, e5, z_sub, Int32.lt_iff_toInt_lt, z_toInt (by omega) (by omega), z_toInt (by omega) (by omega)]
  omega
set_option maxHeartbeats 400000000 in
set_option maxRecDepth 100000 in
/-- the law at its loop's head, with i ints read -/
theorem law_go {p : Program} {l : Launch} (hst : l.stackTraces = false) {e : Env} {s : State} {m : MethodId} {below : List Frame} {meth : Method} {c : Code} {D : va_G} {cy : Nat → Nat} {b L : Nat} {xs : Nat → Int32} (hL : L ≤ 2560) (C0 : lw_At p s m meth c b L xs) (hK : va_K D vwCl (tyl cy) s) (hN : cG cy (LA s) s s.heap) (hX : cX s) {aI aT adP adS adB adO adR adA aP aS aB aO aR aA aH aM : Nat → Nat} {ah : Nat → Nat → Nat → Nat} {bo : Nat} : ∀ (n i : Nat) (mT : Mem) (mdP : Mem) (ndP : MemL) (mdS : Mem) (mdB : Mem) (mdO : Mem) (mdR : Mem) (mdA : Mem) (ndA : MemL) (mP : Mem) (nP : MemL) (mS : Mem) (mB : Mem) (mO : Mem) (mR : Mem) (mA : Mem) (nA : MemL) (mH : Mem) (hs : (Nat → PSt)) (mM : Mem) (nM : MemL) (o : Nat → Int64) (H : Heap) (locs : List Loc) (ls : Array Slot) (cells slots : Nat), i ≤ L → L ≤ i + 5 * n + 4 → cells + 16 * n ≤ 601024 → slots + 96 * n ≤ 7293034 → LI mT mP nP mS mB mO mR mA nA mH hs mM nM → va_P D vwCl ([(bo, .inl (cy 1, 1, .inr (.inl o)))] ++ ((W_All cy aI aT adP adS adB adO adR adA aP aS aB aO aR aA aH ah mT mdP ndP mdS mdB mdO mdR mdA ndA mP nP mS mB mO mR mA nA mH hs) ++ (W_M cy aM mM nM))) H → va_D (LA s) ([(bo, .inl (cy 1, 1, .inr (.inl o)))] ++ ((W_All cy aI aT adP adS adB adO adR adA aP aS aB aO aR aA aH ah mT mdP ndP mdS mdB mdO mdR mdA ndA mP nP mS mB mO mR mA nA mH hs) ++ (W_M cy aM mM nM))) → va_S (LA s) s.heap H locs → lv_has ls 9 [(0, .ref b), (1, .ref (aI 0)), (2, .ref (aM 0)), (3, .ref bo), (4, .int (nI i))] → W p l e room_1 s m #[Value.ref b] below meth c H locs cells slots (lw_Z below #[Value.ref b] s) (F0 m 23 ls []) := by
  obtain ⟨hx, hb, hr, hml, hown, hts0, hXs, hbl, hlocks, hgv⟩ := C0
  have hown : s.vm.findClass RL = some m.cls := hown
  have hts : ∀ w ∈ lwA, w.before #[Value.ref b] s = true := fun w h => hts0 w (lwA_tbl h)
  have hbA : ¬ LA s b := Nat.not_le.mpr hbl
  intro n
  induction n with
  | zero =>
    intro i mT mdP ndP mdS mdB mdO mdR mdA ndA mP nP mS mB mO mR mA nA mH hs mM nM o H locs ls cells slots hi hn hcb hsb hI hP hD hS hl
    refine lv_iload hx hb dL_law_23 (lv_at hl 4 rfl) ?_
    refine lv_aload_n hx hb dL_law_25 rfl (lv_at hl 0 rfl) ?_
    refine va_slen hx hb hXs hbl hbA hS dL_law_26 ?_
    refine lv_iconst (v := 5) hx hb dL_law_27 (by decide) ?_
    refine lv_isub hx hb dL_law_28 ?_
    refine lv_icmp_gt (tgt := 2100) hx hb dL_law_29 (by decide) (fun _ => ?_) (fun q => absurd ((l_gt hL hi).mpr (by omega)) q)
    refine lv_iconst (v := 1) hx hb dL_law_2100 (by decide) ?_
    refine va_forget (fun q hq => hS.2.2 q hq) ?_
    refine W.widen (k := 601024) (n := 7293034) (by omega) (by omega) ?_
    refine W.base ?_
    exact lw_ret (Drawn.sameBut.refl s.drawn lw_cs) hx hb hr hlocks dL_law_2101
  | succ n ih =>
    intro i mT mdP ndP mdS mdB mdO mdR mdA ndA mP nP mS mB mO mR mA nA mH hs mM nM o H locs ls cells slots hi hn hcb hsb hI hP hD hS hl
    refine lv_iload hx hb dL_law_23 (lv_at hl 4 rfl) ?_
    refine lv_aload_n hx hb dL_law_25 rfl (lv_at hl 0 rfl) ?_
    refine va_slen hx hb hXs hbl hbA hS dL_law_26 ?_
    refine lv_iconst (v := 5) hx hb dL_law_27 (by decide) ?_
    refine lv_isub hx hb dL_law_28 ?_
    refine lv_icmp_gt (tgt := 2100) hx hb dL_law_29 (by decide) (fun _ => ?_) (fun q => ?_)
    · refine lv_iconst (v := 1) hx hb dL_law_2100 (by decide) ?_
      refine va_forget (fun q hq => hS.2.2 q hq) ?_
      refine W.widen (k := 601024) (n := 7293034) (by omega) (by omega) ?_
      refine W.base ?_
      exact lw_ret (Drawn.sameBut.refl s.drawn lw_cs) hx hb hr hlocks dL_law_2101
    · have hi5 : i + 5 ≤ L := by
        rcases Nat.lt_or_ge L (i + 5) with h9 | h9
        · exact absurd ((l_gt hL hi).mpr h9) q
        · exact h9
      have vi : ∀ j : Nat, j < 5 → vp_in (nI (i + j)) L := fun j hj => vp_in_nI (by omega) (by omega)
      have v1 : vp_in (nI i + 1) L := by have h9 := vi 1 (by decide); rw [← nI_add] at h9; exact h9
      have v2 : vp_in (nI i + 2) L := by have h9 := vi 2 (by decide); rw [← nI_add] at h9; exact h9
      have v3 : vp_in (nI i + 3) L := by have h9 := vi 3 (by decide); rw [← nI_add] at h9; exact h9
      have v4 : vp_in (nI i + 4) L := by have h9 := vi 4 (by decide); rw [← nI_add] at h9; exact h9
      have next : ∀ (mT' : Mem) (mdP' : Mem) (ndP' : MemL) (mdS' : Mem) (mdB' : Mem) (mdO' : Mem) (mdR' : Mem) (mdA' : Mem) (ndA' : MemL) (mP' : Mem) (nP' : MemL) (mS' : Mem) (mB' : Mem) (mO' : Mem) (mR' : Mem) (mA' : Mem) (nA' : MemL) (mH' : Mem) (hs' : (Nat → PSt)) (mM' : Mem) (nM' : MemL) (o' : Nat → Int64) (H1 : Heap) (locs1 : List Loc) (ls1 : Array Slot), LI mT' mP' nP' mS' mB' mO' mR' mA' nA' mH' hs' mM' nM' → va_P D vwCl ([(bo, .inl (cy 1, 1, .inr (.inl o')))] ++ ((W_All cy aI aT adP adS adB adO adR adA aP aS aB aO aR aA aH ah mT' mdP' ndP' mdS' mdB' mdO' mdR' mdA' ndA' mP' nP' mS' mB' mO' mR' mA' nA' mH' hs') ++ (W_M cy aM mM' nM'))) H1 → va_D (LA s) ([(bo, .inl (cy 1, 1, .inr (.inl o')))] ++ ((W_All cy aI aT adP adS adB adO adR adA aP aS aB aO aR aA aH ah mT' mdP' ndP' mdS' mdB' mdO' mdR' mdA' ndA' mP' nP' mS' mB' mO' mR' mA' nA' mH' hs') ++ (W_M cy aM mM' nM'))) → va_S (LA s) s.heap H1 locs1 → lv_has ls1 9 [(0, .ref b), (1, .ref (aI 0)), (2, .ref (aM 0)), (3, .ref bo), (4, .int (nI i))] → W p l e room_1 s m #[Value.ref b] below meth c H1 locs1 (cells + 16) (slots + 96) (lw_Z below #[Value.ref b] s) (F0 m 2094 ls1 []) := by
        intro mT' mdP' ndP' mdS' mdB' mdO' mdR' mdA' ndA' mP' nP' mS' mB' mO' mR' mA' nA' mH' hs' mM' nM' o' H1 locs1 ls1 hI hP hD hS hl
        refine lv_iinc (v := nI (i + 5)) (lv' := [(4, .int (nI (i + 5))), (0, .ref b), (1, .ref (aI 0)), (2, .ref (aM 0)), (3, .ref bo)]) hx hb dL_law_2094 hl (k := 4) rfl (nI_add i 5) (by decide) rfl (fun ls hl => ?_)
        refine lv_goto (tgt := 23) hx hb dL_law_2097 (by decide) ?_
        exact ih (i + 5) mT' mdP' ndP' mdS' mdB' mdO' mdR' mdA' ndA' mP' nP' mS' mB' mO' mR' mA' nA' mH' hs' mM' nM' o' H1 locs1 ls (cells + 16) (slots + 96) hi5 (by omega) (by omega) (by omega) hI hP hD hS (lv_sub hl [1, 2, 3, 4, 0] rfl)
      have hc16 : cells + 16 ≤ 601024 := by omega
      have hs96 : slots + 96 ≤ 7293034 := by omega
      refine lv_aload_n hx hb dL_law_32 rfl (lv_at hl 0 rfl) ?_
      refine lv_iload hx hb dL_law_33 (lv_at hl 4 rfl) ?_
      refine va_sld hx hb hXs hbl hbA hS (vi 0 (by decide)) dL_law_35 ?_
      refine lv_bipush (v := 31) hx hb dL_law_36 (by decide) ?_
      refine lv_iand hx hb dL_law_38 ?_
      obtain ⟨j, hj, ej⟩ := and31 (xs (nI i).toNatClampNeg)
      rw [ej]
      rcases (show j = 0 ∨ j = 1 ∨ j = 2 ∨ j = 3 ∨ j = 4 ∨ j = 5 ∨ j = 6 ∨ j = 7 ∨ j = 8 ∨ j = 9 ∨ j = 10 ∨ j = 11 ∨ j = 12 ∨ j = 13 ∨ j = 14 ∨ j = 15 ∨ j = 16 ∨ j = 17 ∨ j = 18 ∨ j = 19 ∨ j = 20 ∨ j = 21 ∨ j = 22 ∨ j = 23 ∨ j = 24 ∨ j = 25 ∨ j = 26 ∨ j = 27 ∨ j = 28 ∨ j = 29 ∨ j = 30 ∨ j = 31 by omega) with rfl | rfl | rfl | rfl | rfl | rfl | rfl | rfl | rfl | rfl | rfl | rfl | rfl | rfl | rfl | rfl | rfl | rfl | rfl | rfl | rfl | rfl | rfl | rfl | rfl | rfl | rfl | rfl | rfl | rfl | rfl | rfl
      · refine lv_tableIn (off := 141) (tgt := 180) hx hb dL_law_39 (by decide) (by decide) rfl (by decide) ?_
        obtain ⟨k', r', rM, cd, mS', mH', hs', mM', nM', hk, e8, e9, hth, hr9, hI2⟩ := g_addSilo (imdP := mdP) (indP := ndP) (imdS := mdS) (imdB := mdB) (imdO := mdO) (imdR := mdR) (imdA := mdA) (indA := ndA) hI (xs (nI i + 1).toNatClampNeg) (xs (nI i + 2).toNatClampNeg) (xs (nI i + 3).toNatClampNeg)
        exact lc_addSilo hst hx hb hml hown hts hXs hbl hK hN hX hP hD hS hl hc16 hs96 rfl v1 rfl v2 rfl v3 hk e8 e9 hth hr9 (fun o' H1 locs1 ls1 hP1 hD1 hS1 hl1 => next mT mdP ndP mdS mdB mdO mdR mdA ndA mP nP mS' mB mO mR mA nA mH' hs' mM' nM' o' H1 locs1 ls1 hI2 hP1 hD1 hS1 hl1)
      · refine lv_tableIn (off := 221) (tgt := 260) hx hb dL_law_39 (by decide) (by decide) rfl (by decide) ?_
        obtain ⟨k', r', rM, cd, mS', mH', hs', mM', nM', hk, e8, e9, hth, hr9, hI2⟩ := g_setRule (imdP := mdP) (indP := ndP) (imdS := mdS) (imdB := mdB) (imdO := mdO) (imdR := mdR) (imdA := mdA) (indA := ndA) hI (xs (nI i + 1).toNatClampNeg) (xs (nI i + 2).toNatClampNeg)
        exact lc_setRule hst hx hb hml hown hts hXs hbl hK hN hX hP hD hS hl hc16 hs96 rfl v1 rfl v2 hk e8 e9 hth hr9 (fun o' H1 locs1 ls1 hP1 hD1 hS1 hl1 => next mT mdP ndP mdS mdB mdO mdR mdA ndA mP nP mS' mB mO mR mA nA mH' hs' mM' nM' o' H1 locs1 ls1 hI2 hP1 hD1 hS1 hl1)
      · refine lv_tableIn (off := 289) (tgt := 328) hx hb dL_law_39 (by decide) (by decide) rfl (by decide) ?_
        obtain ⟨k', r', rM, cd, mS', mH', hs', mM', nM', hk, e8, e9, hth, hr9, hI2⟩ := g_setStrength (imdP := mdP) (indP := ndP) (imdS := mdS) (imdB := mdB) (imdO := mdO) (imdR := mdR) (imdA := mdA) (indA := ndA) hI (xs (nI i + 1).toNatClampNeg) (xs (nI i + 2).toNatClampNeg)
        exact lc_setStrength hst hx hb hml hown hts hXs hbl hK hN hX hP hD hS hl hc16 hs96 rfl v1 rfl v2 hk e8 e9 hth hr9 (fun o' H1 locs1 ls1 hP1 hD1 hS1 hl1 => next mT mdP ndP mdS mdB mdO mdR mdA ndA mP nP mS' mB mO mR mA nA mH' hs' mM' nM' o' H1 locs1 ls1 hI2 hP1 hD1 hS1 hl1)
      · refine lv_tableIn (off := 357) (tgt := 396) hx hb dL_law_39 (by decide) (by decide) rfl (by decide) ?_
        obtain ⟨k', r', rM, cd, mP', mH', hs', mM', nM', hk, e8, e9, hth, hr9, hI2⟩ := g_setTemperature (imdP := mdP) (indP := ndP) (imdS := mdS) (imdB := mdB) (imdO := mdO) (imdR := mdR) (imdA := mdA) (indA := ndA) hI (xs (nI i + 1).toNatClampNeg) (xs (nI i + 2).toNatClampNeg)
        exact lc_setTemperature hst hx hb hml hown hts hXs hbl hK hN hX hP hD hS hl hc16 hs96 rfl v1 rfl v2 hk e8 e9 hth hr9 (fun o' H1 locs1 ls1 hP1 hD1 hS1 hl1 => next mT mdP ndP mdS mdB mdO mdR mdA ndA mP' nP mS mB mO mR mA nA mH' hs' mM' nM' o' H1 locs1 ls1 hI2 hP1 hD1 hS1 hl1)
      · refine lv_tableIn (off := 425) (tgt := 464) hx hb dL_law_39 (by decide) (by decide) rfl (by decide) ?_
        obtain ⟨k', r', rM, cd, mP', mH', hs', mM', nM', hk, e8, e9, hth, hr9, hI2⟩ := g_set (imdP := mdP) (indP := ndP) (imdS := mdS) (imdB := mdB) (imdO := mdO) (imdR := mdR) (imdA := mdA) (indA := ndA) hI (xs (nI i + 1).toNatClampNeg) (xs (nI i + 2).toNatClampNeg)
        exact lc_set hst hx hb hml hown hts hXs hbl hK hN hX hP hD hS hl hc16 hs96 rfl v1 rfl v2 hk e8 e9 hth hr9 (fun o' H1 locs1 ls1 hP1 hD1 hS1 hl1 => next mT mdP ndP mdS mdB mdO mdR mdA ndA mP' nP mS mB mO mR mA nA mH' hs' mM' nM' o' H1 locs1 ls1 hI2 hP1 hD1 hS1 hl1)
      · refine lv_tableIn (off := 493) (tgt := 532) hx hb dL_law_39 (by decide) (by decide) rfl (by decide) ?_
        obtain ⟨k', r', rM, cd, mS', mH', hs', mM', nM', hk, e8, e9, hth, hr9, hI2⟩ := g_move (imdP := mdP) (indP := ndP) (imdS := mdS) (imdB := mdB) (imdO := mdO) (imdR := mdR) (imdA := mdA) (indA := ndA) hI (xs (nI i + 1).toNatClampNeg) (xs (nI i + 2).toNatClampNeg)
        exact lc_move hst hx hb hml hown hts hXs hbl hK hN hX hP hD hS hl hc16 hs96 rfl v1 rfl v2 hk e8 e9 hth hr9 (fun o' H1 locs1 ls1 hP1 hD1 hS1 hl1 => next mT mdP ndP mdS mdB mdO mdR mdA ndA mP nP mS' mB mO mR mA nA mH' hs' mM' nM' o' H1 locs1 ls1 hI2 hP1 hD1 hS1 hl1)
      · refine lv_tableIn (off := 561) (tgt := 600) hx hb dL_law_39 (by decide) (by decide) rfl (by decide) ?_
        obtain ⟨k', r', rM, cd, mP', nP', mS', mB', mO', mR', mA', nA', mH', hs', mM', nM', hk, e8, e9, hth, hr9, hI2⟩ := g_pass (imdP := mdP) (indP := ndP) (imdS := mdS) (imdB := mdB) (imdO := mdO) (imdR := mdR) (imdA := mdA) (indA := ndA) hI (xs (nI i + 1).toNatClampNeg)
        exact lc_pass hst hx hb hml hown hts hXs hbl hK hN hX hP hD hS hl hc16 hs96 rfl v1 hk e8 e9 hth hr9 (fun o' H1 locs1 ls1 hP1 hD1 hS1 hl1 => next mT mdP ndP mdS mdB mdO mdR mdA ndA mP' nP' mS' mB' mO' mR' mA' nA' mH' hs' mM' nM' o' H1 locs1 ls1 hI2 hP1 hD1 hS1 hl1)
      · refine lv_tableIn (off := 617) (tgt := 656) hx hb dL_law_39 (by decide) (by decide) rfl (by decide) ?_
        obtain ⟨k', r', rM, cd, mB', mH', hs', mM', nM', hk, e8, e9, hth, hr9, hI2⟩ := g_addBoat (imdP := mdP) (indP := ndP) (imdS := mdS) (imdB := mdB) (imdO := mdO) (imdR := mdR) (imdA := mdA) (indA := ndA) hI (xs (nI i + 1).toNatClampNeg)
        exact lc_addBoat hst hx hb hml hown hts hXs hbl hK hN hX hP hD hS hl hc16 hs96 rfl v1 hk e8 e9 hth hr9 (fun o' H1 locs1 ls1 hP1 hD1 hS1 hl1 => next mT mdP ndP mdS mdB mdO mdR mdA ndA mP nP mS mB' mO mR mA nA mH' hs' mM' nM' o' H1 locs1 ls1 hI2 hP1 hD1 hS1 hl1)
      · refine lv_tableIn (off := 673) (tgt := 712) hx hb dL_law_39 (by decide) (by decide) rfl (by decide) ?_
        obtain ⟨k', r', rM, cd, mB', mH', hs', mM', nM', hk, e8, e9, hth, hr9, hI2⟩ := g_setCatch (imdP := mdP) (indP := ndP) (imdS := mdS) (imdB := mdB) (imdO := mdO) (imdR := mdR) (imdA := mdA) (indA := ndA) hI (xs (nI i + 1).toNatClampNeg) (xs (nI i + 2).toNatClampNeg)
        exact lc_setCatch hst hx hb hml hown hts hXs hbl hK hN hX hP hD hS hl hc16 hs96 rfl v1 rfl v2 hk e8 e9 hth hr9 (fun o' H1 locs1 ls1 hP1 hD1 hS1 hl1 => next mT mdP ndP mdS mdB mdO mdR mdA ndA mP nP mS mB' mO mR mA nA mH' hs' mM' nM' o' H1 locs1 ls1 hI2 hP1 hD1 hS1 hl1)
      · refine lv_tableIn (off := 741) (tgt := 780) hx hb dL_law_39 (by decide) (by decide) rfl (by decide) ?_
        obtain ⟨u, hu, hu2⟩ : ∃ u : Int32, ((xs (nI i + 4).toNatClampNeg) = 0 ∧ u = 0 ∨ ¬ (xs (nI i + 4).toNatClampNeg) = 0 ∧ u = 1) ∧ (u = 0 ∨ u = 1) := by
          by_cases h9 : xs (nI i + 4).toNatClampNeg = 0
          · exact ⟨0, Or.inl ⟨h9, rfl⟩, Or.inl rfl⟩
          · exact ⟨1, Or.inr ⟨h9, rfl⟩, Or.inr rfl⟩
        obtain ⟨k', r', rM, cd, mO', mH', hs', mM', nM', hk, e8, e9, hth, hr9, hI2⟩ := g_order (imdP := mdP) (indP := ndP) (imdS := mdS) (imdB := mdB) (imdO := mdO) (imdR := mdR) (imdA := mdA) (indA := ndA) hI (xs (nI i + 1).toNatClampNeg) (xs (nI i + 2).toNatClampNeg) (xs (nI i + 3).toNatClampNeg) u hu2
        exact lc_order hst hx hb hml hown hts hXs hbl hK hN hX hP hD hS hl hc16 hs96 rfl v1 rfl v2 rfl v3 hu rfl v4 hk e8 e9 hth hr9 (fun o' H1 locs1 ls1 hP1 hD1 hS1 hl1 => next mT mdP ndP mdS mdB mdO mdR mdA ndA mP nP mS mB mO' mR mA nA mH' hs' mM' nM' o' H1 locs1 ls1 hI2 hP1 hD1 hS1 hl1)
      · refine lv_tableIn (off := 849) (tgt := 888) hx hb dL_law_39 (by decide) (by decide) rfl (by decide) ?_
        obtain ⟨k', r', rM, cd, mO', mH', hs', mM', nM', hk, e8, e9, hth, hr9, hI2⟩ := g_cancel (imdP := mdP) (indP := ndP) (imdS := mdS) (imdB := mdB) (imdO := mdO) (imdR := mdR) (imdA := mdA) (indA := ndA) hI (xs (nI i + 1).toNatClampNeg)
        exact lc_cancel hst hx hb hml hown hts hXs hbl hK hN hX hP hD hS hl hc16 hs96 rfl v1 hk e8 e9 hth hr9 (fun o' H1 locs1 ls1 hP1 hD1 hS1 hl1 => next mT mdP ndP mdS mdB mdO mdR mdA ndA mP nP mS mB mO' mR mA nA mH' hs' mM' nM' o' H1 locs1 ls1 hI2 hP1 hD1 hS1 hl1)
      · refine lv_tableIn (off := 905) (tgt := 944) hx hb dL_law_39 (by decide) (by decide) rfl (by decide) ?_
        obtain ⟨k', r', rM, cd, nP', mB', mH', hs', mM', nM', hk, e8, e9, hth, hr9, hI2⟩ := g_pay (imdP := mdP) (indP := ndP) (imdS := mdS) (imdB := mdB) (imdO := mdO) (imdR := mdR) (imdA := mdA) (indA := ndA) hI (xs (nI i + 1).toNatClampNeg) (xs (nI i + 2).toNatClampNeg)
        exact lc_pay hst hx hb hml hown hts hXs hbl hK hN hX hP hD hS hl hc16 hs96 rfl v1 rfl v2 hk e8 e9 hth hr9 (fun o' H1 locs1 ls1 hP1 hD1 hS1 hl1 => next mT mdP ndP mdS mdB mdO mdR mdA ndA mP nP' mS mB' mO mR mA nA mH' hs' mM' nM' o' H1 locs1 ls1 hI2 hP1 hD1 hS1 hl1)
      · refine lv_tableIn (off := 973) (tgt := 1012) hx hb dL_law_39 (by decide) (by decide) rfl (by decide) ?_
        obtain ⟨k', r', rM, cd, mM', hk, e8, e9, hth, hr9, hI2⟩ := g_silo (imdP := mdP) (indP := ndP) (imdS := mdS) (imdB := mdB) (imdO := mdO) (imdR := mdR) (imdA := mdA) (indA := ndA) hI (xs (nI i + 1).toNatClampNeg) (xs (nI i + 2).toNatClampNeg)
        exact lc_silo hst hx hb hml hown hts hXs hbl hK hN hX hP hD hS hl hc16 hs96 rfl v1 rfl v2 hk e8 e9 hth hr9 (fun o' H1 locs1 ls1 hP1 hD1 hS1 hl1 => next mT mdP ndP mdS mdB mdO mdR mdA ndA mP nP mS mB mO mR mA nA mH hs mM' nM o' H1 locs1 ls1 hI2 hP1 hD1 hS1 hl1)
      · refine lv_tableIn (off := 1041) (tgt := 1080) hx hb dL_law_39 (by decide) (by decide) rfl (by decide) ?_
        obtain ⟨k', r', rM, cd, mM', hk, e8, e9, hth, hr9, hI2⟩ := g_block (imdP := mdP) (indP := ndP) (imdS := mdS) (imdB := mdB) (imdO := mdO) (imdR := mdR) (imdA := mdA) (indA := ndA) hI (xs (nI i + 1).toNatClampNeg) (xs (nI i + 2).toNatClampNeg) (xs (nI i + 3).toNatClampNeg)
        exact lc_block hst hx hb hml hown hts hXs hbl hK hN hX hP hD hS hl hc16 hs96 rfl v1 rfl v2 rfl v3 hk e8 e9 hth hr9 (fun o' H1 locs1 ls1 hP1 hD1 hS1 hl1 => next mT mdP ndP mdS mdB mdO mdR mdA ndA mP nP mS mB mO mR mA nA mH hs mM' nM o' H1 locs1 ls1 hI2 hP1 hD1 hS1 hl1)
      · refine lv_tableIn (off := 1121) (tgt := 1160) hx hb dL_law_39 (by decide) (by decide) rfl (by decide) ?_
        obtain ⟨k', r', rM, cd, mM', hk, e8, e9, hth, hr9, hI2⟩ := g_boat (imdP := mdP) (indP := ndP) (imdS := mdS) (imdB := mdB) (imdO := mdO) (imdR := mdR) (imdA := mdA) (indA := ndA) hI (xs (nI i + 1).toNatClampNeg) (xs (nI i + 2).toNatClampNeg)
        exact lc_boat hst hx hb hml hown hts hXs hbl hK hN hX hP hD hS hl hc16 hs96 rfl v1 rfl v2 hk e8 e9 hth hr9 (fun o' H1 locs1 ls1 hP1 hD1 hS1 hl1 => next mT mdP ndP mdS mdB mdO mdR mdA ndA mP nP mS mB mO mR mA nA mH hs mM' nM o' H1 locs1 ls1 hI2 hP1 hD1 hS1 hl1)
      · refine lv_tableIn (off := 1189) (tgt := 1228) hx hb dL_law_39 (by decide) (by decide) rfl (by decide) ?_
        obtain ⟨k', r', rM, cd, mM', hk, e8, e9, hth, hr9, hI2⟩ := g_orderProperty (imdP := mdP) (indP := ndP) (imdS := mdS) (imdB := mdB) (imdO := mdO) (imdR := mdR) (imdA := mdA) (indA := ndA) hI (xs (nI i + 1).toNatClampNeg) (xs (nI i + 2).toNatClampNeg)
        exact lc_orderProperty hst hx hb hml hown hts hXs hbl hK hN hX hP hD hS hl hc16 hs96 rfl v1 rfl v2 hk e8 e9 hth hr9 (fun o' H1 locs1 ls1 hP1 hD1 hS1 hl1 => next mT mdP ndP mdS mdB mdO mdR mdA ndA mP nP mS mB mO mR mA nA mH hs mM' nM o' H1 locs1 ls1 hI2 hP1 hD1 hS1 hl1)
      · refine lv_tableIn (off := 1257) (tgt := 1296) hx hb dL_law_39 (by decide) (by decide) rfl (by decide) ?_
        obtain ⟨k', r', rM, cd, mM', hk, e8, e9, hth, hr9, hI2⟩ := g_receipt (imdP := mdP) (indP := ndP) (imdS := mdS) (imdB := mdB) (imdO := mdO) (imdR := mdR) (imdA := mdA) (indA := ndA) hI (xs (nI i + 1).toNatClampNeg) (xs (nI i + 2).toNatClampNeg)
        exact lc_receipt hst hx hb hml hown hts hXs hbl hK hN hX hP hD hS hl hc16 hs96 rfl v1 rfl v2 hk e8 e9 hth hr9 (fun o' H1 locs1 ls1 hP1 hD1 hS1 hl1 => next mT mdP ndP mdS mdB mdO mdR mdA ndA mP nP mS mB mO mR mA nA mH hs mM' nM o' H1 locs1 ls1 hI2 hP1 hD1 hS1 hl1)
      · refine lv_tableIn (off := 1325) (tgt := 1364) hx hb dL_law_39 (by decide) (by decide) rfl (by decide) ?_
        obtain ⟨k', r', rM, cd, mM', hk, e8, e9, hth, hr9, hI2⟩ := g_account (imdP := mdP) (indP := ndP) (imdS := mdS) (imdB := mdB) (imdO := mdO) (imdR := mdR) (imdA := mdA) (indA := ndA) hI (xs (nI i + 1).toNatClampNeg) (xs (nI i + 2).toNatClampNeg)
        exact lc_account hst hx hb hml hown hts hXs hbl hK hN hX hP hD hS hl hc16 hs96 rfl v1 rfl v2 hk e8 e9 hth hr9 (fun o' H1 locs1 ls1 hP1 hD1 hS1 hl1 => next mT mdP ndP mdS mdB mdO mdR mdA ndA mP nP mS mB mO mR mA nA mH hs mM' nM o' H1 locs1 ls1 hI2 hP1 hD1 hS1 hl1)
      · refine lv_tableIn (off := 1392) (tgt := 1431) hx hb dL_law_39 (by decide) (by decide) rfl (by decide) ?_
        obtain ⟨k', r', rM, cd, mM', hk, e8, e9, hth, hr9, hI2⟩ := g_findAccount (imdP := mdP) (indP := ndP) (imdS := mdS) (imdB := mdB) (imdO := mdO) (imdR := mdR) (imdA := mdA) (indA := ndA) hI (xs (nI i + 1).toNatClampNeg) (xs (nI i + 2).toNatClampNeg)
        exact lc_findAccount hst hx hb hml hown hts hXs hbl hK hN hX hP hD hS hl hc16 hs96 rfl v1 rfl v2 hk e8 e9 hth hr9 (fun o' H1 locs1 ls1 hP1 hD1 hS1 hl1 => next mT mdP ndP mdS mdB mdO mdR mdA ndA mP nP mS mB mO mR mA nA mH hs mM' nM o' H1 locs1 ls1 hI2 hP1 hD1 hS1 hl1)
      · refine lv_tableIn (off := 1460) (tgt := 1499) hx hb dL_law_39 (by decide) (by decide) rfl (by decide) ?_
        obtain ⟨k', r', rM, cd, mM', hk, e8, e9, hth, hr9, hI2⟩ := g_setting (imdP := mdP) (indP := ndP) (imdS := mdS) (imdB := mdB) (imdO := mdO) (imdR := mdR) (imdA := mdA) (indA := ndA) hI (xs (nI i + 1).toNatClampNeg)
        exact lc_setting hst hx hb hml hown hts hXs hbl hK hN hX hP hD hS hl hc16 hs96 rfl v1 hk e8 e9 hth hr9 (fun o' H1 locs1 ls1 hP1 hD1 hS1 hl1 => next mT mdP ndP mdS mdB mdO mdR mdA ndA mP nP mS mB mO mR mA nA mH hs mM' nM o' H1 locs1 ls1 hI2 hP1 hD1 hS1 hl1)
      · refine lv_tableIn (off := 1516) (tgt := 1555) hx hb dL_law_39 (by decide) (by decide) rfl (by decide) ?_
        obtain ⟨k', r', rM, cd, mM', hk, e8, e9, hth, hr9, hI2⟩ := g_total (imdP := mdP) (indP := ndP) (imdS := mdS) (imdB := mdB) (imdO := mdO) (imdR := mdR) (imdA := mdA) (indA := ndA) hI (xs (nI i + 1).toNatClampNeg)
        exact lc_total hst hx hb hml hown hts hXs hbl hK hN hX hP hD hS hl hc16 hs96 rfl v1 hk e8 e9 hth hr9 (fun o' H1 locs1 ls1 hP1 hD1 hS1 hl1 => next mT mdP ndP mdS mdB mdO mdR mdA ndA mP nP mS mB mO mR mA nA mH hs mM' nM o' H1 locs1 ls1 hI2 hP1 hD1 hS1 hl1)
      · refine lv_tableIn (off := 1571) (tgt := 1610) hx hb dL_law_39 (by decide) (by decide) rfl (by decide) ?_
        obtain ⟨r', rM, mM', e8, e9, hth, hr9, hnan, hI2⟩ := g_meanAge (imdP := mdP) (indP := ndP) (imdS := mdS) (imdB := mdB) (imdO := mdO) (imdR := mdR) (imdA := mdA) (indA := ndA) hI
        exact lc_meanAge hst hx hb hml hown hts hXs hbl hK hN hX hP hD hS hl hc16 hs96 e8 e9 hr9 hnan (fun H1 locs1 ls1 hP1 hD1 hS1 hl1 => next mT mdP ndP mdS mdB mdO mdR mdA ndA mP nP mS mB mO mR mA nA mH hs mM' nM o H1 locs1 ls1 hI2 hP1 hD1 hS1 hl1)
      · refine lv_tableIn (off := 1612) (tgt := 1651) hx hb dL_law_39 (by decide) (by decide) rfl (by decide) ?_
        obtain ⟨k', r', rM, cd, mdP', ndP', mdS', mdB', mdO', mdR', mdA', ndA', mM', nM', hk, e8, e9, hth, hr9, hI2⟩ := g_massAfter (imdP := mdP) (indP := ndP) (imdS := mdS) (imdB := mdB) (imdO := mdO) (imdR := mdR) (imdA := mdA) (indA := ndA) hI (xs (nI i + 1).toNatClampNeg)
        exact lc_massAfter hst hx hb hml hown hts hXs hbl hK hN hX hP hD hS hl hc16 hs96 rfl v1 hk e8 e9 hth hr9 (fun o' H1 locs1 ls1 hP1 hD1 hS1 hl1 => next mT mdP' ndP' mdS' mdB' mdO' mdR' mdA' ndA' mP nP mS mB mO mR mA nA mH hs mM' nM' o' H1 locs1 ls1 hI2 hP1 hD1 hS1 hl1)
      · refine lv_tableIn (off := 1668) (tgt := 1707) hx hb dL_law_39 (by decide) (by decide) rfl (by decide) ?_
        obtain ⟨k', r', rM, cd, mdP', ndP', mdS', mdB', mdO', mdR', mdA', ndA', mM', nM', hk, e8, e9, hth, hr9, hI2⟩ := g_completeIn (imdP := mdP) (indP := ndP) (imdS := mdS) (imdB := mdB) (imdO := mdO) (imdR := mdR) (imdA := mdA) (indA := ndA) hI (xs (nI i + 1).toNatClampNeg)
        exact lc_completeIn hst hx hb hml hown hts hXs hbl hK hN hX hP hD hS hl hc16 hs96 rfl v1 hk e8 e9 hth hr9 (fun o' H1 locs1 ls1 hP1 hD1 hS1 hl1 => next mT mdP' ndP' mdS' mdB' mdO' mdR' mdA' ndA' mP nP mS mB mO mR mA nA mH hs mM' nM' o' H1 locs1 ls1 hI2 hP1 hD1 hS1 hl1)
      · refine lv_tableIn (off := 1724) (tgt := 1763) hx hb dL_law_39 (by decide) (by decide) rfl (by decide) ?_
        obtain ⟨k', r', rM, cd, mdP', ndP', mdS', mdB', mdO', mdR', mdA', ndA', mM', nM', hk, e8, e9, hth, hr9, hI2⟩ := g_bestRule (imdP := mdP) (indP := ndP) (imdS := mdS) (imdB := mdB) (imdO := mdO) (imdR := mdR) (imdA := mdA) (indA := ndA) hI (xs (nI i + 1).toNatClampNeg) (xs (nI i + 2).toNatClampNeg)
        exact lc_bestRule hst hx hb hml hown hts hXs hbl hK hN hX hP hD hS hl hc16 hs96 rfl v1 rfl v2 hk e8 e9 hth hr9 (fun o' H1 locs1 ls1 hP1 hD1 hS1 hl1 => next mT mdP' ndP' mdS' mdB' mdO' mdR' mdA' ndA' mP nP mS mB mO mR mA nA mH hs mM' nM' o' H1 locs1 ls1 hI2 hP1 hD1 hS1 hl1)
      · refine lv_tableIn (off := 1792) (tgt := 1831) hx hb dL_law_39 (by decide) (by decide) rfl (by decide) ?_
        obtain ⟨k', r', rM, cd, mM', hk, e8, e9, hth, hr9, hI2⟩ := g_quote (imdP := mdP) (indP := ndP) (imdS := mdS) (imdB := mdB) (imdO := mdO) (imdR := mdR) (imdA := mdA) (indA := ndA) hI (xs (nI i + 1).toNatClampNeg) (xs (nI i + 2).toNatClampNeg) (xs (nI i + 3).toNatClampNeg)
        exact lc_quote hst hx hb hml hown hts hXs hbl hK hN hX hP hD hS hl hc16 hs96 rfl v1 rfl v2 rfl v3 hk e8 e9 hth hr9 (fun o' H1 locs1 ls1 hP1 hD1 hS1 hl1 => next mT mdP ndP mdS mdB mdO mdR mdA ndA mP nP mS mB mO mR mA nA mH hs mM' nM o' H1 locs1 ls1 hI2 hP1 hD1 hS1 hl1)
      · refine lv_tableIn (off := 1872) (tgt := 1911) hx hb dL_law_39 (by decide) (by decide) rfl (by decide) ?_
        obtain ⟨k', r', rM, cd, mT', mM', hk, e8, e9, hth, hr9, hI2⟩ := g_append (imdP := mdP) (indP := ndP) (imdS := mdS) (imdB := mdB) (imdO := mdO) (imdR := mdR) (imdA := mdA) (indA := ndA) hI (xs (nI i + 1).toNatClampNeg)
        exact lc_append hst hx hb hml hown hts hXs hbl hK hN hX hP hD hS hl hc16 hs96 rfl v1 hk e8 e9 hth hr9 (fun o' H1 locs1 ls1 hP1 hD1 hS1 hl1 => next mT' mdP ndP mdS mdB mdO mdR mdA ndA mP nP mS mB mO mR mA nA mH hs mM' nM o' H1 locs1 ls1 hI2 hP1 hD1 hS1 hl1)
      · refine lv_tableIn (off := 1928) (tgt := 1967) hx hb dL_law_39 (by decide) (by decide) rfl (by decide) ?_
        obtain ⟨r', rM, mT', mM', e8, e9, hth, hr9, hI2⟩ := g_clear (imdP := mdP) (indP := ndP) (imdS := mdS) (imdB := mdB) (imdO := mdO) (imdR := mdR) (imdA := mdA) (indA := ndA) hI
        exact lc_clear hst hx hb hml hown hts hXs hbl hK hN hX hP hD hS hl hc16 hs96 e8 e9 hr9 (fun H1 locs1 ls1 hP1 hD1 hS1 hl1 => next mT' mdP ndP mdS mdB mdO mdR mdA ndA mP nP mS mB mO mR mA nA mH hs mM' nM o H1 locs1 ls1 hI2 hP1 hD1 hS1 hl1)
      · refine lv_tableIn (off := 1941) (tgt := 1980) hx hb dL_law_39 (by decide) (by decide) rfl (by decide) ?_
        obtain ⟨r', rM, mT', mM', e8, e9, hth, hr9, hI2⟩ := g_errorPosition (imdP := mdP) (indP := ndP) (imdS := mdS) (imdB := mdB) (imdO := mdO) (imdR := mdR) (imdA := mdA) (indA := ndA) hI
        exact lc_errorPosition hst hx hb hml hown hts hXs hbl hK hN hX hP hD hS hl hc16 hs96 e8 e9 hr9 (fun H1 locs1 ls1 hP1 hD1 hS1 hl1 => next mT' mdP ndP mdS mdB mdO mdR mdA ndA mP nP mS mB mO mR mA nA mH hs mM' nM o H1 locs1 ls1 hI2 hP1 hD1 hS1 hl1)
      · refine lv_tableIn (off := 1954) (tgt := 1993) hx hb dL_law_39 (by decide) (by decide) rfl (by decide) ?_
        obtain ⟨r', rM, mT', mM', e8, e9, hth, hr9, hI2⟩ := g_errorKind (imdP := mdP) (indP := ndP) (imdS := mdS) (imdB := mdB) (imdO := mdO) (imdR := mdR) (imdA := mdA) (indA := ndA) hI
        exact lc_errorKind hst hx hb hml hown hts hXs hbl hK hN hX hP hD hS hl hc16 hs96 e8 e9 hr9 (fun H1 locs1 ls1 hP1 hD1 hS1 hl1 => next mT' mdP ndP mdS mdB mdO mdR mdA ndA mP nP mS mB mO mR mA nA mH hs mM' nM o H1 locs1 ls1 hI2 hP1 hD1 hS1 hl1)
      · refine lv_tableIn (off := 1967) (tgt := 2006) hx hb dL_law_39 (by decide) (by decide) rfl (by decide) ?_
        obtain ⟨k', r', rM, cd, mT', mP', nP', mS', mB', mO', mR', mA', nA', mH', hs', mM', nM', hk, e8, e9, hth, hr9, hI2⟩ := g_execute (imdP := mdP) (indP := ndP) (imdS := mdS) (imdB := mdB) (imdO := mdO) (imdR := mdR) (imdA := mdA) (indA := ndA) hI 
        exact lc_execute hst hx hb hml hown hts hXs hbl hK hN hX hP hD hS hl hc16 hs96  hk e8 e9 hth hr9 (fun o' H1 locs1 ls1 hP1 hD1 hS1 hl1 => next mT' mdP ndP mdS mdB mdO mdR mdA ndA mP' nP' mS' mB' mO' mR' mA' nA' mH' hs' mM' nM' o' H1 locs1 ls1 hI2 hP1 hD1 hS1 hl1)
      · refine lv_tableIn (off := 2011) (tgt := 2050) hx hb dL_law_39 (by decide) (by decide) rfl (by decide) ?_
        obtain ⟨k', r', rM, cd, mP', nP', mS', mB', mO', mR', mA', nA', mH', mM', nM', hk, e8, e9, hth, hr9, hI2⟩ := g_undo (imdP := mdP) (indP := ndP) (imdS := mdS) (imdB := mdB) (imdO := mdO) (imdR := mdR) (imdA := mdA) (indA := ndA) hI 
        exact lc_undo hst hx hb hml hown hts hXs hbl hK hN hX hP hD hS hl hc16 hs96  hk e8 e9 hth hr9 (fun o' H1 locs1 ls1 hP1 hD1 hS1 hl1 => next mT mdP ndP mdS mdB mdO mdR mdA ndA mP' nP' mS' mB' mO' mR' mA' nA' mH' hs mM' nM' o' H1 locs1 ls1 hI2 hP1 hD1 hS1 hl1)
