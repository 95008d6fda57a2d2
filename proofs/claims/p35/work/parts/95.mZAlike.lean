/-! two plants are alike -/
theorem asmR (a b : va_W) : a ++ b = a ++ (b ++ []) := by rw [List.append_nil]
theorem nI_mul (a b : Nat) : nI a * nI b = nI (a * b) := (Int32.ofNat_mul a b).symm
abbrev Q1 (A : Nat → Prop) := va_Qi (fun (x : Int32) (_ : Unit) => x = 1) (fun _ _ => True) A
abbrev rm_L_areAlike : Room := { frames := 10, cells := 30, slots := 180, locals := 188 }
set_option maxHeartbeats 40000000 in
set_option maxRecDepth 100000 in
theorem al_two {p : Program} {l : Launch} (hst : l.stackTraces = false) {e : Env} {s : State} {m : MethodId} {args : Array Value} {below : List Frame} {meth : Method} {c : Code} {A : Nat → Prop} {D : va_G} {cy : Nat → Nat} {aI aT adP adS adB adO adR adA aP aS aB aO aR aA aH : Nat → Nat} {ah : Nat → Nat → Nat → Nat} {bI bT bdP bdS bdB bdO bdR bdA bP bS bB bO bR bA bH : Nat → Nat} {bh : Nat → Nat → Nat → Nat} (hx : p.tables.exec = Jvm.exec) (hb : c.code = cL_areAlike) (hr : meth.sig.returnType = some .boolean) (hml : c.maxLocals = 4) (hlocks : meth.locks = false) (hown : s.vm.findClass RL = some m.cls) (hts : ∀ w ∈ wsL_areAlike, w.before args s = true) (hA : ∀ q, s.heap.size ≤ q → A q) (hK : va_K D vwCl (tyl cy) s) (hN : cG cy A s s.heap) (hX : cX s) {mP : Mem} {nP : MemL} {mS : Mem} {mB : Mem} {mO : Mem} {mR : Mem} {mA : Mem} {nA : MemL} {mH : Mem} {hs : (Nat → PSt)} (hI : LQ mP nP mS mB mO mR mA nA mH hs) : ∀ (n k : Nat) (mT : Mem) (mdP : Mem) (ndP : MemL) (mdS : Mem) (mdB : Mem) (mdO : Mem) (mdR : Mem) (mdA : Mem) (ndA : MemL) (jmT : Mem) (jmdP : Mem) (jndP : MemL) (jmdS : Mem) (jmdB : Mem) (jmdO : Mem) (jmdR : Mem) (jmdA : Mem) (jndA : MemL) (H : Heap) (locs : List Loc) (ls : Array Slot), k + n = 5 → va_P D vwCl ((W_All cy aI aT adP adS adB adO adR adA aP aS aB aO aR aA aH ah mT mdP ndP mdS mdB mdO mdR mdA ndA mP nP mS mB mO mR mA nA mH hs) ++ (W_All cy bI bT bdP bdS bdB bdO bdR bdA bP bS bB bO bR bA bH bh jmT jmdP jndP jmdS jmdB jmdO jmdR jmdA jndA mP nP mS mB mO mR mA nA mH hs)) H → va_D A ((W_All cy aI aT adP adS adB adO adR adA aP aS aB aO aR aA aH ah mT mdP ndP mdS mdB mdO mdR mdA ndA mP nP mS mB mO mR mA nA mH hs) ++ (W_All cy bI bT bdP bdS bdB bdO bdR bdA bP bS bB bO bR bA bH bh jmT jmdP jndP jmdS jmdB jmdO jmdR jmdA jndA mP nP mS mB mO mR mA nA mH hs)) → va_S A s.heap H locs → lv_has ls 4 [(3, .int (nI k)), (2, .int 1), (0, .ref (aI 0)), (1, .ref (bI 0))] → W p l e rm_L_areAlike s m args below meth c H locs (6 * k) (36 * k) (MQ below (Q1 A) args s 30 180 A) (F0 m 58 ls []) := by
  have hC : CallFix p m c cL_areAlike 4 s args wsL_areAlike RL := ⟨hx, hb, hml, hown, hts⟩
  intro n
  induction n with
  | zero =>
    intro k mT mdP ndP mdS mdB mdO mdR mdA ndA jmT jmdP jndP jmdS jmdB jmdO jmdR jmdA jndA H locs ls hk hP hD hS hl
    obtain rfl : k = 5 := by omega
    refine lv_iload_n hx hb dL_areAlike_58 rfl (lv_at hl 0 rfl) ?_
    refine lv_iconst (v := 5) hx hb dL_areAlike_59 (by decide) ?_
    refine lv_icmp_ge (tgt := 111) hx hb dL_areAlike_60 (by decide) (fun _ => ?_) (fun q => absurd (show (5 : Int32) ≤ nI 5 by decide) q)
    refine lv_iload_n hx hb dL_areAlike_111 rfl (lv_at hl 1 rfl) ?_
    exact W.zret hx hb hr (by decide) (fun t ht hW => ⟨⟨1, (), rfl, rfl, trivial⟩, hS.F ht⟩) hS.2.2 dL_areAlike_112
  | succ n ih =>
    intro k mT mdP ndP mdS mdB mdO mdR mdA ndA jmT jmdP jndP jmdS jmdB jmdO jmdR jmdA jndA H locs ls hk hP hD hS hl
    have hk5 : k < 5 := by omega
    refine lv_iload_n hx hb dL_areAlike_58 rfl (lv_at hl 0 rfl) ?_
    refine lv_iconst (v := 5) hx hb dL_areAlike_59 (by decide) ?_
    refine lv_icmp_ge (tgt := 111) hx hb dL_areAlike_60 (by decide) (fun q => absurd q (nI_ge (b := 5) hk5 (by decide))) (fun _ => ?_)
    refine lv_iload_n hx hb dL_areAlike_63 rfl (lv_at hl 1 rfl) ?_
    refine lv_if_eq (tgt := 103) hx hb dL_areAlike_64 (by decide) (fun q => absurd q (by decide)) (fun _ => ?_)
    obtain ⟨r1, e1⟩ := a_receiptV (imT := mT) (imdP := mdP) (indP := ndP) (imdS := mdS) (imdB := mdB) (imdO := mdO) (imdR := mdR) (imdA := mdA) (indA := ndA) hI (0 : Int32) (nI k)
    have e2 : f_L_receipt (0 : Int32) (nI k) jmT jmdP jndP jmdS jmdB jmdO jmdR jmdA jndA mP nP mS mB mO mR mA nA mH hs = some r1 := (i_receipt _ _).trans e1
    obtain ⟨r2, ⟨⟨r3, mdP', ndP', mdS', mdB', mdO', mdR', mdA', ndA'⟩, e3, q3⟩, ⟨⟨r4, jmdP', jndP', jmdS', jmdB', jmdO', jmdR', jmdA', jndA'⟩, e4, q4⟩⟩ := w_massAfter (imT := mT) (imdP := mdP) (indP := ndP) (imdS := mdS) (imdB := mdB) (imdO := mdO) (imdR := mdR) (imdA := mdA) (indA := ndA) (jmT := jmT) (jmdP := jmdP) (jndP := jndP) (jmdS := jmdS) (jmdB := jmdB) (jmdO := jmdO) (jmdR := jmdR) (jmdA := jmdA) (jndA := jndA) hI ((3 : Int32) * nI k)
    dsimp only at q3 q4
    rw [q3] at e3
    rw [q4] at e4
    refine lv_aload_n hx hb dL_areAlike_67 rfl (lv_at hl 2 rfl) ?_
    refine lv_iconst (v := 0) hx hb dL_areAlike_68 (by decide) ?_
    refine lv_iload_n hx hb dL_areAlike_69 rfl (lv_at hl 0 rfl) ?_
    refine ki (X := []) (Y := (W_All cy bI bT bdP bdS bdB bdO bdR bdA bP bS bB bO bR bA bH bh jmT jmdP jndP jmdS jmdB jmdO jmdR jmdA jndA mP nP mS mB mO mR mA nA mH hs)) (ws1 := (W_All cy aI aT adP adS adB adO adR adA aP aS aB aO aR aA aH ah mT mdP ndP mdS mdB mdO mdR mdA ndA mP nP mS mB mO mR mA nA mH hs) ++ (W_All cy bI bT bdP bdS bdB bdO bdR bdA bP bS bB bO bR bA bH bh jmT jmdP jndP jmdS jmdB jmdO jmdR jmdA jndA mP nP mS mB mO mR mA nA mH hs)) (rH (X := []) (Y := (W_All cy bI bT bdP bdS bdB bdO bdR bdA bP bS bB bO bR bA bH bh jmT jmdP jndP jmdS jmdB jmdO jmdR jmdA jndA mP nP mS mB mO mR mA nA mH hs)) (As := [.ref (aI 0), .int (0 : Int32), .int (nI k)]) (rest := []) hC (c_L_receipt l hst D cy aI aT adP adS adB adO adR adA aP aS aB aO aR aA aH ah (0 : Int32) (nI k) mT mdP ndP mdS mdB mdO mdR mdA ndA mP nP mS mB mO mR mA nA mH hs r1 e1) (vx_cwSW (hh := [(0, 6, 7, 25), (0, 6, 11, 15)]) 3 hts gL_areAlike_L_receipt rfl rfl rfl (by decide +kernel) ⟨Nat.le_of_ble_eq_true rfl, Nat.le_of_ble_eq_true rfl⟩) hK hN hX hP hD hS hA rfl rfl hl.1 rfl (lv_room (Nat.le_of_ble_eq_true rfl)) dL_areAlike_70 ⟨by show _ ≤ 30; omega, by show _ ≤ 180; omega⟩) hP hD hS hA rfl rfl rfl (fun H locs hP hD hS => ?_)
    refine lv_aload_n hx hb dL_areAlike_73 rfl (lv_at hl 3 rfl) ?_
    refine lv_iconst (v := 0) hx hb dL_areAlike_74 (by decide) ?_
    refine lv_iload_n hx hb dL_areAlike_75 rfl (lv_at hl 0 rfl) ?_
    refine ki (X := (W_All cy aI aT adP adS adB adO adR adA aP aS aB aO aR aA aH ah mT mdP ndP mdS mdB mdO mdR mdA ndA mP nP mS mB mO mR mA nA mH hs)) (Y := []) (ws1 := (W_All cy aI aT adP adS adB adO adR adA aP aS aB aO aR aA aH ah mT mdP ndP mdS mdB mdO mdR mdA ndA mP nP mS mB mO mR mA nA mH hs) ++ (W_All cy bI bT bdP bdS bdB bdO bdR bdA bP bS bB bO bR bA bH bh jmT jmdP jndP jmdS jmdB jmdO jmdR jmdA jndA mP nP mS mB mO mR mA nA mH hs)) (rH (X := (W_All cy aI aT adP adS adB adO adR adA aP aS aB aO aR aA aH ah mT mdP ndP mdS mdB mdO mdR mdA ndA mP nP mS mB mO mR mA nA mH hs)) (Y := []) (As := [.ref (bI 0), .int (0 : Int32), .int (nI k)]) (rest := [.int r1]) hC (c_L_receipt l hst D cy bI bT bdP bdS bdB bdO bdR bdA bP bS bB bO bR bA bH bh (0 : Int32) (nI k) jmT jmdP jndP jmdS jmdB jmdO jmdR jmdA jndA mP nP mS mB mO mR mA nA mH hs r1 e2) (vx_cwSW (hh := [(0, 6, 7, 25), (0, 6, 11, 15)]) 3 hts gL_areAlike_L_receipt rfl rfl rfl (by decide +kernel) ⟨Nat.le_of_ble_eq_true rfl, Nat.le_of_ble_eq_true rfl⟩) hK hN hX hP hD hS hA (asmR _ _) rfl hl.1 rfl (lv_room (Nat.le_of_ble_eq_true rfl)) dL_areAlike_76 ⟨by show _ ≤ 30; omega, by show _ ≤ 180; omega⟩) hP hD hS hA (asmR _ _) rfl (asmR _ _).symm (fun H locs hP hD hS => ?_)
    refine lv_icmp_ne (tgt := 103) hx hb dL_areAlike_79 (by decide) (fun q => absurd rfl q) (fun _ => ?_)
    refine lv_aload_n hx hb dL_areAlike_82 rfl (lv_at hl 2 rfl) ?_
    refine lv_iconst (v := 3) hx hb dL_areAlike_83 (by decide) ?_
    refine lv_iload_n hx hb dL_areAlike_84 rfl (lv_at hl 0 rfl) ?_
    refine lv_imul hx hb dL_areAlike_85 ?_
    refine ki (X := []) (Y := (W_All cy bI bT bdP bdS bdB bdO bdR bdA bP bS bB bO bR bA bH bh jmT jmdP jndP jmdS jmdB jmdO jmdR jmdA jndA mP nP mS mB mO mR mA nA mH hs)) (ws1 := (W_All cy aI aT adP adS adB adO adR adA aP aS aB aO aR aA aH ah mT mdP' ndP' mdS' mdB' mdO' mdR' mdA' ndA' mP nP mS mB mO mR mA nA mH hs) ++ (W_All cy bI bT bdP bdS bdB bdO bdR bdA bP bS bB bO bR bA bH bh jmT jmdP jndP jmdS jmdB jmdO jmdR jmdA jndA mP nP mS mB mO mR mA nA mH hs)) (rH (X := []) (Y := (W_All cy bI bT bdP bdS bdB bdO bdR bdA bP bS bB bO bR bA bH bh jmT jmdP jndP jmdS jmdB jmdO jmdR jmdA jndA mP nP mS mB mO mR mA nA mH hs)) (As := [.ref (aI 0), .int ((3 : Int32) * nI k)]) (rest := []) hC (c_L_massAfter l hst D cy aI aT adP adS adB adO adR adA aP aS aB aO aR aA aH ah ((3 : Int32) * nI k) mT mdP ndP mdS mdB mdO mdR mdA ndA mP nP mS mB mO mR mA nA mH hs r2 mdP' ndP' mdS' mdB' mdO' mdR' mdA' ndA' e3) (vx_cwSW (hh := [(0, 5, 6, 15)]) 2 hts gL_areAlike_L_massAfter rfl rfl rfl (by decide +kernel) ⟨Nat.le_of_ble_eq_true rfl, Nat.le_of_ble_eq_true rfl⟩) hK hN hX hP hD hS hA rfl rfl hl.1 rfl (lv_room (Nat.le_of_ble_eq_true rfl)) dL_areAlike_86 ⟨by show _ ≤ 30; omega, by show _ ≤ 180; omega⟩) hP hD hS hA rfl (fst_All cy aI aT adP adS adB adO adR adA aP aS aB aO aR aA aH ah mT mdP ndP mdS mdB mdO mdR mdA ndA mP nP mS mB mO mR mA nA mH hs mT mdP' ndP' mdS' mdB' mdO' mdR' mdA' ndA' mP nP mS mB mO mR mA nA mH hs) rfl (fun H locs hP hD hS => ?_)
    refine lv_aload_n hx hb dL_areAlike_89 rfl (lv_at hl 3 rfl) ?_
    refine lv_iconst (v := 3) hx hb dL_areAlike_90 (by decide) ?_
    refine lv_iload_n hx hb dL_areAlike_91 rfl (lv_at hl 0 rfl) ?_
    refine lv_imul hx hb dL_areAlike_92 ?_
    refine ki (X := (W_All cy aI aT adP adS adB adO adR adA aP aS aB aO aR aA aH ah mT mdP' ndP' mdS' mdB' mdO' mdR' mdA' ndA' mP nP mS mB mO mR mA nA mH hs)) (Y := []) (ws1 := (W_All cy aI aT adP adS adB adO adR adA aP aS aB aO aR aA aH ah mT mdP' ndP' mdS' mdB' mdO' mdR' mdA' ndA' mP nP mS mB mO mR mA nA mH hs) ++ (W_All cy bI bT bdP bdS bdB bdO bdR bdA bP bS bB bO bR bA bH bh jmT jmdP' jndP' jmdS' jmdB' jmdO' jmdR' jmdA' jndA' mP nP mS mB mO mR mA nA mH hs)) (rH (X := (W_All cy aI aT adP adS adB adO adR adA aP aS aB aO aR aA aH ah mT mdP' ndP' mdS' mdB' mdO' mdR' mdA' ndA' mP nP mS mB mO mR mA nA mH hs)) (Y := []) (As := [.ref (bI 0), .int ((3 : Int32) * nI k)]) (rest := [.int r2]) hC (c_L_massAfter l hst D cy bI bT bdP bdS bdB bdO bdR bdA bP bS bB bO bR bA bH bh ((3 : Int32) * nI k) jmT jmdP jndP jmdS jmdB jmdO jmdR jmdA jndA mP nP mS mB mO mR mA nA mH hs r2 jmdP' jndP' jmdS' jmdB' jmdO' jmdR' jmdA' jndA' e4) (vx_cwSW (hh := [(0, 5, 6, 15)]) 2 hts gL_areAlike_L_massAfter rfl rfl rfl (by decide +kernel) ⟨Nat.le_of_ble_eq_true rfl, Nat.le_of_ble_eq_true rfl⟩) hK hN hX hP hD hS hA (asmR _ _) rfl hl.1 rfl (lv_room (Nat.le_of_ble_eq_true rfl)) dL_areAlike_93 ⟨by show _ ≤ 30; omega, by show _ ≤ 180; omega⟩) hP hD hS hA (asmR _ _) (fst_All cy bI bT bdP bdS bdB bdO bdR bdA bP bS bB bO bR bA bH bh jmT jmdP jndP jmdS jmdB jmdO jmdR jmdA jndA mP nP mS mB mO mR mA nA mH hs jmT jmdP' jndP' jmdS' jmdB' jmdO' jmdR' jmdA' jndA' mP nP mS mB mO mR mA nA mH hs) (asmR _ _).symm (fun H locs hP hD hS => ?_)
    refine lv_icmp_ne (tgt := 103) hx hb dL_areAlike_96 (by decide) (fun q => absurd rfl q) (fun _ => ?_)
    refine lv_iconst (v := 1) hx hb dL_areAlike_99 (by decide) ?_
    refine lv_goto (tgt := 104) hx hb dL_areAlike_100 (by decide) ?_
    refine lv_istore_n (lv' := [(2, .int 1), (3, .int (nI k)), (0, .ref (aI 0)), (1, .ref (bI 0))]) hx hb dL_areAlike_104 rfl hl (by decide) rfl (fun ls hl => ?_)
    refine lv_iinc (v := nI (k + 1)) (lv' := [(3, .int (nI (k + 1))), (2, .int 1), (0, .ref (aI 0)), (1, .ref (bI 0))]) hx hb dL_areAlike_105 hl (k := 1) rfl (nI_1 k) (by decide) rfl (fun ls hl => ?_)
    refine lv_goto (tgt := 58) hx hb dL_areAlike_108 (by decide) ?_
    refine W.widen (k := 6 * (k + 1)) (n := 36 * (k + 1)) (by omega) (by omega) ?_
    exact ih (k + 1) mT mdP' ndP' mdS' mdB' mdO' mdR' mdA' ndA' jmT jmdP' jndP' jmdS' jmdB' jmdO' jmdR' jmdA' jndA' _ _ _ (by omega) hP hD hS hl
set_option maxHeartbeats 40000000 in
set_option maxRecDepth 100000 in
theorem al_one {p : Program} {l : Launch} (hst : l.stackTraces = false) {e : Env} {s : State} {m : MethodId} {args : Array Value} {below : List Frame} {meth : Method} {c : Code} {A : Nat → Prop} {D : va_G} {cy : Nat → Nat} {aI aT adP adS adB adO adR adA aP aS aB aO aR aA aH : Nat → Nat} {ah : Nat → Nat → Nat → Nat} {bI bT bdP bdS bdB bdO bdR bdA bP bS bB bO bR bA bH : Nat → Nat} {bh : Nat → Nat → Nat → Nat} (hx : p.tables.exec = Jvm.exec) (hb : c.code = cL_areAlike) (hr : meth.sig.returnType = some .boolean) (hml : c.maxLocals = 4) (hlocks : meth.locks = false) (hown : s.vm.findClass RL = some m.cls) (hts : ∀ w ∈ wsL_areAlike, w.before args s = true) (hA : ∀ q, s.heap.size ≤ q → A q) (hK : va_K D vwCl (tyl cy) s) (hN : cG cy A s s.heap) (hX : cX s) {mP : Mem} {nP : MemL} {mS : Mem} {mB : Mem} {mO : Mem} {mR : Mem} {mA : Mem} {nA : MemL} {mH : Mem} {hs : (Nat → PSt)} (hI : LQ mP nP mS mB mO mR mA nA mH hs) {mT : Mem} {mdP : Mem} {ndP : MemL} {mdS : Mem} {mdB : Mem} {mdO : Mem} {mdR : Mem} {mdA : Mem} {ndA : MemL} {jmT : Mem} {jmdP : Mem} {jndP : MemL} {jmdS : Mem} {jmdB : Mem} {jmdO : Mem} {jmdR : Mem} {jmdA : Mem} {jndA : MemL} : ∀ (n k : Nat) (H : Heap) (locs : List Loc) (ls : Array Slot), k + n = 16 → va_P D vwCl ((W_All cy aI aT adP adS adB adO adR adA aP aS aB aO aR aA aH ah mT mdP ndP mdS mdB mdO mdR mdA ndA mP nP mS mB mO mR mA nA mH hs) ++ (W_All cy bI bT bdP bdS bdB bdO bdR bdA bP bS bB bO bR bA bH bh jmT jmdP jndP jmdS jmdB jmdO jmdR jmdA jndA mP nP mS mB mO mR mA nA mH hs)) H → va_D A ((W_All cy aI aT adP adS adB adO adR adA aP aS aB aO aR aA aH ah mT mdP ndP mdS mdB mdO mdR mdA ndA mP nP mS mB mO mR mA nA mH hs) ++ (W_All cy bI bT bdP bdS bdB bdO bdR bdA bP bS bB bO bR bA bH bh jmT jmdP jndP jmdS jmdB jmdO jmdR jmdA jndA mP nP mS mB mO mR mA nA mH hs)) → va_S A s.heap H locs → lv_has ls 4 [(3, .int (nI k)), (2, .int 1), (0, .ref (aI 0)), (1, .ref (bI 0))] → W p l e rm_L_areAlike s m args below meth c H locs 0 0 (MQ below (Q1 A) args s 30 180 A) (F0 m 20 ls []) := by
  have hC : CallFix p m c cL_areAlike 4 s args wsL_areAlike RL := ⟨hx, hb, hml, hown, hts⟩
  intro n
  induction n with
  | zero =>
    intro k H locs ls hk hP hD hS hl
    obtain rfl : k = 16 := by omega
    refine lv_iload_n hx hb dL_areAlike_20 rfl (lv_at hl 0 rfl) ?_
    refine lv_bipush (v := 16) hx hb dL_areAlike_21 (by decide) ?_
    refine lv_icmp_ge (tgt := 56) hx hb dL_areAlike_23 (by decide) (fun _ => ?_) (fun q => absurd (show (16 : Int32) ≤ nI 16 by decide) q)
    refine lv_iconst (v := 0) hx hb dL_areAlike_56 (by decide) ?_
    refine lv_istore_n (lv' := [(3, .int (nI 0)), (2, .int 1), (0, .ref (aI 0)), (1, .ref (bI 0))]) hx hb dL_areAlike_57 rfl hl (by decide) rfl (fun ls hl => ?_)
    exact al_two hst hx hb hr hml hlocks hown hts hA hK hN hX hI 5 0 mT mdP ndP mdS mdB mdO mdR mdA ndA jmT jmdP jndP jmdS jmdB jmdO jmdR jmdA jndA _ _ _ rfl hP hD hS hl
  | succ n ih =>
    intro k H locs ls hk hP hD hS hl
    have hk16 : k < 16 := by omega
    refine lv_iload_n hx hb dL_areAlike_20 rfl (lv_at hl 0 rfl) ?_
    refine lv_bipush (v := 16) hx hb dL_areAlike_21 (by decide) ?_
    refine lv_icmp_ge (tgt := 56) hx hb dL_areAlike_23 (by decide) (fun q => absurd q (nI_ge (b := 16) hk16 (by decide))) (fun _ => ?_)
    refine lv_iload_n hx hb dL_areAlike_26 rfl (lv_at hl 1 rfl) ?_
    refine lv_if_eq (tgt := 48) hx hb dL_areAlike_27 (by decide) (fun q => absurd q (by decide)) (fun _ => ?_)
    have ek : nI k = zI (k : Int) := z_ofNat k
    obtain ⟨r1, e1⟩ := a_totalV (imT := mT) (imdP := mdP) (indP := ndP) (imdS := mdS) (imdB := mdB) (imdO := mdO) (imdR := mdR) (imdA := mdA) (indA := ndA) hI (a := (k : Int)) (by omega) (by omega)
    rw [← ek] at e1
    have e2 : f_L_total_N (nI k) jmT jmdP jndP jmdS jmdB jmdO jmdR jmdA jndA mP nP mS mB mO mR mA nA mH hs = some r1 := (i_total _).trans e1
    refine lv_aload_n hx hb dL_areAlike_30 rfl (lv_at hl 2 rfl) ?_
    refine lv_iload_n hx hb dL_areAlike_31 rfl (lv_at hl 0 rfl) ?_
    refine kl (X := []) (Y := (W_All cy bI bT bdP bdS bdB bdO bdR bdA bP bS bB bO bR bA bH bh jmT jmdP jndP jmdS jmdB jmdO jmdR jmdA jndA mP nP mS mB mO mR mA nA mH hs)) (ws1 := (W_All cy aI aT adP adS adB adO adR adA aP aS aB aO aR aA aH ah mT mdP ndP mdS mdB mdO mdR mdA ndA mP nP mS mB mO mR mA nA mH hs) ++ (W_All cy bI bT bdP bdS bdB bdO bdR bdA bP bS bB bO bR bA bH bh jmT jmdP jndP jmdS jmdB jmdO jmdR jmdA jndA mP nP mS mB mO mR mA nA mH hs)) (rH (X := []) (Y := (W_All cy bI bT bdP bdS bdB bdO bdR bdA bP bS bB bO bR bA bH bh jmT jmdP jndP jmdS jmdB jmdO jmdR jmdA jndA mP nP mS mB mO mR mA nA mH hs)) (As := [.ref (aI 0), .int (nI k)]) (rest := []) hC (c_L_total_N l D cy aI aT adP adS adB adO adR adA aP aS aB aO aR aA aH ah (nI k) mT mdP ndP mdS mdB mdO mdR mdA ndA mP nP mS mB mO mR mA nA mH hs r1 e1) (vx_cwSW (hh := [(0, 5, 6, 15)]) 2 hts gL_areAlike_L_total rfl rfl rfl (by decide +kernel) ⟨Nat.le_of_ble_eq_true rfl, Nat.le_of_ble_eq_true rfl⟩) hK hN hX hP hD hS hA rfl rfl hl.1 rfl (lv_room (Nat.le_of_ble_eq_true rfl)) dL_areAlike_32 ⟨Nat.le_of_ble_eq_true rfl, Nat.le_of_ble_eq_true rfl⟩) hP hD hS hA rfl rfl rfl (fun H locs hP hD hS => ?_)
    refine lv_aload_n hx hb dL_areAlike_35 rfl (lv_at hl 3 rfl) ?_
    refine lv_iload_n hx hb dL_areAlike_36 rfl (lv_at hl 0 rfl) ?_
    refine kl (X := (W_All cy aI aT adP adS adB adO adR adA aP aS aB aO aR aA aH ah mT mdP ndP mdS mdB mdO mdR mdA ndA mP nP mS mB mO mR mA nA mH hs)) (Y := []) (ws1 := (W_All cy aI aT adP adS adB adO adR adA aP aS aB aO aR aA aH ah mT mdP ndP mdS mdB mdO mdR mdA ndA mP nP mS mB mO mR mA nA mH hs) ++ (W_All cy bI bT bdP bdS bdB bdO bdR bdA bP bS bB bO bR bA bH bh jmT jmdP jndP jmdS jmdB jmdO jmdR jmdA jndA mP nP mS mB mO mR mA nA mH hs)) (rH (X := (W_All cy aI aT adP adS adB adO adR adA aP aS aB aO aR aA aH ah mT mdP ndP mdS mdB mdO mdR mdA ndA mP nP mS mB mO mR mA nA mH hs)) (Y := []) (As := [.ref (bI 0), .int (nI k)]) (rest := [.long r1]) hC (c_L_total_N l D cy bI bT bdP bdS bdB bdO bdR bdA bP bS bB bO bR bA bH bh (nI k) jmT jmdP jndP jmdS jmdB jmdO jmdR jmdA jndA mP nP mS mB mO mR mA nA mH hs r1 e2) (vx_cwSW (hh := [(0, 5, 6, 15)]) 2 hts gL_areAlike_L_total rfl rfl rfl (by decide +kernel) ⟨Nat.le_of_ble_eq_true rfl, Nat.le_of_ble_eq_true rfl⟩) hK hN hX hP hD hS hA (asmR _ _) rfl hl.1 rfl (lv_room (Nat.le_of_ble_eq_true rfl)) dL_areAlike_37 ⟨Nat.le_of_ble_eq_true rfl, Nat.le_of_ble_eq_true rfl⟩) hP hD hS hA (asmR _ _) rfl (asmR _ _).symm (fun H locs hP hD hS => ?_)
    refine W.lcmp hx hb dL_areAlike_40 ?_
    rw [lg_cmp_self]
    refine lv_if_ne (tgt := 48) hx hb dL_areAlike_41 (by decide) (fun q => absurd rfl q) (fun _ => ?_)
    refine lv_iconst (v := 1) hx hb dL_areAlike_44 (by decide) ?_
    refine lv_goto (tgt := 49) hx hb dL_areAlike_45 (by decide) ?_
    refine lv_istore_n (lv' := [(2, .int 1), (3, .int (nI k)), (0, .ref (aI 0)), (1, .ref (bI 0))]) hx hb dL_areAlike_49 rfl hl (by decide) rfl (fun ls hl => ?_)
    refine lv_iinc (v := nI (k + 1)) (lv' := [(3, .int (nI (k + 1))), (2, .int 1), (0, .ref (aI 0)), (1, .ref (bI 0))]) hx hb dL_areAlike_50 hl (k := 1) rfl (nI_1 k) (by decide) rfl (fun ls hl => ?_)
    refine lv_goto (tgt := 20) hx hb dL_areAlike_53 (by decide) ?_
    exact ih (k + 1) _ _ _ (by omega) hP hD hS hl
set_option maxHeartbeats 40000000 in
set_option maxRecDepth 100000 in
theorem c_L_areAlike (l : Launch) (hst : l.stackTraces = false) (D : va_G) (cy : Nat → Nat) (aI aT adP adS adB adO adR adA aP aS aB aO aR aA aH : Nat → Nat) (ah : Nat → Nat → Nat → Nat) (bI bT bdP bdS bdB bdO bdR bdA bP bS bB bO bR bA bH : Nat → Nat) (bh : Nat → Nat → Nat → Nat) (mT : Mem) (mdP : Mem) (ndP : MemL) (mdS : Mem) (mdB : Mem) (mdO : Mem) (mdR : Mem) (mdA : Mem) (ndA : MemL) (jmT : Mem) (jmdP : Mem) (jndP : MemL) (jmdS : Mem) (jmdB : Mem) (jmdO : Mem) (jmdR : Mem) (jmdA : Mem) (jndA : MemL) (mP : Mem) (nP : MemL) (mS : Mem) (mB : Mem) (mO : Mem) (mR : Mem) (mA : Mem) (nA : MemL) (mH : Mem) (hs : (Nat → PSt)) (hI : LQ mP nP mS mB mO mR mA nA mH hs) : CH l yL_areAlike wsL_areAlike rm_L_areAlike D cy [.ref (aI 0), .ref (bI 0)] ((W_All cy aI aT adP adS adB adO adR adA aP aS aB aO aR aA aH ah mT mdP ndP mdS mdB mdO mdR mdA ndA mP nP mS mB mO mR mA nA mH hs) ++ (W_All cy bI bT bdP bdS bdB bdO bdR bdA bP bS bB bO bR bA bH bh jmT jmdP jndP jmdS jmdB jmdO jmdR jmdA jndA mP nP mS mB mO mR mA nA mH hs)) 30 180 Q1 := by
  refine CHp_of (cc := cL_areAlike) (maxL := 4) (ret := some .boolean) (by decide) rfl (Nat.le_of_ble_eq_true rfl) (fun p e s m args below meth c A ls hx hb hr hml hlocks hown hts hA hK hN hX hP hD hS hl => ?_)
  have hown : s.vm.findClass RL = some m.cls := hown
  have hl : lv_has ls 4 [(0, .ref (aI 0)), (1, .ref (bI 0))] := hl
  have hC : CallFix p m c cL_areAlike 4 s args wsL_areAlike RL := ⟨hx, hb, hml, hown, hts⟩
  obtain ⟨r1, e1, -, hc⟩ := a_meanAge (imT := mT) (imdP := mdP) (indP := ndP) (imdS := mdS) (imdB := mdB) (imdO := mdO) (imdR := mdR) (imdA := mdA) (indA := ndA) hI
  have e2 : f_X8_meanAge jmT jmdP jndP jmdS jmdB jmdO jmdR jmdA jndA mP nP mS mB mO mR mA nA mH hs = some r1 := i_meanAge.trans e1
  refine lv_aload_n hx hb dL_areAlike_0 rfl (lv_at hl 0 rfl) ?_
  refine kd (X := []) (Y := (W_All cy bI bT bdP bdS bdB bdO bdR bdA bP bS bB bO bR bA bH bh jmT jmdP jndP jmdS jmdB jmdO jmdR jmdA jndA mP nP mS mB mO mR mA nA mH hs)) (ws1 := (W_All cy aI aT adP adS adB adO adR adA aP aS aB aO aR aA aH ah mT mdP ndP mdS mdB mdO mdR mdA ndA mP nP mS mB mO mR mA nA mH hs) ++ (W_All cy bI bT bdP bdS bdB bdO bdR bdA bP bS bB bO bR bA bH bh jmT jmdP jndP jmdS jmdB jmdO jmdR jmdA jndA mP nP mS mB mO mR mA nA mH hs)) (rV (X := []) (Y := (W_All cy bI bT bdP bdS bdB bdO bdR bdA bP bS bB bO bR bA bH bh jmT jmdP jndP jmdS jmdB jmdO jmdR jmdA jndA mP nP mS mB mO mR mA nA mH hs)) (As := []) (rest := []) hC (c_X8_meanAge l D cy aI aT adP adS adB adO adR adA aP aS aB aO aR aA aH ah mT mdP ndP mdS mdB mdO mdR mdA ndA mP nP mS mB mO mR mA nA mH hs r1 e1) (cwV 0 hts gL_areAlike_X8_meanAge rfl rfl rfl cd_X8_meanAge ⟨Nat.le_of_ble_eq_true rfl, Nat.le_of_ble_eq_true rfl⟩) hK hN hP hD hS hA rfl 0 8 rfl rfl rfl hl.1 rfl (lv_room (Nat.le_of_ble_eq_true rfl)) dL_areAlike_1 ⟨Nat.le_of_ble_eq_true rfl, Nat.le_of_ble_eq_true rfl⟩) hP hD hS hA rfl rfl rfl (fun H locs hP hD hS => ?_)
  refine lv_aload_n hx hb dL_areAlike_4 rfl (lv_at hl 1 rfl) ?_
  refine kd (X := (W_All cy aI aT adP adS adB adO adR adA aP aS aB aO aR aA aH ah mT mdP ndP mdS mdB mdO mdR mdA ndA mP nP mS mB mO mR mA nA mH hs)) (Y := []) (ws1 := (W_All cy aI aT adP adS adB adO adR adA aP aS aB aO aR aA aH ah mT mdP ndP mdS mdB mdO mdR mdA ndA mP nP mS mB mO mR mA nA mH hs) ++ (W_All cy bI bT bdP bdS bdB bdO bdR bdA bP bS bB bO bR bA bH bh jmT jmdP jndP jmdS jmdB jmdO jmdR jmdA jndA mP nP mS mB mO mR mA nA mH hs)) (rV (X := (W_All cy aI aT adP adS adB adO adR adA aP aS aB aO aR aA aH ah mT mdP ndP mdS mdB mdO mdR mdA ndA mP nP mS mB mO mR mA nA mH hs)) (Y := []) (As := []) (rest := [.double r1]) hC (c_X8_meanAge l D cy bI bT bdP bdS bdB bdO bdR bdA bP bS bB bO bR bA bH bh jmT jmdP jndP jmdS jmdB jmdO jmdR jmdA jndA mP nP mS mB mO mR mA nA mH hs r1 e2) (cwV 0 hts gL_areAlike_X8_meanAge rfl rfl rfl cd_X8_meanAge ⟨Nat.le_of_ble_eq_true rfl, Nat.le_of_ble_eq_true rfl⟩) hK hN hP hD hS hA (asmR _ _) 0 8 rfl rfl rfl hl.1 rfl (lv_room (Nat.le_of_ble_eq_true rfl)) dL_areAlike_5 ⟨Nat.le_of_ble_eq_true rfl, Nat.le_of_ble_eq_true rfl⟩) hP hD hS hA (asmR _ _) rfl (asmR _ _).symm (fun H locs hP hD hS => ?_)
  refine lv_dcmp hx hb dL_areAlike_8 ?_
  rw [hc]
  refine lv_if_ne (tgt := 16) hx hb dL_areAlike_9 (by decide) (fun q => absurd rfl q) (fun _ => ?_)
  refine lv_iconst (v := 1) hx hb dL_areAlike_12 (by decide) ?_
  refine lv_goto (tgt := 17) hx hb dL_areAlike_13 (by decide) ?_
  refine lv_istore_n (lv' := [(2, .int 1), (0, .ref (aI 0)), (1, .ref (bI 0))]) hx hb dL_areAlike_17 rfl hl (by decide) rfl (fun ls hl => ?_)
  refine lv_iconst (v := 0) hx hb dL_areAlike_18 (by decide) ?_
  refine lv_istore_n (lv' := [(3, .int (nI 0)), (2, .int 1), (0, .ref (aI 0)), (1, .ref (bI 0))]) hx hb dL_areAlike_19 rfl hl (by decide) rfl (fun ls hl => ?_)
  exact al_one hst hx hb hr hml hlocks hown hts hA hK hN hX hI 16 0 _ _ _ rfl hP hD hS hl
