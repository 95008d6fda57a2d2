set_option maxHeartbeats 40000000 in
set_option maxRecDepth 100000 in
theorem start_K {b : Nat} {s : State} (hts : ∀ w ∈ lw_tbl, w.before #[Value.ref b] s = true) : ∃ (D : va_G) (a0 a1 a2 a3 : Nat), ∀ cy : Nat → Nat, cy 0 = a0 → cy 1 = a1 → cy 2 = a2 → cy 3 = a3 → va_K D vwCl (tyl cy) s := by
  obtain ⟨c0, i0, k0⟩ := u_known (C := RX0) (T := TX0) (N := 5) (n := 5) hts (fun w h => lwA_tbl (iA_X0 w h)) (hts _ (lwA_tbl qx_X0))
  obtain ⟨c1, i1, k1⟩ := u_known (C := RX1) (T := TX1) (N := 4) (n := 4) hts (fun w h => lwA_tbl (iA_X1 w h)) (hts _ (lwA_tbl qx_X1))
  obtain ⟨c2, i2, k2⟩ := u_known (C := RX2) (T := TX2) (N := 3) (n := 3) hts (fun w h => lwA_tbl (iA_X2 w h)) (hts _ (lwA_tbl qx_X2))
  obtain ⟨c3, i3, k3⟩ := u_known (C := RX3) (T := TX3) (N := 10) (n := 10) hts (fun w h => lwA_tbl (iA_X3 w h)) (hts _ (lwA_tbl qx_X3))
  obtain ⟨c4, i4, k4⟩ := u_known (C := RX4) (T := TX4) (N := 13) (n := 13) hts (fun w h => lwA_tbl (iA_X4 w h)) (hts _ (lwA_tbl qx_X4))
  obtain ⟨c5, i5, k5⟩ := u_known (C := RX5) (T := TX5) (N := 7) (n := 7) hts (fun w h => lwA_tbl (iA_X5 w h)) (hts _ (lwA_tbl qx_X5))
  obtain ⟨c6, i6, k6⟩ := u_known (C := RX6) (T := TX6) (N := 10) (n := 10) hts (fun w h => lwA_tbl (iA_X6 w h)) (hts _ (lwA_tbl qx_X6))
  obtain ⟨c7, i7, k7⟩ := u_known (C := RX7) (T := TX7) (N := 8) (n := 8) hts (fun w h => lwA_tbl (iA_X7 w h)) (hts _ (lwA_tbl qx_X7))
  obtain ⟨c8, i8, k8⟩ := u_known (C := RX8) (T := TX8) (N := 4) (n := 4) hts (fun w h => lwA_tbl (iA_X8 w h)) (hts _ (lwA_tbl qx_X8))
  obtain ⟨a0, x0, p0, f0, g0, h0⟩ := Cond.arrayClass_spec (hts _ (lwA_tbl qa_int))
  obtain ⟨a1, x1, p1, f1, g1, h1⟩ := Cond.arrayClass_spec (hts _ (lwA_tbl qa_long))
  obtain ⟨a2, x2, p2, f2, g2, h2⟩ := Cond.arrayClass_spec (hts _ (lwA_tbl qa_char))
  obtain ⟨p3, a3, x3, e1, e2, e3, e4, e5⟩ := Cond.arrayOver_spec (hts (.arrayOver (.object "IcePlant$Plant")) (by decide +kernel))
  refine ⟨(fun c => match c with | 0 => c0 | 1 => c1 | 2 => c2 | 3 => c3 | 4 => c4 | 5 => c5 | 6 => c6 | 7 => c7 | _ => c8, fun c => match c with | 0 => i0 | 1 => i1 | 2 => i2 | 3 => i3 | 4 => i4 | 5 => i5 | 6 => i6 | 7 => i7 | _ => i8), a0, a1, a2, a3, fun cy y0 y1 y2 y3 => ⟨fun c q hq => ?_, fun k q hq => ?_⟩⟩
  · match c, hq with
    | 0, hq => cases hq; exact k0
    | 1, hq => cases hq; exact k1
    | 2, hq => cases hq; exact k2
    | 3, hq => cases hq; exact k3
    | 4, hq => cases hq; exact k4
    | 5, hq => cases hq; exact k5
    | 6, hq => cases hq; exact k6
    | 7, hq => cases hq; exact k7
    | 8, hq => cases hq; exact k8
    | c + 9, hq => exact absurd hq (by simp)
  · match k, hq with
    | 0, hq => cases hq; rw [y0]; exact ⟨fun n z => ⟨fun k h => (by cases h), x0, g0, p0, h0⟩, f0⟩
    | 1, hq => cases hq; rw [y1]; exact ⟨fun n z => ⟨fun k h => (by cases h), x1, g1, p1, h1⟩, f1⟩
    | 2, hq => cases hq; rw [y2]; exact ⟨fun n z => ⟨fun k h => (by cases h), x2, g2, p2, h2⟩, f2⟩
    | 3, hq => cases hq; rw [y3]; exact ⟨fun n z => ⟨fun k h => (by cases h), x3, e3, p3, e4⟩, x3, p3, e3, e4, e1, e5⟩
    | k + 4, hq => exact absurd hq (by simp)
set_option maxHeartbeats 40000000 in
set_option maxRecDepth 100000 in
theorem start_T0 {b : Nat} {s : State} (hts : ∀ w ∈ lw_tbl, w.before #[Value.ref b] s = true) (hg : ∀ w ∈ flatC (Jvm.Cond.and given_1 narrow_1), w.before #[Value.ref b] s = true) : ∃ t : Nat, va_Z RX8 (stN 0) "[I" (.ref t) (LA s) s s.heap ∧ va_T .int t 8 (fun j => .int (stV 0 j)) (LA s) s s.heap := by
  have hA : ∀ a : Nat, a < s.heap.size → ¬ LA s a := fun a h => Nat.not_le.mpr h
  obtain ⟨t, v, h⟩ := va_Tof (tm := .static "IcePlant" "FIRST_SETTINGS" "[I") (ty := .int) (N := 8) (f := fun j => .int (stV 0 j)) (A := LA s) (by decide) (hg _ (by decide +kernel)) (va_eqt (hg _ (by decide +kernel))) (fun j hj => va_eqt (by
    rcases (show j = 0 ∨ j = 1 ∨ j = 2 ∨ j = 3 ∨ j = 4 ∨ j = 5 ∨ j = 6 ∨ j = 7 by omega) with rfl | rfl | rfl | rfl | rfl | rfl | rfl | rfl <;> exact hg _ (by decide +kernel))) hA
  exact ⟨t, va_Zof (hts (.laysStatic "IcePlant" "FIRST_SETTINGS" "[I") (by decide +kernel)) (hts _ (lwA_tbl qn_X8)) v hA, h⟩
set_option maxHeartbeats 40000000 in
set_option maxRecDepth 100000 in
theorem start_T1 {b : Nat} {s : State} (hts : ∀ w ∈ lw_tbl, w.before #[Value.ref b] s = true) (hg : ∀ w ∈ flatC (Jvm.Cond.and given_1 narrow_1), w.before #[Value.ref b] s = true) : ∃ t : Nat, va_Z RX8 (stN 1) "[I" (.ref t) (LA s) s s.heap ∧ va_T .int t 8 (fun j => .int (stV 1 j)) (LA s) s s.heap := by
  have hA : ∀ a : Nat, a < s.heap.size → ¬ LA s a := fun a h => Nat.not_le.mpr h
  obtain ⟨t, v, h⟩ := va_Tof (tm := .static "IcePlant" "LOWEST_SETTINGS" "[I") (ty := .int) (N := 8) (f := fun j => .int (stV 1 j)) (A := LA s) (by decide) (hg _ (by decide +kernel)) (va_eqt (hg _ (by decide +kernel))) (fun j hj => va_eqt (by
    rcases (show j = 0 ∨ j = 1 ∨ j = 2 ∨ j = 3 ∨ j = 4 ∨ j = 5 ∨ j = 6 ∨ j = 7 by omega) with rfl | rfl | rfl | rfl | rfl | rfl | rfl | rfl <;> exact hg _ (by decide +kernel))) hA
  exact ⟨t, va_Zof (hts (.laysStatic "IcePlant" "LOWEST_SETTINGS" "[I") (by decide +kernel)) (hts _ (lwA_tbl qn_X8)) v hA, h⟩
set_option maxHeartbeats 40000000 in
set_option maxRecDepth 100000 in
theorem start_T2 {b : Nat} {s : State} (hts : ∀ w ∈ lw_tbl, w.before #[Value.ref b] s = true) (hg : ∀ w ∈ flatC (Jvm.Cond.and given_1 narrow_1), w.before #[Value.ref b] s = true) : ∃ t : Nat, va_Z RX8 (stN 2) "[I" (.ref t) (LA s) s s.heap ∧ va_T .int t 8 (fun j => .int (stV 2 j)) (LA s) s s.heap := by
  have hA : ∀ a : Nat, a < s.heap.size → ¬ LA s a := fun a h => Nat.not_le.mpr h
  obtain ⟨t, v, h⟩ := va_Tof (tm := .static "IcePlant" "HIGHEST_SETTINGS" "[I") (ty := .int) (N := 8) (f := fun j => .int (stV 2 j)) (A := LA s) (by decide) (hg _ (by decide +kernel)) (va_eqt (hg _ (by decide +kernel))) (fun j hj => va_eqt (by
    rcases (show j = 0 ∨ j = 1 ∨ j = 2 ∨ j = 3 ∨ j = 4 ∨ j = 5 ∨ j = 6 ∨ j = 7 by omega) with rfl | rfl | rfl | rfl | rfl | rfl | rfl | rfl <;> exact hg _ (by decide +kernel))) hA
  exact ⟨t, va_Zof (hts (.laysStatic "IcePlant" "HIGHEST_SETTINGS" "[I") (by decide +kernel)) (hts _ (lwA_tbl qn_X8)) v hA, h⟩
set_option maxHeartbeats 40000000 in
set_option maxRecDepth 100000 in
theorem start_S1 {b : Nat} {s : State} (hts : ∀ w ∈ lw_tbl, w.before #[Value.ref b] s = true) (hg : ∀ w ∈ flatC (Jvm.Cond.and given_1 narrow_1), w.before #[Value.ref b] s = true) : ∃ a : Nat, vk_R RX8 (exS 1) (exT 1) a s ∧ ∀ w ∈ exB 1, va_Nw w s := by
  obtain ⟨a, -, -, -, e, -⟩ := Cond.exactly_spec (args := #[Value.ref b]) (first := s) (o := none) (s := s) (idx := []) (t := .string "IcePlant" 278) (cls := "java/lang/String") (hg _ (by decide +kernel))
  have h : ∀ w ∈ exB 1, w ∈ lw_tbl := by decide +kernel
  exact ⟨a, vk_R.of (hts (.stringRef "IcePlant" 278 "there is no such item") (by decide +kernel)) e, fun w hw => va_Nw.of (exB_tab (k := 1) (by decide) (by decide) hw) (hts w (h w hw))⟩
set_option maxHeartbeats 40000000 in
set_option maxRecDepth 100000 in
theorem start_S2 {b : Nat} {s : State} (hts : ∀ w ∈ lw_tbl, w.before #[Value.ref b] s = true) (hg : ∀ w ∈ flatC (Jvm.Cond.and given_1 narrow_1), w.before #[Value.ref b] s = true) : ∃ a : Nat, vk_R RX8 (exS 2) (exT 2) a s ∧ ∀ w ∈ exB 2, va_Nw w s := by
  obtain ⟨a, -, -, -, e, -⟩ := Cond.exactly_spec (args := #[Value.ref b]) (first := s) (o := none) (s := s) (idx := []) (t := .string "IcePlant" 285) (cls := "java/lang/String") (hg _ (by decide +kernel))
  have h : ∀ w ∈ exB 2, w ∈ lw_tbl := by decide +kernel
  exact ⟨a, vk_R.of (hts (.stringRef "IcePlant" 285 "an argument is out of range") (by decide +kernel)) e, fun w hw => va_Nw.of (exB_tab (k := 2) (by decide) (by decide) hw) (hts w (h w hw))⟩
set_option maxHeartbeats 40000000 in
set_option maxRecDepth 100000 in
theorem start_S3 {b : Nat} {s : State} (hts : ∀ w ∈ lw_tbl, w.before #[Value.ref b] s = true) (hg : ∀ w ∈ flatC (Jvm.Cond.and given_1 narrow_1), w.before #[Value.ref b] s = true) : ∃ a : Nat, vk_R RX8 (exS 3) (exT 3) a s ∧ ∀ w ∈ exB 3, va_Nw w s := by
  obtain ⟨a, -, -, -, e, -⟩ := Cond.exactly_spec (args := #[Value.ref b]) (first := s) (o := none) (s := s) (idx := []) (t := .string "IcePlant" 290) (cls := "java/lang/String") (hg _ (by decide +kernel))
  have h : ∀ w ∈ exB 3, w ∈ lw_tbl := by decide +kernel
  exact ⟨a, vk_R.of (hts (.stringRef "IcePlant" 290 "the state of the plant does not allow this") (by decide +kernel)) e, fun w hw => va_Nw.of (exB_tab (k := 3) (by decide) (by decide) hw) (hts w (h w hw))⟩
set_option maxHeartbeats 40000000 in
set_option maxRecDepth 100000 in
theorem start_X {b : Nat} {s : State} (hts : ∀ w ∈ lw_tbl, w.before #[Value.ref b] s = true) (hg : ∀ w ∈ flatC (Jvm.Cond.and given_1 narrow_1), w.before #[Value.ref b] s = true) : cX s := by
  refine ⟨fun k k0 k4 => ?_, fun j k j0 j4 k0 k4 jk => ?_⟩
  · have h : ∀ k, 0 < k → k < 4 → Cond.castable (exN k) (exN k) ∈ lw_tbl ++ flatC (Jvm.Cond.and given_1 narrow_1) := by
      intro k k0 k4
      rcases (show k = 1 ∨ k = 2 ∨ k = 3 by omega) with rfl | rfl | rfl <;> decide +kernel
    rcases List.mem_append.mp (h k k0 k4) with h9 | h9
    · exact va_Nw.of rfl (hts _ h9)
    · exact va_Nw.of rfl (hg _ h9)
  · have h : ∀ j k, 0 < j → j < 4 → 0 < k → k < 4 → j ≠ k → Cond.not (.castable (exN j) (exN k)) ∈ flatC (Jvm.Cond.and given_1 narrow_1) := by
      intro j k j0 j4 k0 k4 jk
      rcases (show j = 1 ∨ j = 2 ∨ j = 3 by omega) with rfl | rfl | rfl <;> rcases (show k = 1 ∨ k = 2 ∨ k = 3 by omega) with rfl | rfl | rfl <;> first | exact absurd rfl jk | decide +kernel
    exact va_Nc.of (hg _ (h j k j0 j4 k0 k4 jk))
set_option maxHeartbeats 40000000 in
set_option maxRecDepth 100000 in
/-- at the entry: the classes, the tables, the static rows -/
theorem start_all {b : Nat} {s : State} (hts : ∀ w ∈ lw_tbl, w.before #[Value.ref b] s = true) (hgv : (Jvm.Cond.and given_1 narrow_1).before #[Value.ref b] s = true) : ∃ (D : va_G) (cy : Nat → Nat), va_K D vwCl (tyl cy) s ∧ cG cy (LA s) s s.heap ∧ cX s := by
  have hg := flat_of_before _ hgv
  have hA : ∀ a : Nat, a < s.heap.size → ¬ LA s a := fun a h => Nat.not_le.mpr h
  obtain ⟨D, a0, a1, a2, a3, hK⟩ := start_K hts
  obtain ⟨t0, z0, r0⟩ := start_T0 hts hg
  obtain ⟨t1, z1, r1⟩ := start_T1 hts hg
  obtain ⟨t2, z2, r2⟩ := start_T2 hts hg
  obtain ⟨s1, u1, w1⟩ := start_S1 hts hg
  obtain ⟨s2, u2, w2⟩ := start_S2 hts hg
  obtain ⟨s3, u3, w3⟩ := start_S3 hts hg
  refine ⟨D, fun k => match k with | 0 => a0 | 1 => a1 | 2 => a2 | 3 => a3 | 10 => t0 | 11 => t1 | 12 => t2 | 13 => s1 | 14 => s2 | 15 => s3 | _ => 0, hK _ rfl rfl rfl rfl, ⟨?_, ⟨va_Nw.of rfl (hts _ (by decide +kernel)), va_AO.of (hts _ (by decide +kernel))⟩, ?_, vx_Zqof (hts _ (by decide +kernel)) (hts _ (by decide +kernel)) (hg _ (by decide +kernel)) hA, vx_Zqof (hts _ (by decide +kernel)) (hts _ (by decide +kernel)) (hg _ (by decide +kernel)) hA, ?_⟩, start_X hts hg⟩
  · have h : ∀ q ∈ nestM, Cond.methodLinkNest q.1 q.2.1 q.2.2 RX8 ∈ lw_tbl := by decide +kernel
    exact fun k q hk => va_Nw.of rfl (hts _ (h q (List.mem_of_getElem? hk)))
  · intro k hk
    rcases (show k = 0 ∨ k = 1 ∨ k = 2 by omega) with rfl | rfl | rfl
    · exact ⟨z0, r0⟩
    · exact ⟨z1, r1⟩
    · exact ⟨z2, r2⟩
  · intro k k0 k4
    rcases (show k = 1 ∨ k = 2 ∨ k = 3 by omega) with rfl | rfl | rfl
    · exact ⟨u1, w1⟩
    · exact ⟨u2, w2⟩
    · exact ⟨u3, w3⟩
