/-! what is made is delivered, melted or stored; what is billed is paid or owed -/
theorem sumR_at {f g : Int → Int} {p x : Int} : ∀ {n : Nat} {s : Int}, s ≤ p → p < s + n → (∀ j : Int, s ≤ j → j < s + n → j ≠ p → g j = f j) → g p = f p + x → sumR g n s = sumR f n s + x
  | 0, _, h1, h2, _, _ => by omega
  | n + 1, s, h1, h2, h3, h4 => by
    show g s + sumR g n (s + 1) = f s + sumR f n (s + 1) + x
    by_cases c : p = s
    · subst c
      rw [h4, sumR_cg (f := g) (g := f) (fun j a b => h3 j (by omega) (by omega) (by omega))]; omega
    · rw [h3 s (by omega) (by omega) (fun q => c q.symm), sumR_at (f := f) (g := g) (p := p) (x := x) (n := n) (s := s + 1) (by omega) (by omega) (fun j a b d => h3 j (by omega) (by omega) d) h4]; omega
theorem sumR_drop {f g : Int → Int} : ∀ {n : Nat} {s k : Int}, s ≤ k → k ≤ s + n → (∀ j : Int, s ≤ j → j < k → g j = f j) → (∀ j : Int, k ≤ j → j < s + n → g j = f (j + 1)) → sumR g n s + f k = sumR f (n + 1) s
  | 0, s, k, h1, h2, _, _ => by
    have : k = s := by omega
    subst this
    show (0 : Int) + f k = f k + 0
    omega
  | n + 1, s, k, h1, h2, h3, h4 => by
    show g s + sumR g n (s + 1) + f k = f s + sumR f (n + 1) (s + 1)
    by_cases c : k = s
    · subst c
      have := sumR_drop (f := f) (g := g) (n := n) (s := k + 1) (k := k + 1) (by omega) (by omega) (fun j a b => by omega) (fun j a b => h4 j (by omega) (by omega))
      rw [h4 k (by omega) (by omega)]; omega
    · have := sumR_drop (f := f) (g := g) (n := n) (s := s + 1) (k := k) (by omega) (by omega) (fun j a b => h3 j (by omega) b) (fun j a b => h4 j a (by omega))
      rw [h3 s (by omega) (by omega)]; omega
theorem sumR_last (f : Int → Int) (n : Nat) (s : Int) : sumR f (n + 1) s = sumR f n s + f (s + n) := by
  rw [sumR_add n 1 s]
  show sumR f n s + (f (s + n) + 0) = _
  omega
/-- what is weighed and billed agrees -/
def CW (v : VI) : Prop := v 1876 = v 1877 + v 1878 + storedF v ∧ sumR (fun b => v (523 + b)) 8 0 = v 1877 ∧ sumR (fun a => v (1843 + a)) 16 0 = v 1877 ∧ sumR (fun a => v (1859 + a)) 16 0 = v 1883 ∧ sumR (fun b => v (515 + b)) 8 0 = v 1883 - v 1884 ∧ (∀ a : Int, 0 ≤ a → a < v 1886 → v (1811 + a) < v 1881)
theorem rowSum_cg {v v' : VI} {s : Int} (z : v (47 + s) ≤ 30) (e1 : v' (47 + s) = v (47 + s)) (e2 : ∀ j : Int, 207 + 30 * s ≤ j → j < 207 + 30 * s + 30 → v' j = v j) : rowSum v' 207 s = rowSum v 207 s := by
  unfold rowSum
  rw [e1]
  exact sumR_cg fun j a b => e2 _ (by omega) (by omega)
theorem storedF_cg {T : Int} {v v' : VI} (hI : IS T v) (e0 : v' 1880 = v 1880) (e1 : ∀ s : Int, 0 ≤ s → s < v 1880 → v' (47 + s) = v (47 + s)) (e2 : ∀ j : Int, 207 ≤ j → j < 357 → v' j = v j) : storedF v' = storedF v := by
  have hb := hI.1
  unfold storedF massS
  rw [e0]
  refine sumR_cg fun s a b => ?_
  have hz := hI.sz a (show s < 5 by omega)
  exact rowSum_cg (by omega) (e1 s a (by omega)) (fun j c d => e2 j (by omega) (by omega))
/-- one silo's row becomes heavier by x -/
theorem storedF_one {T : Int} {v v' : VI} (hI : IS T v) {s x : Int} (s0 : 0 ≤ s) (s1 : s < v 1880) (e0 : v' 1880 = v 1880) (e1 : ∀ q : Int, 0 ≤ q → q < v 1880 → q ≠ s → v' (47 + q) = v (47 + q)) (e2 : ∀ j : Int, 207 ≤ j → j < 357 → ¬ (207 + 30 * s ≤ j ∧ j < 207 + 30 * s + 30) → v' j = v j) (ex : rowSum v' 207 s = rowSum v 207 s + x) : storedF v' = storedF v + x := by
  have hb := hI.1
  unfold storedF massS
  rw [e0]
  refine sumR_at (p := s) s0 (by omega) (fun q a b c => ?_) ex
  have hz := hI.sz a (show q < 5 by omega)
  exact rowSum_cg (by omega) (e1 q a (by omega) c) (fun j d e => e2 j (by omega) (by omega) (by omega))
theorem CW.cgB {T : Int} {v v' : VI} (h : CW v) (hI : IS T v) (hA : v 1886 ≤ 16) (hle : v 1881 ≤ v' 1881) (e : ∀ j : Int, (47 ≤ j ∧ j < 52) ∨ (207 ≤ j ∧ j < 357) ∨ (515 ≤ j ∧ j < 531) ∨ (1811 ≤ j ∧ j < 1827) ∨ (1843 ≤ j ∧ j < 1875) ∨ j = 1876 ∨ j = 1877 ∨ j = 1878 ∨ j = 1880 ∨ j = 1883 ∨ j = 1884 ∨ j = 1886 → v' j = v j) : CW v' := by
  have hb := hI.1
  obtain ⟨h1, h2, h3, h4, h5, h6⟩ := h
  have es : storedF v' = storedF v := storedF_cg hI (e _ (by omega)) (fun s a b => e _ (by omega)) (fun j a b => e _ (by omega))
  refine ⟨?_, ?_, ?_, ?_, ?_, ?_⟩
  · rw [e 1876 (by omega), e 1877 (by omega), e 1878 (by omega), es]; exact h1
  · rw [e 1877 (by omega), ← h2]; exact sumR_cg fun j a b => e _ (by omega)
  · rw [e 1877 (by omega), ← h3]; exact sumR_cg fun j a b => e _ (by omega)
  · rw [e 1883 (by omega), ← h4]; exact sumR_cg fun j a b => e _ (by omega)
  · rw [e 1883 (by omega), e 1884 (by omega), ← h5]; exact sumR_cg fun j a b => e _ (by omega)
  · intro a a0 a1
    rw [e 1886 (by omega)] at a1
    have := h6 a a0 a1
    rw [e (1811 + a) (by omega)]; omega
theorem CW.cg {T : Int} {v v' : VI} (h : CW v) (hI : IS T v) (hA : v 1886 ≤ 16) (e : ∀ j : Int, (47 ≤ j ∧ j < 52) ∨ (207 ≤ j ∧ j < 357) ∨ (515 ≤ j ∧ j < 531) ∨ (1811 ≤ j ∧ j < 1827) ∨ (1843 ≤ j ∧ j < 1875) ∨ j = 1876 ∨ j = 1877 ∨ j = 1878 ∨ j = 1880 ∨ j = 1881 ∨ j = 1883 ∨ j = 1884 ∨ j = 1886 → v' j = v j) : CW v' :=
  h.cgB hI hA (by rw [e 1881 (by omega)]; exact Int.le_refl _) fun j a => e j (by omega)
/-- the melting keeps what is weighed -/
theorem CW.melt {v v' : VI} (h : CW v) (hA : 0 ≤ v 1886 ∧ v 1886 ≤ 16) (es : storedF v' + v' 1878 = storedF v + v 1878) (e : ∀ j : Int, ¬ (47 ≤ j ∧ j < 57) → ¬ (57 ≤ j ∧ j < 507) → j ≠ 1878 → v' j = v j) : CW v' := by
  obtain ⟨h1, h2, h3, h4, h5, h6⟩ := h
  refine ⟨?_, ?_, ?_, ?_, ?_, ?_⟩
  · rw [e 1876 (by omega) (by omega) (by omega), e 1877 (by omega) (by omega) (by omega)]; omega
  · rw [e 1877 (by omega) (by omega) (by omega), ← h2]; exact sumR_cg fun j a b => e _ (by omega) (by omega) (by omega)
  · rw [e 1877 (by omega) (by omega) (by omega), ← h3]; exact sumR_cg fun j a b => e _ (by omega) (by omega) (by omega)
  · rw [e 1883 (by omega) (by omega) (by omega), ← h4]; exact sumR_cg fun j a b => e _ (by omega) (by omega) (by omega)
  · rw [e 1883 (by omega) (by omega) (by omega), e 1884 (by omega) (by omega) (by omega), ← h5]; exact sumR_cg fun j a b => e _ (by omega) (by omega) (by omega)
  · intro a a0 a1
    rw [e 1886 (by omega) (by omega) (by omega)] at a1
    rw [e (1811 + a) (by omega) (by omega) (by omega), e 1881 (by omega) (by omega) (by omega)]; exact h6 a a0 a1
theorem sumR_two {f g : Int → Int} {p q x : Int} {n : Nat} {s : Int} (hp : s ≤ p ∧ p < s + n) (hq : s ≤ q ∧ q < s + n) (hpq : p ≠ q) (e : ∀ j : Int, s ≤ j → j < s + n → j ≠ p → j ≠ q → g j = f j) (ep : g p = f p + x) (eq : g q = f q - x) : sumR g n s = sumR f n s := by
  have a := sumR_at (f := f) (g := fun j => if j = p then f p + x else f j) (p := p) (x := x) (n := n) (s := s) hp.1 hp.2 (fun j _ _ c => if_neg c) (if_pos rfl)
  have b := sumR_at (f := fun j => if j = p then f p + x else f j) (g := g) (p := q) (x := -x) (n := n) (s := s) hq.1 hq.2 (fun j j0 j1 c => by
    show g j = if j = p then f p + x else f j
    by_cases d : j = p
    · rw [if_pos d, d]; exact ep
    · rw [if_neg d]; exact e j j0 j1 d c) (by
    show g q = (if q = p then f p + x else f q) + -x
    rw [if_neg (fun h => hpq h.symm)]; omega)
  omega
theorem rowSum_rem {v : VI} {s k : Int} (s0 : 0 ≤ s) (s5 : s < 5) (k0 : 0 ≤ k) (k1 : k < v (47 + s)) (z : v (47 + s) ≤ 30) : rowSum (remV v s k) 207 s = rowSum v 207 s - v (207 + (30 * s + k)) := by
  have e47 : remV v s k (47 + s) = v (47 + s) - 1 := by unfold remV; rw [upV_same]
  obtain ⟨n, hn⟩ : ∃ n : Nat, v (47 + s) = ((n + 1 : Nat) : Int) := ⟨(v (47 + s) - 1).toNat, by omega⟩
  unfold rowSum
  rw [e47, show (v (47 + s) - 1).toNat = n by omega, show (v (47 + s)).toNat = n + 1 by omega]
  have := sumR_drop (f := fun j => v (207 + (30 * s + j))) (g := fun j => remV v s k (207 + (30 * s + j))) (n := n) (s := 0) (k := k) k0 (by omega) (fun j a b => (remV_lo v (s := s) (k := k) s0 s5 a b k1 z).2.1) (fun j a b => (remV_hi v (s := s) (k := k) s0 s5 k0 a (by omega) z).2.1)
  have e : (fun j => v (207 + (30 * s + j))) k = v (207 + (30 * s + k)) := rfl
  omega
theorem storedF_rem {T : Int} {v : VI} (hI : IS T v) {s k : Int} (s0 : 0 ≤ s) (s1 : s < v 1880) (k0 : 0 ≤ k) (k1 : k < v (47 + s)) : storedF (remV v s k) = storedF v - v (207 + (30 * s + k)) := by
  have hb := hI.1
  have hz := hI.sz s0 (show s < 5 by omega)
  have o : ∀ j : Int, j ≠ 47 + s → ¬ (57 + 30 * s ≤ j ∧ j < 57 + 30 * s + 30) → ¬ (207 + 30 * s ≤ j ∧ j < 207 + 30 * s + 30) → ¬ (357 + 30 * s ≤ j ∧ j < 357 + 30 * s + 30) → remV v s k j = v j := fun j a b c d => by
    unfold remV; rw [upV_ne _ _ a, shV_out v (by omega)]
  have := storedF_one (v' := remV v s k) hI s0 s1 (x := - v (207 + (30 * s + k))) (o _ (by omega) (by omega) (by omega) (by omega)) (fun q a b c => o _ (by omega) (by omega) (by omega) (by omega)) (fun j a b c => o _ (by omega) (by omega) c (by omega)) (by rw [rowSum_rem s0 (by omega) k0 k1 (by omega)]; omega)
  omega
theorem rowSum_add {v v' : VI} {s m : Int} (h0 : 0 ≤ v (47 + s)) (e1 : v' (47 + s) = v (47 + s) + 1) (e2 : ∀ k : Int, 0 ≤ k → k < v (47 + s) → v' (207 + (30 * s + k)) = v (207 + (30 * s + k))) (e3 : v' (207 + (30 * s + v (47 + s))) = m) : rowSum v' 207 s = rowSum v 207 s + m := by
  obtain ⟨n, hn⟩ : ∃ n : Nat, v (47 + s) = (n : Int) := ⟨(v (47 + s)).toNat, by omega⟩
  unfold rowSum
  rw [e1, show (v (47 + s) + 1).toNat = n + 1 by omega, show (v (47 + s)).toNat = n by omega, sumR_last]
  rw [sumR_cg (f := fun j => v' (207 + (30 * s + j))) (g := fun j => v (207 + (30 * s + j))) (fun j a b => e2 j a (by omega))]
  rw [show (0 : Int) + (n : Int) = v (47 + s) by omega]
  show _ + v' (207 + (30 * s + v (47 + s))) = _
  rw [e3]
theorem storedF_put {T : Int} {v : VI} (hI : IS T v) {f m : Int} (f0 : 0 ≤ f) (f1 : f < v 1880) (h3 : v (47 + f) < v (32 + f)) : storedF (putV v f m) = storedF v + m := by
  have hb := hI.1
  have hz := hI.sz f0 (show f < 5 by omega)
  have o : ∀ j : Int, j ≠ 47 + f → j ≠ 57 + (30 * f + v (47 + f)) → j ≠ 207 + (30 * f + v (47 + f)) → j ≠ 357 + (30 * f + v (47 + f)) → j ≠ 1887 → putV v f m j = v j := fun j a b c d e => by
    unfold putV
    rw [upV_ne _ _ e, upV_ne _ _ a, filV_out v ⟨b, c, d⟩]
  refine storedF_one hI f0 f1 (o _ (by omega) (by omega) (by omega) (by omega) (by omega)) (fun q a b c => o _ (by omega) (by omega) (by omega) (by omega) (by omega)) (fun j a b c => o _ (by omega) (by omega) (by omega) (by omega) (by omega)) ?_
  refine rowSum_add hz.1 ?_ (fun k a b => o _ (by omega) (by omega) (by omega) (by omega) (by omega)) ?_
  · unfold putV; rw [upV_ne _ _ (by omega), upV_same]
  · unfold putV filV; simp (disch := omega) only [upV_ne, upV_same]
theorem CW.step {T : Int} {v : VI} (h : CW v) (hI : IS T v) (hA : v 1886 ≤ 16) : CW (stepP v) := by
  have hb := hI.1
  unfold stepP
  by_cases c : freeS v = -1
  · rw [if_pos c]
    exact h.cg hI hA fun j a => upV_ne _ _ (by omega)
  · rw [if_neg c]
    have hf := (freeF_in v (v 1880).toNat 0).resolve_left c
    have hf0 : 0 ≤ freeS v := hf.1
    have hf1 : freeS v < v 1880 := by have := hf.2.1; show freeF v (v 1880).toNat 0 < _; omega
    have hf2 : v (47 + freeS v) < v (32 + freeS v) := hf.2.2
    have hz := hI.sz hf0 (show freeS v < 5 by omega)
    have es := storedF_put (m := v 0) hI hf0 hf1 hf2
    have o : ∀ j : Int, ¬ (47 ≤ j ∧ j < 52) ∧ ¬ (57 ≤ j ∧ j < 507) ∧ j ≠ 1887 → putV v (freeS v) (v 0) j = v j := fun j a => putV_out v hf0 (by omega) hz.1 (by omega) a
    have o2 : ∀ j : Int, j ≠ 1876 → upV (putV v (freeS v) (v 0)) 1876 (v 1876 + v 0) j = putV v (freeS v) (v 0) j := fun j a => upV_ne _ _ a
    have o3 : ∀ j : Int, ¬ (47 ≤ j ∧ j < 52) ∧ ¬ (57 ≤ j ∧ j < 507) ∧ j ≠ 1887 ∧ j ≠ 1876 → upV (putV v (freeS v) (v 0)) 1876 (v 1876 + v 0) j = v j := fun j a => by rw [o2 j (by omega), o j (by omega)]
    have e80 := o 1880 (by omega)
    obtain ⟨h1, h2, h3, h4, h5, h6⟩ := h
    have e2 : storedF (upV (putV v (freeS v) (v 0)) 1876 (v 1876 + v 0)) = storedF (putV v (freeS v) (v 0)) := by
      unfold storedF massS rowSum
      rw [o2 1880 (by omega)]
      refine sumR_cg fun q a b => ?_
      rw [o2 (47 + q) (by omega)]
      have hq : putV v (freeS v) (v 0) (47 + q) ≤ 30 := by
        unfold putV
        have hzq := hI.sz a (show q < 5 by omega)
        rw [upV_ne _ _ (by omega)]
        by_cases d : 47 + q = 47 + freeS v
        · rw [d, upV_same]; omega
        · rw [upV_ne _ _ d, filV_out v (by omega)]; omega
      exact sumR_cg fun k a' b' => o2 _ (by omega)
    refine ⟨?_, ?_, ?_, ?_, ?_, ?_⟩
    · rw [upV_same, o3 1877 (by omega), o3 1878 (by omega), e2, es]; omega
    · rw [o3 1877 (by omega), ← h2]; exact sumR_cg fun j a b => o3 _ (by omega)
    · rw [o3 1877 (by omega), ← h3]; exact sumR_cg fun j a b => o3 _ (by omega)
    · rw [o3 1883 (by omega), ← h4]; exact sumR_cg fun j a b => o3 _ (by omega)
    · rw [o3 1883 (by omega), o3 1884 (by omega), ← h5]; exact sumR_cg fun j a b => o3 _ (by omega)
    · intro a a0 a1
      rw [o3 1886 (by omega)] at a1
      rw [o3 (1811 + a) (by omega), o3 1881 (by omega)]; exact h6 a a0 a1
theorem CW.prod {T : Int} : ∀ (n : Nat) {v : VI}, CW v → IS T v → v 1887 + n ≤ 12 * T → 1 ≤ v 0 ∧ v 0 ≤ 200 → v 1886 ≤ 16 → CW (prodV v n)
  | 0, _, h, _, _, _, _ => h
  | n + 1, v, h, hI, hs, hm, hA => by
    have a := stepP_IS hI (by omega) hm
    have b := a.2.2.1
    refine CW.prod n (v := stepP v) (h.step hI hA) a.1 (by omega) ?_ ?_
    · rw [b 0 (by omega)]; exact hm
    · rw [b 1886 (by omega)]; exact hA
/-- dropping the blocks without mass drops no mass -/
theorem svC_sum {m v' : VI} {s : Int} : ∀ b : Nat, (∀ j : Nat, j < b → m (207 + (30 * s + j)) ≠ 0 → v' (207 + (30 * s + svC m s j)) = m (207 + (30 * s + j))) → sumR (fun j => v' (207 + (30 * s + j))) (svC m s b).toNat 0 = sumR (fun j => m (207 + (30 * s + j))) b 0
  | 0, _ => rfl
  | b + 1, h => by
    have ih := svC_sum (m := m) (v' := v') (s := s) b (fun j hj => h j (by omega))
    have hle := svC_le m s b
    rw [sumR_last, ← ih]
    show sumR (fun j => v' (207 + (30 * s + j))) (svC m s b + (if m (207 + (30 * s + (b : Int))) = 0 then 0 else 1)).toNat 0 = _
    by_cases c : m (207 + (30 * s + (b : Int))) = 0
    · rw [if_pos c]
      show _ = _ + m (207 + (30 * s + (0 + (b : Int))))
      rw [Int.zero_add, c]
      rw [show svC m s b + 0 = svC m s b by omega]; omega
    · rw [if_neg c, show (svC m s b + 1).toNat = (svC m s b).toNat + 1 by omega, sumR_last]
      show _ + v' (207 + (30 * s + (0 + ((svC m s b).toNat : Int)))) = _ + m (207 + (30 * s + (0 + (b : Int))))
      rw [show (0 : Int) + ((svC m s b).toNat : Int) = svC m s b by omega, Int.zero_add, h b (by omega) c]
theorem sumR_sub {f g : Int → Int} : ∀ (n : Nat) (s : Int), sumR (fun j => f j - g j) n s = sumR f n s - sumR g n s
  | 0, _ => rfl
  | n + 1, s => by
    show f s - g s + sumR (fun j => f j - g j) n (s + 1) = f s + sumR f n (s + 1) - (g s + sumR g n (s + 1))
    rw [sumR_sub n (s + 1)]; omega
theorem melt_cons {T : Int} {v v' : VI} {s h : Int} (hI : IS T v) (h0 : 0 ≤ s) (h1 : s < v 1880) (hC : CmpI (mltV v s h (v (47 + s)).toNat) s (v (47 + s)).toNat 0 v') : storedF v' + v' 1878 = storedF v + v 1878 := by
  have hb := hI.1
  have hz := hI.sz h0 (show s < 5 by omega)
  obtain ⟨n, hn⟩ : ∃ n : Nat, v (47 + s) = n := ⟨(v (47 + s)).toNat, by omega⟩
  have hn2 : (v (47 + s)).toNat = n := by omega
  rw [hn2] at hC
  obtain ⟨C1, -, C3, C4⟩ := hC
  have hsv := svC_le (mltV v s h n) s n
  have o : ∀ j : Int, j ≠ 47 + s → ¬ (57 + 30 * s ≤ j ∧ j < 57 + 30 * s + 30) → ¬ (207 + 30 * s ≤ j ∧ j < 207 + 30 * s + 30) → ¬ (357 + 30 * s ≤ j ∧ j < 357 + 30 * s + 30) → j ≠ 52 + s → j ≠ 1878 → v' j = v j := fun j a1 a2 a3 a4 a5 a6 => by
    rw [C4 j a1 a2 a3 a4, mltV_out v (by omega) a5 a6]
  have e47 : v' (47 + s) = svC (mltV v s h n) s n := by
    rw [C1]
    show ((0 : Nat) : Int) + (svC (mltV v s h n) s n - 0) = _
    omega
  have e78 : v' 1878 = v 1878 + sumR (lossK v s h) n 0 := by
    rw [C4 _ (by omega) (by omega) (by omega) (by omega)]
    unfold mltV; rw [if_neg (by omega), if_neg (by omega), if_pos rfl]
  have er : rowSum v' 207 s = rowSum v 207 s + (- sumR (lossK v s h) n 0) := by
    unfold rowSum
    rw [e47, hn2, svC_sum (m := mltV v s h n) (v' := v') (s := s) n (fun j hj hne => by
      have := (C3 j (by omega) hj hne).2.1
      rw [← this]
      refine congrArg v' ?_
      show 207 + (30 * s + svC (mltV v s h n) s j) = 207 + (30 * s + (((0 : Nat) : Int) + (svC (mltV v s h n) s j - 0)))
      omega)]
    rw [sumR_cg (f := fun j => mltV v s h n (207 + (30 * s + j))) (g := fun j => v (207 + (30 * s + j)) - lossK v s h j) (fun j a b => by
      show mltV v s h n (207 + (30 * s + j)) = v (207 + (30 * s + j)) - lossK v s h j
      unfold mltV
      rw [if_pos (by omega), show 207 + (30 * s + j) - (207 + 30 * s) = j by omega]), sumR_sub (f := fun j => v (207 + (30 * s + j)))]
    omega
  have := storedF_one (v' := v') hI h0 h1 (o _ (by omega) (by omega) (by omega) (by omega) (by omega) (by omega)) (fun q a b c => o _ (by omega) (by omega) (by omega) (by omega) (by omega) (by omega)) (fun j a b c => o _ (by omega) (by omega) c (by omega) (by omega) (by omega)) er
  omega
/-- accounts' sums -/
theorem entV_sum {v : VI} (hI : IA v) {b d m p : Int} (b0 : 0 ≤ b) (b1 : b < 8) (d0 : 0 ≤ d) (d1 : d ≤ 1) : sumR (fun a => entV v b d m p (1843 + a)) 16 0 = sumR (fun a => v (1843 + a)) 16 0 + m ∧ sumR (fun a => entV v b d m p (1859 + a)) 16 0 = sumR (fun a => v (1859 + a)) 16 0 + p ∧ (∀ x : Int, (∀ a : Int, 0 ≤ a → a < v 1886 → v (1811 + a) < x) → b < x → ∀ a : Int, 0 ≤ a → a < entV v b d m p 1886 → entV v b d m p (1811 + a) < x) := by
  have hb := hI.1
  rcases accOf_in hI b d with c | c
  · have hr := acc_room hI b0 b1 d0 d1 c.1
    have e : entV v b d m p = upV (upV (upV (upV (upV v 1886 (v 1886 + 1)) (1811 + v 1886) b) (1827 + v 1886) d) (1843 + v 1886) (v (1843 + v 1886) + m)) (1859 + v 1886) (v (1859 + v 1886) + p) := by unfold entV; rw [if_pos c.1]
    rw [e]
    refine ⟨sumR_at (p := v 1886) hb.1 (by omega) (fun j a a' c' => ?_) ?_, sumR_at (p := v 1886) hb.1 (by omega) (fun j a a' c' => ?_) ?_, fun x hx hbx a a0 a1 => ?_⟩
    · simp (disch := omega) only [upV_ne]
    · simp (disch := omega) only [upV_ne, upV_same]
    · simp (disch := omega) only [upV_ne]
    · simp (disch := omega) only [upV_ne, upV_same]
    · simp (disch := omega) only [upV_ne, upV_same] at a1
      by_cases q : a = v 1886
      · subst q; simp (disch := omega) only [upV_ne, upV_same]; exact hbx
      · simp (disch := omega) only [upV_ne]; exact hx a a0 (by omega)
  · have e : entV v b d m p = upV (upV v (1843 + accOf v b d) (v (1843 + accOf v b d) + m)) (1859 + accOf v b d) (v (1859 + accOf v b d) + p) := by unfold entV; rw [if_neg (by omega)]
    rw [e]
    refine ⟨sumR_at (p := accOf v b d) c.1 (by omega) (fun j a a' c' => ?_) ?_, sumR_at (p := accOf v b d) c.1 (by omega) (fun j a a' c' => ?_) ?_, fun x hx hbx a a0 a1 => ?_⟩
    · simp (disch := omega) only [upV_ne]
    · simp (disch := omega) only [upV_ne, upV_same]
    · simp (disch := omega) only [upV_ne]
    · simp (disch := omega) only [upV_ne, upV_same]
    · rw [upV_ne _ _ (by omega), upV_ne _ _ (by omega)] at a1
      rw [upV_ne _ _ (by omega), upV_ne _ _ (by omega)]
      exact hx a a0 a1
/-- what a turn delivers leaves the store -/
theorem nxt_st {T : Int} {v : VI} {b o : Int} (hI : IS T v) (hA : IA (nxtU v b o)) (b0 : 0 ≤ b) (b1 : b < 8) (o0 : 0 ≤ o) (o1 : o < 200) (hq : oldQ v ≠ -1) : storedF (nxtV v b o) = storedF v - v (207 + oldQ v) := by
  have hs := old_sk hI (oldQ_isB hI) hq
  have hb := hI.1
  have hd := bandF_b v
  have rm : accOf (nxtU v b o) b (bandF v) = -1 → nxtU v b o 1886 < 16 := fun h => acc_room hA b0 b1 (by omega) (by omega) h
  have hnr : ∀ j : Int, (32 ≤ j ∧ j < 507) ∨ j = 1880 → nxtV v b o j = remV v (oldQ v / 30) (oldQ v % 30) j := fun j a => by
    unfold nxtV
    rw [entV_out hA rm ⟨by omega, by omega⟩]
    unfold nxtU
    rw [upV_ne _ _ (by omega), upV_ne _ _ (by omega), upV_ne _ _ (by omega), upV_ne _ _ (by omega), upV_ne _ _ (by omega)]
  have ISr := hI.rem hs.1 hs.2.1 hs.2.2.1 hs.2.2.2.1
  have e80 : remV v (oldQ v / 30) (oldQ v % 30) 1880 = v 1880 := by
    have hz := hI.sz hs.1 (show oldQ v / 30 < 5 by omega)
    unfold remV; rw [upV_ne _ _ (by omega), shV_out v (by omega)]
  rw [storedF_cg ISr (hnr _ (by omega)) (fun s a b => hnr _ (by omega)) (fun j a b => hnr _ (by omega)), storedF_rem hI hs.1 hs.2.1 hs.2.2.1 hs.2.2.2.1, ← hs.2.2.2.2]
theorem srv_st {T : Int} {v0 : VI} {b o d rem0 : Int} (F : Fx T v0 b o d rem0) : ∀ (n : Nat) (M P : Int) (v : VI), Lp T v0 b o d rem0 M P v → storedF (srvS o b rem0 n M P v).2.2 + (srvS o b rem0 n M P v).1 = storedF v + M
  | 0, M, P, v, _ => rfl
  | n + 1, M, P, v, L => by
    have Fb := F.b
    unfold srvS
    by_cases c : rem0 ≤ M ∨ oldQ v = -1
    · rw [if_pos c]
    · rw [if_neg c]
      have hx := L.next F (fun q => c (Or.inr q)) (by omega)
      have ho := F.2.2.2.2.2.2.1
      rw [srv_st F n _ _ _ hx.1, nxt_st L.2.1 hx.2.2.2.2.2.2 (by omega) (by omega) ho.1 (by omega) (fun q => c (Or.inr q))]
      omega
theorem CW.srv {T : Int} {v0 : VI} {b o d rem0 M P : Int} {v : VI} (F : Fx T v0 b o d rem0) (h : CW v0) (L : Lp T v0 b o d rem0 M P v) (hst : storedF v + M = storedF v0) : CW v := by
  have Fb := F.b
  obtain ⟨⟨L1, L2, L3, L4, L5, L6, L7⟩, LS, LA, M0, P0, MB, PB, MR0, MP⟩ := L
  have hA0 : IA v0 := F.2.2.2.1
  have hAb := hA0.1
  have hd : 0 ≤ d ∧ d ≤ 1 := by omega
  have ho := F.2.2.2.2.2.2.1
  obtain ⟨h1, h2, h3, h4, h5, h6⟩ := h
  have g : ∀ j : Int, j = 1876 ∨ j = 1878 ∨ j = 1881 ∨ j = 1884 ∨ (515 ≤ j ∧ j < 531 ∧ j ≠ 515 + b ∧ j ≠ 523 + b) → v j = v0 j := fun j a => L7 j (by omega) (by omega) (by omega) (by omega) (by omega) (by omega) (by omega) (by omega) (by omega)
  obtain ⟨q1, q2, q3⟩ := entV_sum hA0 (b := b) (d := d) (m := M) (p := P) (by omega) (by omega) hd.1 hd.2
  have s1 : sumR (fun a => v (1843 + a)) 16 0 = sumR (fun a => v0 (1843 + a)) 16 0 + M := by
    by_cases c : M = 0
    · rw [c, Int.add_zero]
      exact sumR_cg fun j a a' => by
        show v (1843 + j) = v0 (1843 + j)
        rw [L6 _ (by omega), if_pos c]
    · rw [← q1]
      exact sumR_cg fun j a a' => by
        show v (1843 + j) = entV v0 b d M P (1843 + j)
        rw [L6 _ (by omega), if_neg c]
  have s2 : sumR (fun a => v (1859 + a)) 16 0 = sumR (fun a => v0 (1859 + a)) 16 0 + P := by
    by_cases c : M = 0
    · rw [MP c, Int.add_zero]
      exact sumR_cg fun j a a' => by
        show v (1859 + j) = v0 (1859 + j)
        rw [L6 _ (by omega), if_pos c]
    · rw [← q2]
      exact sumR_cg fun j a a' => by
        show v (1859 + j) = entV v0 b d M P (1859 + j)
        rw [L6 _ (by omega), if_neg c]
  have s3 : sumR (fun a => v (523 + a)) 8 0 = sumR (fun a => v0 (523 + a)) 8 0 + M := sumR_at (p := b) (by omega) (by omega) (fun j a a' c => g _ (by omega)) L3
  have s4 : sumR (fun a => v (515 + a)) 8 0 = sumR (fun a => v0 (515 + a)) 8 0 + P := sumR_at (p := b) (by omega) (by omega) (fun j a a' c => g _ (by omega)) L2
  refine ⟨?_, ?_, ?_, ?_, ?_, ?_⟩
  · rw [g 1876 (by omega), g 1878 (by omega), L4]; omega
  · rw [s3, L4, h2]
  · rw [s1, L4, h3]
  · rw [s2, L5, h4]
  · rw [s4, L5, g 1884 (by omega), h5]; omega
  · rw [g 1881 (by omega)]
    intro a a0 a1
    rw [L6 1886 (by omega)] at a1
    have hle : v 1886 ≤ 16 := LA.1.2
    have a1' : a < v 1886 := by rw [L6 1886 (by omega)]; exact a1
    rw [L6 (1811 + a) (by omega)]
    by_cases c : M = 0
    · rw [if_pos c] at a1 ⊢; exact h6 a a0 a1
    · rw [if_neg c] at a1 ⊢; exact q3 (v0 1881) h6 (by omega) a a0 a1
theorem CW.turn {T : Int} {v0 : VI} {o : Int} (h : Pn T v0) (hc : CW v0) (o0 : 0 ≤ o) (o1 : o < v0 1882) (hz : v0 (1531 + o) = 0) : CW (turnV o v0) := by
  have F := h.fx o0 o1 hz
  have Fb := F.b
  unfold turnV
  by_cases c : v0 3 < v0 (515 + v0 (531 + o)) ∨ (v0 (1331 + o) = 1 ∧ storedF v0 < remF v0 o)
  · rw [if_pos c]; exact hc
  · rw [if_neg c]
    have L := Lp.fin F (blocksF v0).toNat 0 0 v0 (Lp0 F)
    have st := srv_st F (blocksF v0).toNat 0 0 v0 (Lp0 F)
    generalize srvS o (v0 (531 + o)) (remF v0 o) (blocksF v0).toNat 0 0 v0 = r at L st ⊢
    have hr := CW.srv F hc L (by omega)
    have hk : 0 ≤ r.2.2 1885 ∧ r.2.2 1885 ≤ 16 := by
      rw [L.1.2.2.2.2.2.2 1885 (by omega) (by omega) (by omega) (by omega) (by omega) (by omega) (by omega) (by omega) (by omega)]; exact h.2.2.2.2.2.2.1
    exact hr.cg L.2.1 L.2.2.1.1.2 fun j a => endV_out hk o0 (by omega) (by omega) (by omega) (by omega)
theorem CW.del {T : Int} {sq : Int → Int} {e : Int} : ∀ (n : Nat) (p : Int) (v : VI), 0 ≤ p → p + n = e → Pn T v → SqO sq p e v → CW v → CW (delS sq n p v)
  | 0, p, v, _, _, _, _, h => h
  | n + 1, p, v, p0, hn, h, hs, hc => by
    have hx := hs.next h p0 (by omega)
    have hp := hs.1 p (Int.le_refl _) (by omega)
    exact CW.del n (p + 1) _ (by omega) (by omega) hx.2 hx.1 (CW.turn h hc hp.1 hp.2.1 hp.2.2)
/-! the calls' own worlds -/
theorem CW.pay {T : Int} {v v' : VI} {a x : Int} (h : CW v) (hI : IS T v) (hA : 0 ≤ v 1886 ∧ v 1886 ≤ 16) (a0 : 0 ≤ a) (a1 : a < 8) (e : ∀ j : Int, j ≠ 515 + a → j ≠ 1884 → v' j = v j) (e1 : v' (515 + a) = v (515 + a) - x) (e2 : v' 1884 = v 1884 + x) : CW v' := by
  have hb := hI.1
  obtain ⟨h1, h2, h3, h4, h5, h6⟩ := h
  have es : storedF v' = storedF v := storedF_cg hI (e _ (by omega) (by omega)) (fun s a b => e _ (by omega) (by omega)) (fun j a b => e _ (by omega) (by omega))
  have s5 : sumR (fun b => v' (515 + b)) 8 0 = sumR (fun b => v (515 + b)) 8 0 + -x := sumR_at (p := a) (by omega) (by omega) (fun j b b' c => e _ (by omega) (by omega)) (by show v' (515 + a) = v (515 + a) + -x; omega)
  refine ⟨?_, ?_, ?_, ?_, ?_, ?_⟩
  · rw [e 1876 (by omega) (by omega), e 1877 (by omega) (by omega), e 1878 (by omega) (by omega), es]; exact h1
  · rw [e 1877 (by omega) (by omega), ← h2]; exact sumR_cg fun j b b' => e _ (by omega) (by omega)
  · rw [e 1877 (by omega) (by omega), ← h3]; exact sumR_cg fun j b b' => e _ (by omega) (by omega)
  · rw [e 1883 (by omega) (by omega), ← h4]; exact sumR_cg fun j b b' => e _ (by omega) (by omega)
  · rw [s5, e 1883 (by omega) (by omega), e2, h5]; omega
  · intro b b0 b1
    rw [e 1886 (by omega) (by omega)] at b1
    rw [e (1811 + b) (by omega) (by omega), e 1881 (by omega) (by omega)]; exact h6 b b0 b1
/-- what changes the silos alone, and not what is stored -/
theorem CW.sto {v v' : VI} (h : CW v) (hA : 0 ≤ v 1886 ∧ v 1886 ≤ 16) (es : storedF v' = storedF v) (e : ∀ j : Int, 507 ≤ j → j ≠ 1880 → v' j = v j) : CW v' := by
  obtain ⟨h1, h2, h3, h4, h5, h6⟩ := h
  refine ⟨?_, ?_, ?_, ?_, ?_, ?_⟩
  · rw [e 1876 (by omega) (by omega), e 1877 (by omega) (by omega), e 1878 (by omega) (by omega), es]; exact h1
  · rw [e 1877 (by omega) (by omega), ← h2]; exact sumR_cg fun j b b' => e _ (by omega) (by omega)
  · rw [e 1877 (by omega) (by omega), ← h3]; exact sumR_cg fun j b b' => e _ (by omega) (by omega)
  · rw [e 1883 (by omega) (by omega), ← h4]; exact sumR_cg fun j b b' => e _ (by omega) (by omega)
  · rw [e 1883 (by omega) (by omega), e 1884 (by omega) (by omega), ← h5]; exact sumR_cg fun j b b' => e _ (by omega) (by omega)
  · intro b b0 b1
    rw [e 1886 (by omega) (by omega)] at b1
    rw [e (1811 + b) (by omega) (by omega), e 1881 (by omega) (by omega)]; exact h6 b b0 b1
theorem storedF_sil {T : Int} {v : VI} (hI : IS T v) (hlt : v 1880 < 5) (c r t : Int) : storedF (silV v c r t) = storedF v := by
  have hb := hI.1
  have e80 : silV v c r t 1880 = v 1880 + 1 := by unfold silV; rw [upV_same]
  have o : ∀ j : Int, ¬ (32 ≤ j ∧ j < 47) → j ≠ 1880 → silV v c r t j = v j := fun j a b => by
    unfold silV; rw [upV_ne _ _ b, upV_ne _ _ (by omega), upV_ne _ _ (by omega), upV_ne _ _ (by omega)]
  have z := ((hI.2.2.1 (v 1880) hb.1 hlt).2.2.2.2.2 (Int.le_refl _)).1
  obtain ⟨n, hn⟩ : ∃ n : Nat, v 1880 = n := ⟨(v 1880).toNat, by omega⟩
  have ez : rowSum (silV v c r t) 207 (v 1880) = 0 := by
    unfold rowSum
    rw [o _ (by omega) (by omega), z]; rfl
  unfold storedF massS
  rw [e80, show (v 1880 + 1).toNat = n + 1 by omega, show (v 1880).toNat = n by omega, sumR_last, show (0 : Int) + (n : Int) = v 1880 by omega, ez, Int.add_zero]
  refine sumR_cg fun q q0 q1 => ?_
  have hz := hI.sz q0 (show q < 5 by omega)
  exact rowSum_cg (by omega) (o _ (by omega) (by omega)) (fun j a b => o _ (by omega) (by omega))
theorem rowSum_top {v v' : VI} {s : Int} (h0 : 0 < v (47 + s)) (e1 : v' (47 + s) = v (47 + s) - 1) (e2 : ∀ k : Int, 0 ≤ k → k < v (47 + s) - 1 → v' (207 + (30 * s + k)) = v (207 + (30 * s + k))) : rowSum v' 207 s = rowSum v 207 s - v (207 + (30 * s + (v (47 + s) - 1))) := by
  obtain ⟨n, hn⟩ : ∃ n : Nat, v (47 + s) = ((n + 1 : Nat) : Int) := ⟨(v (47 + s) - 1).toNat, by omega⟩
  unfold rowSum
  rw [e1, show (v (47 + s) - 1).toNat = n by omega, show (v (47 + s)).toNat = n + 1 by omega, sumR_last, show v (47 + s) - 1 = 0 + (n : Int) by omega]
  rw [sumR_cg (f := fun j => v' (207 + (30 * s + j))) (g := fun j => v (207 + (30 * s + j))) (fun j a b => e2 j a (by omega))]
  omega
theorem storedF_mov {T : Int} {v : VI} (hI : IS T v) {s t : Int} (h1 : 0 ≤ s) (h2 : s < v 1880) (h3 : 0 ≤ t) (h4 : t < v 1880) (hst : s ≠ t) (hs : 0 < v (47 + s)) (ht : v (47 + t) < v (32 + t)) : storedF (movV v s t) = storedF v := by
  have hb := hI.1
  have hzs := hI.sz (s := s) h1 (by omega)
  have hzt := hI.sz (s := t) h3 (by omega)
  have o : ∀ j : Int, j ≠ 57 + (30 * t + v (47 + t)) → j ≠ 207 + (30 * t + v (47 + t)) → j ≠ 357 + (30 * t + v (47 + t)) → j ≠ 47 + s → j ≠ 47 + t → movV v s t j = v j := fun j a b c d e => by
    unfold movV filV
    rw [upV_ne _ _ d, upV_ne _ _ e, upV_ne _ _ c, upV_ne _ _ b, upV_ne _ _ a]
  have es : movV v s t (47 + s) = v (47 + s) - 1 := by unfold movV; rw [upV_same]
  have et : movV v s t (47 + t) = v (47 + t) + 1 := by unfold movV; rw [upV_ne _ _ (by omega), upV_same]
  have e207 : movV v s t (207 + (30 * t + v (47 + t))) = v (207 + (30 * s + (v (47 + s) - 1))) := by
    unfold movV filV; rw [upV_ne _ _ (by omega), upV_ne _ _ (by omega), upV_ne _ _ (by omega), upV_same]
  have rt := rowSum_add (v := v) (v' := movV v s t) (s := t) hzt.1 et (fun k k0 k1 => o _ (by omega) (by omega) (by omega) (by omega) (by omega)) e207
  have rs := rowSum_top (v := v) (v' := movV v s t) (s := s) hs es (fun k k0 k1 => o _ (by omega) (by omega) (by omega) (by omega) (by omega))
  unfold storedF massS
  rw [o 1880 (by omega) (by omega) (by omega) (by omega) (by omega)]
  refine sumR_two (p := t) (q := s) ⟨h3, by omega⟩ ⟨h1, by omega⟩ (fun h => hst h.symm) (fun q q0 q1 c d => ?_) rt rs
  have hz := hI.sz q0 (show q < 5 by omega)
  exact rowSum_cg (by omega) (o _ (by omega) (by omega) (by omega) (by omega) (by omega)) (fun j a b => o _ (by omega) (by omega) (by omega) (by omega) (by omega))
