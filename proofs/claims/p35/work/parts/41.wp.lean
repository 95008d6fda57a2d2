/-! an answer that is there, with a property -/
def Ev {α : Type} (x : Option α) (Q : α → Prop) : Prop := ∃ r, x = some r ∧ Q r
theorem Ev_some {α : Type} {r : α} {Q : α → Prop} (h : Q r) : Ev (some r) Q := ⟨r, rfl, h⟩
theorem Ev_of {α : Type} {x : Option α} {r : α} {Q : α → Prop} (e : x = some r) (h : Q r) : Ev x Q := ⟨r, e, h⟩
theorem Ev_mono {α : Type} {x : Option α} {Q R : α → Prop} (h : Ev x R) (hQ : ∀ r, R r → Q r) : Ev x Q := by
  obtain ⟨r, e, h⟩ := h; exact ⟨r, e, hQ r h⟩
theorem Ev_lt {α β : Type} {x : α} {k : α → Option β} {Q : β → Prop} (h : Ev (k x) Q) : Ev (lt' x k) Q := h
theorem Ev_gi {α : Type} {a : Int} {n : Nat} {x : Option α} {Q : α → Prop} (h1 : 0 ≤ a) (h2 : a < (n : Int)) (h3 : (n : Int) ≤ 2147483648) (h : Ev x Q) : Ev (gi (zI a) n x) Q := by rw [z_gi h1 h2 h3]; exact h
theorem Ev_if {α : Type} {c : Prop} [Decidable c] {x y : Option α} {Q : α → Prop} (h1 : c → Ev x Q) (h2 : ¬ c → Ev y Q) : Ev (if c then x else y) Q := by
  by_cases hc : c
  · rw [if_pos hc]; exact h1 hc
  · rw [if_neg hc]; exact h2 hc
theorem Ev_bd1 {α γ : Type} {x : Option α} {k : α → Option γ} {R : α → Prop} {Q : γ → Prop} (h : Ev x R) (hk : ∀ r, R r → Ev (k r) Q) : Ev (bd1 x k) Q := by
  obtain ⟨r, e, h⟩ := h; rw [e]; exact hk r h
theorem Ev_bd2 {α β γ : Type} {x : Option (α × β)} {k : α → β → Option γ} {R : α × β → Prop} {Q : γ → Prop} (h : Ev x R) (hk : ∀ r s, R (r, s) → Ev (k r s) Q) : Ev (bd2 x k) Q := by
  obtain ⟨⟨r, s⟩, e, h⟩ := h; rw [e]; exact hk r s h
theorem Ev_bd3 {α β δ γ : Type} {x : Option (α × β × δ)} {k : α → β → δ → Option γ} {R : α × β × δ → Prop} {Q : γ → Prop} (h : Ev x R) (hk : ∀ r s t, R (r, s, t) → Ev (k r s t) Q) : Ev (bd3 x k) Q := by
  obtain ⟨⟨r, s, t⟩, e, h⟩ := h; rw [e]; exact hk r s t h
theorem Ev_bd1e {α γ : Type} {x : Option α} {k : α → Option γ} {r : α} {Q : γ → Prop} (e : x = some r) (hk : Ev (k r) Q) : Ev (bd1 x k) Q := by rw [e]; exact hk
theorem Ev_gb {α : Type} {v : Int32} {x : Option α} {Q : α → Prop} (h : v = 0 ∨ v = 1) (hx : Ev x Q) : Ev (gb v x) Q := by rw [gb_s h]; exact hx
theorem Ev_gch {α : Type} {a : Int} {x : Option α} {Q : α → Prop} (h1 : 0 ≤ a) (h2 : a < 65536) (hx : Ev x Q) : Ev (gch (zI a) x) Q := by rw [gch_s h1 h2]; exact hx
/-- rows of whole numbers behind rows of the machine's -/
def nZ (a : Int) : Nat := (zI a).toNatClampNeg
theorem nZ_eq {a b : Int} (h1 : 0 ≤ a) (h2 : a < 2147483648) (h3 : 0 ≤ b) (h4 : b < 2147483648) : (zI a).toNatClampNeg = (zI b).toNatClampNeg ↔ a = b := by
  rw [z_nat h1 h2, z_nat h3 h4]; omega
/-- the row f holds the numbers g at its first n places -/
def Row (n : Int) (f : Nat → Int32) (g : VI) : Prop := ∀ k : Int, 0 ≤ k → k < n → f (zI k).toNatClampNeg = zI (g k)
def RowL (n : Int) (f : Nat → Int64) (g : VI) : Prop := ∀ k : Int, 0 ≤ k → k < n → f (zI k).toNatClampNeg = zL (g k)
theorem Row.wr {n : Int} {f : Nat → Int32} {g : VI} (h : Row n f g) {a : Int} (h1 : 0 ≤ a) (h2 : a < n) (h3 : n ≤ 2147483648) (x : Int) : Row n (upd f (zI a).toNatClampNeg (zI x)) (upV g a x) := by
  intro k k0 k1
  unfold upd upV
  by_cases e : k = a
  · rw [if_pos ((nZ_eq k0 (by omega) h1 (by omega)).mpr e), if_pos e]
  · rw [if_neg (fun q => e ((nZ_eq k0 (by omega) h1 (by omega)).mp q)), if_neg e]; exact h k k0 k1
theorem RowL.wr {n : Int} {f : Nat → Int64} {g : VI} (h : RowL n f g) {a : Int} (h1 : 0 ≤ a) (h2 : a < n) (h3 : n ≤ 2147483648) (x : Int) : RowL n (vp_updL f (zI a).toNatClampNeg (zL x)) (upV g a x) := by
  intro k k0 k1
  unfold vp_updL upV
  by_cases e : k = a
  · rw [if_pos ((nZ_eq k0 (by omega) h1 (by omega)).mpr e), if_pos e]
  · rw [if_neg (fun q => e ((nZ_eq k0 (by omega) h1 (by omega)).mp q)), if_neg e]; exact h k k0 k1
theorem Row.cg {n : Int} {f : Nat → Int32} {g g' : VI} (h : Row n f g) (e : ∀ k : Int, 0 ≤ k → k < n → g' k = g k) : Row n f g' := fun k k0 k1 => by rw [e k k0 k1]; exact h k k0 k1
theorem RowL.cg {n : Int} {f : Nat → Int64} {g g' : VI} (h : RowL n f g) (e : ∀ k : Int, 0 ≤ k → k < n → g' k = g k) : RowL n f g' := fun k k0 k1 => by rw [e k k0 k1]; exact h k k0 k1
theorem upd_rd (f : Nat → Int32) {a b : Int} (x : Int32) (h1 : 0 ≤ a) (h2 : a < 2147483648) (h3 : 0 ≤ b) (h4 : b < 2147483648) : upd f (zI a).toNatClampNeg x (zI b).toNatClampNeg = if b = a then x else f (zI b).toNatClampNeg := by
  unfold upd
  by_cases e : b = a
  · rw [if_pos ((nZ_eq h3 h4 h1 h2).mpr e), if_pos e]
  · rw [if_neg (fun q => e ((nZ_eq h3 h4 h1 h2).mp q)), if_neg e]
/-- the reference's world: its numbers v, what is saved, what is on trial -/
def MR (nM : MemL) (v : VI) (sv tv : Nat → Int64) : Prop := RowL 1888 (nM 0) v ∧ nM 1 = sv ∧ nM 2 = tv
theorem MR.rd {nM : MemL} {v : VI} {sv tv : Nat → Int64} (h : MR nM v sv tv) {a : Int} (h1 : 0 ≤ a) (h2 : a < 1888) : nM 0 (zI a).toNatClampNeg = zL (v a) := h.1 a h1 h2
theorem MR.wr {nM : MemL} {v : VI} {sv tv : Nat → Int64} (h : MR nM v sv tv) {a : Int} (h1 : 0 ≤ a) (h2 : a < 1888) (x : Int) : MR (wrL nM 0 (vp_updL (nM 0) (zI a).toNatClampNeg (zL x))) (upV v a x) sv tv := by
  refine ⟨?_, ?_, ?_⟩
  · rw [wrL_same]; exact h.1.wr h1 h2 (by omega) x
  · rw [wrL_ne _ _ (by decide)]; exact h.2.1
  · rw [wrL_ne _ _ (by decide)]; exact h.2.2
theorem Ev_wr {β : Type} {nM : MemL} {v : VI} {sv tv : Nat → Int64} (h : MR nM v sv tv) {a x : Int} {k : MemL → Option β} {Q : β → Prop} (h1 : 0 ≤ a) (h2 : a < 1888) (hk : ∀ nM', MR nM' (upV v a x) sv tv → Ev (k nM') Q) : Ev (lt' (wrL nM 0 (vp_updL (nM 0) (zI a).toNatClampNeg (zL x))) k) Q := hk _ (h.wr h1 h2 x)
theorem P_wr {β : Type} {P : Option β → Prop} {nM : MemL} {v : VI} {sv tv : Nat → Int64} (h : MR nM v sv tv) {a x : Int} {k : MemL → Option β} (h1 : 0 ≤ a) (h2 : a < 1888) (hk : ∀ nM', MR nM' (upV v a x) sv tv → P (k nM')) : P (lt' (wrL nM 0 (vp_updL (nM 0) (zI a).toNatClampNeg (zL x))) k) := hk _ (h.wr h1 h2 x)
theorem MR.cg {nM : MemL} {v v' : VI} {sv tv : Nat → Int64} (h : MR nM v sv tv) (e : ∀ k : Int, 0 ≤ k → k < 1888 → v' k = v k) : MR nM v' sv tv := ⟨h.1.cg e, h.2⟩
/-- the class's rows -/
def RS (mS : Mem) (v : VI) : Prop := mS 0 0 = zI (v 1880) ∧ mS 1 0 = zI (v 1887) ∧ Row 5 (mS 2) (fun s => v (32 + s)) ∧ Row 5 (mS 3) (fun s => v (37 + s)) ∧ Row 5 (mS 4) (fun s => v (42 + s)) ∧ Row 5 (mS 5) (fun s => v (47 + s)) ∧ Row 5 (mS 6) (fun s => v (52 + s)) ∧
  (∀ s k : Int, 0 ≤ s → s < 5 → 0 ≤ k → k < v (47 + s) → mS 7 (zI (30 * s + k)).toNatClampNeg = zI (v (57 + (30 * s + k))) ∧ mS 8 (zI (30 * s + k)).toNatClampNeg = zI (v (207 + (30 * s + k))) ∧ mS 9 (zI (30 * s + k)).toNatClampNeg = zI (v (357 + (30 * s + k))))
/-- what holds of the silos and of their blocks; T bounds the hours that have passed -/
def IS (T : Int) (v : VI) : Prop := (0 ≤ v 1880 ∧ v 1880 ≤ 5) ∧ (0 ≤ v 1887 ∧ v 1887 ≤ 12 * T ∧ 0 ≤ T ∧ T ≤ 10049 ∧ 0 ≤ v 1875 ∧ v 1875 ≤ 10049) ∧
  (∀ s : Int, 0 ≤ s → s < 5 → (0 ≤ v (32 + s) ∧ v (32 + s) ≤ 30) ∧ (0 ≤ v (37 + s) ∧ v (37 + s) ≤ 3) ∧ (0 ≤ v (42 + s) ∧ v (42 + s) ≤ 100) ∧ (0 ≤ v (47 + s) ∧ v (47 + s) ≤ v (32 + s)) ∧ (0 ≤ v (52 + s) ∧ v (52 + s) ≤ 6000 * T) ∧ (v 1880 ≤ s → v (47 + s) = 0 ∧ v (52 + s) = 0)) ∧
  (∀ s k : Int, 0 ≤ s → s < 5 → 0 ≤ k → k < v (47 + s) → (0 ≤ v (57 + (30 * s + k)) ∧ v (57 + (30 * s + k)) < v 1887) ∧ (1 ≤ v (207 + (30 * s + k)) ∧ v (207 + (30 * s + k)) ≤ 200) ∧ (0 ≤ v (357 + (30 * s + k)) ∧ v (357 + (30 * s + k)) ≤ v 1875))
