/-- the world at the start, as numbers -/
def v00 : VI := fun i => if 8 ≤ i ∧ i < 32 then 10 else if i = 7 then 10 else if i = 6 then 5000 else if i = 5 then 15 else if i = 4 then 20 else if i = 3 then 100000 else if i = 1 then 2 else if i = 0 then 50 else 0
theorem v00_t {i : Int} (h0 : 8 ≤ i) (h1 : i < 32) : v00 i = 10 := by unfold v00; rw [if_pos ⟨h0, h1⟩]
theorem v00_z {i : Int} (h : 32 ≤ i) : v00 i = 0 := by
  unfold v00
  rw [if_neg (by omega), if_neg (by omega), if_neg (by omega), if_neg (by omega), if_neg (by omega), if_neg (by omega), if_neg (by omega), if_neg (by omega)]
theorem v00_s : v00 0 = 50 ∧ v00 1 = 2 ∧ v00 2 = 0 ∧ v00 3 = 100000 ∧ v00 4 = 20 ∧ v00 5 = 15 ∧ v00 6 = 5000 ∧ v00 7 = 10 := by unfold v00; decide
theorem v00_o : openC v00 = 0 := by
  unfold openC
  rw [v00_z (by omega)]
  rfl
theorem v00_pl : Pl v00 ∧ v00 1875 ≤ 10000 := by
  obtain ⟨s0, s1, s2, s3, s4, s5, s6, s7⟩ := v00_s
  have z : ∀ i : Int, 32 ≤ i → v00 i = 0 := fun i h => v00_z h
  refine ⟨⟨?_, ?_, ?_, ?_, ?_, by rw [z _ (by omega)]; omega, by rw [z _ (by omega)]; omega, by rw [z 1878 (by omega), z 52 (by omega), z 53 (by omega), z 54 (by omega), z 55 (by omega), z 56 (by omega)]; omega, by rw [z 1876 (by omega), z 1875 (by omega)]; omega, by rw [z 1877 (by omega), z 1875 (by omega)]; omega, by rw [z 1879 (by omega), z 1875 (by omega)]; omega⟩, by rw [z _ (by omega)]; omega⟩
  · refine ⟨by omega, by omega, by omega, by omega, by omega, by omega, by omega, by omega, fun h h0 h1 => ?_⟩
    rw [v00_t (by omega) (by omega)]; omega
  · refine ⟨by rw [z _ (by omega)]; omega, fun b b0 b1 => ?_⟩
    rw [z (507 + b) (by omega), z (515 + b) (by omega), z (523 + b) (by omega), z 1881 (by omega), z 1875 (by omega)]
    omega
  · refine ⟨by rw [z _ (by omega)]; omega, by rw [v00_o]; omega, fun o o0 o1 => ?_⟩
    rw [z (931 + o) (by omega), z (1131 + o) (by omega), z (1331 + o) (by omega), z (1531 + o) (by omega), z 1882 (by omega)]
    refine ⟨by omega, by omega, by omega, by omega, fun _ => ⟨rfl, rfl⟩, fun h => by omega⟩
  · refine ⟨by rw [z _ (by omega)]; omega, fun a a0 a1 => by rw [z 1886 (by omega)] at a1; omega, fun a b a0 a1 a2 => by rw [z 1886 (by omega)] at a2; omega, fun a a0 a1 => ?_⟩
    rw [z 1886 (by omega)] at a0
    rw [z (1843 + a) (by omega), z (1859 + a) (by omega)]
    exact ⟨rfl, rfl⟩
  · refine ⟨by rw [z _ (by omega)]; omega, by rw [z 1887 (by omega), z 1875 (by omega)]; omega, fun s q0 q1 => ?_, fun s k q0 q1 k0 k1 => by rw [z (47 + s) (by omega)] at k1; omega⟩
    rw [z (32 + s) (by omega), z (37 + s) (by omega), z (42 + s) (by omega), z (47 + s) (by omega), z (52 + s) (by omega), z 1880 (by omega), z 1875 (by omega)]
    omega
theorem sumR_zero {f : Int → Int} : ∀ {n : Nat} {s : Int}, (∀ j : Int, s ≤ j → j < s + n → f j = 0) → sumR f n s = 0
  | 0, _, _ => rfl
  | n + 1, s, h => by
    show f s + sumR f n (s + 1) = 0
    rw [h s (by omega) (by omega), sumR_zero (fun j a b => h j (by omega) (by omega))]; rfl
theorem v00_c : CW v00 := by
  have z : ∀ i : Int, 32 ≤ i → v00 i = 0 := fun i h => v00_z h
  have es : storedF v00 = 0 := by
    unfold storedF massS
    rw [z 1880 (by omega)]; rfl
  refine ⟨?_, ?_, ?_, ?_, ?_, ?_⟩
  · rw [z 1876 (by omega), z 1877 (by omega), z 1878 (by omega), es]; rfl
  · rw [z 1877 (by omega)]; exact sumR_zero fun j a b => z _ (by omega)
  · rw [z 1877 (by omega)]; exact sumR_zero fun j a b => z _ (by omega)
  · rw [z 1883 (by omega)]; exact sumR_zero fun j a b => z _ (by omega)
  · rw [z 1883 (by omega), z 1884 (by omega)]; exact sumR_zero fun j a b => z _ (by omega)
  · intro a a0 a1
    rw [z 1886 (by omega)] at a1; omega
theorem v00_k : PK v00 := ⟨v00_pl.1, v00_pl.2, v00_c⟩
/-- so a plant begins -/
theorem LQ_0 {mZ mP0 : Mem} {nZ : MemL} {hs : Nat → PSt} (z0 : ∀ k j, mZ k j = 0) (y0 : ∀ k j, nZ k j = 0) (e0 : ∀ j, j < 8 → mP0 0 j = ([50, 2, 0, 100000, 20, 15, 5000, 10] : List Int32).getD j 0) (e1 : ∀ j, j < 24 → mP0 1 j = 10) (e7 : ∀ k, 7 ≤ k → k ≤ 10 → mP0 k 0 = 0) :
    LQ mP0 nZ mZ mZ mZ mZ mZ nZ mZ hs := by
  obtain ⟨s0, s1, s2, s3, s4, s5, s6, s7⟩ := v00_s
  have z : ∀ i : Int, 32 ≤ i → v00 i = 0 := fun i h => v00_z h
  have c0 : (0 : Int32) = zI 0 := by decide
  have d0 : (0 : Int64) = zL 0 := by decide
  have rz : ∀ (n : Int) (k : Nat) (b : Int), 32 ≤ b → Row n (mZ k) (fun i => v00 (b + i)) := fun n k b hb i i0 i1 => by
    rw [z0, c0]
    show zI 0 = zI (v00 (b + i))
    rw [z _ (by omega)]
  have rl : ∀ (n : Int) (k : Nat) (b : Int), 32 ≤ b → RowL n (nZ k) (fun i => v00 (b + i)) := fun n k b hb i i0 i1 => by
    rw [y0, d0]
    show zL 0 = zL (v00 (b + i))
    rw [z _ (by omega)]
  have zc : ∀ (k : Nat) (i : Int), 32 ≤ i → mZ k 0 = zI (v00 i) := fun k i h => by rw [z0, z i h]; exact c0
  have lc : ∀ (k : Nat) (i : Int), 32 ≤ i → nZ k 0 = zL (v00 i) := fun k i h => by rw [y0, z i h]; exact d0
  have pc : ∀ (k : Nat) (i : Int), 7 ≤ k → k ≤ 10 → 32 ≤ i → mP0 k 0 = zI (v00 i) := fun k i k0 k1 h => by rw [e7 k k0 k1, z i h]; exact c0
  refine ⟨v00, 0, fun _ => v00, ⟨v00_k, by omega, fun k k0 k1 => by omega⟩, ⟨0, by omega, by rw [z 1875 (by omega)]; omega, ⟨?_, ?_, pc 7 1875 (by omega) (by omega) (by omega), pc 8 1876 (by omega) (by omega) (by omega), pc 9 1877 (by omega) (by omega) (by omega), pc 10 1879 (by omega) (by omega) (by omega), lc 11 1883 (by omega), lc 12 1884 (by omega)⟩, ?_, ?_, ?_, ?_, ?_⟩, ?_⟩
  · intro k k0 k1
    rw [z_nat k0 (by omega), e0 k.toNat (by omega)]
    obtain rfl | rfl | rfl | rfl | rfl | rfl | rfl | rfl : k = 0 ∨ k = 1 ∨ k = 2 ∨ k = 3 ∨ k = 4 ∨ k = 5 ∨ k = 6 ∨ k = 7 := by omega
    · rw [s0]; decide
    · rw [s1]; decide
    · rw [s2]; decide
    · rw [s3]; decide
    · rw [s4]; decide
    · rw [s5]; decide
    · rw [s6]; decide
    · rw [s7]; decide
  · intro k k0 k1
    rw [z_nat k0 (by omega), e1 k.toNat (by omega)]
    show (10 : Int32) = zI (v00 (8 + k))
    rw [v00_t (by omega) (by omega)]
    decide
  · exact ⟨zc 0 1880 (by omega), zc 1 1887 (by omega), rz 5 2 32 (by omega), rz 5 3 37 (by omega), rz 5 4 42 (by omega), rz 5 5 47 (by omega), rz 5 6 52 (by omega), fun s k q0 q1 k0 k1 => by rw [z (47 + s) (by omega)] at k1; omega⟩
  · exact ⟨zc 0 1881 (by omega), rz 8 1 507 (by omega), rz 8 2 515 (by omega), rz 8 3 523 (by omega)⟩
  · exact ⟨zc 0 1882 (by omega), by rw [z0, v00_o]; exact c0, rz 200 2 531 (by omega), rz 200 3 731 (by omega), rz 200 4 931 (by omega), rz 200 5 1131 (by omega), rz 200 6 1331 (by omega), rz 200 7 1531 (by omega), fun i i0 i1 => by rw [v00_o] at i1; omega⟩
  · refine ⟨by rw [z0]; exact c0, by omega, by rw [z 1885 (by omega), if_pos (by omega)], by rw [z0, if_pos (z 1885 (by omega))]; exact c0, fun i i0 i1 => by rw [z 1885 (by omega)] at i1; omega⟩
  · exact ⟨zc 0 1886 (by omega), rz 16 1 1811 (by omega), rz 16 2 1827 (by omega), rl 16 3 1843 (by omega), rl 16 4 1859 (by omega)⟩
  · exact ⟨0, by omega, by rw [z0]; exact c0, by rw [z0]; exact c0, fun k k0 k1 => by omega⟩
