/-! the relation between object and reference (written by wip/whole/c_rel.py) -/
/-- the cells of a State and a row of the reference at b0 -/
def StR (P : Zf) (c r : Nat → Int32) (b0 : Nat) : Prop :=
  (∀ b j, b < 10 → j < 8 → c (9 * b + j) = r (b0 + 8 * b + j)) ∧ (∀ l j, l < 12 → l < pN P 31 0 → j < 5 → c (90 + 5 * l + j) = r (b0 + 80 + 10 * l + j) ∧ c (155 + 5 * l + j) = r (b0 + 85 + 10 * l + j)) ∧ (∀ s, s < 4 → c (215 + s) = r (b0 + 200 + s)) ∧ (∀ k, k < 5 → c (219 + k) = r (b0 + 204 + k)) ∧ (∀ k, k < 5 → c (150 + k) = 0) ∧ (∀ b, b < 10 → b < pN P 30 3 → c (9 * b + 8) = P 4 b) ∧ c 224 = P 30 1 ∧ (r (b0 + 206) = -1 ∨ r (b0 + 207) = 0)
theorem StR.cg {P : Zf} {c c' r r' : Nat → Int32} {b0 b1 : Nat} (h : StR P c r b0) (hc : ∀ i, i < 225 → c' i = c i) (hr : ∀ i, i < 210 → r' (b1 + i) = r (b0 + i)) : StR P c' r' b1 := by
  obtain ⟨h1, h2, h3, h4, h5, h6, h7, h8⟩ := h
  refine ⟨fun b j hb hj => ?_, fun l j hl hl2 hj => ⟨?_, ?_⟩, fun s hs => ?_, fun k hk => ?_, fun k hk => ?_, fun b hb hb2 => ?_, ?_, ?_⟩
  · rw [hc _ (by omega), h1 b j hb hj, Nat.add_assoc, Nat.add_assoc, hr _ (by omega)]
  · rw [hc _ (by omega), (h2 l j hl hl2 hj).1, show b1 + 80 + 10 * l + j = b1 + (80 + 10 * l + j) by omega, hr _ (by omega), show b0 + 80 + 10 * l + j = b0 + (80 + 10 * l + j) by omega]
  · rw [hc _ (by omega), (h2 l j hl hl2 hj).2, show b1 + 85 + 10 * l + j = b1 + (85 + 10 * l + j) by omega, hr _ (by omega), show b0 + 85 + 10 * l + j = b0 + (85 + 10 * l + j) by omega]
  · rw [hc _ (by omega), h3 s hs, Nat.add_assoc, Nat.add_assoc, hr _ (by omega)]
  · rw [hc _ (by omega), h4 k hk, Nat.add_assoc, Nat.add_assoc, hr _ (by omega)]
  · rw [hc _ (by omega)]; exact h5 k hk
  · rw [hc _ (by omega)]; exact h6 b hb hb2
  · rw [hc _ (by omega)]; exact h7
  · rw [hr 206 (by omega), hr 207 (by omega)]; exact h8
/-- a memory of acts, by their order: hb: what the history holds stands in Z at hb + 2p; w0, w1, base: the reference's count, first and rows -/
def HsR (P Z W : Zf) (kh hb w0 w1 base : Nat) : Prop := Z kh 0 = W 100 w0 ∧ ∀ k, k < pN Z kh 0 → StR P (Z (hb + 2 * ((pN Z kh 1 + k) % 40))) (W 0) (base + 210 * ((pN W 100 w1 + k) % 40))
def NtR (Z W : Zf) (kn w o : Nat) : Prop := Z kn 0 = W 100 w ∧ ∀ k, k < pN Z kn 0 → Z (kn + 1) k = W 14 (o + k) ∧ Z (kn + 2) k = W 15 (o + k) ∧ Z (kn + 3) k = W 16 (o + k)
def RfR (Z W : Zf) (kr o : Nat) : Prop := ∀ k, k < 3 → Z kr k = W 17 (o + k)
theorem HsR.cg {P Z Z' W W' : Zf} {kh hb w0 w1 base : Nat} (h : HsR P Z W kh hb w0 w1 base) (hz : Z' kh = Z kh) (hk : ∀ p, p < 40 → Z' (hb + 2 * p) = Z (hb + 2 * p)) (hw0 : W' 100 w0 = W 100 w0) (hw1 : W' 100 w1 = W 100 w1) (hr : ∀ i, base ≤ i → i < base + 8400 → W' 0 i = W 0 i) : HsR P Z' W' kh hb w0 w1 base := by
  obtain ⟨h1, h2⟩ := h
  refine ⟨by rw [hz, hw0]; exact h1, fun k q => ?_⟩
  have e0 : pN Z' kh 0 = pN Z kh 0 := by unfold pN; rw [hz]
  have e1 : pN Z' kh 1 = pN Z kh 1 := by unfold pN; rw [hz]
  have e2 : pN W' 100 w1 = pN W 100 w1 := by unfold pN; rw [hw1]
  rw [e0] at q
  rw [e1, e2]
  have m1 := Nat.mod_lt (pN Z kh 1 + k) (show 0 < 40 by decide)
  have m2 := Nat.mod_lt (pN W 100 w1 + k) (show 0 < 40 by decide)
  refine (h2 k q).cg (fun i _ => by rw [hk _ m1]) (fun i hi => hr _ (by omega) (by omega))
/-- the plan of the object, the bus of the reference -/
def PlR (P W : Zf) : Prop :=
  (P 30 0 = W 100 19 ∧ P 30 1 = W 100 22 ∧ P 30 2 = W 100 23 ∧ P 30 3 = W 100 20 ∧ P 31 0 = W 100 21 ∧ P 32 0 = W 100 42 ∧ P 32 1 = W 100 43) ∧
  (∀ b, b < pN P 30 3 → (P 0 b = W 3 b ∧ P 1 b = W 1 b ∧ P 2 b = W 2 b) ∧ (P 0 b = 0 → P 3 b = W 4 b) ∧ (P 0 b = 1 → P 4 b = W 4 b ∧ P 5 b = W 5 b ∧ P 7 b = W 6 b ∧ P 8 b = W 7 b) ∧ (P 0 b = 2 → P 3 b = W 4 b ∧ P 6 b = W 5 b) ∧ (P 0 b = 3 → P 9 b = W 4 b) ∧ P 18 b = W 34 b ∧ P 20 b = W 35 b ∧ P 21 b = W 36 b) ∧
  (∀ l, l < pN P 31 0 → P 12 l = W 8 l ∧ P 13 l = W 9 l ∧ P 14 l = W 10 l ∧ P 22 l = W 37 l ∧ P 23 l = W 38 l) ∧
  ∀ s, s < 4 → P 15 s = W 11 s ∧ (P 15 s ≠ -1 → P 16 s = W 12 s ∧ P 17 s = W 13 s)
theorem PlR.cg {P W W' : Zf} (h : PlR P W) (hi : ∀ k, k = 19 ∨ k = 20 ∨ k = 21 ∨ k = 22 ∨ k = 23 ∨ k = 42 ∨ k = 43 → W' 100 k = W 100 k) (hk : ∀ k, (1 ≤ k ∧ k ≤ 13) ∨ (34 ≤ k ∧ k ≤ 38) → W' k = W k) : PlR P W' := by
  unfold PlR at *
  rw [hi 19 (by omega), hi 20 (by omega), hi 21 (by omega), hi 22 (by omega), hi 23 (by omega), hi 42 (by omega), hi 43 (by omega), hk 1 (by omega), hk 2 (by omega), hk 3 (by omega), hk 4 (by omega), hk 5 (by omega), hk 6 (by omega), hk 7 (by omega), hk 8 (by omega), hk 9 (by omega), hk 10 (by omega), hk 11 (by omega), hk 12 (by omega), hk 13 (by omega), hk 34 (by omega), hk 35 (by omega), hk 36 (by omega), hk 37 (by omega), hk 38 (by omega)]
  exact h
