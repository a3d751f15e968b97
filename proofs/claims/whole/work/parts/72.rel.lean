/-! cells of a State against a row of the reference: where they stand, what they may hold, how a step on both sides keeps them alike -/
theorem ud_s {f : Nat → Int32} {k : Nat} {x : Int32} : upd f k x k = x := by simp [upd]
theorem ud_o {f : Nat → Int32} {k j : Nat} {x : Int32} (h : j ≠ k) : upd f k x j = f j := by simp [upd, h]
theorem ud_id (f : Nat → Int32) (k : Nat) : upd f k (f k) = f := by
  funext j
  by_cases e : j = k
  · subst e; exact ud_s
  · exact ud_o e
theorem ud_ud (f : Nat → Int32) (k : Nat) (x y : Int32) : upd (upd f k x) k y = upd f k y := by
  funext j
  by_cases e : j = k
  · subst e; rw [ud_s, ud_s]
  · rw [ud_o e, ud_o e, ud_o e]
theorem ud_cg {f g : Nat → Int32} {k i : Nat} {x y : Int32} (h : f i = g i) (e : x = y) : upd f k x i = upd g k y i := by
  subst e
  by_cases e : i = k
  · subst e; rw [ud_s, ud_s]
  · rw [ud_o e, ud_o e, h]
theorem ti_add {a b : Int32} (h1 : -2147483648 ≤ a.toInt + b.toInt) (h2 : a.toInt + b.toInt < 2147483648) : (a + b).toInt = a.toInt + b.toInt := by
  rw [Int32.toInt_add, Int.bmod_eq_of_le (by omega) (by omega)]
theorem ti_sub {a b : Int32} (h1 : -2147483648 ≤ a.toInt - b.toInt) (h2 : a.toInt - b.toInt < 2147483648) : (a - b).toInt = a.toInt - b.toInt := by
  rw [Int32.toInt_sub, Int.bmod_eq_of_le (by omega) (by omega)]
theorem ti_neg {a : Int32} (h1 : -2147483648 ≤ -a.toInt) (h2 : -a.toInt < 2147483648) : (-a).toInt = -a.toInt := by
  rw [Int32.toInt_neg, Int.bmod_eq_of_le (by omega) (by omega)]
theorem ti_eq {a b : Int32} (h : a.toInt = b.toInt) : a = b := Int32.toInt_inj.mp h
theorem ti_ne {a b : Int32} (h : ¬ a = b) : ¬ a.toInt = b.toInt := fun e => h (ti_eq e)
theorem t_0 : (0 : Int32).toInt = 0 := by decide
theorem t_1 : (1 : Int32).toInt = 1 := by decide
theorem t_2 : (2 : Int32).toInt = 2 := by decide
theorem t_3 : (3 : Int32).toInt = 3 := by decide
theorem t_99 : (99 : Int32).toInt = 99 := by decide
theorem t_1000 : (1000 : Int32).toInt = 1000 := by decide
theorem t_m1 : (-1 : Int32).toInt = -1 := by decide
theorem m1_ne {l : Nat} (h : l < 2 ^ 31) : ¬ nI l = -1 := by
  intro e
  have := congrArg Int32.toInt e
  rw [nI_toInt h, t_m1] at this
  omega
/-- where a cell of a State stands in a row -/
def ps (i : Nat) : Nat := if i < 90 then 8 * (i / 9) + i % 9 else if i < 150 then 80 + 10 * ((i - 90) / 5) + (i - 90) % 5 else if i < 215 then 85 + 10 * ((i - 155) / 5) + (i - 155) % 5 else i - 15
def Dm (n i : Nat) : Prop := i < 224 ∧ (i < 90 → i % 9 ≠ 8) ∧ (90 ≤ i → i < 150 → i < 90 + 5 * n) ∧ (i < 150 ∨ 155 ≤ i) ∧ (155 ≤ i → i < 215 → i < 155 + 5 * n)
theorem ps_inj {n i j : Nat} (hi : Dm n i) (hj : Dm n j) (h : ps i = ps j) : i = j := by
  unfold Dm at hi hj
  unfold ps at h
  by_cases a1 : i < 90
  · rw [if_pos a1] at h
    by_cases b1 : j < 90
    · rw [if_pos b1] at h; omega
    · rw [if_neg b1] at h
      by_cases b2 : j < 150
      · rw [if_pos b2] at h; omega
      · rw [if_neg b2] at h
        by_cases b3 : j < 215
        · rw [if_pos b3] at h; omega
        · rw [if_neg b3] at h; omega
  · rw [if_neg a1] at h
    by_cases a2 : i < 150
    · rw [if_pos a2] at h
      by_cases b1 : j < 90
      · rw [if_pos b1] at h; omega
      · rw [if_neg b1] at h
        by_cases b2 : j < 150
        · rw [if_pos b2] at h; omega
        · rw [if_neg b2] at h
          by_cases b3 : j < 215
          · rw [if_pos b3] at h; omega
          · rw [if_neg b3] at h; omega
    · rw [if_neg a2] at h
      by_cases a3 : i < 215
      · rw [if_pos a3] at h
        by_cases b1 : j < 90
        · rw [if_pos b1] at h; omega
        · rw [if_neg b1] at h
          by_cases b2 : j < 150
          · rw [if_pos b2] at h; omega
          · rw [if_neg b2] at h
            by_cases b3 : j < 215
            · rw [if_pos b3] at h; omega
            · rw [if_neg b3] at h; omega
      · rw [if_neg a3] at h
        by_cases b1 : j < 90
        · rw [if_pos b1] at h; omega
        · rw [if_neg b1] at h
          by_cases b2 : j < 150
          · rw [if_pos b2] at h; omega
          · rw [if_neg b2] at h
            by_cases b3 : j < 215
            · rw [if_pos b3] at h; omega
            · rw [if_neg b3] at h; omega
theorem ps_lt {n i : Nat} (hi : Dm n i) : ps i < 209 := by
  unfold Dm at hi
  unfold ps
  by_cases a1 : i < 90
  · rw [if_pos a1]; omega
  · rw [if_neg a1]
    by_cases a2 : i < 150
    · rw [if_pos a2]; omega
    · rw [if_neg a2]
      by_cases a3 : i < 215
      · rw [if_pos a3]; omega
      · rw [if_neg a3]; omega
theorem ps_b {k j : Nat} (hk : k < 10) (hj : j < 8) : ps (k * 9 + j) = 8 * k + j := by
  unfold ps; rw [if_pos (by omega)]; omega
theorem ps_l {l j : Nat} (hl : l < 12) (hj : j < 5) : ps (90 + l * 5 + j) = 80 + 10 * l + j := by
  unfold ps; rw [if_neg (by omega), if_pos (by omega)]; omega
theorem ps_k {l j : Nat} (hl : l < 12) (hj : j < 5) : ps (155 + l * 5 + j) = 80 + 10 * l + (j + 5) := by
  unfold ps; rw [if_neg (by omega), if_neg (by omega), if_pos (by omega)]; omega
theorem ps_s {i : Nat} (h : 215 ≤ i) : ps i = i - 15 := by
  unfold ps; rw [if_neg (by omega), if_neg (by omega), if_neg (by omega)]
theorem dm_b {n k j : Nat} (hk : k < 10) (hj : j < 8) : Dm n (k * 9 + j) := by unfold Dm; omega
theorem dm_l {n l j : Nat} (hl : l < n) (hn : n ≤ 12) (hj : j < 5) : Dm n (90 + l * 5 + j) := by unfold Dm; omega
theorem dm_k {n l j : Nat} (hl : l < n) (hn : n ≤ 12) (hj : j < 5) : Dm n (155 + l * 5 + j) := by unfold Dm; omega
theorem dm_s {n i : Nat} (h : 215 ≤ i) (h2 : i < 224) : Dm n i := by unfold Dm; omega
def RR (n : Nat) (c r : Nat → Int32) (b : Nat) : Prop := ∀ i, Dm n i → c i = r (b + ps i)
theorem RR.put {n : Nat} {c r : Nat → Int32} {b i j : Nat} {v w : Int32} (h : RR n c r b) (hi : Dm n i) (hj : j = b + ps i) (e : v = w) : RR n (upd c i v) (upd r j w) b := by
  intro k hk
  by_cases d : k = i
  · subst d; rw [ud_s, hj, ud_s, e]
  · rw [ud_o d, ud_o (by rw [hj]; intro x; exact d (ps_inj hk hi (by omega))), h k hk]
/-- what a cell may hold; K: the kinds, nd: how many devices -/
def Bd (K : Nat → Nat) (nd i : Nat) (v : Int32) : Prop :=
  (i < 90 → i % 9 < 2 → 0 ≤ v.toInt ∧ v.toInt ≤ 3 ∧ (K (i / 9) = 0 ∨ K (i / 9) = 3 → v.toInt ≤ 2)) ∧
  (i < 90 → i % 9 = 2 ∨ i % 9 = 3 → 0 ≤ v.toInt ∧ v.toInt ≤ 1000) ∧
  (i < 90 → i % 9 = 5 → v = 0 ∨ v = 1) ∧
  (90 ≤ i → i < 215 → i % 5 = 0 → 0 ≤ v.toInt ∧ v.toInt ≤ 1000) ∧
  (90 ≤ i → i < 150 → i % 5 = 1 → v = 0 ∨ v = 1) ∧
  (90 ≤ i → i < 215 → i % 5 = 4 → v.toInt ≤ 99) ∧
  (150 ≤ i → i < 155 → v = 0) ∧
  (215 ≤ i → i < 219 → 0 ≤ v.toInt ∧ v.toInt ≤ 1000) ∧
  (i = 220 → ∀ j, nd ≤ j → bt v j = false) ∧ (i = 221 → v = -1 ∨ ∃ j, j < nd ∧ v = nI j) ∧ (i = 222 → 0 ≤ v.toInt)
theorem bd_m {K : Nat → Nat} {nd k j : Nat} {v : Int32} (hk : k < 10) (hj : j < 2) (h : 0 ≤ v.toInt ∧ v.toInt ≤ 3 ∧ (K k = 0 ∨ K k = 3 → v.toInt ≤ 2)) : Bd K nd (k * 9 + j) v := by
  have e : (k * 9 + j) / 9 = k := by omega
  refine ⟨fun _ _ => by rw [e]; exact h, fun _ _ => by omega, fun _ _ => by exfalso; omega, fun _ _ _ => by omega, fun _ _ _ => by exfalso; omega, fun _ _ _ => by omega, fun _ _ => by exfalso; omega, fun _ _ => by omega, fun _ => by exfalso; omega, fun _ => by exfalso; omega, fun _ => by omega⟩
theorem bd_o {K : Nat → Nat} {nd k j : Nat} {v : Int32} (hk : k < 10) (hj : j = 2 ∨ j = 3) (h : 0 ≤ v.toInt ∧ v.toInt ≤ 1000) : Bd K nd (k * 9 + j) v := by
  refine ⟨fun _ _ => by exfalso; omega, fun _ _ => h, fun _ _ => by exfalso; omega, fun _ _ _ => by omega, fun _ _ _ => by exfalso; omega, fun _ _ _ => by omega, fun _ _ => by exfalso; omega, fun _ _ => by omega, fun _ => by exfalso; omega, fun _ => by exfalso; omega, fun _ => by omega⟩
theorem bd_g {K : Nat → Nat} {nd k : Nat} {v : Int32} (hk : k < 10) (h : v = 0 ∨ v = 1) : Bd K nd (k * 9 + 5) v := by
  refine ⟨fun _ _ => by exfalso; omega, fun _ _ => by exfalso; omega, fun _ _ => h, fun _ _ _ => by omega, fun _ _ _ => by exfalso; omega, fun _ _ _ => by omega, fun _ _ => by exfalso; omega, fun _ _ => by omega, fun _ => by exfalso; omega, fun _ => by exfalso; omega, fun _ => by omega⟩
theorem bd_x {K : Nat → Nat} {nd k j : Nat} {v : Int32} (hk : k < 10) (hj : j = 4 ∨ j = 6 ∨ j = 7 ∨ j = 8) : Bd K nd (k * 9 + j) v := by
  refine ⟨fun _ _ => by exfalso; omega, fun _ _ => by exfalso; omega, fun _ _ => by exfalso; omega, fun _ _ _ => by omega, fun _ _ _ => by exfalso; omega, fun _ _ _ => by omega, fun _ _ => by exfalso; omega, fun _ _ => by omega, fun _ => by exfalso; omega, fun _ => by exfalso; omega, fun _ => by omega⟩
theorem bd_l {K : Nat → Nat} {nd l j : Nat} {v : Int32} (hl : l < 12) (hj : j < 5) (h0 : j = 0 → 0 ≤ v.toInt ∧ v.toInt ≤ 1000) (h1 : j = 1 → v = 0 ∨ v = 1) (h4 : j = 4 → v.toInt ≤ 99) : Bd K nd (90 + l * 5 + j) v := by
  refine ⟨fun _ _ => by exfalso; omega, fun _ _ => by exfalso; omega, fun _ _ => by exfalso; omega, fun _ _ _ => h0 (by omega), fun _ _ _ => h1 (by omega), fun _ _ _ => h4 (by omega), fun _ _ => by exfalso; omega, fun _ _ => by omega, fun _ => by exfalso; omega, fun _ => by exfalso; omega, fun _ => by omega⟩
theorem bd_k {K : Nat → Nat} {nd l j : Nat} {v : Int32} (hl : l < 12) (hj : j < 5) (h0 : j = 0 → 0 ≤ v.toInt ∧ v.toInt ≤ 1000) (h4 : j = 4 → v.toInt ≤ 99) : Bd K nd (155 + l * 5 + j) v := by
  refine ⟨fun _ _ => by exfalso; omega, fun _ _ => by exfalso; omega, fun _ _ => by exfalso; omega, fun _ _ _ => h0 (by omega), fun _ _ _ => by exfalso; omega, fun _ _ _ => h4 (by omega), fun _ _ => by exfalso; omega, fun _ _ => by omega, fun _ => by exfalso; omega, fun _ => by exfalso; omega, fun _ => by omega⟩
theorem bd_s {K : Nat → Nat} {nd s : Nat} {v : Int32} (hs : s < 4) (h : 0 ≤ v.toInt ∧ v.toInt ≤ 1000) : Bd K nd (215 + s) v := by
  refine ⟨fun _ _ => by exfalso; omega, fun _ _ => by exfalso; omega, fun _ _ => by exfalso; omega, fun _ _ _ => by exfalso; omega, fun _ _ _ => by exfalso; omega, fun _ _ _ => by exfalso; omega, fun _ _ => by exfalso; omega, fun _ _ => h, fun _ => by exfalso; omega, fun _ => by exfalso; omega, fun _ => by exfalso; omega⟩
theorem bd_t {K : Nat → Nat} {nd i : Nat} {v : Int32} (hi : 219 ≤ i) (h0 : i = 220 → ∀ j, nd ≤ j → bt v j = false) (h1 : i = 221 → v = -1 ∨ ∃ j, j < nd ∧ v = nI j) (h2 : i = 222 → 0 ≤ v.toInt) : Bd K nd i v := by
  refine ⟨fun _ _ => by exfalso; omega, fun _ _ => by exfalso; omega, fun _ _ => by exfalso; omega, fun _ _ _ => by exfalso; omega, fun _ _ _ => by exfalso; omega, fun _ _ _ => by exfalso; omega, fun _ _ => by exfalso; omega, fun _ _ => by exfalso; omega, h0, h1, h2⟩
/-- a State and a row, alike -/
def StG (K : Nat → Nat) (nl nd nb : Nat) (G : Nat → Int32) (o : Int32) (b : Nat) (c r : Nat → Int32) : Prop :=
  RR nl c r b ∧ (∀ i, i < 225 → Bd K nd i (c i)) ∧ (∀ k, k < 10 → k < nb → K k = 1 → c (k * 9 + 8) = G k) ∧ c 224 = o ∧ (c 221 = -1 ∨ c 222 = 0)
/-- the same while a cycle goes by: r0: the rows beside it, x: how often a scheduler came, y: the scheduler -/
def CX (P W : Zf) (b : Nat) (r0 : Nat → Int32) (x y : Int32) (c r : Nat → Int32) : Prop :=
  StG (pN P 0) (pN P 31 0) (pN P 30 0) (pN P 30 3) (f_Mod_gainOf W) (W 100 22) b c r ∧ (∀ i, i < b ∨ b + 210 ≤ i → r i = r0 i) ∧ r (b + 209) = x ∧ c 221 = y
theorem CX.put {P W : Zf} {b i j : Nat} {r0 c r : Nat → Int32} {x y v w : Int32} (h : CX P W b r0 x y c r) (hi : Dm (pN P 31 0) i) (h1 : i ≠ 221 ∧ i ≠ 222) (hj : j = b + ps i) (e : v = w) (hb : Bd (pN P 0) (pN P 30 0) i v) : CX P W b r0 x y (upd c i v) (upd r j w) := by
  obtain ⟨⟨a1, a2, a3, a4, a5⟩, f, cm, sc⟩ := h
  have hp := ps_lt hi
  have hi' := hi
  unfold Dm at hi'
  refine ⟨⟨a1.put hi hj e, fun k hk => ?_, fun k h0 h2 h3 => ?_, ?_, ?_⟩, fun k hk => ?_, ?_, ?_⟩
  · by_cases d : k = i
    · subst d; rw [ud_s]; exact hb
    · rw [ud_o d]; exact a2 k hk
  · by_cases d : k * 9 + 8 = i
    · omega
    · rw [ud_o d]; exact a3 k h0 h2 h3
  · rw [ud_o (by omega)]; exact a4
  · rw [ud_o (by omega), ud_o (by omega)]; exact a5
  · rw [ud_o (by omega)]; exact f k hk
  · rw [ud_o (by omega)]; exact cm
  · rw [ud_o (by omega)]; exact sc
theorem CX.gb {P W : Zf} {b : Nat} {r0 c r : Nat → Int32} {x y : Int32} (h : CX P W b r0 x y c r) {k j : Nat} (hk : k < 10) (hj : j < 8) : c (k * 9 + j) = r (b + 8 * k + j) := by rw [h.1.1 _ (dm_b hk hj), ps_b hk hj, Nat.add_assoc]
theorem CX.gl {P W : Zf} {b : Nat} {r0 c r : Nat → Int32} {x y : Int32} (h : CX P W b r0 x y c r) {l j : Nat} (hl : l < pN P 31 0) (hn : pN P 31 0 ≤ 12) (hj : j < 5) : c (90 + l * 5 + j) = r (b + 80 + 10 * l + j) := by rw [h.1.1 _ (dm_l hl hn hj), ps_l (by omega) hj]; congr 1; omega
theorem CX.gl2 {P W : Zf} {b : Nat} {r0 c r : Nat → Int32} {x y : Int32} (h : CX P W b r0 x y c r) {l j : Nat} (hl : l < pN P 31 0) (hn : pN P 31 0 ≤ 12) (hj : j < 5) : c (90 + l * 5 + j) = r (b + 70 + 10 * (l + 1) + j) := by rw [h.1.1 _ (dm_l hl hn hj), ps_l (by omega) hj]; congr 1; omega
theorem CX.gk {P W : Zf} {b : Nat} {r0 c r : Nat → Int32} {x y : Int32} (h : CX P W b r0 x y c r) {l j : Nat} (hl : l < pN P 31 0) (hn : pN P 31 0 ≤ 12) (hj : j < 5) : c (155 + l * 5 + j) = r (b + 80 + 10 * l + (j + 5)) := by rw [h.1.1 _ (dm_k hl hn hj), ps_k (by omega) hj]; congr 1; omega
theorem CX.gk2 {P W : Zf} {b : Nat} {r0 c r : Nat → Int32} {x y : Int32} (h : CX P W b r0 x y c r) {l j : Nat} (hl : l < pN P 31 0) (hn : pN P 31 0 ≤ 12) (hj : j < 5) : c (155 + l * 5 + j) = r (b + 70 + 10 * (l + 1) + (j + 5)) := by rw [h.1.1 _ (dm_k hl hn hj), ps_k (by omega) hj]; congr 1; omega
theorem CX.gs {P W : Zf} {b : Nat} {r0 c r : Nat → Int32} {x y : Int32} (h : CX P W b r0 x y c r) {i j : Nat} (h1 : 215 ≤ i) (h2 : i < 224) (hj : j = b + (i - 15)) : c i = r j := by rw [h.1.1 _ (dm_s h1 h2), ps_s h1, hj]
theorem CX.bd {P W : Zf} {b : Nat} {r0 c r : Nat → Int32} {x y : Int32} (h : CX P W b r0 x y c r) {i : Nat} (hi : i < 225) : Bd (pN P 0) (pN P 30 0) i (c i) := h.1.2.1 i hi
theorem CX.bm {P W : Zf} {b : Nat} {r0 c r : Nat → Int32} {x y : Int32} (h : CX P W b r0 x y c r) {k j : Nat} (hk : k < 10) (hj : j < 2) : 0 ≤ (c (k * 9 + j)).toInt ∧ (c (k * 9 + j)).toInt ≤ 3 ∧ (pN P 0 k = 0 ∨ pN P 0 k = 3 → (c (k * 9 + j)).toInt ≤ 2) := by
  have e : (k * 9 + j) / 9 = k := by omega
  have q := (h.bd (i := k * 9 + j) (by omega)).1 (by omega) (by omega)
  rw [e] at q; exact q
theorem CX.bo {P W : Zf} {b : Nat} {r0 c r : Nat → Int32} {x y : Int32} (h : CX P W b r0 x y c r) {k j : Nat} (hk : k < 10) (hj : j = 2 ∨ j = 3) : 0 ≤ (c (k * 9 + j)).toInt ∧ (c (k * 9 + j)).toInt ≤ 1000 := (h.bd (i := k * 9 + j) (by omega)).2.1 (by omega) (by omega)
theorem CX.bg {P W : Zf} {b : Nat} {r0 c r : Nat → Int32} {x y : Int32} (h : CX P W b r0 x y c r) {k : Nat} (hk : k < 10) : c (k * 9 + 5) = 0 ∨ c (k * 9 + 5) = 1 := (h.bd (i := k * 9 + 5) (by omega)).2.2.1 (by omega) (by omega)
theorem CX.bl0 {P W : Zf} {b : Nat} {r0 c r : Nat → Int32} {x y : Int32} (h : CX P W b r0 x y c r) {l : Nat} (hl : l < 12) : 0 ≤ (c (90 + l * 5 + 0)).toInt ∧ (c (90 + l * 5 + 0)).toInt ≤ 1000 := (h.bd (i := 90 + l * 5 + 0) (by omega)).2.2.2.1 (by omega) (by omega) (by omega)
theorem CX.bl1 {P W : Zf} {b : Nat} {r0 c r : Nat → Int32} {x y : Int32} (h : CX P W b r0 x y c r) {l : Nat} (hl : l < 12) : c (90 + l * 5 + 1) = 0 ∨ c (90 + l * 5 + 1) = 1 := (h.bd (i := 90 + l * 5 + 1) (by omega)).2.2.2.2.1 (by omega) (by omega) (by omega)
theorem CX.bk0 {P W : Zf} {b : Nat} {r0 c r : Nat → Int32} {x y : Int32} (h : CX P W b r0 x y c r) {l : Nat} (hl : l < 12) : 0 ≤ (c (155 + l * 5 + 0)).toInt ∧ (c (155 + l * 5 + 0)).toInt ≤ 1000 := (h.bd (i := 155 + l * 5 + 0) (by omega)).2.2.2.1 (by omega) (by omega) (by omega)
theorem CX.ba {P W : Zf} {b : Nat} {r0 c r : Nat → Int32} {x y : Int32} (h : CX P W b r0 x y c r) {a : Nat} (h1 : 90 ≤ a) (h2 : a < 215) (h3 : a % 5 = 4) : (c a).toInt ≤ 99 := (h.bd (i := a) (by omega)).2.2.2.2.2.1 (by omega) (by omega) (by omega)
theorem CX.bn {P W : Zf} {b : Nat} {r0 c r : Nat → Int32} {x y : Int32} (h : CX P W b r0 x y c r) {j : Nat} (hj : j < 5) : c (150 + j) = 0 := (h.bd (i := 150 + j) (by omega)).2.2.2.2.2.2.1 (by omega) (by omega)
theorem CX.bs {P W : Zf} {b : Nat} {r0 c r : Nat → Int32} {x y : Int32} (h : CX P W b r0 x y c r) {s : Nat} (hs : s < 4) : 0 ≤ (c (215 + s)).toInt ∧ (c (215 + s)).toInt ≤ 1000 := (h.bd (i := 215 + s) (by omega)).2.2.2.2.2.2.2.1 (by omega) (by omega)
theorem CX.b220 {P W : Zf} {b : Nat} {r0 c r : Nat → Int32} {x y : Int32} (h : CX P W b r0 x y c r)  : ∀ j, pN P 30 0 ≤ j → bt (c 220) j = false := (h.bd (i := 220) (by omega)).2.2.2.2.2.2.2.2.1 rfl
theorem CX.b221 {P W : Zf} {b : Nat} {r0 c r : Nat → Int32} {x y : Int32} (h : CX P W b r0 x y c r)  : c 221 = -1 ∨ ∃ j, j < pN P 30 0 ∧ c 221 = nI j := (h.bd (i := 221) (by omega)).2.2.2.2.2.2.2.2.2.1 rfl
theorem CX.b222 {P W : Zf} {b : Nat} {r0 c r : Nat → Int32} {x y : Int32} (h : CX P W b r0 x y c r)  : 0 ≤ (c 222).toInt := (h.bd (i := 222) (by omega)).2.2.2.2.2.2.2.2.2.2 rfl
theorem CX.pb {P W : Zf} {b : Nat} {r0 c r : Nat → Int32} {x y : Int32} (h : CX P W b r0 x y c r) {k j : Nat} {v w : Int32} (hk : k < 10) (hj : j < 8) (e : v = w) (hb : Bd (pN P 0) (pN P 30 0) (k * 9 + j) v) : CX P W b r0 x y (upd c (k * 9 + j) v) (upd r (b + 8 * k + j) w) := h.put (dm_b hk hj) (by omega) (by rw [ps_b hk hj, Nat.add_assoc]) e hb
theorem CX.pl {P W : Zf} {b : Nat} {r0 c r : Nat → Int32} {x y : Int32} (h : CX P W b r0 x y c r) {l j : Nat} {v w : Int32} (hl : l < pN P 31 0) (hn : pN P 31 0 ≤ 12) (hj : j < 5) (e : v = w) (hb : Bd (pN P 0) (pN P 30 0) (90 + l * 5 + j) v) : CX P W b r0 x y (upd c (90 + l * 5 + j) v) (upd r (b + 80 + 10 * l + j) w) := h.put (dm_l hl hn hj) (by omega) (by rw [ps_l (by omega) hj]; omega) e hb
theorem CX.pk {P W : Zf} {b : Nat} {r0 c r : Nat → Int32} {x y : Int32} (h : CX P W b r0 x y c r) {l j : Nat} {v w : Int32} (hl : l < pN P 31 0) (hn : pN P 31 0 ≤ 12) (hj : j < 5) (e : v = w) (hb : Bd (pN P 0) (pN P 30 0) (155 + l * 5 + j) v) : CX P W b r0 x y (upd c (155 + l * 5 + j) v) (upd r (b + 80 + 10 * l + (j + 5)) w) := h.put (dm_k hl hn hj) (by omega) (by rw [ps_k (by omega) hj]; omega) e hb
theorem CX.pt {P W : Zf} {b : Nat} {r0 c r : Nat → Int32} {x y : Int32} (h : CX P W b r0 x y c r) {i j : Nat} {v w : Int32} (h1 : 215 ≤ i) (h2 : i < 224) (h3 : i ≠ 221 ∧ i ≠ 222) (hj : j = b + (i - 15)) (e : v = w) (hb : Bd (pN P 0) (pN P 30 0) i v) : CX P W b r0 x y (upd c i v) (upd r j w) := h.put (dm_s h1 h2) h3 (by rw [ps_s h1, hj]) e hb
