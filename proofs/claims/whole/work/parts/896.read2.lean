/-! numbers, names and choices, alike on both sides -/
def TpB (B : Nat → Int32) (V : Zf) : Prop := ∀ i, i < pN V 100 48 → ByR (B i) (V 31 i)
/-- both look at the same token -/
def Kc (B R : Nat → Int32) (V : Zf) : Prop := (R 1 = 0 ∧ V 100 52 = 0) ∧ GoI V ∧ (TpB B V ∧ R 0 = V 100 33) ∧ CurR B R V
/-- the reference is one token ahead -/
def Kt (B R : Nat → Int32) (V : Zf) : Prop := (R 1 = 0 ∧ V 100 52 = 0) ∧ GoI V ∧ (TpB B V ∧ R 0 = V 100 33) ∧ CurR B (f_Reader_nextToken B R) V ∧ RFr R (f_Reader_nextToken B R)
def Bad (R : Nat → Int32) (V : Zf) : Prop := R 1 = V 100 52 ∧ ¬ V 100 52 = 0 ∧ R 0 = V 100 33
theorem CurR.r {B R Q : Nat → Int32} {V : Zf} (h : CurR B R V) (e3 : Q 3 = R 3) (e4 : Q 4 = R 4) (e9 : Q 9 = R 9) (e10 : Q 10 = R 10) : CurR B Q V := by
  have hn : f_Reader_numberOfToken B Q = f_Reader_numberOfToken B R := by
    have key : ∀ t m x, f_Reader_numberOfToken_22 B Q t m x = f_Reader_numberOfToken_22 B R t m x := by
      intro t
      induction t with
      | zero => intro m x; rfl
      | succ t ih => intro m x; rw [f_Reader_numberOfToken_22, f_Reader_numberOfToken_22, e4, ih]
    unfold f_Reader_numberOfToken
    rw [e4, e10, key]
  have hw : ∀ i, f_Reader_isWord B Q i = f_Reader_isWord B R i := by
    intro i
    have key : ∀ t k, f_Reader_isWord_28 B Q i t k = f_Reader_isWord_28 B R i t k := by
      intro t
      induction t with
      | zero => intro k; rfl
      | succ t ih => intro k; rw [f_Reader_isWord_28, f_Reader_isWord_28, e10, ih]
    unfold f_Reader_isWord
    rw [e4, e9, e10, key]
  obtain ⟨a, e, n, h1, h2, h3, h4, h5, h6⟩ := h
  refine ⟨a, e, n, h1, by rw [e3, e4, e10]; exact h2, h3, by rw [e9]; exact h4, fun z => by rw [hn]; exact h5 (by rw [← e9]; exact z), ?_⟩
  unfold WdR at *
  simp only [hw, e9]
  exact h6
theorem CurR.v {B R : Nat → Int32} {V U : Zf} (h : CurR B R V) (e : ∀ i, 46 ≤ i ∧ i ≤ 51 → U 100 i = V 100 i) : CurR B R U := by
  unfold CurR WdR at *
  rw [e 46 (by omega), e 47 (by omega), e 48 (by omega), e 49 (by omega), e 50 (by omega), e 51 (by omega)]
  exact h
theorem Kc.v {B R : Nat → Int32} {V U : Zf} (h : Kc B R V) (e : ∀ i, i = 33 ∨ (46 ≤ i ∧ i ≤ 52) → U 100 i = V 100 i) (e31 : U 31 = V 31) : Kc B R U := by
  obtain ⟨h1, h2, ⟨h3, h3'⟩, h4⟩ := h
  refine ⟨by rw [e 52 (by omega)]; exact h1, ?_, ⟨?_, by rw [e 33 (by omega)]; exact h3'⟩, h4.v (fun i hi => e i (by omega))⟩
  · unfold GoI pN at *; rw [e 46 (by omega), e 48 (by omega), e 50 (by omega)]; exact h2
  · unfold TpB pN at *; rw [e 48 (by omega), e31]; exact h3
theorem Kt.v {B R : Nat → Int32} {V U : Zf} (h : Kt B R V) (e : ∀ i, i = 33 ∨ (46 ≤ i ∧ i ≤ 52) → U 100 i = V 100 i) (e31 : U 31 = V 31) : Kt B R U := by
  obtain ⟨h1, h2, ⟨h3, h3'⟩, h4, h5⟩ := h
  refine ⟨by rw [e 52 (by omega)]; exact h1, ?_, ⟨?_, by rw [e 33 (by omega)]; exact h3'⟩, h4.v (fun i hi => e i (by omega)), h5⟩
  · unfold GoI pN at *; rw [e 46 (by omega), e 48 (by omega), e 50 (by omega)]; exact h2
  · unfold TpB pN at *; rw [e 48 (by omega), e31]; exact h3
theorem Kt.k {B R : Nat → Int32} {V : Zf} {k i : Nat} {v : Int32} (h : Kt B R V) (hk : k ≠ 100 ∧ k ≠ 31) : Kt B R (u2 V k i v) := h.v (fun j _ => by rw [u2_k (by omega)]) (by rw [u2_k (by omega)])
theorem Kt.i {B R : Nat → Int32} {V : Zf} {i : Nat} {v : Int32} (h : Kt B R V) (hi : 52 < i) : Kt B R (u2 V 100 i v) := h.v (fun j _ => by rw [u2_i (by omega) rfl]) (by rw [u2_k (by omega)])
theorem Kc.i {B R : Nat → Int32} {V : Zf} {i : Nat} {v : Int32} (h : Kc B R V) (hi : 52 < i) : Kc B R (u2 V 100 i v) := h.v (fun j _ => by rw [u2_i (by omega) rfl]) (by rw [u2_k (by omega)])
theorem Kc.r {B R : Nat → Int32} {V : Zf} {k : Nat} {v : Int32} (h : Kc B R V) (hk : k = 6 ∨ k = 7 ∨ k = 8) : Kc B (upd R k v) V := by
  obtain ⟨h1, h2, ⟨h3, h3'⟩, h4⟩ := h
  exact ⟨by rw [ud_o (by omega)]; exact h1, h2, ⟨h3, by rw [ud_o (by omega)]; exact h3'⟩, h4.r (ud_o (by omega)) (ud_o (by omega)) (ud_o (by omega)) (ud_o (by omega))⟩
theorem Kc.go {B R : Nat → Int32} {V : Zf} (h : Kc B R V) : Kt B R (s_Mod_go V) ∧ KG V (s_Mod_go V) := by
  obtain ⟨⟨h1, h1'⟩, h2, ⟨h3, h3'⟩, h4⟩ := h
  obtain ⟨g1, g2, -, -⟩ := go_s h2
  obtain ⟨a, e, n, c1, ⟨c2, c3, -⟩, ⟨c5, c6, -⟩, -⟩ := h4
  have hT : ∀ i, i < n → ByR (B i) (V 31 i) := fun i hi => h3 i (by rw [pN_mk (by omega) c5]; exact hi)
  obtain ⟨r1, r2⟩ := go_rel h1 c2 c3 c5 c6 (by omega) (by omega) hT
  have k31 : s_Mod_go V 31 = V 31 := g2.1 31 (by decide)
  have k48 : s_Mod_go V 100 48 = V 100 48 := g2.2 48 (by unfold goK; decide)
  have k33 : s_Mod_go V 100 33 = V 100 33 := g2.2 33 (by unfold goK; decide)
  refine ⟨⟨⟨h1, by rw [g2.2 52 (by unfold goK; decide)]; exact h1'⟩, g1, ⟨?_, by rw [k33]; exact h3'⟩, r1, r2⟩, g2⟩
  unfold TpB pN at *; rw [k31, k48]; exact h3
theorem Kt.nx {B R : Nat → Int32} {V : Zf} (h : Kt B R V) : Kc B (f_Reader_nextToken B R) V := by
  obtain ⟨⟨h1, h1'⟩, h2, ⟨h3, h3'⟩, h4, h5⟩ := h
  exact ⟨⟨by rw [h5 1 (by decide) (by decide) (by decide)]; exact h1, h1'⟩, h2, ⟨h3, by rw [h5 0 (by decide) (by decide) (by decide)]; exact h3'⟩, h4⟩
theorem wt_y {x y : Int32} {V : Zf} (h0 : V 100 52 = 0) (hx : ¬ x = 0) : f_Mod_wants x y V = (1, V) := by
  unfold f_Mod_wants; rw [if_pos h0, if_neg hx, if_pos h0]
theorem wt_z {y : Int32} {V : Zf} (h0 : V 100 52 = 0) (hy : ¬ y = 0) : f_Mod_wants 0 y V = (0, u2 (u2 V 100 52 y) 100 33 (V 100 47)) := by
  unfold f_Mod_wants
  rw [if_pos h0, if_pos rfl, if_neg (by rw [u2_i (by decide) rfl, u2_s]; exact hy), u2_i (by decide) rfl]
theorem wt_b {x y : Int32} {V : Zf} (h0 : ¬ V 100 52 = 0) : f_Mod_wants x y V = (0, V) := by
  unfold f_Mod_wants; rw [if_neg h0, if_neg h0]
theorem Kc.fl {B R : Nat → Int32} {V : Zf} {e : Int32} (h : Kc B R V) (he : ¬ e = 0) : f_Mod_wants 0 e V = (0, u2 (u2 V 100 52 e) 100 33 (V 100 47)) ∧ Bad (f_Reader_fail e R) (u2 (u2 V 100 52 e) 100 33 (V 100 47)) := by
  obtain ⟨⟨h1, h1'⟩, -, -, a, z, n, -, ⟨-, -, c10⟩, ⟨-, -, c47⟩, -⟩ := h
  refine ⟨wt_z h1' he, ?_⟩
  unfold f_Reader_fail Bad
  rw [if_pos h1, u2_i (by decide) rfl, u2_s, u2_s, ud_s, ud_o (by decide), ud_s, ud_o (by decide), c10, c47]
  exact ⟨rfl, he, rfl⟩
theorem wi_c {v lo hi : Nat} (hv : v < 2 ^ 20) (hl : lo < 2 ^ 20) (hh : hi < 2 ^ 20) : f_Mod_within (nI v) (nI lo) (nI hi) = if lo ≤ v ∧ v ≤ hi then 1 else 0 := by
  unfold f_Mod_within
  have e1 : nI v < nI lo ↔ v < lo := nI_ltI (by omega) (by omega)
  have e2 : nI hi < nI v ↔ hi < v := nI_ltI (by omega) (by omega)
  by_cases a : v < lo
  · rw [if_pos (e1.mpr a), if_neg (show ¬ (lo ≤ v ∧ v ≤ hi) by omega)]
  · rw [if_neg (fun z => a (e1.mp z))]
    by_cases b : hi < v
    · rw [if_pos (e2.mpr b), if_neg (show ¬ (lo ≤ v ∧ v ≤ hi) by omega)]
    · rw [if_neg (fun z => b (e2.mp z)), if_pos (show lo ≤ v ∧ v ≤ hi by omega)]
theorem n0 : nI 0 = 0 := rfl
theorem n1z : ¬ nI 1 = 0 := by decide
theorem z1z : ¬ (1 : Int32) = 0 := by decide
theorem Kt.tk {B R : Nat → Int32} {V : Zf} (h : Kt B R V) : f_Reader_nextToken B R 9 = V 100 49 ∧ ∃ v, v < 100000 ∧ V 100 50 = nI v := by
  obtain ⟨-, ⟨-, -, g1, g2⟩, -, ⟨a, z, n, -, -, -, h9, -⟩, -⟩ := h
  exact ⟨h9, _, g2, g1⟩
theorem rn_ok {B R : Nat → Int32} {V : Zf} {lo hi : Nat} (h : Kt B R V) (hl : lo ≤ hi) (hh : hi ≤ 1000) :
    (∃ v, (lo ≤ v ∧ v ≤ hi) ∧ V 100 49 = 2 ∧ V 100 50 = nI v ∧ f_Reader_readNumber B (nI lo) (nI hi) R = (nI v, f_Reader_nextToken B R)) ∨
    (¬ V 100 49 = 2 ∧ f_Reader_readNumber B (nI lo) (nI hi) R = (nI lo, f_Reader_fail 1 (f_Reader_nextToken B R))) ∨
    (∃ v, v < 100000 ∧ (v < lo ∨ hi < v) ∧ V 100 49 = 2 ∧ V 100 50 = nI v ∧ f_Reader_readNumber B (nI lo) (nI hi) R = (nI lo, f_Reader_fail 2 (f_Reader_nextToken B R))) := by
  have hc := h.nx
  obtain ⟨t1, v, t2, t3⟩ := h.tk
  unfold f_Reader_readNumber f_Reader_readNumber_4
  generalize f_Reader_nextToken B R = Q at hc t1 ⊢
  obtain ⟨⟨r1, -⟩, -, -, a, z, n, -, -, -, -, hN, -⟩ := hc
  by_cases q : Q 9 = 2
  · rw [if_pos q]
    have hN := hN q
    rw [t3] at hN
    have bad : ¬ f_Reader_fail 2 Q 1 = 0 := by unfold f_Reader_fail; rw [if_pos r1, ud_o (by decide), ud_s]; decide
    rcases hN with e | ⟨e, e2⟩
    · rw [e]
      unfold f_Reader_readNumber_24
      by_cases q1 : v < lo
      · rw [if_pos (by rw [nI_ltI (by omega) (by omega)]; exact q1)]
        unfold f_Reader_readNumber_39
        rw [if_neg bad]
        exact Or.inr (Or.inr ⟨v, t2, Or.inl q1, by rw [← t1]; exact q, t3, rfl⟩)
      · rw [if_neg (by rw [nI_ltI (by omega) (by omega)]; exact q1)]
        by_cases q2 : v ≤ hi
        · rw [if_pos (by rw [nI_leI (by omega) (by omega)]; exact q2)]
          unfold f_Reader_readNumber_39
          rw [if_pos r1]
          exact Or.inl ⟨v, by omega, by rw [← t1]; exact q, t3, rfl⟩
        · rw [if_neg (by rw [nI_leI (by omega) (by omega)]; exact q2)]
          unfold f_Reader_readNumber_39
          rw [if_neg bad]
          exact Or.inr (Or.inr ⟨v, t2, Or.inr (by omega), by rw [← t1]; exact q, t3, rfl⟩)
    · rw [e]
      have ev : v = 99999 := (nI_eq (by omega) (by omega)).mp (e2.trans (by rfl))
      unfold f_Reader_readNumber_24
      rw [if_pos (by rw [i_lt, nI_toInt (by omega), show (-1 : Int32).toInt = -1 by decide]; omega)]
      unfold f_Reader_readNumber_39
      rw [if_neg bad]
      exact Or.inr (Or.inr ⟨v, t2, Or.inr (by omega), by rw [← t1]; exact q, t3, rfl⟩)
  · rw [if_neg q]
    exact Or.inr (Or.inl ⟨by rw [← t1]; exact q, rfl⟩)
theorem nu_1 {V : Zf} {lo hi v : Nat} (h0 : V 100 52 = 0) (h2 : V 100 49 = 2) (h5 : V 100 50 = nI v) (hv : v < 100000) (hl : lo ≤ 1000) (hh : hi ≤ 1000) : f_Mod_number (nI lo) (nI hi) V = if lo ≤ v ∧ v ≤ hi then (nI v, s_Mod_go V) else (nI lo, (f_Mod_wants 0 2 V).2) := by
  have w1 : ∀ y, f_Mod_wants (nI 1) y V = (1, V) := fun y => wt_y h0 n1z
  have w2 : ∀ y, f_Mod_wants 1 y V = (1, V) := fun y => wt_y h0 z1z
  have w3 : f_Mod_wants 0 (nI 2) V = (0, u2 (u2 V 100 52 2) 100 33 (V 100 47)) := wt_z h0 (by decide)
  have w4 : f_Mod_wants 0 2 V = (0, u2 (u2 V 100 52 2) 100 33 (V 100 47)) := wt_z h0 (by decide)
  unfold f_Mod_number
  simp only [h0, h2, w1, z1z, h5, if_true, if_false, wi_c (show v < 2 ^ 20 by omega) (show lo < 2 ^ 20 by omega) (show hi < 2 ^ 20 by omega)]
  by_cases q : lo ≤ v ∧ v ≤ hi
  · simp only [if_pos q, w2, z1z, if_false, h5]
  · simp only [if_neg q, w3, w4, if_true]
theorem nu_2 {V : Zf} {x y : Int32} (h0 : V 100 52 = 0) (h2 : ¬ V 100 49 = 2) : f_Mod_number x y V = (x, (f_Mod_wants 0 1 V).2) := by
  unfold f_Mod_number
  rw [if_pos h0, if_neg h2, n0, nI1]
theorem na_1 {V : Zf} {hi d v : Nat} (h0 : V 100 52 = 0) (h2 : V 100 49 = 2) (h5 : V 100 50 = nI v) (hv : v < 100000) (hh : hi ≤ 1000) (hd : d ≤ 1000) : f_Mod_named (nI hi) (nI d) V = if v ≤ hi then if v < d then (nI v, s_Mod_go V) else (0, (f_Mod_wants 0 3 V).2) else (0, (f_Mod_wants 0 2 V).2) := by
  have e1 : nI hi < nI v ↔ hi < v := nI_ltI (by omega) (by omega)
  have e2 : nI d ≤ nI v ↔ d ≤ v := nI_leI (by omega) (by omega)
  unfold f_Mod_named
  have w1 : ∀ y, f_Mod_wants (nI 1) y V = (1, V) := fun y => wt_y h0 n1z
  simp only [h0, h2, w1, z1z, if_true, if_false, h5, n0, nI2, show nI 3 = 3 by decide]
  by_cases q : v ≤ hi
  · rw [if_neg (fun z => by have := e1.mp z; omega), if_pos q]
    by_cases r : v < d
    · rw [if_neg (fun z => by have := e2.mp z; omega), if_pos r]
    · rw [if_pos (e2.mpr (by omega)), if_neg r]
  · rw [if_pos (e1.mpr (by omega)), if_neg q]
theorem na_2 {V : Zf} {x y : Int32} (h0 : V 100 52 = 0) (h2 : ¬ V 100 49 = 2) : f_Mod_named x y V = (0, (f_Mod_wants 0 1 V).2) := by
  unfold f_Mod_named
  rw [if_pos h0, if_neg h2, n0, nI1]
theorem num_rel {B R : Nat → Int32} {V : Zf} {lo hi : Nat} (h : Kt B R V) (hl : lo ≤ hi) (hh : hi ≤ 1000) :
    (∃ v Q U, (lo ≤ v ∧ v ≤ hi) ∧ f_Reader_readNumber B (nI lo) (nI hi) R = (nI v, Q) ∧ f_Mod_number (nI lo) (nI hi) V = (nI v, U) ∧ Kt B Q U ∧ RFr R Q ∧ KG V U) ∨
    (∃ Q U, f_Reader_readNumber B (nI lo) (nI hi) R = (nI lo, Q) ∧ f_Mod_number (nI lo) (nI hi) V = (nI lo, U) ∧ Bad Q U) := by
  have hc := h.nx
  have h0 := h.1.2
  rcases rn_ok h hl hh with ⟨v, a1, a2, a3, a4⟩ | ⟨a2, a4⟩ | ⟨v, a0, a1, a2, a3, a4⟩
  · left
    obtain ⟨g1, g2⟩ := hc.go
    exact ⟨v, _, _, a1, a4, by rw [nu_1 h0 a2 a3 (by omega) (by omega) hh, if_pos a1], g1, h.2.2.2.2, g2⟩
  · right
    obtain ⟨f1, f2⟩ := hc.fl (e := 1) (by decide)
    exact ⟨_, _, a4, by rw [nu_2 h0 a2, f1], f2⟩
  · right
    obtain ⟨f1, f2⟩ := hc.fl (e := 2) (by decide)
    refine ⟨_, _, a4, ?_, f2⟩
    rw [nu_1 h0 a2 a3 (by omega) (by omega) hh, if_neg (show ¬ (lo ≤ v ∧ v ≤ hi) by omega), f1]
theorem nam_rel {B R : Nat → Int32} {V : Zf} {hi d : Nat} (h : Kt B R V) (hh : hi ≤ 1000) (hd : d < 1000) :
    (∃ v Q U, (v ≤ hi ∧ v < d) ∧ f_Reader_readNumber B (nI 0) (nI hi) R = (nI v, Q) ∧ f_Mod_named (nI hi) (nI d) V = (nI v, U) ∧ Kt B Q U ∧ RFr R Q ∧ KG V U) ∨
    (∃ v Q U, (v ≤ hi ∧ d ≤ v) ∧ f_Reader_readNumber B (nI 0) (nI hi) R = (nI v, Q) ∧ f_Mod_named (nI hi) (nI d) V = (0, U) ∧ Bad (f_Reader_fail 3 Q) U ∧ RFr R Q) ∨
    (∃ Q U, f_Reader_readNumber B (nI 0) (nI hi) R = (nI 0, Q) ∧ f_Mod_named (nI hi) (nI d) V = (0, U) ∧ Bad Q U) := by
  have hc := h.nx
  have h0 := h.1.2
  rcases rn_ok h (Nat.zero_le _) hh with ⟨v, a1, a2, a3, a4⟩ | ⟨a2, a4⟩ | ⟨v, a0, a1, a2, a3, a4⟩
  · by_cases q : v < d
    · left
      obtain ⟨g1, g2⟩ := hc.go
      exact ⟨v, _, _, ⟨a1.2, q⟩, a4, by rw [na_1 h0 a2 a3 (by omega) hh (by omega), if_pos a1.2, if_pos q], g1, h.2.2.2.2, g2⟩
    · right; left
      obtain ⟨f1, f2⟩ := hc.fl (e := 3) (by decide)
      refine ⟨v, _, _, ⟨a1.2, by omega⟩, a4, ?_, f2, h.2.2.2.2⟩
      rw [na_1 h0 a2 a3 (by omega) hh (by omega), if_pos a1.2, if_neg q, f1]
  · right; right
    obtain ⟨f1, f2⟩ := hc.fl (e := 1) (by decide)
    exact ⟨_, _, a4, by rw [na_2 h0 a2, f1], f2⟩
  · right; right
    obtain ⟨f1, f2⟩ := hc.fl (e := 2) (by decide)
    refine ⟨_, _, a4, ?_, f2⟩
    rw [na_1 h0 a2 a3 (by omega) hh (by omega), if_neg (show ¬ v ≤ hi by omega), f1]
/-- which word the token is -/
theorem Kc.wd {B R : Nat → Int32} {V : Zf} (h : Kc B R V) : (V 100 49 = 1 ∧ ∃ w, w < 19 ∧ V 100 51 = nI w ∧ ∀ i, i < 19 → (¬ f_Reader_isWord B R i = 0 ↔ w = wcI i)) ∨ ((¬ V 100 49 = 1 ∨ V 100 51 = -1) ∧ ∀ i, i < 19 → f_Reader_isWord B R i = 0) := by
  obtain ⟨-, -, -, a, z, n, -, -, -, h9, -, w1, w2, w3⟩ := h
  by_cases q : V 100 49 = 1
  · rcases w2 with w2 | ⟨w, hw, w2⟩
    · right
      refine ⟨Or.inr w2, fun i hi => ?_⟩
      have := w1 i hi
      rw [w2] at this
      exact Classical.byContradiction fun y => m1_ne (by have := (kb_d i hi).1; omega) (this.mp y).symm
    · left
      refine ⟨q, w, hw, w2, fun i hi => ?_⟩
      rw [w1 i hi, w2]
      exact nI_eq (by omega) (by have := (kb_d i hi).1; omega)
  · right
    refine ⟨Or.inl q, fun i hi => ?_⟩
    have := w3 (by rw [h9]; exact q)
    have w := w1 i hi
    rw [this] at w
    exact Classical.byContradiction fun y => m1_ne (by have := (kb_d i hi).1; omega) (w.mp y).symm
theorem one_rel {B R : Nat → Int32} {V : Zf} {x m : Nat} (h : Kc B R V) (hm : 1 ≤ m ∧ x + m ≤ 19) :
    (∃ w, (x ≤ w ∧ w < x + m) ∧ f_Mod_oneOf (nI x) (nI m) V = (nI (w - x), s_Mod_go V) ∧ ∀ i, i < 19 → (¬ f_Reader_isWord B R i = 0 ↔ w = wcI i)) ∨
    (∃ U, f_Mod_oneOf (nI x) (nI m) V = (0, U) ∧ Bad (f_Reader_fail 1 R) U ∧ ∀ i, i < 19 → x ≤ wcI i → wcI i < x + m → f_Reader_isWord B R i = 0) := by
  have h0 := h.1.2
  obtain ⟨f1, f2⟩ := h.fl (e := 1) (by decide)
  have ex : nI x + nI m - 1 = nI (x + m - 1) := by
    rw [nI_add, show (1 : Int32) = nI 1 by decide, sub_nI (by omega)]
  unfold f_Mod_oneOf
  rw [if_pos h0, ex, n0, show nI 1 = 1 by decide, f1, wt_y h0 z1z, if_neg z1z]
  rcases h.wd with ⟨a1, w, a2, a3, a4⟩ | ⟨a1, a2⟩
  · rw [if_pos a1, a3, wi_c (by omega) (by omega) (by omega)]
    by_cases q : x ≤ w ∧ w ≤ x + m - 1
    · rw [if_pos q, if_neg z1z]
      left
      refine ⟨w, by omega, ?_, a4⟩
      show (V 100 51 - nI x, s_Mod_go V) = _
      rw [a3, sub_nI q.1]
    · rw [if_neg q, if_pos rfl]
      right
      refine ⟨_, rfl, f2, fun i hi p1 p2 => Classical.byContradiction fun y => ?_⟩
      have := (a4 i hi).mp y
      omega
  · right
    refine ⟨_, ?_, f2, fun i hi _ _ => a2 i hi⟩
    by_cases q : V 100 49 = 1
    · have e : V 100 51 = -1 := by
        rcases a1 with a1 | a1
        · exact absurd q a1
        · exact a1
      rw [if_pos q, e]
      unfold f_Mod_within
      have e1 : (-1 : Int32) < nI x := by rw [i_lt, nI_toInt (by omega), show (-1 : Int32).toInt = -1 by decide]; omega
      rw [if_pos e1, if_pos rfl]
    · rw [if_neg q]
theorem cho_rel {B R : Nat → Int32} {V : Zf} {x i j : Nat} (h : Kt B R V) (hx : x ≤ 17) (hi : i < 19) (hj : j < 19) (hw : (wcI i = x ∧ wcI j = x + 1) ∨ (wcI i = x + 1 ∧ wcI j = x)) :
    (∃ w c Q U, (w = x ∨ w = x + 1) ∧ f_Reader_readChoice B i j R = (c, Q) ∧ f_Mod_oneOf (nI x) (nI 2) V = (nI (w - x), U) ∧ (c = 0 ↔ ¬ w = wcI i) ∧ Kt B Q U ∧ RFr R Q ∧ KG V U) ∨
    (∃ c Q U, f_Reader_readChoice B i j R = (c, Q) ∧ f_Mod_oneOf (nI x) (nI 2) V = (0, U) ∧ Bad Q U) := by
  have hc := h.nx
  unfold f_Reader_readChoice f_Reader_readChoice_4 f_Reader_readChoice_10
  rcases one_rel (x := x) (m := 2) hc (by omega) with ⟨w, w1, w2, w3⟩ | ⟨U, u1, u2, u3⟩
  · left
    obtain ⟨g1, g2⟩ := hc.go
    have e1 := w3 i hi
    have e2 := w3 j hj
    refine ⟨w, f_Reader_isWord B (f_Reader_nextToken B R) i, _, _, by omega, ?_, w2, ?_, g1, h.2.2.2.2, g2⟩
    · by_cases q : f_Reader_isWord B (f_Reader_nextToken B R) i = 0
      · rw [if_pos q, if_neg]
        rw [e2]
        have : ¬ w = wcI i := fun z => (e1.mpr z) q
        omega
      · rw [if_neg q]
    · rw [← e1]
      exact ⟨fun z y => y z, fun z => Classical.byContradiction fun y => z y⟩
  · right
    refine ⟨f_Reader_isWord B (f_Reader_nextToken B R) i, _, U, ?_, u1, u2⟩
    rw [if_pos (u3 i hi (by omega) (by omega)), if_pos (u3 j hj (by omega) (by omega))]
