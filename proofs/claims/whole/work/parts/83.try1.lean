/-! trials: then, first, jump -/
theorem CX.cgW {P W V : Zf} {b : Nat} {r0 c r : Nat → Int32} {x y : Int32} (h : CX P W b r0 x y c r) (e44 : V 100 44 = W 100 44) (e45 : V 100 45 = W 100 45) (e22 : V 100 22 = W 100 22) (e4 : V 4 = W 4) : CX P V b r0 x y c r := by
  obtain ⟨⟨a1, a2, a3, a4, a5⟩, f⟩ := h
  refine ⟨⟨a1, a2, fun k h0 hk hk1 => ?_, by rw [a4, e22], a5⟩, f⟩
  rw [a3 k h0 hk hk1]
  unfold f_Mod_gainOf pN
  rw [e44, e45, e4]
theorem CX.re {P W : Zf} {b : Nat} {r0 c r s : Nat → Int32} {x y : Int32} (h : CX P W b r0 x y c r) (hr : ∀ i, b ≤ i → i < b + 210 → s i = r i) : CX P W b s x y c s := by
  obtain ⟨⟨a1, a2, a3, a4, a5⟩, f, cm, sc⟩ := h
  refine ⟨⟨fun i hi => ?_, a2, a3, a4, a5⟩, fun _ _ => rfl, ?_, sc⟩
  · have := ps_lt hi
    rw [hr _ (by omega) (by omega)]; exact a1 i hi
  · rw [hr _ (by omega) (by omega)]; exact cm
theorem CX.up {P W : Zf} {b : Nat} {r0 c r f : Nat → Int32} {x y : Int32} (h : CX P W b r0 x y c r) : CX P (va_up W 0 f) b r0 x y c r := h.cgW (by rw [up_ne (by decide) rfl]) (by rw [up_ne (by decide) rfl]) (by rw [up_ne (by decide) rfl]) (by rw [up_ne (by decide) rfl])
theorem PK.up {P W : Zf} {f : Nat → Int32} (h : PK P W) : PK P (va_up W 0 f) := h.cg (fun k hk => up_ne (by omega) rfl) (fun i hi => by rw [up_ne (by decide) rfl])
theorem CX.fr {P W : Zf} {b : Nat} {r0 c r : Nat → Int32} {x y : Int32} (h : CX P W b r0 x y c r) {i : Nat} (hi : i < b ∨ b + 210 ≤ i) : r i = r0 i := h.2.1 i hi
/-- a row that is a copy of the live one -/
theorem CX.cp {P W V : Zf} {b : Nat} {r0 c r s : Nat → Int32} {x y : Int32} (h : CX P W 0 r0 x y c r) (hs : ∀ i, i < 210 → s (b + i) = r i) : CX P W b s x y c s := by
  obtain ⟨⟨a1, a2, a3, a4, a5⟩, f, cm, sc⟩ := h
  refine ⟨⟨fun i hi => ?_, a2, a3, a4, a5⟩, fun _ _ => rfl, ?_, sc⟩
  · have := ps_lt hi
    rw [hs _ (by omega), a1 i hi, Nat.zero_add]
  · rw [hs _ (by omega)]
    rw [Nat.zero_add] at cm
    exact cm
/-- as Wfr, and no new refusal -/
def Wfs (W V : Zf) : Prop := Wfr W V ∧ V 100 18 = W 100 18
theorem Wfs.rf {W : Zf} : Wfs W W := ⟨Wfr.rf, rfl⟩
theorem Wfs.tr {W V U : Zf} (h : Wfs W V) (g : Wfs V U) : Wfs W U := ⟨h.1.tr g.1, g.2.trans h.2⟩
theorem Wfs.u1 {W V : Zf} {i : Nat} {v : Int32} (h : Wfs W V) (hi : i = 45 ∨ i = 75) : Wfs W (u2 V 100 i v) := ⟨h.1.u1 (by omega), by rw [u2_i (by omega) rfl]; exact h.2⟩
theorem Wfs.u7 {W V : Zf} {k i : Nat} {v : Int32} (h : Wfs W V) (hk : k = 73 ∨ k = 74) : Wfs W (u2 V k i v) := ⟨h.1.u7 hk, by rw [u2_k (by omega)]; exact h.2⟩
theorem Wfs.up {W V : Zf} {f : Nat → Int32} (h : Wfs W V) (hf : ∀ i, i < 210 ∨ 630 ≤ i → f i = V 0 i) : Wfs W (va_up V 0 f) := ⟨h.1.up hf, by rw [up_ne (by decide) rfl]; exact h.2⟩
/-- a trial in row 210, held in cells 501, beside what stands -/
def TR (P Z W Q V : Zf) : Prop := Zfr Z Q ∧ Wfs W V ∧ PK P V ∧ ∃ x y, CX P V 210 (V 0) x y (Q 501) (V 0)
theorem TR.st {P Z W : Zf} {r0 : Nat → Int32} {x y : Int32} (hc : CX P W 0 r0 x y (Z 302) (W 0)) (hp : PK P W) : TR P Z W (va_up Z 501 (Z 302)) (va_up W 0 (f_Mod_tries W (W 0))) := by
  refine ⟨Zfr.rf.up (by omega), Wfs.rf.up (fun i hi => ?_), hp.up, x, y, ?_⟩
  · unfold f_Mod_tries
    rw [cp_out (by omega) _ (by omega)]
  · rw [up_same, up_same]
    refine CX.up (hc.cp (V := W) (fun i hi => ?_))
    unfold f_Mod_tries
    rw [cp_in (by omega) _ hi, Nat.zero_add]
theorem TR.of {P Z W Q V : Zf} (h : TR P Z W Q V) {c f : Nat → Int32} {x y : Int32} (hc : CX P V 210 (V 0) x y c f) : TR P Z W (va_up Q 501 c) (va_up V 0 f) := by
  obtain ⟨h1, h2, h3, -⟩ := h
  refine ⟨h1.up (by omega), h2.up (fun i hi => hc.fr (by omega)), h3.up, x, y, ?_⟩
  rw [up_same, up_same]
  exact CX.up (hc.re (fun _ _ _ => rfl))
theorem TR.cyc {P Z W Q V : Zf} (h : TR P Z W Q V) : TR P Z W (va_up Q 501 (f_Cycle_goBy P (Q 501))) (va_up V 0 (f_Mod_cycle V 210 (V 0))) := by
  obtain ⟨x, y, hc⟩ := h.2.2.2
  obtain ⟨x', y', hc', -⟩ := cx_cycle hc h.2.2.1
  exact h.of hc'
theorem TR.gb {P Z W Q V : Zf} (h : TR P Z W Q V) {k j : Nat} (hk : k < 10) (hj : j < 8) : Q 501 (k * 9 + j) = V 0 (210 + 8 * k + j) := by
  obtain ⟨x, y, hc⟩ := h.2.2.2
  exact hc.gb hk hj
theorem wk_of {y : Int32} {a n : Nat} (ha : a < 2 ^ 20) (hn : n < 2 ^ 20) : (f_Mod_within y (nI a) (nI n) = 0 ∧ ¬ (¬ y < nI a ∧ y ≤ nI n)) ∨ (f_Mod_within y (nI a) (nI n) = 1 ∧ (¬ y < nI a ∧ y ≤ nI n) ∧ ∃ m, a ≤ m ∧ m ≤ n ∧ y = nI m) := by
  unfold f_Mod_within
  by_cases q : y < nI a
  · rw [if_pos q]; exact Or.inl ⟨rfl, fun z => z.1 q⟩
  · rw [if_neg q]
    by_cases q2 : nI n < y
    · rw [if_pos q2]
      refine Or.inl ⟨rfl, fun z => ?_⟩
      have := z.2
      rw [i_le] at this
      rw [i_lt] at q2
      omega
    · rw [if_neg q2]
      rw [i_lt, nI_toInt (by omega)] at q q2
      obtain ⟨j, hj, rfl⟩ := nI_of (x := y) (fun z => by rw [i_lt, t_0] at z; omega)
      rw [nI_toInt hj] at q q2
      refine Or.inr ⟨rfl, ⟨fun z => ?_, ?_⟩, j, by omega, by omega, rfl⟩
      · rw [i_lt, nI_toInt hj, nI_toInt (show a < 2 ^ 31 by omega)] at z; omega
      · rw [i_le, nI_toInt hj, nI_toInt (show n < 2 ^ 31 by omega)]; omega
theorem e_then : E_then RelW := by
  intro x y z S P Y Z W h
  have h0 := h.u0
  have hz : u2 W 100 18 0 100 18 = 0 := u2_s
  have hp := h0.2.2.1.1
  have hc := h0.cx
  have n2 := hp.nb
  show sameX 2 1 (f_Bus_then P x y z Z).1 (f_Mod_then x y z W) ∧ RelW S P Y (ct (f_Bus_then P x y z Z).2 Z) (f_Mod_then x y z W).2
  unfold f_Mod_then f_Mod_isBlock
  generalize u2 W 100 18 0 = V at *
  unfold f_Bus_then
  have i10 : ¬ (1 : Int32) = 0 := by decide
  have keep : ∀ {v : Int32}, RelW S P Y (ct Z Z) (u2 V 100 18 v) := fun {v} => by rw [ct_id (fun _ _ => rfl)]; exact h0.w (Wfr.rf.u1 (by omega))
  rcases ib_eq (x := x) hp with ⟨a1, a2⟩ | ⟨a1, a2, m, hm, rfl⟩
  · rw [a1, a2, rt_z hz (by decide), if_neg (fun z => z rfl)]
    simp only [if_true]
    exact ⟨sx_n1, keep⟩
  · rw [a1, a2, rt_1 hz i10, if_pos i10, nI_clamp (by omega)]
    simp only [if_neg i10]
    have hm10 : m < 10 := by omega
    rcases wj_of (x := z) (n := 5) (by decide) with ⟨a, b⟩ | ⟨a, u, h1, rfl⟩
    · rw [a, rt_z hz (by decide)]
      simp only [if_true]
      have ne := out_ne (by decide) b
      have tc : f_Bus_thenCell z = -1 := by
        unfold f_Bus_thenCell
        rw [if_neg (ne 0 (by decide)), if_neg (ne 1 (by decide)), if_neg (ne 2 (by decide)), if_neg (ne 3 (by decide)), if_neg (ne 4 (by decide)), if_neg (ne 5 (by decide))]
      rw [if_pos tc]
      exact ⟨sx_n1, keep⟩
    · rw [a, rt_1 hz i10]
      simp only [if_neg i10]
      obtain ⟨q, hq, tc, rc⟩ : ∃ q, q < 8 ∧ f_Bus_thenCell (nI u) = nI q ∧ ∀ (U : Zf) (n : Nat), (f_Mod_then_44 (nI m) y (nI u) U m n) = ((va_up (va_up U 0 (f_Mod_tries U (U 0))) 0 (f_Mod_goes (va_up U 0 (f_Mod_tries U (U 0))) 210 n ((va_up U 0 (f_Mod_tries U (U 0))) 0))) 0 (210 + 8 * m + q), va_up (va_up U 0 (f_Mod_tries U (U 0))) 0 (f_Mod_goes (va_up U 0 (f_Mod_tries U (U 0))) 210 n ((va_up U 0 (f_Mod_tries U (U 0))) 0))) := by
        unfold f_Mod_then_44
        have cs : u = 0 ∨ u = 1 ∨ u = 2 ∨ u = 3 ∨ u = 4 ∨ u = 5 := by omega
        rcases cs with rfl | rfl | rfl | rfl | rfl | rfl
        · exact ⟨3, by decide, by decide, fun U n => by rw [if_pos (by decide)]⟩
        · exact ⟨1, by decide, by decide, fun U n => by rw [if_neg (by decide), if_pos (by decide)]⟩
        · exact ⟨2, by decide, by decide, fun U n => by rw [if_neg (by decide), if_neg (by decide), if_pos (by decide)]⟩
        · exact ⟨5, by decide, by decide, fun U n => by rw [if_neg (by decide), if_neg (by decide), if_neg (by decide), if_pos (by decide)]⟩
        · exact ⟨6, by decide, by decide, fun U n => by rw [if_neg (by decide), if_neg (by decide), if_neg (by decide), if_neg (by decide), if_pos (by decide)]⟩
        · exact ⟨0, by decide, by decide, fun U n => by rw [if_neg (by decide), if_neg (by decide), if_neg (by decide), if_neg (by decide), if_neg (by decide)]⟩
      rw [tc, if_neg (m1_ne (by omega)), nI_clamp (show q < 2 ^ 31 by omega)]
      rcases wk_of (y := y) (a := 0) (n := 60) (by decide) (by decide) with ⟨a, b⟩ | ⟨a, b, n, -, hn, rfl⟩
      · rw [a, rt_z hz (by decide), if_neg b]
        simp only [if_true]
        exact ⟨sx_i2, keep⟩
      · rw [a, rt_1 hz i10, if_pos b, nI_clamp (by omega)]
        simp only [if_neg i10]
        rw [rc]
        unfold f_Bus_then_32
        have T := TR.st (Z := Z) hc hp
        obtain ⟨x', y', hc'⟩ := T.2.2.2
        obtain ⟨x2, y2, hg⟩ := cx_goes (n := n) hc' T.2.2.1
        have T2 := T.of hg
        exact ⟨sx_v (T2.2.1.2.trans hz) (T2.gb hm10 hq).symm, h0.fr T2.1.ct T2.2.1.1⟩
theorem fi_lp {P Z W : Zf} {x : Int32} {b : Nat} (hb : b < 10) (h0 : Z 302 (b * 9 + 1) = W 0 (0 + 8 * b + 1)) : ∀ (t k : Nat) (Q V : Zf), TR P Z W Q V → ∃ v, (f_Bus_first_28 P x t Q b k).1 = .inl v ∧ (f_Mod_first_21 x t V b k).1 = v ∧ Zfr Z (f_Bus_first_28 P x t Q b k).2 ∧ Wfs W (f_Mod_first_21 x t V b k).2 := by
  intro t
  induction t with
  | zero => intro k Q V h; exact ⟨0, rfl, rfl, h.1, h.2.1⟩
  | succ t ih =>
    intro k Q V h
    rw [f_Bus_first_28, f_Mod_first_21]
    by_cases q : 60 < k
    · rw [if_pos q, if_pos q]; exact ⟨-1, rfl, rfl, h.1, h.2.1⟩
    rw [if_neg q, if_neg q]
    have h1 := h.cyc
    have e1 := h1.gb (k := b) (j := 1) hb (by omega)
    have e2 : va_up Q 501 (f_Cycle_goBy P (Q 501)) 302 (b * 9 + 1) = va_up V 0 (f_Mod_cycle V 210 (V 0)) 0 (0 + 8 * b + 1) := by
      rw [h1.1 302 (by omega), h1.2.1.1.2.2 _ (by omega)]; exact h0
    rw [← e1, ← e2]
    by_cases q2 : va_up Q 501 (f_Cycle_goBy P (Q 501)) 501 (b * 9 + 1) = va_up Q 501 (f_Cycle_goBy P (Q 501)) 302 (b * 9 + 1)
    · rw [if_pos q2, if_pos q2]; exact ih _ _ _ h1
    · rw [if_neg q2, if_neg q2]; exact ⟨nI k, rfl, rfl, h1.1, h1.2.1⟩
theorem e_first : E_first RelW := by
  intro x S P Y Z W h
  have h0 := h.u0
  have hz : u2 W 100 18 0 100 18 = 0 := u2_s
  have hp := h0.2.2.1.1
  have hc := h0.cx
  have n2 := hp.nb
  show sameX 0 1 (f_Bus_first P x Z).1 (f_Mod_first x W) ∧ RelW S P Y (ct (f_Bus_first P x Z).2 Z) (f_Mod_first x W).2
  unfold f_Mod_first f_Mod_isBlock
  generalize u2 W 100 18 0 = V at *
  unfold f_Bus_first
  have i10 : ¬ (1 : Int32) = 0 := by decide
  rcases ib_eq (x := x) hp with ⟨a1, a2⟩ | ⟨a1, a2, m, hm, rfl⟩
  · rw [a1, a2, rt_z hz (by decide), if_neg (fun z => z rfl)]
    simp only [if_true]
    exact ⟨sx_n1, by rw [ct_id (fun _ _ => rfl)]; exact h0.w (Wfr.rf.u1 (by omega))⟩
  · rw [a1, a2, rt_1 hz i10, if_pos i10, nI_clamp (by omega)]
    simp only [if_neg i10]
    have hm10 : m < 10 := by omega
    unfold f_Bus_first_5 f_Mod_first_15
    obtain ⟨v, f1, f2, f3, f4⟩ := fi_lp (P := P) (x := nI m) hm10 (hc.gb hm10 (j := 1) (by omega)) 61 1 _ _ (TR.st (Z := Z) hc hp)
    exact ⟨by rw [f1]; exact sx_v (f4.2.trans hz) f2, h0.fr f3.ct f4.1⟩
theorem gr_eq {a s : Int32} : (if a < s then s else a) = f_Mod_greater a s := by
  unfold f_Mod_greater
  by_cases q : a < s
  · rw [if_pos q, if_pos (by rw [i_lt] at q; rw [i_le]; omega)]
  · rw [if_neg q]
    by_cases q2 : a ≤ s
    · rw [if_pos q2]
      rw [i_lt] at q
      rw [i_le] at q2
      exact ti_eq (by omega)
    · rw [if_neg q2]
theorem sp_eq {d : Int32} : (if 0 ≤ d then d else 0 - d) = f_Mod_span d := by
  unfold f_Mod_span
  rw [Int32.zero_sub]
theorem ju_lp {P Z W : Zf} {x y : Int32} {b n : Nat} (hb : b < 10) : ∀ (t k : Nat) (g : Int32) (Q V : Zf), TR P Z W Q V → ∃ v, (f_Bus_jump_39 P x y t Q b n g k).1 = .inl v ∧ (f_Mod_jump_39 x y t V b n g k).1 = v ∧ Zfr Z (f_Bus_jump_39 P x y t Q b n g k).2 ∧ Wfs W (f_Mod_jump_39 x y t V b n g k).2 := by
  intro t
  induction t with
  | zero => intro k g Q V h; exact ⟨0, rfl, rfl, h.1, h.2.1⟩
  | succ t ih =>
    intro k g Q V h
    rw [f_Bus_jump_39, f_Mod_jump_39]
    by_cases q : n ≤ k
    · rw [if_pos q, if_pos q]; exact ⟨g, rfl, rfl, h.1, h.2.1⟩
    rw [if_neg q, if_neg q, sp_eq, gr_eq]
    have h1 := h.cyc
    rw [h1.gb (k := b) (j := 3) hb (by omega), h.gb (k := b) (j := 3) hb (by omega)]
    exact ih _ _ _ _ h1
theorem e_jump : E_jump RelW := by
  intro x y S P Y Z W h
  have h0 := h.u0
  have hz : u2 W 100 18 0 100 18 = 0 := u2_s
  have hp := h0.2.2.1.1
  have hc := h0.cx
  have n2 := hp.nb
  show sameX 2 1 (f_Bus_jump P x y Z).1 (f_Mod_jump x y W) ∧ RelW S P Y (ct (f_Bus_jump P x y Z).2 Z) (f_Mod_jump x y W).2
  unfold f_Mod_jump f_Mod_isBlock
  generalize u2 W 100 18 0 = V at *
  unfold f_Bus_jump
  have i10 : ¬ (1 : Int32) = 0 := by decide
  have keep : ∀ {v : Int32}, RelW S P Y (ct Z Z) (u2 V 100 18 v) := fun {v} => by rw [ct_id (fun _ _ => rfl)]; exact h0.w (Wfr.rf.u1 (by omega))
  rcases ib_eq (x := x) hp with ⟨a1, a2⟩ | ⟨a1, a2, m, hm, rfl⟩
  · rw [a1, a2, rt_z hz (by decide), if_neg (fun z => z rfl)]
    simp only [if_true]
    exact ⟨sx_n1, keep⟩
  · rw [a1, a2, rt_1 hz i10, if_pos i10, nI_clamp (by omega)]
    simp only [if_neg i10]
    have hm10 : m < 10 := by omega
    rcases wk_of (y := y) (a := 1) (n := 60) (by decide) (by decide) with ⟨a, b⟩ | ⟨a, b, n, -, hn, rfl⟩
    · rw [a, rt_z hz (by decide), if_neg b]
      simp only [if_true]
      exact ⟨sx_i2, keep⟩
    · rw [a, rt_1 hz i10, if_pos b, nI_clamp (by omega)]
      simp only [if_neg i10]
      unfold f_Bus_jump_12 f_Mod_jump_30
      obtain ⟨v, f1, f2, f3, f4⟩ := ju_lp (P := P) (x := nI m) (y := nI n) (n := n) hm10 61 0 0 _ _ (TR.st (Z := Z) hc hp)
      exact ⟨by rw [f1]; exact sx_v (f4.2.trans hz) f2, h0.fr f3.ct f4.1⟩
