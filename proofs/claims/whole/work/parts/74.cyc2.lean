/-! one block's run, alike on both sides -/
theorem cx_good {P W : Zf} {b k w : Nat} {r0 c r : Nat → Int32} {x y : Int32} (h : CX P W b r0 x y c r) (hp : PK P W) (hk : k < pN P 30 3) (hw : w < 3) : f_Mod_isGood W b k w r = c (came P k w + 1) := by
  have n1 := hp.nl.2
  unfold f_Mod_isGood
  rcases cm_cases hp hk hw with ⟨-, e2, e3⟩ | ⟨l, hl, hl2, -, e2, e3, e4, e5, -⟩
  · rw [if_pos e2, e3]; exact (h.bn (j := 1) (by decide)).symm
  · rw [e2, if_neg e3, e4, e5, ← h.gl2 hl n1 (j := 1) (by decide)]
    rcases h.bl1 hl2 with q | q
    · rw [q, if_neg (by decide)]
    · rw [q, if_pos rfl]
theorem came_ge {P W : Zf} {k w : Nat} (hp : PK P W) (hk : k < pN P 30 3) (hw : w < 3) : 90 ≤ came P k w ∧ came P k w + 4 < 155 := by
  rcases cm_cases hp hk hw with ⟨-, -, e3⟩ | ⟨l, hl, hl2, -, -, -, e4, -⟩ <;> omega
theorem cx_c1 {P W : Zf} {b k w : Nat} {r0 c r : Nat → Int32} {x y : Int32} (h : CX P W b r0 x y c r) (hp : PK P W) (hk : k < pN P 30 3) (hw : w < 3) : c (came P k w + 1) = 0 ∨ c (came P k w + 1) = 1 := by
  rcases cm_cases hp hk hw with ⟨-, e2, e3⟩ | ⟨l, hl, hl2, -, e2, e3, e4, e5, -⟩
  · rw [e3]; exact Or.inl (h.bn (j := 1) (by decide))
  · rw [e4]; exact h.bl1 hl2
theorem cx_c0 {P W : Zf} {b k w : Nat} {r0 c r : Nat → Int32} {x y : Int32} (h : CX P W b r0 x y c r) (hp : PK P W) (hk : k < pN P 30 3) (hw : w < 3) : 0 ≤ (c (came P k w + 0)).toInt ∧ (c (came P k w + 0)).toInt ≤ 1000 := by
  rcases cm_cases hp hk hw with ⟨-, e2, e3⟩ | ⟨l, hl, hl2, -, e2, e3, e4, e5, -⟩
  · rw [e3, show c (150 + 0) = 0 from h.bn (j := 0) (by decide), t_0]; omega
  · rw [e4]; exact h.bl0 hl2
theorem cx_fall {P W : Zf} {b k : Nat} {r0 c r : Nat → Int32} {x y v : Int32} (h : CX P W b r0 x y c r) (hp : PK P W) (hk : k < pN P 30 3) (k1 : pN P 0 k = 1) (hv : v = 1 ∨ v = 2) : (f_Cycle_fall P k v c).1 = v ∧ (f_Mod_fallsTo W b k v r).1 = v ∧ CX P W b r0 x y (f_Cycle_fall P k v c).2 (f_Mod_fallsTo W b k v r).2 := by
  have n2 := hp.nb.2
  obtain ⟨-, -, -, p8⟩ := (hp.2.2.1 k hk).2.2.1 k1
  unfold f_Cycle_fall f_Mod_fallsTo
  rw [← hp.kd hk, if_pos k1]
  have bv : 0 ≤ v.toInt ∧ v.toInt ≤ 3 ∧ (pN P 0 k = 0 ∨ pN P 0 k = 3 → v.toInt ≤ 2) := by
    rcases hv with rfl | rfl
    · rw [t_1]; omega
    · rw [t_2]; omega
  by_cases q : P 8 k = 0
  · rw [if_pos q, if_neg (p8.mp q)]; exact ⟨rfl, rfl, h⟩
  · have q7 : W 7 k = 1 := by
      by_cases z : W 7 k = 1
      · exact z
      · exact absurd (p8.mpr z) q
    rw [if_neg q, if_pos q7]
    exact ⟨rfl, rfl, h.pb (k := k) (j := 0) (by omega) (by omega) rfl (bd_m (by omega) (by omega) bv)⟩
theorem i_03 : ¬ (0 : Int32) = 3 := by decide
theorem i_13 : ¬ (1 : Int32) = 3 := by decide
theorem i_23 : ¬ (2 : Int32) = 3 := by decide
theorem cx_act {P W : Zf} {b k : Nat} {r0 c r : Nat → Int32} {x y : Int32} (h : CX P W b r0 x y c r) (hp : PK P W) (hk : k < pN P 30 3) : (f_Cycle_actualOf P k c).1 = (f_Mod_actualOf W b k r).1 ∧ CX P W b r0 x y (f_Cycle_actualOf P k c).2 (f_Mod_actualOf W b k r).2 ∧ (0 ≤ (f_Cycle_actualOf P k c).1.toInt ∧ (f_Cycle_actualOf P k c).1.toInt ≤ 3 ∧ (pN P 0 k = 0 ∨ pN P 0 k = 3 → (f_Cycle_actualOf P k c).1.toInt ≤ 2)) ∧ ((f_Cycle_actualOf P k c).1 = 3 → ¬ P 10 (k * 3 + 2) = -1) := by
  have n2 := hp.nb.2
  have n1 := hp.nl.2
  have hk10 : k < 10 := by omega
  have e0 := t_0
  have e1 := t_1
  have e2 := t_2
  have e3 := t_3
  have g0 := h.gb hk10 (j := 0) (by omega)
  have g1 := h.gb hk10 (j := 1) (by omega)
  have bt0 := h.bm hk10 (j := 0) (by omega)
  unfold f_Cycle_actualOf f_Mod_actualOf
  rw [← g0, ← hp.kd hk]
  generalize ht : c (k * 9 + 0) = tg at *
  by_cases q0 : tg = 0
  · subst q0
    rw [if_pos rfl, if_pos (by decide)]
    exact ⟨rfl, h, by rw [t_0]; omega, fun z => absurd z i_03⟩
  rw [if_neg q0]
  by_cases q1 : tg = 1
  · subst q1
    rw [if_pos rfl, if_pos (by decide)]
    exact ⟨rfl, h, by rw [t_1]; omega, fun z => absurd z i_13⟩
  have z0 := ti_ne q0
  have z1 := ti_ne q1
  rw [if_neg q1, if_neg (fun z => by rw [i_lt] at z; omega)]
  unfold f_Cycle_actualOf_34
  by_cases k0 : pN P 0 k = 0
  · rw [if_pos k0, if_pos k0]
    have : tg = 2 := ti_eq (by omega)
    rw [this]
    exact ⟨rfl, h, by rw [t_2]; omega, fun z => absurd z i_23⟩
  rw [if_neg k0, if_neg k0]
  by_cases k3 : pN P 0 k = 3
  · rw [if_pos k3, if_pos k3]
    have : tg = 2 := ti_eq (by omega)
    rw [this]
    exact ⟨rfl, h, by rw [t_2]; omega, fun z => absurd z i_23⟩
  rw [if_neg k3, if_neg k3]
  have key : (f_Cycle_actualOf_74 P k c tg).1 = (f_Mod_actualOf_76 W b k r tg).1 ∧ CX P W b r0 x y (f_Cycle_actualOf_74 P k c tg).2 (f_Mod_actualOf_76 W b k r tg).2 ∧ (0 ≤ (f_Cycle_actualOf_74 P k c tg).1.toInt ∧ (f_Cycle_actualOf_74 P k c tg).1.toInt ≤ 3 ∧ (pN P 0 k = 0 ∨ pN P 0 k = 3 → (f_Cycle_actualOf_74 P k c tg).1.toInt ≤ 2)) ∧ ((f_Cycle_actualOf_74 P k c tg).1 = 3 → ¬ P 10 (k * 3 + 2) = -1) := by
    unfold f_Cycle_actualOf_74 f_Mod_actualOf_76
    by_cases q2 : tg = 2
    · rw [if_pos q2, if_pos q2]
      exact ⟨rfl, h, by rw [t_2]; omega, fun z => absurd z i_23⟩
    rw [if_neg q2, if_neg q2]
    unfold f_Mod_actualOf_84
    rw [cx_good h hp hk (by decide), ← hp.kd hk]
    by_cases q4 : c (came P k 2 + 1) = 0
    · rw [if_pos q4, if_pos q4]
      by_cases k1 : pN P 0 k = 1
      · rw [if_pos k1, if_pos k1]
        obtain ⟨-, p7, p7b, -⟩ := (hp.2.2.1 k hk).2.2.1 k1
        rw [← p7]
        obtain ⟨f1, f2, f3⟩ := cx_fall h hp hk k1 p7b
        refine ⟨f1.trans f2.symm, f3, ?_, fun z => ?_⟩
        · show 0 ≤ (f_Cycle_fall P k (P 7 k) c).1.toInt ∧ _
          rw [f1]
          rcases p7b with z | z <;> rw [z]
          · rw [t_1]; omega
          · rw [t_2]; omega
        · have z' : (f_Cycle_fall P k (P 7 k) c).1 = 3 := z
          rw [f1] at z'
          rcases p7b with u | u <;> rw [u] at z' <;> exact absurd z' (by decide)
      · rw [if_neg k1, if_neg k1]
        unfold f_Mod_fallsTo
        rw [← hp.kd hk, if_neg k1]
        exact ⟨rfl, h, by rw [t_2]; omega, fun z => absurd z i_23⟩
    · rw [if_neg q4, if_neg q4]
      rcases cm_cases hp hk (w := 2) (by decide) with ⟨-, -, d3⟩ | ⟨l, hl, hl2, d1, -, d3, d4, d5, -⟩
      · rw [d3] at q4; exact absurd (h.bn (j := 1) (by decide)) q4
      unfold f_Cycle_actualOf_122
      rw [← g1, d4, d5, h.gl2 hl n1 (j := 3) (by decide)]
      have nn : ¬ P 10 (k * 3 + 2) = -1 := by rw [d1]; exact d3
      by_cases q5 : c (k * 9 + 1) = 3
      · rw [if_pos q5, if_pos q5]
        exact ⟨rfl, h, by rw [t_3]; omega, fun _ => nn⟩
      · rw [if_neg q5, if_neg q5]
        by_cases q6 : r (b + 70 + 10 * (l + 1) + 3) = 1
        · rw [if_pos q6, if_pos q6]
          exact ⟨rfl, h, by rw [t_3]; omega, fun _ => nn⟩
        · rw [if_neg q6, if_neg q6]
          exact ⟨rfl, h, by rw [t_2]; omega, fun _ => nn⟩
  unfold f_Cycle_actualOf_47 f_Mod_actualOf_44
  rw [← hp.kd hk, cx_good h hp hk (by decide)]
  by_cases k1 : pN P 0 k = 1
  · rw [if_pos k1, if_pos k1]
    by_cases q4 : c (came P k 0 + 1) = 0
    · rw [if_pos q4, if_pos q4]
      obtain ⟨f1, f2, f3⟩ := cx_fall h hp hk k1 (v := 1) (Or.inl rfl)
      refine ⟨f1.trans f2.symm, f3, ?_, fun z => ?_⟩
      · show 0 ≤ (f_Cycle_fall P k 1 c).1.toInt ∧ _
        rw [f1, t_1]; omega
      · have z' : (f_Cycle_fall P k 1 c).1 = 3 := z
        rw [f1] at z'; exact absurd z' (by decide)
    · rw [if_neg q4, if_neg q4]; exact key
  · rw [if_neg k1, if_neg k1]; exact key
theorem cx_input {P W : Zf} {b k : Nat} {r0 c r : Nat → Int32} {x y : Int32} (h : CX P W b r0 x y c r) (hp : PK P W) (hk : k < pN P 30 3) (k0 : pN P 0 k = 0) : CX P W b r0 x y (f_Cycle_runInput (k * 9) (pN P 3 k) c) (f_Mod_runsInput W b k r) := by
  have n2 := hp.nb.2
  have hk10 : k < 10 := by omega
  have p3 : pN P 3 k = pN W 4 k := by unfold pN; rw [(hp.2.2.1 k hk).2.1 k0]
  have p4 : pN W 4 k < 4 := by rw [← p3]; exact (hp.wP.1.2.2.2.2.2.2.2.2.2.2 k hk k0).2
  have bm := h.bm hk10 (j := 1) (by omega)
  have g1 := h.gb hk10 (j := 1) (by omega)
  have e0 := t_0
  have e1 := t_1
  have e2 := t_2
  have bd : ∀ {v : Int32}, v = 0 ∨ v = 1 → Bd (pN P 0) (pN P 30 0) (k * 9 + 5) v := fun z => bd_g hk10 z
  unfold f_Cycle_runInput f_Mod_runsInput f_Cycle_runInput_18 f_Mod_runsInput_51
  rw [p3, ← g1]
  by_cases q0 : c (k * 9 + 1) = 0
  · have q2 : ¬ c (k * 9 + 1) = 2 := by rw [q0]; decide
    rw [if_pos q0, if_neg q2, if_neg q2, ud_o (by omega), if_neg q2, q0]
    exact h.pb hk10 (j := 5) (by omega) rfl (bd (Or.inl rfl))
  · rw [if_neg q0, ud_o (by omega)]
    by_cases q2 : c (k * 9 + 1) = 2
    · rw [if_pos q2, if_pos q2, if_pos q2]
      have hs := h.pb hk10 (j := 3) (by omega) (h.gs (i := 215 + pN W 4 k) (j := b + 200 + pN W 4 k) (by omega) (by omega) (by omega)) (bd_o hk10 (Or.inr rfl) (h.bs p4))
      have eq : ∀ v : Int32, upd (upd (upd c (k * 9 + 5) 1) (k * 9 + 3) (c (215 + pN W 4 k))) (k * 9 + 5) v = upd (upd c (k * 9 + 3) (c (215 + pN W 4 k))) (k * 9 + 5) v := by
        intro v
        funext i
        by_cases d : i = k * 9 + 5
        · subst d; rw [ud_s, ud_s]
        · rw [ud_o d, ud_o d]
          by_cases d3 : i = k * 9 + 3
          · subst d3; rw [ud_s, ud_s]
          · rw [ud_o d3, ud_o d3, ud_o d]
      have g19 : c 219 = r (b + 204) := h.gs (by decide) (by decide) rfl
      rw [ud_o (show 215 + pN W 4 k ≠ k * 9 + 5 by omega), ud_o (show 219 ≠ k * 9 + 3 by omega), ud_o (show 219 ≠ k * 9 + 5 by omega), eq, eq, ud_o (show b + 204 ≠ b + 8 * k + 3 by omega), ← g19, and_1]
      have z0 := hb_0 (x := c 219) (k := pN W 4 k) (by omega)
      have s1 := sb_1 (u := c 219) (x := pN W 4 k) (by omega)
      rw [and_1] at s1
      by_cases q5 : f_Bus_hasBit (c 219) (nI (pN W 4 k)) = 0
      · rw [if_pos q5]
        have : ¬ bt (c 219 >>> (nI (pN W 4 k) &&& 31)) 0 = true := fun z => by
          rw [if_pos z] at s1
          exact z0.mp q5 (s1.mp rfl)
        rw [if_neg this]
        exact hs.pb hk10 (j := 5) (by omega) rfl (bd (Or.inr rfl))
      · rw [if_neg q5]
        have : bt (c 219 >>> (nI (pN W 4 k) &&& 31)) 0 = true := by
          by_cases z : bt (c 219 >>> (nI (pN W 4 k) &&& 31)) 0 = true
          · exact z
          · rw [if_neg z] at s1
            by_cases z2 : bt (c 219) (pN W 4 k) = true
            · exact absurd (s1.mpr z2) (by decide)
            · exact absurd (z0.mpr z2) q5
        rw [if_pos this]
        exact hs.pb hk10 (j := 5) (by omega) rfl (bd (Or.inl rfl))
    · rw [if_neg q2, if_neg q2, if_neg q2]
      have z0 := ti_ne q0
      have z2 := ti_ne q2
      have : c (k * 9 + 1) = 1 := ti_eq (by omega)
      rw [this]
      exact h.pb hk10 (j := 5) (by omega) rfl (bd (Or.inr rfl))
theorem cx_pick {P W : Zf} {b k : Nat} {r0 c r : Nat → Int32} {x y : Int32} (h : CX P W b r0 x y c r) (hp : PK P W) (hk : k < pN P 30 3) (k3 : pN P 0 k = 3) : CX P W b r0 x y (f_Cycle_runPick P k c) (f_Mod_runsPick W b k r) := by
  have n2 := hp.nb.2
  have n1 := hp.nl.2
  have hk10 : k < 10 := by omega
  have bm := h.bm hk10 (j := 1) (by omega)
  have g1 := h.gb hk10 (j := 1) (by omega)
  have e0 := t_0
  have e1 := t_1
  have e2 := t_2
  have bd : ∀ {v : Int32}, v = 0 ∨ v = 1 → Bd (pN P 0) (pN P 30 0) (k * 9 + 5) v := fun z => bd_g hk10 z
  have p9 := (hp.2.2.1 k hk).2.2.2.2 k3
  have cg0 := came_ge hp hk (w := 0) (by decide)
  have cg1 := came_ge hp hk (w := 1) (by decide)
  unfold f_Cycle_runPick f_Mod_runsPick f_Cycle_runPick_23
  rw [← g1]
  by_cases q0 : c (k * 9 + 1) = 0
  · rw [if_pos q0, ud_o (by omega), q0, if_neg (by decide), if_neg (by decide)]
    exact h.pb hk10 (j := 5) (by omega) rfl (bd (Or.inl rfl))
  rw [if_neg q0, ud_o (by omega)]
  have z0 := ti_ne q0
  by_cases q2n : ¬ c (k * 9 + 1) = 2
  · have z2 := ti_ne q2n
    have : c (k * 9 + 1) = 1 := ti_eq (by omega)
    rw [this, if_neg (by decide), if_neg (by decide)]
    exact h.pb hk10 (j := 5) (by omega) rfl (bd (Or.inr rfl))
  have q2 : c (k * 9 + 1) = 2 := Decidable.of_not_not q2n
  rw [if_pos q2, q2, if_pos (by decide)]
  have h1 := h.pb hk10 (j := 5) (v := 1) (w := 1) (by omega) rfl (bd (Or.inr rfl))
  unfold f_Cycle_runPick_49 f_Cycle_runPick_66 f_Cycle_runPick_83 f_Cycle_runPick_143 f_Mod_runsPick_35 f_Mod_runsPick_92 f_Mod_runsPick_139 f_Mod_runsPick_164
  rw [cx_good h hp hk (by decide), cx_good h hp hk (by decide)]
  rw [ud_o (show came P k 0 + 1 ≠ k * 9 + 5 by omega), ud_o (show came P k 1 + 1 ≠ k * 9 + 5 by omega), ud_o (show came P k 0 + 0 ≠ k * 9 + 5 by omega), ud_o (show came P k 1 + 0 ≠ k * 9 + 5 by omega)]
  have i01 : ¬ (0 : Int32) = 1 := by decide
  have i10 : ¬ (1 : Int32) = 0 := by decide
  have va : c (came P k 0 + 1) = 1 → c (came P k 0 + 0) = (upd r (b + 8 * k + 5) 1) (b + 70 + 10 * lkP W k 0 + 0) := by
    intro z
    rcases cm_cases hp hk (w := 0) (by decide) with ⟨-, -, d3⟩ | ⟨l, hl, hl2, d1, -, d3, d4, d5, -⟩
    · rw [d3, show c (150 + 1) = 0 from h.bn (j := 1) (by decide)] at z; exact absurd z i01
    · rw [d4, d5, ud_o (by omega)]; exact h.gl2 hl n1 (j := 0) (by decide)
  have vb : c (came P k 1 + 1) = 1 → c (came P k 1 + 0) = (upd r (b + 8 * k + 5) 1) (b + 70 + 10 * lkP W k 1 + 0) := by
    intro z
    rcases cm_cases hp hk (w := 1) (by decide) with ⟨-, -, d3⟩ | ⟨l, hl, hl2, d1, -, d3, d4, d5, -⟩
    · rw [d3, show c (150 + 1) = 0 from h.bn (j := 1) (by decide)] at z; exact absurd z i01
    · rw [d4, d5, ud_o (by omega)]; exact h.gl2 hl n1 (j := 0) (by decide)
  have ba := cx_c0 h hp hk (w := 0) (by decide)
  have bb := cx_c0 h hp hk (w := 1) (by decide)
  rcases cx_c1 h hp hk (w := 0) (by decide) with qa | qa <;> rcases cx_c1 h hp hk (w := 1) (by decide) with qb | qb
  · rw [qa, qb]
    simp only [if_neg i01, if_true, ud_ud]
    exact h.pb hk10 (j := 5) (by omega) rfl (bd (Or.inl rfl))
  · rw [qa, qb]
    simp only [if_neg i01, if_neg i10, if_true]
    rw [← vb qb]
    simp only [if_neg (show ¬ c (came P k 1 + 0) < c (came P k 1 + 0) from fun z => by rw [i_lt] at z; omega)]
    have := h1.pb hk10 (j := 3) (v := c (came P k 1 + 0)) (by omega) rfl (bd_o hk10 (Or.inr rfl) bb)
    by_cases z : pN W 4 k = 1
    · simp only [if_pos z]; exact this
    · simp only [if_neg z]; exact this
  · rw [qa, qb]
    simp only [if_neg i01, if_neg i10, if_true]
    rw [← va qa]
    simp only [if_neg (show ¬ c (came P k 0 + 0) < c (came P k 0 + 0) from fun z => by rw [i_lt] at z; omega)]
    have := h1.pb hk10 (j := 3) (v := c (came P k 0 + 0)) (by omega) rfl (bd_o hk10 (Or.inr rfl) ba)
    by_cases z : pN W 4 k = 1
    · simp only [if_pos z]; exact this
    · simp only [if_neg z]; exact this
  · rw [qa, qb]
    simp only [if_neg i01, if_neg i10, if_true]
    rw [← va qa, ← vb qb]
    by_cases z : pN W 4 k = 1
    · rw [if_neg (fun u => p9.mp u z), if_pos z]
      by_cases u : c (came P k 0 + 0) < c (came P k 1 + 0)
      · rw [if_pos u, if_pos u]
        exact h1.pb hk10 (j := 3) (by omega) rfl (bd_o hk10 (Or.inr rfl) bb)
      · rw [if_neg u, if_neg u]
        exact h1.pb hk10 (j := 3) (by omega) rfl (bd_o hk10 (Or.inr rfl) ba)
    · rw [if_pos (p9.mpr z), if_neg z]
      by_cases u : c (came P k 0 + 0) < c (came P k 1 + 0)
      · have u' : ¬ c (came P k 1 + 0) < c (came P k 0 + 0) := fun v => by rw [i_lt] at u v; omega
        rw [if_neg u', if_pos u]
        exact h1.pb hk10 (j := 3) (by omega) rfl (bd_o hk10 (Or.inr rfl) ba)
      · rw [if_neg u]
        by_cases u' : c (came P k 1 + 0) < c (came P k 0 + 0)
        · rw [if_pos u']
          exact h1.pb hk10 (j := 3) (by omega) rfl (bd_o hk10 (Or.inr rfl) bb)
        · rw [if_neg u']
          rw [i_lt] at u u'
          exact h1.pb hk10 (j := 3) (by omega) (ti_eq (by omega)) (bd_o hk10 (Or.inr rfl) ba)
