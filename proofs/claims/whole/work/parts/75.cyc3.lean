/-! outputs and controllers, alike on both sides -/
theorem cl_eq {s r : Int32} (hs : -1000 ≤ s.toInt ∧ s.toInt ≤ 1000) (hr : 0 ≤ r.toInt ∧ r.toInt ≤ 1000) : (if (-r) < (if s < r then s else r) then (if s < r then s else r) else (-r)) = (if s ≤ r then if (-r) ≤ s then s else (-r) else r) := by
  have en : (-r).toInt = -r.toInt := ti_neg (by omega) (by omega)
  by_cases q1 : s < r
  · rw [if_pos q1]
    rw [i_lt] at q1
    rw [if_pos (i_le.mpr (by omega))]
    by_cases q2 : -r < s
    · rw [if_pos q2]
      rw [i_lt] at q2
      rw [if_pos (i_le.mpr (by omega))]
    · rw [if_neg q2]
      by_cases q3 : -r ≤ s
      · rw [if_pos q3]
        rw [i_lt] at q2
        rw [i_le] at q3
        exact ti_eq (by omega)
      · rw [if_neg q3]
  · rw [if_neg q1]
    rw [i_lt] at q1
    by_cases q4 : s ≤ r
    · rw [if_pos q4]
      rw [i_le] at q4
      rw [if_pos (i_le.mpr (show (-r).toInt ≤ s.toInt by omega))]
      have e : s = r := ti_eq (by omega)
      rw [e]
      by_cases q2 : -r < r
      · rw [if_pos q2]
      · rw [if_neg q2]
        rw [i_lt] at q2
        exact ti_eq (by omega)
    · rw [if_neg q4]
      by_cases q2 : -r < r
      · rw [if_pos q2]
      · rw [if_neg q2]
        rw [i_lt] at q2
        exact ti_eq (by omega)
theorem cl_bd {s r o : Int32} (ho : 0 ≤ o.toInt ∧ o.toInt ≤ 1000) (hs : 0 ≤ s.toInt ∧ s.toInt ≤ 1000) (hr : 0 ≤ r.toInt ∧ r.toInt ≤ 1000) : 0 ≤ (o + (if s - o ≤ r then if (-r) ≤ s - o then s - o else (-r) else r)).toInt ∧ (o + (if s - o ≤ r then if (-r) ≤ s - o then s - o else (-r) else r)).toInt ≤ 1000 := by
  have en : (-r).toInt = -r.toInt := ti_neg (by omega) (by omega)
  have es : (s - o).toInt = s.toInt - o.toInt := ti_sub (by omega) (by omega)
  by_cases q1 : s - o ≤ r
  · rw [if_pos q1]
    rw [i_le] at q1
    by_cases q2 : -r ≤ s - o
    · rw [if_pos q2, ti_add (by omega) (by omega)]
      rw [i_le] at q2
      omega
    · rw [if_neg q2, ti_add (by omega) (by omega)]
      rw [i_le] at q2
      omega
  · rw [if_neg q1, ti_add (by omega) (by omega)]
    rw [i_le] at q1
    omega
theorem cx_output {P W : Zf} {b k : Nat} {r0 c r : Nat → Int32} {x y : Int32} (h : CX P W b r0 x y c r) (hp : PK P W) (hk : k < pN P 30 3) (k2 : pN P 0 k = 2) (hc : c (k * 9 + 1) = 3 → ¬ P 10 (k * 3 + 2) = -1) : CX P W b r0 x y (f_Cycle_runOutput (k * 9) (came P k 2) (P 6 k) c) (f_Mod_runsOutput W b k r) := by
  have n2 := hp.nb.2
  have n1 := hp.nl.2
  have hk10 : k < 10 := by omega
  have bm := h.bm hk10 (j := 1) (by omega)
  have g1 := h.gb hk10 (j := 1) (by omega)
  have e0 := t_0
  have e1 := t_1
  have e2 := t_2
  have e3 := t_3
  obtain ⟨-, p6, pr⟩ := (hp.2.2.1 k hk).2.2.2.1 k2
  have bd : ∀ {v : Int32}, v = 0 ∨ v = 1 → Bd (pN P 0) (pN P 30 0) (k * 9 + 5) v := fun z => bd_g hk10 z
  have b6 : ∀ {v : Int32}, Bd (pN P 0) (pN P 30 0) (k * 9 + 6) v := bd_x hk10 (by omega)
  have s115 : ∀ {c r : Nat → Int32} (o z : Int32), CX P W b r0 x y c r → CX P W b r0 x y (f_Cycle_runOutput_115 (k * 9) (came P k 2) (P 6 k) c o z) (f_Mod_runsOutput_179 W b k r o z) := by
    intro c r o z h
    unfold f_Cycle_runOutput_115 f_Mod_runsOutput_179
    have hv : ∀ v : Int32, CX P W b r0 x y (upd c (k * 9 + 6) v) (upd r (b + 8 * k + 6) v) := fun v => h.pb hk10 (j := 6) (by omega) rfl b6
    by_cases q1 : o = 1000
    · rw [if_pos q1, if_pos q1]; exact hv _
    rw [if_neg q1, if_neg q1]
    by_cases q2 : z ≤ o
    · rw [if_pos q2, if_pos q2]
      by_cases q3 : o = 0
      · rw [if_pos q3, if_pos q3]; exact hv _
      rw [if_neg q3, if_neg q3]
      by_cases q4 : o ≤ z
      · rw [if_pos q4, if_pos q4]; exact hv _
      rw [if_neg q4, if_neg q4]; exact hv _
    rw [if_neg q2, if_neg q2]; exact hv _
  have s86 : ∀ {c r : Nat → Int32} (m : Int32), CX P W b r0 x y c r → CX P W b r0 x y (f_Cycle_runOutput_86 (k * 9) (came P k 2) (P 6 k) c m) (f_Mod_runsOutput_141 W b k r m) := by
    intro c r m h
    unfold f_Cycle_runOutput_86 f_Mod_runsOutput_141 f_Cycle_runOutput_101
    rw [← h.gb hk10 (j := 3) (by omega), ← h.gb hk10 (j := 2) (by omega)]
    rw [ud_o (show k * 9 + 3 ≠ k * 9 + 5 by omega), ud_o (show k * 9 + 2 ≠ k * 9 + 5 by omega), ud_o (show k * 9 + 3 ≠ k * 9 + 5 by omega), ud_o (show k * 9 + 2 ≠ k * 9 + 5 by omega)]
    by_cases q : m = 0
    · rw [if_pos q, if_pos q]; exact s115 _ _ (h.pb hk10 (j := 5) (by omega) rfl (bd (Or.inl rfl)))
    · rw [if_neg q, if_neg q]; exact s115 _ _ (h.pb hk10 (j := 5) (by omega) rfl (bd (Or.inr rfl)))
  have s42 : ∀ {c r : Nat → Int32} (m : Int32), m = 0 ∨ m = 1 ∨ m = 2 ∨ m = 3 → CX P W b r0 x y c r → CX P W b r0 x y (f_Cycle_runOutput_42 (k * 9) (came P k 2) (P 6 k) c m) (f_Mod_runsOutput_69 W b k r m) := by
    intro c r m hm h
    unfold f_Cycle_runOutput_42 f_Mod_runsOutput_69
    have bo := h.bo hk10 (j := 3) (Or.inr rfl)
    have bs := h.bo hk10 (j := 2) (Or.inl rfl)
    have es : (c (k * 9 + 2) - c (k * 9 + 3)).toInt = (c (k * 9 + 2)).toInt - (c (k * 9 + 3)).toInt := ti_sub (by omega) (by omega)
    have key : CX P W b r0 x y (f_Cycle_runOutput_86 (k * 9) (came P k 2) (P 6 k) (upd c (k * 9 + 3) (c (k * 9 + 3) + (if (-(P 6 k)) < (if c (k * 9 + 2) - c (k * 9 + 3) < P 6 k then c (k * 9 + 2) - c (k * 9 + 3) else P 6 k) then (if c (k * 9 + 2) - c (k * 9 + 3) < P 6 k then c (k * 9 + 2) - c (k * 9 + 3) else P 6 k) else (-(P 6 k))))) m) (if r (b + 8 * k + 2) - r (b + 8 * k + 3) ≤ W 5 k then if (-(W 5 k)) ≤ r (b + 8 * k + 2) - r (b + 8 * k + 3) then f_Mod_runsOutput_141 W b k (upd r (b + 8 * k + 3) (r (b + 8 * k + 3) + (r (b + 8 * k + 2) - r (b + 8 * k + 3)))) m else f_Mod_runsOutput_141 W b k (upd r (b + 8 * k + 3) (r (b + 8 * k + 3) + (-(W 5 k)))) m else f_Mod_runsOutput_141 W b k (upd r (b + 8 * k + 3) (r (b + 8 * k + 3) + W 5 k)) m) := by
      rw [cl_eq (by omega) pr, ← h.gb hk10 (j := 3) (by omega), ← h.gb hk10 (j := 2) (by omega), ← p6]
      have cb := cl_bd bo bs pr
      have hh := s86 m (h.pb hk10 (j := 3) (by omega) rfl (bd_o hk10 (Or.inr rfl) cb))
      by_cases q1 : c (k * 9 + 2) - c (k * 9 + 3) ≤ P 6 k
      · rw [if_pos q1]
        rw [if_pos q1] at hh
        rw [if_pos q1]
        by_cases q2 : -(P 6 k) ≤ c (k * 9 + 2) - c (k * 9 + 3)
        · rw [if_pos q2] at hh
          rw [if_pos q2, if_pos q2]; exact hh
        · rw [if_neg q2] at hh
          rw [if_neg q2, if_neg q2]; exact hh
      · rw [if_neg q1] at hh
        rw [if_neg q1, if_neg q1]; exact hh
    rcases hm with rfl | rfl | rfl | rfl
    · rw [if_neg (by decide), if_neg (by decide), if_pos (by decide)]; exact s86 _ h
    · rw [if_neg (by decide), if_neg (by decide), if_pos (by decide)]; exact s86 _ h
    · rw [if_pos rfl, if_neg (show ¬ (2 : Int32) ≤ 1 by decide)]; exact key
    · rw [if_neg (by decide), if_pos rfl, if_neg (show ¬ (3 : Int32) ≤ 1 by decide)]; exact key
  have hm : c (k * 9 + 1) = 0 ∨ c (k * 9 + 1) = 1 ∨ c (k * 9 + 1) = 2 ∨ c (k * 9 + 1) = 3 := by
    have : (c (k * 9 + 1)).toInt = 0 ∨ (c (k * 9 + 1)).toInt = 1 ∨ (c (k * 9 + 1)).toInt = 2 ∨ (c (k * 9 + 1)).toInt = 3 := by omega
    rcases this with z | z | z | z
    · exact Or.inl (ti_eq (by omega))
    · exact Or.inr (Or.inl (ti_eq (by omega)))
    · exact Or.inr (Or.inr (Or.inl (ti_eq (by omega))))
    · exact Or.inr (Or.inr (Or.inr (ti_eq (by omega))))
  unfold f_Cycle_runOutput f_Mod_runsOutput f_Mod_runsOutput_47
  rw [← g1]
  by_cases q3 : c (k * 9 + 1) = 3
  · have q1 : ¬ c (k * 9 + 1) = 1 := by rw [q3]; decide
    rw [if_pos q3, if_pos q3, if_neg q1]
    rcases cm_cases hp hk (w := 2) (by decide) with ⟨d1, -, d3⟩ | ⟨l, hl, hl2, d1, -, d3, d4, d5, -⟩
    · exact absurd d1 (hc q3)
    · rw [d5]
      refine s42 _ hm (h.pb hk10 (j := 2) (by omega) ?_ (bd_o hk10 (Or.inl rfl) (cx_c0 h hp hk (by decide))))
      rw [d4]; exact h.gl2 hl n1 (j := 0) (by decide)
  · rw [if_neg q3, if_neg q3]
    by_cases q1 : c (k * 9 + 1) = 1
    · rw [if_pos q1, if_pos q1]
      exact s42 _ hm (h.pb hk10 (j := 2) (by omega) (h.gb hk10 (j := 3) (by omega)) (bd_o hk10 (Or.inl rfl) (h.bo hk10 (Or.inr rfl))))
    · rw [if_neg q1, if_neg q1]; exact s42 _ hm h
/-- the way back that a controller sees: q: its cells, bg: whether it is good -/
def HB (P W : Zf) (k q : Nat) (bg : Int32) : Prop := bg = 0 ∨ ∃ l, l < pN P 31 0 ∧ l < 12 ∧ q = 155 + l * 5 ∧ sfP W k = l + 1
theorem cx_pid {P W : Zf} {b k : Nat} {r0 c r : Nat → Int32} {x y : Int32} (h : CX P W b r0 x y c r) (hp : PK P W) (hk : k < pN P 30 3) (k1 : pN P 0 k = 1) (hc : c (k * 9 + 1) = 3 → ¬ P 10 (k * 3 + 2) = -1) : CX P W b r0 x y (f_Cycle_runPid P k c) (f_Mod_runsPid W b k r) := by
  have n2 := hp.nb.2
  have n1 := hp.nl.2
  have hk10 : k < 10 := by omega
  have e0 := t_0
  have e1 := t_1
  have e2 := t_2
  have e3 := t_3
  obtain ⟨p5, -, -, -⟩ := (hp.2.2.1 k hk).2.2.1 k1
  have bd : ∀ {v : Int32}, v = 0 ∨ v = 1 → Bd (pN P 0) (pN P 30 0) (k * 9 + 5) v := fun z => bd_g hk10 z
  have b6 : ∀ {v : Int32}, Bd (pN P 0) (pN P 30 0) (k * 9 + 6) v := bd_x hk10 (by omega)
  have b7 : ∀ {v : Int32}, Bd (pN P 0) (pN P 30 0) (k * 9 + 7) v := bd_x hk10 (by omega)
  have b4 : ∀ {v : Int32}, Bd (pN P 0) (pN P 30 0) (k * 9 + 4) v := bd_x hk10 (by omega)
  have s350 : ∀ {c r : Nat → Int32} {q : Nat} (bg ol : Int32), HB P W k q bg → CX P W b r0 x y c r → CX P W b r0 x y (f_Cycle_runPid_350 P k c q bg ol) (f_Mod_runsPid_326 W b k r bg ol) := by
    intro c r q bg ol hb h
    unfold f_Cycle_runPid_350 f_Mod_runsPid_326
    have hv : ∀ v : Int32, CX P W b r0 x y (upd c (k * 9 + 6) v) (upd r (b + 8 * k + 6) v) := fun v => h.pb hk10 (j := 6) (by omega) rfl b6
    by_cases q1 : bg = 0
    · rw [if_pos q1, if_pos q1]; exact hv _
    rw [if_neg q1, if_neg q1]
    rcases hb with z | ⟨l, hl, hl2, rfl, d2⟩
    · exact absurd z q1
    rw [d2, show r (b + 70 + 10 * (l + 1) + 7) = c (155 + l * 5 + 2) from (h.gk2 hl n1 (j := 2) (by decide)).symm]
    by_cases q2 : c (155 + l * 5 + 2) = 0
    · rw [if_pos q2, if_pos q2]; exact hv _
    · rw [if_neg q2, if_neg q2]; exact hv _
  have s320 : ∀ {c r : Nat → Int32} {q : Nat} (bg : Int32), HB P W k q bg → CX P W b r0 x y c r → CX P W b r0 x y (f_Cycle_runPid_320 P k c q bg) (f_Mod_runsPid_290 W b k r bg) := by
    intro c r q bg hb h
    unfold f_Cycle_runPid_320 f_Mod_runsPid_290
    rw [← h.gb hk10 (j := 3) (by omega)]
    by_cases q1 : c (k * 9 + 3) = 1000
    · rw [if_pos q1, if_pos q1]; exact s350 _ _ hb h
    rw [if_neg q1, if_neg q1]
    by_cases q2 : c (k * 9 + 3) = 0
    · rw [if_pos q2, if_pos q2]; exact s350 _ _ hb h
    rw [if_neg q2, if_neg q2]; exact s350 _ _ hb h
  have s293 : ∀ {c r : Nat → Int32} {q : Nat} (m e bg : Int32), HB P W k q bg → CX P W b r0 x y c r → CX P W b r0 x y (f_Cycle_runPid_293 P k c m e q bg) (f_Mod_runsPid_257 W b k r m e bg) := by
    intro c r q m e bg hb h
    unfold f_Cycle_runPid_293 f_Mod_runsPid_257 f_Cycle_runPid_305 f_Mod_runsPid_272
    by_cases q1 : m = 0
    · rw [if_pos q1, if_pos q1, if_pos q1, if_pos q1]; exact s320 _ hb (h.pb hk10 (j := 5) (by omega) rfl (bd (Or.inl rfl)))
    · rw [if_neg q1, if_neg q1, if_neg q1, if_neg q1]
      exact s320 _ hb ((h.pb hk10 (j := 4) (by omega) rfl b4).pb hk10 (j := 5) (by omega) rfl (bd (Or.inr rfl)))
  have s194 : ∀ {c r : Nat → Int32} {q : Nat} (m e bg : Int32), HB P W k q bg → CX P W b r0 x y c r → (f_Mod_setFrom W k = -1 → c (q + 2) = 0) → (¬ f_Mod_setFrom W k = -1 → c (q + 2) = r (b + 70 + 10 * sfP W k + 7)) → CX P W b r0 x y (f_Cycle_runPid_194 P k c m e q bg) (f_Mod_runsPid_257 W b k (upd r (b + 8 * k + 3) (f_Mod_put (r (b + 8 * k + 3) + f_Mod_moved W b k e r))) m e bg) := by
    intro c r q m e bg hb h hq0 hq1
    have bo := h.bo hk10 (j := 3) (Or.inr rfl)
    unfold f_Cycle_runPid_194 f_Mod_moved
    rw [← p5, ← h.gb hk10 (j := 4) (by omega), ← h.1.2.2.1 k hk10 hk k1, ← h.gb hk10 (j := 3) (by omega)]
    generalize c (k * 9 + 8) * (e - c (k * 9 + 4)) / 100 + P 5 k * e / 100 = st
    have key : ∀ li : Int32, CX P W b r0 x y (f_Cycle_runPid_235 P k c m e q bg st li) (f_Mod_runsPid_257 W b k (upd r (b + 8 * k + 3) (f_Mod_put (c (k * 9 + 3) + f_Mod_moved_63 W b k e r st li))) m e bg) := by
      intro li
      have a1 : CX P W b r0 x y (f_Cycle_runPid_264 P k c m e q bg st 0) (f_Mod_runsPid_257 W b k (upd r (b + 8 * k + 3) (f_Mod_put (c (k * 9 + 3) + st))) m e bg) := by
        unfold f_Cycle_runPid_264
        rw [if_pos rfl, wi_put]
        exact s293 _ _ _ hb (h.pb hk10 (j := 3) (by omega) rfl (bd_o hk10 (Or.inr rfl) (put_bd _)))
      have a2 : CX P W b r0 x y (f_Cycle_runPid_264 P k c m e q bg st 1) (f_Mod_runsPid_257 W b k (upd r (b + 8 * k + 3) (f_Mod_put (c (k * 9 + 3) + 0))) m e bg) := by
        unfold f_Cycle_runPid_264
        rw [if_neg (by decide), Int32.add_zero, put_in bo]
        exact s293 _ _ _ hb (h.pb hk10 (j := 3) (by omega) rfl (bd_o hk10 (Or.inr rfl) bo))
      unfold f_Cycle_runPid_235 f_Mod_moved_63
      by_cases q1 : st ≤ 0
      · rw [if_pos q1, if_pos q1]
        by_cases q2 : 0 ≤ st
        · rw [if_pos q2, if_pos q2]; exact a1
        · rw [if_neg q2, if_neg q2]
          by_cases q3 : li = 1
          · rw [if_pos q3, if_pos q3]; exact a2
          · rw [if_neg q3, if_neg q3]; exact a1
      · rw [if_neg q1, if_neg q1]
        by_cases q4 : li = 2
        · rw [if_pos q4, if_pos q4]; exact a2
        · rw [if_neg q4, if_neg q4]
          by_cases q2 : 0 ≤ st
          · rw [if_pos q2, if_pos q2]; exact a1
          · rw [if_neg q2, if_neg q2]
            by_cases q3 : li = 1
            · rw [if_pos q3, if_pos q3]; exact a2
            · rw [if_neg q3, if_neg q3]; exact a1
    by_cases q5 : f_Mod_setFrom W k = -1
    · rw [if_pos q5, hq0 q5]; exact key _
    · rw [if_neg q5, hq1 q5]; exact key _
  have hm : ∀ {c r : Nat → Int32}, CX P W b r0 x y c r → c (k * 9 + 1) = 0 ∨ c (k * 9 + 1) = 1 ∨ c (k * 9 + 1) = 2 ∨ c (k * 9 + 1) = 3 := by
    intro c r h
    have bm := h.bm hk10 (j := 1) (by omega)
    have : (c (k * 9 + 1)).toInt = 0 ∨ (c (k * 9 + 1)).toInt = 1 ∨ (c (k * 9 + 1)).toInt = 2 ∨ (c (k * 9 + 1)).toInt = 3 := by omega
    rcases this with z | z | z | z
    · exact Or.inl (ti_eq (by omega))
    · exact Or.inr (Or.inl (ti_eq (by omega)))
    · exact Or.inr (Or.inr (Or.inl (ti_eq (by omega))))
    · exact Or.inr (Or.inr (Or.inr (ti_eq (by omega))))
  have s153 : ∀ {c r : Nat → Int32} {q : Nat} (m e al bg fo : Int32), m = 0 ∨ m = 1 ∨ m = 2 ∨ m = 3 → HB P W k q bg → CX P W b r0 x y c r → (f_Mod_setFrom W k = -1 → c (q + 2) = 0) → (¬ f_Mod_setFrom W k = -1 → c (q + 2) = r (b + 70 + 10 * sfP W k + 7)) → (al = 0 ↔ ¬ f_Mod_setFrom W k = -1) → (¬ fo = 0 → ¬ bg = 0) → CX P W b r0 x y (f_Cycle_runPid_153 P k c m e al q bg fo) (f_Mod_runsPid_181 W b k r m e bg fo) := by
    intro c r q m e al bg fo hm hb h hq0 hq1 ha hf
    unfold f_Cycle_runPid_153 f_Mod_runsPid_181
    by_cases q1 : fo = 0
    · rw [if_pos q1, if_pos q1]
      have key : CX P W b r0 x y (f_Cycle_runPid_184 P k c m e al q bg) (if f_Mod_setFrom W k = -1 then f_Mod_runsPid_257 W b k (upd r (b + 8 * k + 3) (f_Mod_put (r (b + 8 * k + 3) + f_Mod_moved W b k e r))) m e bg else if bg = 0 then f_Mod_runsPid_257 W b k r m e bg else f_Mod_runsPid_257 W b k (upd r (b + 8 * k + 3) (f_Mod_put (r (b + 8 * k + 3) + f_Mod_moved W b k e r))) m e bg) := by
        unfold f_Cycle_runPid_184
        by_cases q2 : f_Mod_setFrom W k = -1
        · rw [if_pos q2, if_neg (fun z => ha.mp z q2)]; exact s194 _ _ _ hb h hq0 hq1
        · rw [if_neg q2, if_pos (ha.mpr q2)]
          by_cases q3 : bg = 0
          · rw [if_pos q3, if_pos q3]; exact s293 _ _ _ hb h
          · rw [if_neg q3, if_neg q3]; exact s194 _ _ _ hb h hq0 hq1
      rcases hm with rfl | rfl | rfl | rfl
      · rw [if_neg (by decide), if_neg (by decide), if_pos (by decide)]; exact s293 _ _ _ hb h
      · rw [if_neg (by decide), if_neg (by decide), if_pos (by decide)]; exact s293 _ _ _ hb h
      · rw [if_pos rfl, if_neg (by decide)]; exact key
      · rw [if_neg (by decide), if_pos rfl, if_neg (by decide)]; exact key
    · rw [if_neg q1, if_neg q1]
      rcases hb with z | ⟨l, hl, hl2, rfl, d2⟩
      · exact absurd z (hf q1)
      · refine s293 _ _ _ (Or.inr ⟨l, hl, hl2, rfl, d2⟩) (h.pb hk10 (j := 3) (by omega) ?_ (bd_o hk10 (Or.inr rfl) (h.bk0 hl2)))
        rw [d2]; exact h.gk2 hl n1 (j := 0) (by decide)
  have s110 : ∀ {c r : Nat → Int32} {q : Nat} (m e al bg : Int32), m = 0 ∨ m = 1 ∨ m = 2 ∨ m = 3 → HB P W k q bg → 150 ≤ q → CX P W b r0 x y c r → (f_Mod_setFrom W k = -1 → c (q + 2) = 0) → (¬ f_Mod_setFrom W k = -1 → c (q + 2) = r (b + 70 + 10 * sfP W k + 7) ∧ 1 ≤ sfP W k) → (al = 0 ↔ ¬ f_Mod_setFrom W k = -1) → CX P W b r0 x y (f_Cycle_runPid_110 P k c m e al q bg) (f_Mod_runsPid_127 W b k r m e bg) := by
    intro c r q m e al bg hm hb hq h hq0 hq1 ha
    have s137 : ∀ fo : Int32, (¬ fo = 0 → ¬ bg = 0) → CX P W b r0 x y (f_Cycle_runPid_137 P k c m e al q bg fo) (f_Mod_runsPid_162 W b k r m e bg fo) := by
      intro fo hf
      unfold f_Cycle_runPid_137 f_Mod_runsPid_162
      have step : ∀ v : Int32, CX P W b r0 x y (f_Cycle_runPid_153 P k (upd c (k * 9 + 7) v) m e al q bg fo) (f_Mod_runsPid_181 W b k (upd r (b + 8 * k + 7) v) m e bg fo) := by
        intro v
        refine s153 m e al bg fo hm hb (h.pb hk10 (j := 7) (by omega) rfl b7) (fun z => ?_) (fun z => ?_) ha hf
        · rw [ud_o (by omega)]; exact hq0 z
        · obtain ⟨z1, z2⟩ := hq1 z
          rw [ud_o (by omega), ud_o (by omega)]; exact z1
      by_cases q1 : fo = 0
      · rw [if_pos q1, if_pos q1]; exact step _
      · rw [if_neg q1, if_neg q1]; exact step _
    unfold f_Cycle_runPid_110 f_Mod_runsPid_127
    by_cases q1 : bg = 0
    · rw [if_pos q1, if_pos q1]; exact s137 _ (fun z => absurd rfl z)
    rw [if_neg q1, if_neg q1]
    rcases hb with z | ⟨l, hl, hl2, d1, d2⟩
    · exact absurd z q1
    subst d1
    rw [d2, show r (b + 70 + 10 * (l + 1) + 8) = c (155 + l * 5 + 3) from (h.gk2 hl n1 (j := 3) (by decide)).symm]
    by_cases q2 : m = 0
    · rw [if_pos q2, if_pos q2]
      by_cases q3 : c (155 + l * 5 + 3) = 1
      · rw [if_pos q3]; exact s137 _ (fun z => absurd rfl z)
      · rw [if_neg q3]; exact s137 _ (fun z => absurd rfl z)
    · rw [if_neg q2, if_neg q2]
      by_cases q3 : c (155 + l * 5 + 3) = 1
      · rw [if_pos q3, if_pos q3]; exact s137 _ (fun _ => q1)
      · rw [if_neg q3, if_neg q3]; exact s137 _ (fun z => absurd rfl z)
  have s51 : ∀ {c r : Nat → Int32} (m e : Int32), m = 0 ∨ m = 1 ∨ m = 2 ∨ m = 3 → CX P W b r0 x y c r → CX P W b r0 x y (f_Cycle_runPid_51 P k c m e) (f_Mod_runsPid_96 W b k r m e) := by
    intro c r m e hm h
    unfold f_Cycle_runPid_51 f_Mod_runsPid_96 f_Cycle_runPid_93
    rcases sf_case2 hp hk with ⟨d1, d2⟩ | ⟨l, hl, hl2, d1, d2, d3, d4, d5⟩
    · rw [if_pos d1, if_pos d2, show c (150 + 1) = 0 from h.bn (j := 1) (by decide), if_neg (by decide)]
      exact s110 _ _ _ _ hm (Or.inl rfl) (by omega) h (fun _ => h.bn (j := 2) (by decide)) (fun z => absurd d2 z) ⟨fun z => absurd z (by decide), fun z => absurd d2 z⟩
    · have n1' : ¬ P 11 k = -1 := by rw [d1]; exact d3
      have n2' : ¬ f_Mod_setFrom W k = -1 := by rw [d2]; exact d3
      rw [if_neg n1', if_neg n2', d5, d4, show r (b + 70 + 10 * (l + 1) + 6) = c (155 + l * 5 + 1) from (h.gk2 hl n1 (j := 1) (by decide)).symm]
      have s : ∀ bg : Int32, CX P W b r0 x y (f_Cycle_runPid_110 P k c m e 0 (155 + l * 5) bg) (f_Mod_runsPid_127 W b k r m e bg) := by
        intro bg
        refine s110 _ _ _ _ hm (Or.inr ⟨l, hl, hl2, rfl, d4⟩) (by omega) h (fun z => absurd z n2') (fun _ => ⟨?_, by omega⟩) ⟨fun _ => n2', fun _ => rfl⟩
        rw [d4]; exact h.gk2 hl n1 (j := 2) (by decide)
      by_cases q1 : c (155 + l * 5 + 1) = 1
      · rw [if_pos q1, if_pos q1]; exact s _
      · rw [if_neg q1, if_neg q1]; exact s _
  have s33 : ∀ {c r : Nat → Int32} (m : Int32), m = 0 ∨ m = 1 ∨ m = 2 ∨ m = 3 → CX P W b r0 x y c r → CX P W b r0 x y (f_Cycle_runPid_33 P k c m) (f_Mod_runsPid_62 W b k r m) := by
    intro c r m hm h
    unfold f_Cycle_runPid_33 f_Mod_runsPid_62
    rw [← h.gb hk10 (j := 2) (by omega)]
    rcases cm_cases hp hk (w := 0) (by decide) with ⟨-, d2, d3⟩ | ⟨l, hl, hl2, d1, d2, d3, d4, d5, -⟩
    · rw [if_pos d2, d3, show c (150 + 0) = 0 from h.bn (j := 0) (by decide)]; exact s51 _ _ hm h
    · rw [d2, if_neg d3, d4, d5, ← h.gl2 hl n1 (j := 0) (by decide)]; exact s51 _ _ hm h
  unfold f_Cycle_runPid f_Mod_runsPid
  rw [← h.gb hk10 (j := 1) (by omega)]
  by_cases q3 : c (k * 9 + 1) = 3
  · rw [if_pos q3, if_pos q3]
    rcases cm_cases hp hk (w := 2) (by decide) with ⟨d1, -, d3⟩ | ⟨l, hl, hl2, d1, -, d3, d4, d5, -⟩
    · exact absurd d1 (hc q3)
    · rw [d5]
      refine s33 _ (hm h) (h.pb hk10 (j := 2) (by omega) ?_ (bd_o hk10 (Or.inl rfl) (cx_c0 h hp hk (by decide))))
      rw [d4]; exact h.gl2 hl n1 (j := 0) (by decide)
  · rw [if_neg q3, if_neg q3]; exact s33 _ (hm h) h
theorem cx_run {P W : Zf} {b k : Nat} {r0 c r : Nat → Int32} {x y : Int32} (h : CX P W b r0 x y c r) (hp : PK P W) (hk : k < pN P 30 3) : CX P W b r0 x y (f_Cycle_runBlock P k c) (f_Mod_runs W b k r) := by
  have n2 := hp.nb.2
  have hk10 : k < 10 := by omega
  obtain ⟨a1, a2, a3, a4⟩ := cx_act h hp hk
  have kb : pN P 0 k < 4 := (hp.wP.1.1 k).2
  unfold f_Cycle_runBlock f_Mod_runs f_Cycle_runBlock_16 f_Mod_runs_18
  rw [← a1, ← hp.kd hk]
  have h1 := a2.pb hk10 (j := 1) (by omega) rfl (bd_m hk10 (by omega) a3)
  have hc : upd (f_Cycle_actualOf P k c).2 (k * 9 + 1) (f_Cycle_actualOf P k c).1 (k * 9 + 1) = 3 → ¬ P 10 (k * 3 + 2) = -1 := by rw [ud_s]; exact a4
  have : pN P 0 k = 0 ∨ pN P 0 k = 1 ∨ pN P 0 k = 2 ∨ pN P 0 k = 3 := by omega
  rcases this with q | q | q | q
  · rw [if_pos q, if_pos q]; exact cx_input h1 hp hk q
  · rw [if_neg (by omega), if_pos q, if_neg (by omega), if_neg (by omega), if_neg (by omega)]; exact cx_pid h1 hp hk q hc
  · rw [if_neg (by omega), if_neg (by omega), if_pos q, if_neg (by omega), if_neg (by omega), if_pos q]; exact cx_output h1 hp hk q hc
  · rw [if_neg (by omega), if_neg (by omega), if_neg (by omega), if_neg (by omega), if_pos q]; exact cx_pick h1 hp hk q
