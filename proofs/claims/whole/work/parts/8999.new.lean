/-! the first State keeps the relation -/
theorem mk_bt : ∀ d, d < 6 → ∀ j, j < 32 → d ≤ j → bt (((1 : Int32) <<< (nI d &&& 31)) - 1) j = false := by decide +kernel
theorem rw24_o {P : Zf} {i : Nat} (h : i % 9 = 2 ∨ i % 9 = 3 ∨ i % 9 = 4 ∨ i % 9 = 6 ∨ i % 9 = 7) : rw24 P 0 i = 0 := by
  unfold rw24
  rw [if_neg (by omega), if_neg (by omega), if_neg (by omega), if_neg (by omega)]
theorem st_new {P V : Zf} {c : Nat → Int32} (hb : pN P 30 3 = pN V 100 20) (hb2 : pN P 30 3 ≤ 10) (hl : pN P 31 0 = pN V 100 21) (hl2 : pN P 31 0 ≤ 12) (hd : pN P 30 0 = pN V 100 19) (hd2 : 0 < pN P 30 0 ∧ pN P 30 0 ≤ 5) (ht : ∀ k, k < pN P 30 3 → tgP P k = tgM V k) (hk : ∀ k, k < pN P 30 3 → ¬ P 10 (k * 3 + 2) = -1 → ¬ (pN P 0 k = 0 ∨ pN P 0 k = 3)) : StR P (f_State_startAnew P c) (f_Mod_begins V 0) 0 := by
  have A := fun i hi => sa_all (c := c) hb2 i hi
  have M := fun i => bg_all (V := V) (by omega) (by omega) i
  have e0 := t_0
  have e1 := t_1
  have e2 : (2 : Int32).toInt = 2 := by decide
  have e3 : (3 : Int32).toInt = 3 := by decide
  refine ⟨fun i hi => ?_, fun i hi => ?_, fun k h10 hkb hk1 => ?_, ?_, ?_⟩
  · obtain ⟨d1, d2, d3, d4, d5⟩ := hi
    rw [A i (by omega), M (0 + ps i), if_neg (show ¬ i = 224 by omega)]
    by_cases c1 : i < 90
    · have p : ps i = 8 * (i / 9) + i % 9 := by unfold ps; rw [if_pos c1]
      have m := d2 c1
      rw [if_neg (by omega), if_neg (by omega), if_neg (show ¬ 0 + ps i = 205 by omega), if_neg (show ¬ (80 ≤ 0 + ps i ∧ 0 + ps i < 200 ∧ (0 + ps i) % 10 = 8 ∧ (0 + ps i - 80) / 10 < pN V 100 21) by omega)]
      by_cases c2 : i / 9 < pN P 30 3
      · rw [if_pos ⟨c1, c2⟩, if_pos (show 0 + ps i < 80 ∧ (0 + ps i) / 8 < pN V 100 20 by omega)]
        unfold rw24 rm24
        rw [show (0 + ps i) % 8 = i % 9 by omega, show (0 + ps i) / 8 = i / 9 by omega, ht _ c2, if_neg (show ¬ i % 9 = 8 by omega)]
      · rw [if_neg (fun z => c2 z.2), if_neg (show ¬ (0 + ps i < 80 ∧ (0 + ps i) / 8 < pN V 100 20) by omega), if_pos (show 0 + ps i < 210 by omega)]
    · by_cases c2 : i < 150
      · have p : ps i = 80 + 10 * ((i - 90) / 5) + (i - 90) % 5 := by unfold ps; rw [if_neg c1, if_pos c2]
        rw [if_neg (by omega), if_neg (show ¬ (155 ≤ i ∧ i < 215 ∧ i % 5 = 3) by omega), if_neg (show ¬ (i < 90 ∧ i / 9 < pN P 30 3) by omega), if_neg (show ¬ 0 + ps i = 205 by omega), if_neg (show ¬ (80 ≤ 0 + ps i ∧ 0 + ps i < 200 ∧ (0 + ps i) % 10 = 8 ∧ (0 + ps i - 80) / 10 < pN V 100 21) by omega), if_neg (show ¬ (0 + ps i < 80 ∧ (0 + ps i) / 8 < pN V 100 20) by omega), if_pos (show 0 + ps i < 210 by omega)]
      · by_cases c3 : i < 215
        · have p : ps i = 85 + 10 * ((i - 155) / 5) + (i - 155) % 5 := by unfold ps; rw [if_neg c1, if_neg c2, if_pos c3]
          have m := d5 (by omega) c3
          rw [if_neg (by omega), if_neg (show ¬ 0 + ps i = 205 by omega)]
          by_cases c4 : i % 5 = 3
          · rw [if_pos (show 155 ≤ i ∧ i < 215 ∧ i % 5 = 3 by omega), if_pos (show 80 ≤ 0 + ps i ∧ 0 + ps i < 200 ∧ (0 + ps i) % 10 = 8 ∧ (0 + ps i - 80) / 10 < pN V 100 21 by omega)]
          · rw [if_neg (show ¬ (155 ≤ i ∧ i < 215 ∧ i % 5 = 3) by omega), if_neg (show ¬ (i < 90 ∧ i / 9 < pN P 30 3) by omega), if_neg (show ¬ (80 ≤ 0 + ps i ∧ 0 + ps i < 200 ∧ (0 + ps i) % 10 = 8 ∧ (0 + ps i - 80) / 10 < pN V 100 21) by omega), if_neg (show ¬ (0 + ps i < 80 ∧ (0 + ps i) / 8 < pN V 100 20) by omega), if_pos (show 0 + ps i < 210 by omega)]
        · have p : ps i = i - 15 := by unfold ps; rw [if_neg c1, if_neg c2, if_neg c3]
          by_cases c4 : i = 220
          · rw [if_pos c4, if_pos (show 0 + ps i = 205 by omega), hd]
          · rw [if_neg c4, if_neg (show ¬ 0 + ps i = 205 by omega), if_neg (show ¬ (155 ≤ i ∧ i < 215 ∧ i % 5 = 3) by omega), if_neg (show ¬ (i < 90 ∧ i / 9 < pN P 30 3) by omega), if_neg (show ¬ (80 ≤ 0 + ps i ∧ 0 + ps i < 200 ∧ (0 + ps i) % 10 = 8 ∧ (0 + ps i - 80) / 10 < pN V 100 21) by omega), if_neg (show ¬ (0 + ps i < 80 ∧ (0 + ps i) / 8 < pN V 100 20) by omega), if_pos (show 0 + ps i < 210 by omega)]
  · rw [A i hi]
    have zz : (¬ i = 220 → ¬ i = 224 → ¬ (155 ≤ i ∧ i < 215 ∧ i % 5 = 3) → ¬ (i < 90 ∧ i / 9 < pN P 30 3) → Bd (pN P 0) (pN P 30 0) i 0) := fun _ _ _ _ => ⟨fun _ _ => by omega, fun _ _ => by omega, fun _ _ => Or.inl rfl, fun _ _ _ => by omega, fun _ _ _ => Or.inl rfl, fun _ _ _ => by omega, fun _ _ => rfl, fun _ _ => by omega, fun _ => by omega, fun _ => Or.inr ⟨0, by omega, rfl⟩, fun _ => by omega⟩
    by_cases a : i = 224
    · rw [if_pos a]
      exact bd_t (by omega) (fun z => by omega) (fun z => by omega) (fun z => by omega)
    rw [if_neg a]
    by_cases b : i = 220
    · rw [if_pos b]
      refine bd_t (by omega) (fun _ j hj => ?_) (fun z => by omega) (fun z => by omega)
      by_cases q : j < 32
      · exact mk_bt _ (by omega) j q hj
      · exact b_big (by omega)
    rw [if_neg b]
    by_cases d : 155 ≤ i ∧ i < 215 ∧ i % 5 = 3
    · rw [if_pos d]
      exact ⟨fun _ _ => by omega, fun _ _ => by omega, fun _ _ => by omega, fun _ _ _ => by omega, fun _ _ _ => by omega, fun _ _ _ => by omega, fun _ _ => by omega, fun _ _ => by omega, fun _ => by omega, fun _ => by omega, fun _ => by omega⟩
    rw [if_neg d]
    by_cases e : i < 90 ∧ i / 9 < pN P 30 3
    · rw [if_pos e]
      by_cases o : i % 9 = 2 ∨ i % 9 = 3 ∨ i % 9 = 4 ∨ i % 9 = 6 ∨ i % 9 = 7
      · rw [rw24_o o]
        exact ⟨fun _ _ => by omega, fun _ _ => by omega, fun _ _ => by omega, fun _ _ _ => by omega, fun _ _ _ => by omega, fun _ _ _ => by omega, fun _ _ => by omega, fun _ _ => by omega, fun _ => by omega, fun _ => by omega, fun _ => by omega⟩
      · have ik : i = i / 9 * 9 + i % 9 := by omega
        unfold rw24
        by_cases m0 : i % 9 = 0
        · rw [if_pos m0, ik, m0]
          refine bd_m (by omega) (by omega) ?_
          rw [show (i / 9 * 9 + 0) / 9 = i / 9 by omega]
          unfold tgP
          by_cases g : P 10 (i / 9 * 3 + 2) = -1
          · rw [if_pos g]; omega
          · rw [if_neg g]
            have := hk _ e.2 g
            exact ⟨by omega, by omega, fun z => absurd z this⟩
        rw [if_neg m0]
        by_cases m1 : i % 9 = 1
        · rw [if_pos m1, ik, m1]
          exact bd_m (by omega) (by omega) (by omega)
        rw [if_neg m1]
        by_cases m5 : i % 9 = 5
        · rw [if_pos m5, ik, m5]
          exact bd_g (by omega) (Or.inr rfl)
        rw [if_neg m5, if_pos (show i % 9 = 8 by omega), ik, show i % 9 = 8 by omega]
        exact bd_x (by omega) (by omega)
    · rw [if_neg e]; exact zz b a d e
  · rw [A _ (by omega), if_neg (by omega), if_neg (by omega), if_neg (show ¬ (155 ≤ k * 9 + 8 ∧ k * 9 + 8 < 215 ∧ (k * 9 + 8) % 5 = 3) by omega), if_pos (show k * 9 + 8 < 90 ∧ (k * 9 + 8) / 9 < pN P 30 3 by omega)]
    unfold rw24
    rw [if_neg (by omega), if_neg (by omega), if_neg (by omega), if_pos (by omega), show (k * 9 + 8) / 9 = k by omega]
  · rw [A 224 (by omega), if_pos rfl]
  · right
    rw [A 222 (by omega), if_neg (by decide), if_neg (by decide), if_neg (by decide), if_neg (fun z => absurd z.1 (by decide))]
/-- the links of a plan, found by place -/
theorem ltm_of {V : Zf} {k w l : Nat} (hw : wfM V) (hl : l < pN V 100 21) (h9 : pN V 9 l = k) (h10 : pN V 10 l = w) (hu : ∀ m, m < pN V 100 21 → pN V 9 m = k → pN V 10 m = w → m = l) : f_Mod_linkTo V k w = nI l := by
  have hz := hw.lnk.2
  have key : ∀ t m, m ≤ l → l - m < t → f_Mod_linkTo_2 V k w t m = nI l := by
    intro t
    induction t with
    | zero => intro m _ h; omega
    | succ t ih =>
      intro m hm h
      rw [f_Mod_linkTo_2, if_neg (by omega)]
      by_cases d : m = l
      · subst d; rw [if_pos h9, if_pos h10]
      · have go := ih (m + 1) (by omega) (by omega)
        by_cases a : pN V 9 m = k
        · rw [if_pos a, if_neg (fun b => d (hu m (by omega) a b))]; exact go
        · rw [if_neg a]; exact go
  unfold f_Mod_linkTo
  exact key 13 0 (by omega) (by omega)
theorem ltm_no {V : Zf} {k w : Nat} (hw : wfM V) (h : ∀ m, m < pN V 100 21 → ¬ (pN V 9 m = k ∧ pN V 10 m = w)) : f_Mod_linkTo V k w = -1 := by
  have hz := hw.lnk.2
  have key : ∀ t m, 12 - m < t → m ≤ 12 → f_Mod_linkTo_2 V k w t m = -1 := by
    intro t
    induction t with
    | zero => intro m h; omega
    | succ t ih =>
      intro m hm hm2
      rw [f_Mod_linkTo_2]
      by_cases q : pN V 100 21 ≤ m
      · rw [if_pos q]
      rw [if_neg q]
      have n := h m (by omega)
      by_cases a : pN V 9 m = k
      · rw [if_pos a, if_neg (fun b => n ⟨a, b⟩)]; exact ih (m + 1) (by omega) (by omega)
      · rw [if_neg a]; exact ih (m + 1) (by omega) (by omega)
  unfold f_Mod_linkTo
  exact key 13 0 (by omega) (by omega)
theorem sfm_of {V : Zf} {k l : Nat} (hw : wfM V) (hl : l < pN V 100 21) (h8 : pN V 8 l = k) (h10 : pN V 10 l = 2) (hu : ∀ m, m < pN V 100 21 → pN V 8 m = k → pN V 10 m = 2 → m = l) : f_Mod_setFrom V k = nI l := by
  have hz := hw.lnk.2
  have key : ∀ t m, m ≤ l → l - m < t → f_Mod_setFrom_2 V k t m = nI l := by
    intro t
    induction t with
    | zero => intro m _ h; omega
    | succ t ih =>
      intro m hm h
      rw [f_Mod_setFrom_2, if_neg (by omega)]
      by_cases d : m = l
      · subst d; rw [if_pos h8, if_pos h10]
      · have go := ih (m + 1) (by omega) (by omega)
        by_cases a : pN V 8 m = k
        · rw [if_pos a, if_neg (fun b => d (hu m (by omega) a b))]; exact go
        · rw [if_neg a]; exact go
  unfold f_Mod_setFrom
  exact key 13 0 (by omega) (by omega)
theorem sfm_no {V : Zf} {k : Nat} (hw : wfM V) (h : ∀ m, m < pN V 100 21 → ¬ (pN V 8 m = k ∧ pN V 10 m = 2)) : f_Mod_setFrom V k = -1 := by
  have hz := hw.lnk.2
  have key : ∀ t m, 12 - m < t → m ≤ 12 → f_Mod_setFrom_2 V k t m = -1 := by
    intro t
    induction t with
    | zero => intro m h; omega
    | succ t ih =>
      intro m hm hm2
      rw [f_Mod_setFrom_2]
      by_cases q : pN V 100 21 ≤ m
      · rw [if_pos q]
      rw [if_neg q]
      have n := h m (by omega)
      by_cases a : pN V 8 m = k
      · rw [if_pos a, if_neg (fun b => n ⟨a, b⟩)]; exact ih (m + 1) (by omega) (by omega)
      · rw [if_neg a]; exact ih (m + 1) (by omega) (by omega)
  unfold f_Mod_setFrom
  exact key 13 0 (by omega) (by omega)
