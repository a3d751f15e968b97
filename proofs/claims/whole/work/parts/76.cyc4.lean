/-! a whole cycle, alike on both sides -/
theorem br_fr {P : Zf} {l i : Nat} {c : Nat → Int32} (hi : i < 90 + l * 5 ∨ 90 + l * 5 + 5 ≤ i) : f_Cycle_bringLink P l c i = c i := by
  unfold f_Cycle_bringLink
  split
  · unfold f_Cycle_growOlder
    generalize (if c (90 + l * 5 + 4) + 1 < 99 then c (90 + l * 5 + 4) + 1 else 99) = v
    by_cases q2 : upd c (90 + l * 5 + 4) v (90 + l * 5 + 4) ≤ upd c (90 + l * 5 + 4) v 224
    · rw [if_pos q2, ud_o (show i ≠ 90 + l * 5 + 4 by omega)]
    · rw [if_neg q2, ud_o (show i ≠ 90 + l * 5 + 1 by omega), ud_o (show i ≠ 90 + l * 5 + 4 by omega)]
  · rw [ud_o (by omega), ud_o (by omega), ud_o (by omega), ud_o (by omega), ud_o (by omega)]
theorem br_loc {P : Zf} {l i : Nat} {c d : Nat → Int32} (hl : l < 12) (hf : pN P 12 l < 10) (h : ∀ i, i < 90 ∨ 155 ≤ i ∨ (90 + l * 5 ≤ i ∧ i < 90 + l * 5 + 5) → d i = c i) (hi : 90 + l * 5 ≤ i ∧ i < 90 + l * 5 + 5) : f_Cycle_bringLink P l d i = f_Cycle_bringLink P l c i := by
  have ec : ∀ a b, f_Cycle_carries d a b = f_Cycle_carries c a b := by
    intro a b
    unfold f_Cycle_carries
    rw [h 220 (by omega), h 221 (by omega)]
  have h0 := h i (Or.inr (Or.inr hi))
  unfold f_Cycle_bringLink
  rw [ec]
  by_cases q : f_Cycle_carries c (pN P 1 (pN P 12 l)) (pN P 1 (pN P 13 l)) = 0
  · rw [if_pos q, if_pos q]
    unfold f_Cycle_growOlder
    rw [h (90 + l * 5 + 4) (by omega)]
    generalize (if c (90 + l * 5 + 4) + 1 < 99 then c (90 + l * 5 + 4) + 1 else 99) = v
    rw [ud_s, ud_s, ud_o (show 224 ≠ 90 + l * 5 + 4 by omega), ud_o (show 224 ≠ 90 + l * 5 + 4 by omega), h 224 (by omega)]
    by_cases q2 : v ≤ c 224
    · rw [if_pos q2, if_pos q2]; exact ud_cg h0 rfl
    · rw [if_neg q2, if_neg q2]; exact ud_cg (ud_cg h0 rfl) rfl
  · rw [if_neg q, if_neg q]
    have e0 := h (pN P 12 l * 9 + 3) (by omega)
    have e1 := ud_cg (k := 90 + l * 5 + 0) (h (pN P 12 l * 9 + 5) (by omega)) e0
    have e2 := ud_cg (k := 90 + l * 5 + 1) (ud_cg (k := 90 + l * 5 + 0) (h (pN P 12 l * 9 + 6) (by omega)) e0) e1
    have e3 := ud_cg (k := 90 + l * 5 + 2) (ud_cg (k := 90 + l * 5 + 1) (ud_cg (k := 90 + l * 5 + 0) (h (pN P 12 l * 9 + 7) (by omega)) e0) e1) e2
    exact ud_cg (ud_cg (ud_cg (ud_cg (ud_cg h0 e0) e1) e2) e3) rfl
theorem cm_fr {W : Zf} {b l i : Nat} {r : Nat → Int32} (hi : i < b + 80 + 10 * l ∨ b + 80 + 10 * l + 5 ≤ i) : f_Mod_comes W b l r i = r i := by
  unfold f_Mod_comes
  split
  · unfold f_Mod_ages f_Mod_ages_21
    split
    · split
      · rfl
      · rw [ud_o (by omega)]
    · split
      · rw [ud_o (by omega)]
      · rw [ud_o (by omega), ud_o (by omega)]
  · rw [ud_o (by omega), ud_o (by omega), ud_o (by omega), ud_o (by omega), ud_o (by omega)]
theorem cm_loc {W : Zf} {b l i : Nat} {r s : Nat → Int32} (hl : l < 12) (hf : pN W 8 l < 10) (h : ∀ i, i < b + 80 ∨ b + 200 ≤ i ∨ (b + 80 + 10 * l ≤ i ∧ i < b + 80 + 10 * l + 5) → s i = r i) (hi : b + 80 + 10 * l ≤ i ∧ i < b + 80 + 10 * l + 5) : f_Mod_comes W b l s i = f_Mod_comes W b l r i := by
  have eo : ∀ d, f_Mod_isOn W b d s = f_Mod_isOn W b d r := by
    intro d
    unfold f_Mod_isOn
    rw [h (b + 205) (by omega)]
  have ec : ∀ k, f_Mod_doesCome W b l k s = f_Mod_doesCome W b l k r := by
    intro k
    unfold f_Mod_doesCome
    rw [eo, eo, eo, h (b + 206) (by omega)]
  have h0 := h i (Or.inr (Or.inr hi))
  unfold f_Mod_comes
  rw [ec]
  by_cases q : f_Mod_doesCome W b l (pN W 9 l) r = 0
  · rw [if_pos q, if_pos q]
    unfold f_Mod_ages f_Mod_ages_21
    rw [h (b + 80 + 10 * l + 4) (by omega)]
    by_cases q1 : 99 ≤ r (b + 80 + 10 * l + 4)
    · rw [if_pos q1, if_pos q1]
      by_cases q2 : r (b + 80 + 10 * l + 4) ≤ W 100 22
      · rw [if_pos q2, if_pos q2]; exact h0
      · rw [if_neg q2, if_neg q2]; exact ud_cg h0 rfl
    · rw [if_neg q1, if_neg q1, ud_s, ud_s]
      by_cases q2 : r (b + 80 + 10 * l + 4) + 1 ≤ W 100 22
      · rw [if_pos q2, if_pos q2]; exact ud_cg h0 rfl
      · rw [if_neg q2, if_neg q2]; exact ud_cg (ud_cg h0 rfl) rfl
  · rw [if_neg q, if_neg q]
    have e0 := h (b + 8 * pN W 8 l + 3) (by omega)
    have e1 := ud_cg (k := b + 80 + 10 * l + 0) (h (b + 8 * pN W 8 l + 5) (by omega)) e0
    have e2 := ud_cg (k := b + 80 + 10 * l + 1) (ud_cg (k := b + 80 + 10 * l + 0) (h (b + 8 * pN W 8 l + 6) (by omega)) e0) e1
    have e3 := ud_cg (k := b + 80 + 10 * l + 2) (ud_cg (k := b + 80 + 10 * l + 1) (ud_cg (k := b + 80 + 10 * l + 0) (h (b + 8 * pN W 8 l + 7) (by omega)) e0) e1) e2
    exact ud_cg (ud_cg (ud_cg (ud_cg (ud_cg h0 e0) e1) e2) e3) rfl
theorem s_109 {W : Zf} {b k : Nat} (hw : wfM W) : ∀ (t l : Nat) (r : Nat → Int32), 12 - l < t → (∀ j, (∀ m, l ≤ m → m < pN W 100 21 → pN W 9 m = pN W 34 k → ¬ (b + 80 + 10 * m ≤ j ∧ j < b + 80 + 10 * m + 5)) → f_Mod_cycle_109 W b t r k l j = r j) ∧ (∀ m j, l ≤ m → m < pN W 100 21 → pN W 9 m = pN W 34 k → (b + 80 + 10 * m ≤ j ∧ j < b + 80 + 10 * m + 5) → f_Mod_cycle_109 W b t r k l j = f_Mod_comes W b m r j) := by
  have hz := hw.lnk.2
  intro t
  induction t with
  | zero => intro l r h; omega
  | succ t ih =>
    intro l r h
    rw [f_Mod_cycle_109]
    by_cases q0 : pN W 100 21 ≤ l
    · rw [if_pos q0]
      exact ⟨fun j _ => rfl, fun m j h1 h2 => by omega⟩
    rw [if_neg q0]
    by_cases q1 : pN W 9 l = pN W 34 k
    · rw [if_pos q1]
      obtain ⟨i1, i2⟩ := ih (l + 1) (f_Mod_comes W b l r) (by omega)
      refine ⟨fun j hj => ?_, fun m j h1 h2 h3 h4 => ?_⟩
      · have z := hj l (by omega) (by omega) q1
        rw [i1 j (fun m h1 h2 h3 => hj m (by omega) h2 h3)]
        exact cm_fr (by omega)
      · by_cases e : m = l
        · subst e
          exact i1 j (fun m' z1 z2 z3 z4 => by omega)
        · rw [i2 m j (by omega) h2 h3 h4]
          exact cm_loc (by omega) (hw.2.2.1 m).2 (fun i hi => cm_fr (by omega)) h4
    · rw [if_neg q1]
      obtain ⟨i1, i2⟩ := ih (l + 1) r (by omega)
      refine ⟨fun j hj => i1 j (fun m h1 h2 h3 => hj m (by omega) h2 h3), fun m j h1 h2 h3 h4 => ?_⟩
      by_cases e : m = l
      · subst e; exact absurd h3 q1
      · exact i2 m j (by omega) h2 h3 h4
theorem s_33 {P W : Zf} (hp : PK P W) {k : Nat} (hk : pN P 18 k < pN P 30 3) : ∀ (t w : Nat) (c : Nat → Int32), 3 - w < t → (∀ j, (∀ u m, w ≤ u → u < 3 → P 10 (pN P 18 k * 3 + u) = nI m → m < 12 → ¬ (90 + m * 5 ≤ j ∧ j < 90 + m * 5 + 5)) → f_Cycle_goBy_33 P t c k w j = c j) ∧ (∀ u m j, w ≤ u → u < 3 → P 10 (pN P 18 k * 3 + u) = nI m → m < 12 → (90 + m * 5 ≤ j ∧ j < 90 + m * 5 + 5) → f_Cycle_goBy_33 P t c k w j = f_Cycle_bringLink P m c j) := by
  intro t
  induction t with
  | zero => intro w c h; omega
  | succ t ih =>
    intro w c h
    rw [f_Cycle_goBy_33]
    by_cases q0 : 3 ≤ w
    · rw [if_pos q0]
      exact ⟨fun j _ => rfl, fun u m j h1 h2 => by omega⟩
    rw [if_neg q0]
    rcases cm_cases hp hk (w := w) (by omega) with ⟨d1, -, -⟩ | ⟨l, hl, hl2, d1, d2, d3, d4, d5, d6, d7, d8⟩
    · rw [if_pos d1]
      obtain ⟨i1, i2⟩ := ih (w + 1) c (by omega)
      refine ⟨fun j hj => i1 j (fun u m h1 h2 h3 => hj u m (by omega) h2 h3), fun u m j h1 h2 h3 h4 h5 => ?_⟩
      by_cases e : u = w
      · subst e; rw [d1] at h3; exact absurd h3.symm (m1_ne (by omega))
      · exact i2 u m j (by omega) h2 h3 h4 h5
    · rw [if_neg (by rw [d1]; exact d3), d6]
      obtain ⟨i1, i2⟩ := ih (w + 1) (f_Cycle_bringLink P l c) (by omega)
      have ne : ∀ u m, w + 1 ≤ u → u < 3 → P 10 (pN P 18 k * 3 + u) = nI m → m < 12 → ¬ m = l := by
        intro u m h1 h2 h3 h4 e
        rcases cm_cases hp hk (w := u) h2 with ⟨f1, -, -⟩ | ⟨m', -, hm2, f1, -, -, -, -, -, -, f8⟩
        · rw [f1] at h3; exact absurd h3.symm (m1_ne (by omega))
        · rw [f1] at h3
          have := (nI_eq (by omega) (by omega)).mp h3
          subst this; subst e; omega
      refine ⟨fun j hj => ?_, fun u m j h1 h2 h3 h4 h5 => ?_⟩
      · have z := hj w l (by omega) (by omega) d1 hl2
        rw [i1 j (fun u m h1 h2 h3 => hj u m (by omega) h2 h3)]
        exact br_fr (by omega)
      · by_cases e : u = w
        · subst e
          have : m = l := by rw [d1] at h3; exact ((nI_eq (by omega) (by omega)).mp h3).symm
          subst this
          exact i1 j (fun u' m' z1 z2 z3 z4 z5 => by have := ne u' m' z1 z2 z3 z4; omega)
        · have nl := ne u m (by omega) h2 h3 h4
          rw [i2 u m j (by omega) h2 h3 h4 h5]
          exact br_loc h4 (hp.wP.1.2.2.1 m).2 (fun i hi => br_fr (by omega)) h5
theorem lt_none {W : Zf} (hw : wfM W) {k w l : Nat} (h : f_Mod_linkTo W k w = -1) (hl : l < pN W 100 21) (h1 : pN W 9 l = k) (h2 : pN W 10 l = w) : False := by
  have hz := hw.lnk.2
  have key : ∀ t m, 12 - m < t → m ≤ l → f_Mod_linkTo_2 W k w t m = -1 → False := by
    intro t
    induction t with
    | zero => intro m hm; omega
    | succ t ih =>
      intro m hm hml e
      rw [f_Mod_linkTo_2, if_neg (by omega)] at e
      by_cases c2 : pN W 9 m = k
      · rw [if_pos c2] at e
        by_cases c3 : pN W 10 m = w
        · rw [if_pos c3] at e; exact m1_ne (by omega) e
        · rw [if_neg c3] at e
          have : m ≠ l := fun z => by subst z; exact c3 h2
          exact ih _ (by omega) (by omega) e
      · rw [if_neg c2] at e
        have : m ≠ l := fun z => by subst z; exact c2 h1
        exact ih _ (by omega) (by omega) e
  exact key 13 0 (by omega) (by omega) h
theorem ps_own {n i m : Nat} (hi : Dm n i) (hm : m < 12) (h : 80 + 10 * m ≤ ps i ∧ ps i < 80 + 10 * m + 5) : 90 + m * 5 ≤ i ∧ i < 90 + m * 5 + 5 := by
  unfold Dm at hi
  unfold ps at h
  by_cases a1 : i < 90
  · rw [if_pos a1] at h; omega
  · rw [if_neg a1] at h
    by_cases a2 : i < 150
    · rw [if_pos a2] at h; omega
    · rw [if_neg a2] at h
      by_cases a3 : i < 215
      · rw [if_pos a3] at h; omega
      · rw [if_neg a3] at h; omega
theorem ps_own2 {m i : Nat} (hm : m < 12) (h : 90 + m * 5 ≤ i ∧ i < 90 + m * 5 + 5) : 80 + 10 * m ≤ ps i ∧ ps i < 80 + 10 * m + 5 := by
  unfold ps
  rw [if_neg (by omega), if_pos (by omega)]
  omega
theorem cx_links {P W : Zf} {b k : Nat} {r0 c r : Nat → Int32} {x y : Int32} (h : CX P W b r0 x y c r) (hp : PK P W) (hk : k < pN P 30 3) : CX P W b r0 x y (f_Cycle_goBy_33 P 4 c k 0) (f_Mod_cycle_109 W b 13 r k 0) := by
  obtain ⟨o1, o2⟩ := hp.od hk
  have n1 := hp.nl
  obtain ⟨c1, c2⟩ := s_33 hp o2 4 0 c (by omega)
  obtain ⟨r1, r2⟩ := s_109 (b := b) (k := k) hp.wM 13 0 r (by omega)
  have out : ∀ i, (i < 90 ∨ 150 ≤ i) → f_Cycle_goBy_33 P 4 c k 0 i = c i := fun i hi => c1 i (fun u m _ _ _ hm z => by omega)
  have rout : ∀ i, (i < b + 80 ∨ b + 200 ≤ i) → f_Mod_cycle_109 W b 13 r k 0 i = r i := fun i hi => r1 i (fun m _ hm _ z => by omega)
  have cas : ∀ i, (∃ m, m < pN P 31 0 ∧ m < 12 ∧ pN W 9 m = pN W 34 k ∧ (90 + m * 5 ≤ i ∧ i < 90 + m * 5 + 5) ∧ f_Cycle_goBy_33 P 4 c k 0 i = f_Cycle_bringLink P m c i) ∨ ((∀ m, m < pN P 31 0 → pN W 9 m = pN W 34 k → ¬ (90 + m * 5 ≤ i ∧ i < 90 + m * 5 + 5)) ∧ f_Cycle_goBy_33 P 4 c k 0 i = c i) := by
    intro i
    by_cases q : ∃ m, m < pN P 31 0 ∧ pN W 9 m = pN W 34 k ∧ (90 + m * 5 ≤ i ∧ i < 90 + m * 5 + 5)
    · left
      obtain ⟨m, h1, h2, h3⟩ := q
      have w3 : pN W 10 m < 3 := (hp.wM.2.2.2.2.1 m).2
      refine ⟨m, h1, by omega, h2, h3, ?_⟩
      rcases cm_cases hp o2 (w := pN W 10 m) w3 with ⟨-, f2, -⟩ | ⟨m', hm', hm2, f1, -, -, -, -, -, f7, f8⟩
      · exact absurd (lt_none hp.wM f2 (by omega) (h2.trans o1.symm) rfl) id
      · have e : m' = m := hp.2.2.2.2.2.1 m' m hm' h1 (f7.trans (h2.trans o1.symm).symm) f8
        subst e
        exact c2 _ m' i (by omega) w3 f1 hm2 h3
    · right
      refine ⟨fun m h1 h2 h3 => q ⟨m, h1, h2, h3⟩, c1 i (fun u m _ hu hm hm2 z => ?_)⟩
      rcases cm_cases hp o2 (w := u) hu with ⟨f1, -, -⟩ | ⟨m', hm', hm3, f1, -, -, -, -, -, f7, f8⟩
      · rw [f1] at hm; exact m1_ne (by omega) hm.symm
      · rw [f1] at hm
        have e := (nI_eq (by omega) (by omega)).mp hm
        subst e
        exact q ⟨m', hm', f7.trans o1, z⟩
  refine ⟨⟨fun i hi => ?_, fun i hi => ?_, fun j hj0 hj hj2 => ?_, ?_, ?_⟩, fun i hi => ?_, ?_, ?_⟩
  · rcases cas i with ⟨m, h1, h12, h2, h3, h4⟩ | ⟨h1, h2⟩
    · have z := ps_own2 h12 h3
      rw [h4, r2 m (b + ps i) (by omega) (by omega) h2 (by omega)]
      exact (cx_bring h hp h1).1.1 i hi
    · rw [h2, r1 (b + ps i) (fun m _ hm hm2 z => h1 m (by omega) hm2 (ps_own hi (by omega) (by omega)))]
      exact h.1.1 i hi
  · rcases cas i with ⟨m, h1, h12, h2, h3, h4⟩ | ⟨h1, h2⟩
    · rw [h4]; exact (cx_bring h hp h1).1.2.1 i hi
    · rw [h2]; exact h.1.2.1 i hi
  · have := hp.nb.2
    rw [out _ (by omega)]; exact h.1.2.2.1 j hj0 hj hj2
  · rw [out _ (by omega)]; exact h.1.2.2.2.1
  · rw [out _ (by omega), out _ (by omega)]; exact h.1.2.2.2.2
  · rw [rout _ (by omega)]; exact h.2.1 i hi
  · rw [rout _ (by omega)]; exact h.2.2.1
  · rw [out _ (by omega)]; exact h.2.2.2
theorem cx_99 {P W : Zf} {b : Nat} {r0 : Nat → Int32} {x y : Int32} (hp : PK P W) : ∀ (t k : Nat) {c r : Nat → Int32}, CX P W b r0 x y c r → CX P W b r0 x y (f_Cycle_goBy_12 P t c k) (f_Mod_cycle_99 W b t r k) := by
  intro t
  induction t with
  | zero => intro k c r h; exact h
  | succ t ih =>
    intro k c r h
    rw [f_Cycle_goBy_12, f_Mod_cycle_99, ← hp.nb.1]
    by_cases q0 : pN P 30 3 ≤ k
    · rw [if_pos q0, if_pos q0]; exact h
    rw [if_neg q0, if_neg q0]
    have hk : k < pN P 30 3 := by omega
    obtain ⟨o1, o2⟩ := hp.od hk
    have h1 := cx_links h hp hk
    rw [cx_on h1, ← o1, ← hp.dv o2]
    by_cases q1 : f_Mod_isOn W b (pN P 1 (pN P 18 k)) (f_Mod_cycle_109 W b 13 r k 0) = 0
    · rw [if_pos q1, if_pos q1]; exact ih _ h1
    · rw [if_neg q1, if_neg q1]; exact ih _ (cx_run h1 hp o2)
theorem cx_182 {P W : Zf} {b : Nat} {r0 : Nat → Int32} {x y : Int32} (hp : PK P W) : ∀ (t l : Nat) {c r : Nat → Int32}, CX P W b r0 x y c r → CX P W b r0 x y (f_Cycle_goBy_102 P t c l) (f_Mod_cycle_182 W b t r l) := by
  intro t
  induction t with
  | zero => intro l c r h; exact h
  | succ t ih =>
    intro l c r h
    rw [f_Cycle_goBy_102, f_Mod_cycle_182, ← hp.nl.1]
    by_cases q0 : pN P 31 0 ≤ l
    · rw [if_pos q0, if_pos q0]; exact h
    rw [if_neg q0, if_neg q0]
    have hl : l < pN P 31 0 := by omega
    rw [(hp.lk hl).1.2.2]
    by_cases q1 : pN W 10 l = 2
    · rw [if_pos q1, if_pos q1]; exact ih _ (cx_back h hp hl)
    · rw [if_neg q1, if_neg q1]; exact ih _ h
theorem cx_cycle {P W : Zf} {b : Nat} {r0 c r : Nat → Int32} {x y : Int32} (h : CX P W b r0 x y c r) (hp : PK P W) : ∃ x' y', CX P W b r0 x' y' (f_Cycle_goBy P c) (f_Mod_cycle W b r) ∧ x' = (if y = -1 then if y' = -1 then x else x + 1 else x) := by
  obtain ⟨x', y', h1, e⟩ := cx_seek (cx_sens h hp) hp
  refine ⟨x', y', ?_, e⟩
  have h2 := cx_182 hp 13 0 (cx_99 hp 11 0 h1)
  unfold f_Cycle_goBy f_Mod_cycle
  refine h2.pt (by decide) (by decide) (by decide) rfl ?_ (bd_t (by decide) (fun z => absurd z (by decide)) (fun z => absurd z (by decide)) (fun z => absurd z (by decide)))
  rw [h2.gs (i := 223) (j := b + 208) (by decide) (by decide) rfl]
theorem cx_goes {P W : Zf} {b n : Nat} {r0 c r : Nat → Int32} {x y : Int32} (h : CX P W b r0 x y c r) (hp : PK P W) : ∃ x' y', CX P W b r0 x' y' (f_Bus_passCycles P n c) (f_Mod_goes W b n r) := by
  unfold f_Bus_passCycles f_Mod_goes
  have key : ∀ (t k : Nat) {c r : Nat → Int32} {x y : Int32}, CX P W b r0 x y c r → ∃ x' y', CX P W b r0 x' y' (f_Bus_passCycles_2 P n t c k) (f_Mod_goes_2 W b n t r k) := by
    intro t
    induction t with
    | zero => intro k c r x y h; exact ⟨x, y, h⟩
    | succ t ih =>
      intro k c r x y h
      rw [f_Bus_passCycles_2, f_Mod_goes_2]
      by_cases q : n ≤ k
      · rw [if_pos q, if_pos q]; exact ⟨x, y, h⟩
      · rw [if_neg q, if_neg q]
        obtain ⟨x', y', h1, -⟩ := cx_cycle h hp
        exact ih _ h1
  exact key 61 0 h
