/-! what a cycle reads of a plan, alike on both sides; one link, one way back, sensors, scheduler -/
def PK (P W : Zf) : Prop :=
  (wfP P ∧ wfM W ∧ PlM W) ∧ (pN P 30 0 = pN W 100 19 ∧ pN P 30 3 = pN W 100 20 ∧ pN P 31 0 = pN W 100 21) ∧
  (∀ k, k < pN P 30 3 → (pN P 0 k = pN W 3 k ∧ pN P 1 k = pN W 1 k ∧ pN P 18 k = pN W 34 k) ∧ (pN P 0 k = 0 → P 3 k = W 4 k) ∧ (pN P 0 k = 1 → P 5 k = W 5 k ∧ P 7 k = W 6 k ∧ (P 7 k = 1 ∨ P 7 k = 2) ∧ (P 8 k = 0 ↔ ¬ W 7 k = 1)) ∧ (pN P 0 k = 2 → P 3 k = W 4 k ∧ P 6 k = W 5 k ∧ 0 ≤ (P 6 k).toInt ∧ (P 6 k).toInt ≤ 1000) ∧ (pN P 0 k = 3 → (P 9 k = 0 ↔ ¬ pN W 4 k = 1))) ∧
  (∀ l, l < pN P 31 0 → pN P 12 l = pN W 8 l ∧ pN P 13 l = pN W 9 l ∧ pN P 14 l = pN W 10 l) ∧
  ((∀ k w, k < pN P 30 3 → w < 3 → P 10 (k * 3 + w) = f_Mod_linkTo W k w) ∧ ∀ k, k < pN P 30 3 → P 11 k = f_Mod_setFrom W k) ∧
  (∀ l m, l < pN P 31 0 → m < pN P 31 0 → pN W 9 l = pN W 9 m → pN W 10 l = pN W 10 m → l = m) ∧
  (∀ s, s < 4 → P 15 s = W 11 s ∧ (¬ P 15 s = -1 → P 16 s = W 12 s ∧ P 17 s = W 13 s ∧ 0 < (P 17 s).toInt))
theorem PK.wP {P W : Zf} (h : PK P W) : wfP P := h.1.1
theorem PK.wM {P W : Zf} (h : PK P W) : wfM W := h.1.2.1
theorem PK.nb {P W : Zf} (h : PK P W) : pN P 30 3 = pN W 100 20 ∧ pN P 30 3 ≤ 10 := ⟨h.2.1.2.1, by have := h.wP.1.2.2.2.2.2.1.2; omega⟩
theorem PK.nl {P W : Zf} (h : PK P W) : pN P 31 0 = pN W 100 21 ∧ pN P 31 0 ≤ 12 := ⟨h.2.1.2.2, by have := h.wP.1.2.2.2.2.2.2.1.2; omega⟩
theorem PK.nd {P W : Zf} (h : PK P W) : pN P 30 0 = pN W 100 19 ∧ pN P 30 0 ≤ 5 := ⟨h.2.1.1, by have := h.wP.1.2.2.2.2.2.2.2.1.2; omega⟩
theorem PK.kd {P W : Zf} (h : PK P W) {k : Nat} (hk : k < pN P 30 3) : pN P 0 k = pN W 3 k := (h.2.2.1 k hk).1.1
theorem PK.dv {P W : Zf} (h : PK P W) {k : Nat} (hk : k < pN P 30 3) : pN P 1 k = pN W 1 k := (h.2.2.1 k hk).1.2.1
theorem PK.od {P W : Zf} (h : PK P W) {k : Nat} (hk : k < pN P 30 3) : pN P 18 k = pN W 34 k ∧ pN P 18 k < pN P 30 3 := ⟨(h.2.2.1 k hk).1.2.2, h.wP.2.2 k hk⟩
theorem PK.lk {P W : Zf} (h : PK P W) {l : Nat} (hl : l < pN P 31 0) : (pN P 12 l = pN W 8 l ∧ pN P 13 l = pN W 9 l ∧ pN P 14 l = pN W 10 l) ∧ pN P 12 l < pN P 30 3 ∧ pN P 13 l < pN P 30 3 := by
  have e := h.2.2.2.1 l hl
  have q := h.1.2.2.2.2 l (by rw [← h.nl.1]; exact hl)
  refine ⟨e, ?_, ?_⟩
  · rw [e.1, h.nb.1]; exact q.1
  · rw [e.2.1, h.nb.1]; exact q.2
theorem lt_spec {W : Zf} (hw : wfM W) {k w l : Nat} (h : f_Mod_linkTo W k w = nI l) (hl : l < 2 ^ 31) : l < pN W 100 21 ∧ pN W 9 l = k ∧ pN W 10 l = w := by
  have hz := hw.lnk.2
  have key : ∀ t m, 12 - m < t → f_Mod_linkTo_2 W k w t m = nI l → l < pN W 100 21 ∧ pN W 9 l = k ∧ pN W 10 l = w := by
    intro t
    induction t with
    | zero => intro m hm; omega
    | succ t ih =>
      intro m hm e
      rw [f_Mod_linkTo_2] at e
      by_cases c1 : pN W 100 21 ≤ m
      · rw [if_pos c1] at e; exact absurd e.symm (m1_ne hl)
      · rw [if_neg c1] at e
        by_cases c2 : pN W 9 m = k
        · rw [if_pos c2] at e
          by_cases c3 : pN W 10 m = w
          · rw [if_pos c3] at e
            have := (nI_eq (by omega) hl).mp e
            subst this
            exact ⟨by omega, c2, c3⟩
          · rw [if_neg c3] at e; exact ih _ (by omega) e
        · rw [if_neg c2] at e; exact ih _ (by omega) e
  exact key 13 0 (by omega) h
/-- the link to a place of a block, on both sides -/
theorem cm_cases {P W : Zf} (h : PK P W) {k w : Nat} (hk : k < pN P 30 3) (hw : w < 3) : (P 10 (k * 3 + w) = -1 ∧ f_Mod_linkTo W k w = -1 ∧ came P k w = 150) ∨ ∃ l, l < pN P 31 0 ∧ l < 12 ∧ P 10 (k * 3 + w) = nI l ∧ f_Mod_linkTo W k w = nI l ∧ ¬ nI l = -1 ∧ came P k w = 90 + l * 5 ∧ lkP W k w = l + 1 ∧ pN P 10 (k * 3 + w) = l ∧ pN W 9 l = k ∧ pN W 10 l = w := by
  have e := h.2.2.2.2.1.1 k w hk hw
  have n1 := h.nl
  rcases lk_cases h.wM k w with q | ⟨l, hl, q⟩
  · left
    rw [q] at e
    exact ⟨e, q, by unfold came; rw [if_pos e]⟩
  · right
    rw [q] at e
    have hl2 : l < 2 ^ 31 := by omega
    have hp : pN P 10 (k * 3 + w) = l := pN_mk hl2 e
    have hm := m1_ne hl2
    refine ⟨l, by omega, by omega, e, q, hm, ?_, ?_, hp, (lt_spec h.wM q hl2).2⟩
    · unfold came; rw [hp, e, if_neg hm]
    · unfold lkP; rw [q, nI_1, nI_clamp (by omega)]
theorem sf_case2 {P W : Zf} (h : PK P W) {k : Nat} (hk : k < pN P 30 3) : (P 11 k = -1 ∧ f_Mod_setFrom W k = -1) ∨ ∃ l, l < pN P 31 0 ∧ l < 12 ∧ P 11 k = nI l ∧ f_Mod_setFrom W k = nI l ∧ ¬ nI l = -1 ∧ sfP W k = l + 1 ∧ pN P 11 k = l := by
  have e := h.2.2.2.2.1.2 k hk
  have n1 := h.nl
  rcases sf_cases h.wM k with q | ⟨l, hl, q⟩
  · left
    rw [q] at e
    exact ⟨e, q⟩
  · right
    rw [q] at e
    have hl2 : l < 2 ^ 31 := by omega
    refine ⟨l, by omega, by omega, e, q, m1_ne hl2, ?_, pN_mk hl2 e⟩
    unfold sfP; rw [q, nI_1, nI_clamp (by omega)]
theorem cx_on {P W : Zf} {b : Nat} {r0 c r : Nat → Int32} {x y : Int32} (h : CX P W b r0 x y c r) (d : Nat) : f_Bus_hasBit (c 220) (nI d) = f_Mod_isOn W b d r := by
  unfold f_Bus_hasBit f_Mod_isOn
  rw [h.gs (i := 220) (j := b + 205) (by decide) (by decide) rfl]
theorem wi_put (x : Int32) : f_Cycle_within x = f_Mod_put x := by
  unfold f_Cycle_within f_Mod_put
  have e0 := t_0
  have e1 := t_1000
  by_cases h1 : x < 1000
  · rw [if_pos h1]
    rw [i_lt] at h1
    by_cases h2 : 0 < x
    · rw [if_pos h2]
      rw [i_lt] at h2
      rw [if_pos (i_le.mpr (by omega)), if_pos (i_le.mpr (by omega))]
    · rw [if_neg h2]
      rw [i_lt] at h2
      by_cases h3 : 0 ≤ x
      · rw [if_pos h3, if_pos (i_le.mpr (by omega))]
        rw [i_le] at h3
        exact ti_eq (by omega)
      · rw [if_neg h3]
  · rw [if_neg h1, if_pos (by decide)]
    rw [i_lt] at h1
    rw [if_pos (i_le.mpr (by omega))]
    by_cases h3 : x ≤ 1000
    · rw [if_pos h3]
      rw [i_le] at h3
      exact ti_eq (by omega)
    · rw [if_neg h3]
theorem put_bd (x : Int32) : 0 ≤ (f_Mod_put x).toInt ∧ (f_Mod_put x).toInt ≤ 1000 := by
  unfold f_Mod_put
  have e0 := t_0
  have e1 := t_1000
  split
  · split
    · rename_i h1 h2
      rw [i_le] at h1 h2
      omega
    · rw [t_1000]; omega
  · rw [t_0]; omega
theorem put_in {x : Int32} (h : 0 ≤ x.toInt ∧ x.toInt ≤ 1000) : f_Mod_put x = x := by
  unfold f_Mod_put
  have e0 := t_0
  have e1 := t_1000
  rw [if_pos (i_le.mpr (by omega)), if_pos (i_le.mpr (by omega))]
theorem cx_carries {P W : Zf} {b l : Nat} {r0 c r : Nat → Int32} {x y : Int32} (h : CX P W b r0 x y c r) (hp : PK P W) (hl : l < pN P 31 0) : f_Cycle_carries c (pN P 1 (pN P 12 l)) (pN P 1 (pN P 13 l)) = f_Mod_doesCome W b l (pN W 9 l) r ∧ f_Cycle_carries c (pN P 1 (pN P 13 l)) (pN P 1 (pN P 12 l)) = f_Mod_doesCome W b l (pN W 8 l) r := by
  obtain ⟨⟨e1, e2, e3⟩, l1, l2⟩ := hp.lk hl
  have d1 := hp.dv l1
  have d2 := hp.dv l2
  have s1 : c 221 = r (b + 206) := h.gs (by decide) (by decide) rfl
  unfold f_Cycle_carries f_Mod_doesCome f_Mod_isWithin
  rw [cx_on h, cx_on h, d1, d2, e1, e2, s1]
  generalize pN W 1 (pN W 8 l) = df
  generalize pN W 1 (pN W 9 l) = dt
  by_cases a1 : df = dt
  · subst a1
    simp only [if_true]
    by_cases a2 : f_Mod_isOn W b df r = 0
    · simp only [if_pos a2]; exact ⟨trivial, trivial⟩
    · simp only [if_neg a2]; exact ⟨rfl, rfl⟩
  · have a1' : ¬ dt = df := fun e => a1 e.symm
    simp only [if_neg a1, if_neg a1', if_true]
    by_cases a2 : f_Mod_isOn W b df r = 0
    · by_cases a3 : f_Mod_isOn W b dt r = 0
      · simp only [if_pos a2, if_pos a3]; exact ⟨trivial, trivial⟩
      · by_cases a4 : r (b + 206) = -1
        · simp only [if_pos a2, if_neg a3, if_pos a4]; exact ⟨trivial, trivial⟩
        · simp only [if_pos a2, if_neg a3, if_neg a4]; exact ⟨trivial, trivial⟩
    · by_cases a3 : f_Mod_isOn W b dt r = 0
      · by_cases a4 : r (b + 206) = -1
        · simp only [if_neg a2, if_pos a3, if_pos a4]; exact ⟨trivial, trivial⟩
        · simp only [if_neg a2, if_pos a3, if_neg a4]; exact ⟨trivial, trivial⟩
      · by_cases a4 : r (b + 206) = -1
        · simp only [if_neg a2, if_neg a3, if_pos a4]; exact ⟨trivial, trivial⟩
        · simp only [if_neg a2, if_neg a3, if_neg a4]; exact ⟨trivial, trivial⟩
theorem cx_older {P W : Zf} {b a u w : Nat} {r0 c r : Nat → Int32} {x y : Int32} (h : CX P W b r0 x y c r) (d4 : Dm (pN P 31 0) (a + 4)) (hu : u = b + ps (a + 4)) (d1 : Dm (pN P 31 0) (a + 1)) (hw : w = b + ps (a + 1)) (ha : 90 ≤ a ∧ a + 4 < 215 ∧ a % 5 = 0) : CX P W b r0 x y (f_Cycle_growOlder a c) (f_Mod_ages W u w r) := by
  have hg := h.1.1 _ d4
  rw [← hu] at hg
  have hb := h.ba (a := a + 4) (by omega) (by omega) (by omega)
  have hl := Int32.le_toInt (c (a + 4))
  have e9 := t_99
  have e1 := t_1
  unfold f_Cycle_growOlder f_Mod_ages
  generalize hv : (if c (a + 4) + 1 < 99 then c (a + 4) + 1 else 99) = v
  have hs : (c (a + 4) + 1).toInt = (c (a + 4)).toInt + 1 := by rw [ti_add (by omega) (by omega), e1]
  have hvb : v.toInt ≤ 99 := by
    rw [← hv]; split
    · rename_i q; rw [i_lt] at q; omega
    · omega
  have hr : (if 99 ≤ r u then f_Mod_ages_21 W u w r else f_Mod_ages_21 W u w (upd r u (r u + 1))) = f_Mod_ages_21 W u w (upd r u v) := by
    rw [← hg]
    by_cases q : 99 ≤ c (a + 4)
    · rw [if_pos q]
      rw [i_le] at q
      have e : v = c (a + 4) := by
        rw [← hv, if_neg (fun z => by rw [i_lt] at z; omega)]
        exact ti_eq (by omega)
      rw [e, hg, ud_id]
    · rw [if_neg q]
      rw [i_le] at q
      by_cases q2 : (c (a + 4)).toInt = 98
      · have e : v = c (a + 4) + 1 := by
          rw [← hv, if_neg (fun z => by rw [i_lt] at z; omega)]
          exact ti_eq (by omega)
        rw [e]
      · have e : v = c (a + 4) + 1 := by
          rw [← hv, if_pos (i_lt.mpr (by omega))]
        rw [e]
  rw [hr]
  have h1 := h.put d4 (by omega) hu (rfl : v = v) ⟨fun _ _ => by exfalso; omega, fun _ _ => by exfalso; omega, fun _ _ => by exfalso; omega, fun _ _ _ => by exfalso; omega, fun _ _ _ => by exfalso; omega, fun _ _ _ => hvb, fun _ _ => by exfalso; unfold Dm at d4; omega, fun _ _ => by exfalso; omega, fun _ => by exfalso; omega, fun _ => by exfalso; omega, fun _ => by exfalso; omega⟩
  unfold f_Mod_ages_21
  rw [ud_s, ud_s, ud_o (show 224 ≠ a + 4 by omega), h.1.2.2.2.1]
  by_cases q : v ≤ W 100 22
  · rw [if_pos q, if_pos q]; exact h1
  · rw [if_neg q, if_neg q]
    exact h1.put d1 (by omega) hw rfl ⟨fun _ _ => by exfalso; omega, fun _ _ => by exfalso; omega, fun _ _ => by exfalso; omega, fun _ _ _ => by exfalso; omega, fun _ _ _ => Or.inl rfl, fun _ _ _ => by exfalso; omega, fun _ _ => rfl, fun _ _ => by exfalso; omega, fun _ => by exfalso; omega, fun _ => by exfalso; omega, fun _ => by exfalso; omega⟩
theorem cx_bring {P W : Zf} {b l : Nat} {r0 c r : Nat → Int32} {x y : Int32} (h : CX P W b r0 x y c r) (hp : PK P W) (hl : l < pN P 31 0) : CX P W b r0 x y (f_Cycle_bringLink P l c) (f_Mod_comes W b l r) := by
  obtain ⟨⟨e1, e2, e3⟩, l1, l2⟩ := hp.lk hl
  have n1 := hp.nl.2
  have n2 := hp.nb.2
  have hf : pN W 8 l < 10 := by omega
  unfold f_Cycle_bringLink f_Mod_comes
  rw [(cx_carries h hp hl).1, e1]
  by_cases q : f_Mod_doesCome W b l (pN W 9 l) r = 0
  · rw [if_pos q, if_pos q]
    refine cx_older h (dm_l hl n1 (by omega)) ?_ (dm_l hl n1 (by omega)) ?_ (by omega)
    · rw [ps_l (by omega) (by omega)]; omega
    · rw [ps_l (by omega) (by omega)]; omega
  · rw [if_neg q, if_neg q]
    have h1 := h.pl hl n1 (j := 0) (by omega) (h.gb hf (j := 3) (by omega)) (bd_l (by omega) (by omega) (fun _ => h.bo hf (Or.inr rfl)) (fun e => by omega) (fun e => by omega))
    have h2 := h1.pl hl n1 (j := 1) (by omega) (h1.gb hf (j := 5) (by omega)) (bd_l (by omega) (by omega) (fun e => by omega) (fun _ => h1.bg hf) (fun e => by omega))
    have h3 := h2.pl hl n1 (j := 2) (by omega) (h2.gb hf (j := 6) (by omega)) (bd_l (by omega) (by omega) (fun e => by omega) (fun e => by omega) (fun e => by omega))
    have h4 := h3.pl hl n1 (j := 3) (by omega) (h3.gb hf (j := 7) (by omega)) (bd_l (by omega) (by omega) (fun e => by omega) (fun e => by omega) (fun e => by omega))
    exact h4.pl hl n1 (j := 4) (by omega) rfl (bd_l (by omega) (by omega) (fun e => by omega) (fun e => by omega) (fun _ => by decide))
theorem cx_back {P W : Zf} {b l : Nat} {r0 c r : Nat → Int32} {x y : Int32} (h : CX P W b r0 x y c r) (hp : PK P W) (hl : l < pN P 31 0) : CX P W b r0 x y (f_Cycle_bringBack P l c) (f_Mod_comesBack W b l r) := by
  obtain ⟨⟨e1, e2, e3⟩, l1, l2⟩ := hp.lk hl
  have n1 := hp.nl.2
  have n2 := hp.nb.2
  have hf : pN W 9 l < 10 := by omega
  have kd := hp.kd l2
  unfold f_Cycle_bringBack f_Mod_comesBack
  rw [(cx_carries h hp hl).2, kd, e2]
  by_cases q : f_Mod_doesCome W b l (pN W 8 l) r = 0
  · rw [if_pos q, if_pos q]
    refine cx_older h (dm_k hl n1 (by omega)) ?_ (dm_k hl n1 (by omega)) ?_ (by omega)
    · rw [ps_k (by omega) (by omega)]; omega
    · rw [ps_k (by omega) (by omega)]; omega
  · rw [if_neg q, if_neg q]
    have key : ∀ {c r : Nat → Int32}, CX P W b r0 x y c r → CX P W b r0 x y (f_Cycle_bringBack_85 P l c) (f_Mod_comesBack_90 W b l r) := by
      intro c r h
      have key2 : ∀ {c r : Nat → Int32}, CX P W b r0 x y c r → CX P W b r0 x y (f_Cycle_bringBack_105 P l c) (f_Mod_comesBack_116 W b l r) := by
        intro c r h
        unfold f_Cycle_bringBack_105 f_Mod_comesBack_116 f_Mod_comesBack_135 f_Mod_comesBack_162
        rw [e2]
        have h1 := h.pk hl n1 (j := 2) (by omega) (h.gb hf (j := 6) (by omega)) (bd_k (by omega) (by omega) (fun e => by omega) (fun e => by omega))
        have g1 := h1.gb hf (j := 1) (by omega)
        have bz : ∀ {v : Int32}, Bd (pN P 0) (pN P 30 0) (155 + l * 5 + 3) v := bd_k (by omega) (by omega) (fun e => by omega) (fun e => by omega)
        have b4 : Bd (pN P 0) (pN P 30 0) (155 + l * 5 + 4) 0 := bd_k (by omega) (by omega) (fun e => by omega) (fun _ => by decide)
        by_cases q : (upd c (155 + l * 5 + 2) (c (pN W 9 l * 9 + 6))) (pN W 9 l * 9 + 1) = 3
        · rw [if_pos q, if_pos (g1.symm.trans q)]
          exact (h1.pk hl n1 (j := 3) (by omega) rfl bz).pk hl n1 (j := 4) (by omega) rfl b4
        · rw [if_neg q, if_neg (fun z => q (g1.trans z))]
          exact (h1.pk hl n1 (j := 3) (by omega) rfl bz).pk hl n1 (j := 4) (by omega) rfl b4
      unfold f_Cycle_bringBack_85 f_Mod_comesBack_90
      rw [e2]
      have g1 := h.gb hf (j := 1) (by omega)
      have bz : ∀ {v : Int32}, Bd (pN P 0) (pN P 30 0) (155 + l * 5 + 1) v := bd_k (by omega) (by omega) (fun e => by omega) (fun e => by omega)
      by_cases q : c (pN W 9 l * 9 + 1) = 0
      · rw [if_pos q, if_pos (g1.symm.trans q)]
        exact key2 (h.pk hl n1 (j := 1) (by omega) rfl bz)
      · rw [if_neg q, if_neg (fun z => q (g1.trans z))]
        exact key2 (h.pk hl n1 (j := 1) (by omega) rfl bz)
    by_cases q2 : pN W 3 (pN W 9 l) = 1
    · rw [if_pos q2, if_pos q2]
      exact key (h.pk hl n1 (j := 0) (by omega) (h.gb hf (j := 2) (by omega)) (bd_k (by omega) (by omega) (fun _ => h.bo hf (Or.inl rfl)) (fun e => by omega)))
    · rw [if_neg q2, if_neg q2]
      exact key (h.pk hl n1 (j := 0) (by omega) (h.gb hf (j := 3) (by omega)) (bd_k (by omega) (by omega) (fun _ => h.bo hf (Or.inr rfl)) (fun e => by omega)))
/-- the value at an actuator, by the blocks below k -/
def laO (P : Zf) (c : Nat → Int32) (a : Int32) : Nat → Int32
  | 0 => 0
  | k + 1 => if pN P 0 k = 2 ∧ P 3 k = a then c (k * 9 + 3) else laO P c a k
theorem outOf_la {P : Zf} {c : Nat → Int32} {a : Int32} : ∀ (t k : Nat), k < t → k < 2 ^ 30 → f_Cycle_outOf_7 P c a t k = laO P c a k := by
  intro t
  induction t with
  | zero => intro k h; omega
  | succ t ih =>
    intro k h hk
    rw [f_Cycle_outOf_7]
    cases k with
    | zero => rw [if_pos (by decide)]; rfl
    | succ k =>
      rw [nI_one, if_neg (nI_pos (by omega)), Nat.add_sub_cancel]
      show _ = if pN P 0 k = 2 ∧ P 3 k = a then c (k * 9 + 3) else laO P c a k
      by_cases q1 : pN P 0 k = 2
      · rw [if_pos q1]
        by_cases q2 : P 3 k = a
        · rw [if_pos q2, if_pos ⟨q1, q2⟩]
        · rw [if_neg q2, if_neg (fun z => q2 z.2)]; exact ih k (by omega) (by omega)
      · rw [if_neg q1, if_neg (fun z => q1 z.1)]; exact ih k (by omega) (by omega)
theorem cx_out {P W : Zf} {b : Nat} {r0 c r : Nat → Int32} {x y : Int32} (h : CX P W b r0 x y c r) (hp : PK P W) (a : Int32) : f_Cycle_outOf P c a = f_Mod_actuated W b a r := by
  have n2 := hp.nb
  unfold f_Cycle_outOf f_Mod_actuated
  rw [outOf_la _ _ (by omega) (by omega)]
  have key : ∀ t k, 10 - k < t → k ≤ pN P 30 3 → f_Mod_actuated_5 W b a t r (laO P c a k) k = laO P c a (pN P 30 3) := by
    intro t
    induction t with
    | zero => intro k hk; omega
    | succ t ih =>
      intro k hk hk2
      rw [f_Mod_actuated_5]
      by_cases q0 : pN W 100 20 ≤ k
      · rw [if_pos q0, show k = pN P 30 3 by omega]
      · rw [if_neg q0]
        have hk3 : k < pN P 30 3 := by omega
        have e4 : nI (pN W 4 k) = W 4 k := (hp.wM.2.2.2.2.2.2.1 k).1.symm
        rw [← hp.kd hk3, e4]
        have s : laO P c a (k + 1) = if pN P 0 k = 2 ∧ P 3 k = a then c (k * 9 + 3) else laO P c a k := rfl
        by_cases q1 : pN P 0 k = 2
        · rw [if_pos q1, ← ((hp.2.2.1 k hk3).2.2.2.1 q1).1]
          by_cases q2 : P 3 k = a
          · rw [if_pos q2, ← h.gb (k := k) (j := 3) (by omega) (by omega)]
            rw [if_pos ⟨q1, q2⟩] at s
            rw [← s]; exact ih (k + 1) (by omega) (by omega)
          · rw [if_neg q2]
            rw [if_neg (fun z => q2 z.2)] at s
            rw [← s]; exact ih (k + 1) (by omega) (by omega)
        · rw [if_neg q1]
          rw [if_neg (fun z => q1 z.1)] at s
          rw [← s]; exact ih (k + 1) (by omega) (by omega)
  exact (key 11 0 (by omega) (by omega)).symm
theorem cx_sens {P W : Zf} {b : Nat} {r0 c r : Nat → Int32} {x y : Int32} (h : CX P W b r0 x y c r) (hp : PK P W) : CX P W b r0 x y (f_Cycle_moveSensors P c) (f_Mod_cycle_2 W b 5 r 0) := by
  unfold f_Cycle_moveSensors
  have key : ∀ (t i : Nat) {c r : Nat → Int32}, CX P W b r0 x y c r → CX P W b r0 x y (f_Cycle_moveSensors_2 P t c i) (f_Mod_cycle_2 W b t r i) := by
    intro t
    induction t with
    | zero => intro i c r h; exact h
    | succ t ih =>
      intro i c r h
      rw [f_Cycle_moveSensors_2, f_Mod_cycle_2]
      by_cases q0 : 4 ≤ i
      · rw [if_pos q0, if_pos q0]; exact h
      · rw [if_neg q0, if_neg q0]
        obtain ⟨p1, p2⟩ := hp.2.2.2.2.2.2 i (by omega)
        by_cases q1 : P 15 i = -1
        · rw [if_pos q1, if_pos (p1 ▸ q1)]; exact ih _ h
        · obtain ⟨p3, p4, p5⟩ := p2 q1
          have e0 := t_0
          have q1' : ¬ W 11 i = -1 := by rw [← p1]; exact q1
          have q3 : ¬ P 17 i ≤ 0 := fun z => by rw [i_le] at z; omega
          rw [if_neg q1, if_neg q3, if_neg q1', wi_put, cx_out h hp, p1, p3, p4]
          refine ih _ (h.pt (i := 215 + i) (by omega) (by omega) (by omega) (by omega) ?_ (bd_s (by omega) (put_bd _)))
          rw [h.gs (i := 215 + i) (j := b + 200 + i) (by omega) (by omega) (by omega)]
  exact key 5 0 h
def loB (x : Int32) : Nat → Int32 → Int32
  | 0, s => s
  | k + 1, s => loB x k (if bt x k = true then nI k else s)
theorem hb_0 {x : Int32} {k : Nat} (hk : k < 32) : f_Bus_hasBit x (nI k) = 0 ↔ ¬ bt x k = true := by
  unfold f_Bus_hasBit
  by_cases q : ((x >>> (nI k &&& 31)) &&& 1) = 1
  · rw [if_pos q]
    exact ⟨fun z => absurd z (by decide), fun z => absurd ((sb_1 hk).mp q) z⟩
  · rw [if_neg q]
    exact ⟨fun _ z => q ((sb_1 hk).mpr z), fun _ => rfl⟩
theorem seek_lo {P : Zf} : ∀ (t k : Nat) (c : Nat → Int32), k < t → k < 32 → f_Cycle_seekScheduler_35 P t c k = upd c 221 (loB (c 220) k (c 221)) := by
  intro t
  induction t with
  | zero => intro k c h; omega
  | succ t ih =>
    intro k c h hk
    rw [f_Cycle_seekScheduler_35]
    cases k with
    | zero => rw [if_pos (by decide)]; exact (ud_id c 221).symm
    | succ k =>
      rw [nI_one, if_neg (nI_pos (by omega)), Nat.add_sub_cancel]
      show _ = upd c 221 (loB (c 220) k (if bt (c 220) k = true then nI k else c 221))
      by_cases q : f_Bus_hasBit (c 220) (nI k) = 0
      · rw [if_pos q, ih k c (by omega) (by omega), if_neg ((hb_0 (by omega)).mp q)]
      · rw [if_neg q, ih k _ (by omega) (by omega), ud_s, ud_o (by decide), ud_ud]
        have zb : bt (c 220) k = true := by
          by_cases z : bt (c 220) k = true
          · exact z
          · exact absurd ((hb_0 (by omega)).mpr z) q
        rw [if_pos zb]
theorem lo_none {x : Int32} : ∀ (k : Nat) (s : Int32), (∀ i, i < k → ¬ bt x i = true) → loB x k s = s := by
  intro k
  induction k with
  | zero => intro s _; rfl
  | succ k ih =>
    intro s h
    show loB x k (if bt x k = true then nI k else s) = s
    rw [if_neg (h k (by omega))]; exact ih s (fun i hi => h i (by omega))
theorem lo_some {x : Int32} {j : Nat} (hj : bt x j = true) (hm : ∀ i, i < j → ¬ bt x i = true) : ∀ (k : Nat) (s : Int32), j < k → loB x k s = nI j := by
  intro k
  induction k with
  | zero => intro s h; omega
  | succ k ih =>
    intro s h
    show loB x k (if bt x k = true then nI k else s) = nI j
    by_cases e : j = k
    · subst e
      rw [if_pos hj]; exact lo_none _ _ hm
    · exact ih _ (by omega)
theorem low_8 {x : Int32} {j : Nat} (hj : bt x j = true) (h32 : j < 32) (hm : ∀ i, i < j → ¬ bt x i = true) : ∀ (t k : Nat), k ≤ j → j - k < t → f_Mod_lowest_8 x t k = nI j := by
  intro t
  induction t with
  | zero => intro k _ h; omega
  | succ t ih =>
    intro k hk h
    rw [f_Mod_lowest_8]
    by_cases e : k = j
    · subst e
      rw [if_neg (fun z => (sb_0 h32).mp z hj)]
    · rw [if_pos ((sb_0 (by omega)).mpr (hm k (by omega)))]
      exact ih (k + 1) (by omega) (by omega)
theorem low_ex {x : Int32} : ∀ n, (∃ i, i < n ∧ bt x i = true) → ∃ j, j < n ∧ bt x j = true ∧ ∀ i, i < j → ¬ bt x i = true := by
  intro n
  induction n with
  | zero => intro ⟨i, h, _⟩; omega
  | succ n ih =>
    intro ⟨i, h, hi⟩
    by_cases q : ∃ i, i < n ∧ bt x i = true
    · obtain ⟨j, h1, h2, h3⟩ := ih q
      exact ⟨j, by omega, h2, h3⟩
    · have e : i = n := by
        by_cases z : i < n
        · exact absurd ⟨i, z, hi⟩ q
        · omega
      subst e
      exact ⟨i, by omega, hi, fun k hk z => q ⟨k, hk, z⟩⟩
theorem low_lo {x : Int32} {n : Nat} (hn : n ≤ 32) (hz : ∀ j, n ≤ j → bt x j = false) : f_Mod_lowest x = loB x n (-1) ∧ (f_Mod_lowest x = -1 ∨ ∃ j, j < n ∧ f_Mod_lowest x = nI j) := by
  by_cases q : ∃ i, i < n ∧ bt x i = true
  · obtain ⟨j, h1, h2, h3⟩ := low_ex n q
    have e : f_Mod_lowest x = nI j := by
      unfold f_Mod_lowest
      rw [if_neg (fun z => by rw [z, b_0] at h2; exact absurd h2 (by decide))]
      exact low_8 h2 (by omega) h3 33 0 (by omega) (by omega)
    rw [lo_some h2 h3 n _ h1]
    exact ⟨e, Or.inr ⟨j, h1, e⟩⟩
  · have e : x = 0 := by
      refine b_ext (fun i _ => ?_)
      rw [b_0]
      by_cases z : i < n
      · cases d : bt x i with
        | false => rfl
        | true => exact absurd ⟨i, z, d⟩ q
      · exact hz i (by omega)
    have e2 : f_Mod_lowest x = -1 := by unfold f_Mod_lowest; rw [if_pos e]
    rw [lo_none n _ (fun i hi z => q ⟨i, hi, z⟩)]
    exact ⟨e2, Or.inl e2⟩
theorem CX.p221 {P W : Zf} {b : Nat} {r0 c r : Nat → Int32} {x y v w : Int32} (h : CX P W b r0 x y c r) (e : v = w) (hv : v = -1 ∨ ∃ j, j < pN P 30 0 ∧ v = nI j) (h2 : v = -1 ∨ c 222 = 0) : CX P W b r0 x v (upd c 221 v) (upd r (b + 206) w) := by
  obtain ⟨⟨a1, a2, a3, a4, a5⟩, f, cm, sc⟩ := h
  refine ⟨⟨a1.put (dm_s (by decide) (by decide)) (by rw [ps_s (by decide)]) e, fun k hk => ?_, fun k h0 h2 h3 => ?_, ?_, ?_⟩, fun k hk => ?_, ?_, ?_⟩
  · by_cases d : k = 221
    · subst d; rw [ud_s]; exact bd_t (by decide) (fun z => absurd z (by decide)) (fun _ => hv) (fun z => absurd z (by decide))
    · rw [ud_o d]; exact a2 k hk
  · by_cases d : k * 9 + 8 = 221
    · exfalso; omega
    · rw [ud_o d]; exact a3 k h0 h2 h3
  · rw [ud_o (by decide)]; exact a4
  · rw [ud_s, ud_o (by decide)]; exact h2
  · rw [ud_o (by omega)]; exact f k hk
  · rw [ud_o (by omega)]; exact cm
  · rw [ud_s]
theorem CX.p222 {P W : Zf} {b : Nat} {r0 c r : Nat → Int32} {x y v w : Int32} (h : CX P W b r0 x y c r) (e : v = w) (hv : 0 ≤ v.toInt) (h2 : c 221 = -1) : CX P W b r0 x y (upd c 222 v) (upd r (b + 207) w) := by
  obtain ⟨⟨a1, a2, a3, a4, a5⟩, f, cm, sc⟩ := h
  refine ⟨⟨a1.put (dm_s (by decide) (by decide)) (by rw [ps_s (by decide)]) e, fun k hk => ?_, fun k h0 h2 h3 => ?_, ?_, ?_⟩, fun k hk => ?_, ?_, ?_⟩
  · by_cases d : k = 222
    · subst d; rw [ud_s]; exact bd_t (by decide) (fun z => absurd z (by decide)) (fun z => absurd z (by decide)) (fun _ => hv)
    · rw [ud_o d]; exact a2 k hk
  · by_cases d : k * 9 + 8 = 222
    · exfalso; omega
    · rw [ud_o d]; exact a3 k h0 h2 h3
  · rw [ud_o (by decide)]; exact a4
  · rw [ud_o (by decide)]; exact Or.inl h2
  · rw [ud_o (by omega)]; exact f k hk
  · rw [ud_o (by omega)]; exact cm
  · rw [ud_o (by decide)]; exact sc
theorem CX.p209 {P W : Zf} {b : Nat} {r0 c r : Nat → Int32} {x y v : Int32} (h : CX P W b r0 x y c r) : CX P W b r0 v y c (upd r (b + 209) v) := by
  obtain ⟨⟨a1, a2, a3, a4, a5⟩, f, cm, sc⟩ := h
  refine ⟨⟨fun i hi => ?_, a2, a3, a4, a5⟩, fun k hk => ?_, ?_, sc⟩
  · have := ps_lt hi
    rw [ud_o (by omega)]; exact a1 i hi
  · rw [ud_o (by omega)]; exact f k hk
  · rw [ud_s]
/-- who schedules: how often one came, and who it is, behind it -/
theorem cx_seek {P W : Zf} {b : Nat} {r0 c r : Nat → Int32} {x y : Int32} (h : CX P W b r0 x y c r) (hp : PK P W) : ∃ x' y', CX P W b r0 x' y' (f_Cycle_seekScheduler P c) (f_Mod_schedules W b r) ∧ x' = (if y = -1 then if y' = -1 then x else x + 1 else x) := by
  have n3 := hp.nd.2
  have s1 : c 221 = r (b + 206) := h.gs (by decide) (by decide) rfl
  have s2 : c 222 = r (b + 207) := h.gs (by decide) (by decide) rfl
  have s0 : c 220 = r (b + 205) := h.gs (by decide) (by decide) rfl
  have sy : c 221 = y := h.2.2.2
  have e0 := t_0
  have e1 := t_1
  unfold f_Cycle_seekScheduler f_Mod_schedules
  rw [← s1, ← s2]
  by_cases q1 : c 221 = -1
  · rw [if_pos q1, if_pos q1]
    by_cases q2 : c 222 ≤ 0
    · rw [if_pos q2, if_pos q2, seek_lo _ _ _ (by omega) (by omega), q1]
      unfold f_Mod_schedules_43
      rw [ud_s, ← s0]
      obtain ⟨l1, l2⟩ := low_lo (n := pN P 30 0) (by omega) h.b220
      rw [← l1]
      rw [i_le] at q2
      have z2 : c 222 = 0 := ti_eq (by have := h.b222; omega)
      have h1 := h.p221 (v := f_Mod_lowest (c 220)) (w := f_Mod_lowest (c 220)) rfl l2 (Or.inr z2)
      by_cases q3 : f_Mod_lowest (c 220) = -1
      · rw [if_pos q3]
        refine ⟨x, _, h1, ?_⟩
        rw [← sy, if_pos q1, if_pos q3]
      · rw [if_neg q3]
        refine ⟨_, _, h1.p209, ?_⟩
        rw [← sy, if_pos q1, if_neg q3, ud_o (by omega), h.2.2.1]
    · rw [if_neg q2, if_neg q2]
      rw [i_le] at q2
      refine ⟨x, y, h.p222 rfl ?_ q1, ?_⟩
      · have := Int32.toInt_lt (c 222)
        rw [ti_sub (by omega) (by omega)]; omega
      · rw [← sy, if_pos q1, if_pos q1]
  · rw [if_neg q1, if_neg q1]
    refine ⟨x, y, h, ?_⟩
    rw [← sy, if_neg q1]
