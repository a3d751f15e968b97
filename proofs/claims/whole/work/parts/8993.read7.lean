/-! a link's clause -/
def swV (n : Nat) (Z : Zf) : Zf := fun k => if k = 60 then Z 13 else if k = 61 then Z 12 else fun _ => nI n
theorem ld_17 {n : Nat} {Z : Zf} {x y : Int32} {f : Nat} (hn : n < 13) : ∀ (t : Nat) (m : Int32) (k l : Nat), 12 - l < t → l ≤ 12 → f_Links_leads_17 n Z x y t m k l = (f_Mod_aheadOf_15 f t (swV n Z) m k l).1 := by
  have e68 : pN (swV n Z) 100 68 = n := pN_mk (by omega) rfl
  intro t
  induction t with
  | zero => intro m k l h; omega
  | succ t ih =>
    intro m k l h hl
    rw [f_Links_leads_17, f_Mod_aheadOf_15, e68]
    by_cases q : n ≤ l
    · rw [if_pos q, if_pos q]
    rw [if_neg q, if_neg q]
    show (if f_Bus_hasBit m (Z 12 l) = 0 then _ else _) = (if (m >>> (Z 12 l &&& 31)) &&& 1 = 1 then f_Mod_aheadOf_15 f t (swV n Z) (m ||| ((1 : Int32) <<< (Z 13 l &&& 31))) k (l + 1) else f_Mod_aheadOf_15 f t (swV n Z) m k (l + 1)).1
    unfold f_Bus_hasBit
    by_cases q2 : (m >>> (Z 12 l &&& 31)) &&& 1 = 1
    · rw [if_pos q2, if_neg z1z, if_pos q2]; exact ih _ _ _ (by omega) (by omega)
    · rw [if_neg q2, if_pos rfl, if_neg q2]; exact ih _ _ _ (by omega) (by omega)
theorem ld_7 {n : Nat} {Z : Zf} {x y : Int32} {f : Nat} (hn : n < 13) : ∀ (t : Nat) (m : Int32) (k : Nat), 10 - k < t → k ≤ 10 → f_Links_leads_7 n Z x y t m k = f_Mod_aheadOf_6 f t (swV n Z) m k := by
  intro t
  induction t with
  | zero => intro m k h; omega
  | succ t ih =>
    intro m k h hk
    rw [f_Links_leads_7, f_Mod_aheadOf_6, fu_eq]
    by_cases q : 10 ≤ k
    · rw [if_pos q, if_pos q]
    rw [if_neg q, if_neg q, ld_17 (f := f) hn 13 m k 0 (by omega) (by omega)]
    exact ih _ _ (by omega) (by omega)
theorem ld_eq {n a b : Nat} {Z V : Zf} (hn : n < 13) (ha : a < 10) (hb : b < 10) (h12 : isN Z 12 10) (h13 : isN Z 13 10) (h60 : isN V 60 10) (h61 : isN V 61 10) (h8 : V 100 68 = nI n) (hl : ∀ l, l < n → Z 12 l = V 60 l ∧ Z 13 l = V 61 l) : f_Links_leads n Z (nI b) (nI a) = 0 ↔ ¬ bt (f_Mod_aheadOf a V) b = true := by
  have e68 : pN (swV n Z) 100 68 = n := pN_mk (by omega) rfl
  have e8 : pN V 100 68 = n := pN_mk (by omega) h8
  unfold f_Links_leads
  rw [hb_0 (by omega), ld_7 (f := b) hn 11 _ 0 (by omega) (by omega)]
  have e : f_Mod_aheadOf_6 b 11 (swV n Z) ((1 : Int32) <<< (nI b &&& 31)) 0 = f_Mod_aheadOf b (swV n Z) := by unfold f_Mod_aheadOf; rw [fu_eq]
  rw [e]
  obtain ⟨a1, a2, a3⟩ := ah_all (Z := swV n Z) (f := b) (fun i => h13 i) (fun i => h12 i) (by omega) hb
  obtain ⟨b1, b2, b3⟩ := ah_all (Z := V) (f := a) h60 h61 (by omega) ha
  have p60 : ∀ l, l < n → pN (swV n Z) 60 l = pN V 61 l := fun l q => by show (Z 13 l).toNatClampNeg = _; rw [(hl l q).2]; rfl
  have p61 : ∀ l, l < n → pN (swV n Z) 61 l = pN V 60 l := fun l q => by show (Z 12 l).toNatClampNeg = _; rw [(hl l q).1]; rfl
  refine ⟨fun z y => ?_, fun z y => ?_⟩
  · refine b3 (fun x => ¬ bt (f_Mod_aheadOf b (swV n Z)) x = true) (fun j hj s w => s ?_) z b (by omega) y a1
    rw [e8] at hj
    have := a2 j (by rw [e68]; exact hj)
    rw [p60 j hj, p61 j hj] at this
    exact this w
  · refine a3 (fun x => ¬ bt (f_Mod_aheadOf a V) x = true) (fun j hj s w => s ?_) z a (by omega) y b1
    rw [e68] at hj
    rw [p60 j hj] at w
    rw [p61 j hj]
    exact b2 j (by rw [e8]; exact hj) w
theorem if_sp {f b n : Nat} {w : Nat} {V : Zf} (hn : n < 13) (h8 : V 100 68 = nI n) (hf : f < 10) (hb : b < 10) (hw : w < 3) (h60 : isN V 60 10) (h61 : isN V 61 10) (h62 : isN V 62 3) : ¬ f_Mod_isFree f b (nI w) V = 0 ↔ ((∀ l, l < n → ¬ (pN V 61 l = b ∧ pN V 62 l = w) ∧ (w = 2 → ¬ (pN V 60 l = f ∧ pN V 62 l = 2))) ∧ ¬ bt (f_Mod_aheadOf f V) b = true) := by
  have e8 : pN V 100 68 = n := pN_mk (by omega) h8
  unfold f_Mod_isFree
  rw [fu_eq]
  have key : ∀ (t l : Nat), 12 - l < t → l ≤ 12 → (¬ f_Mod_isFree_3 f b (nI w) t V l = 0 ↔ ((∀ j, l ≤ j → j < n → ¬ (pN V 61 j = b ∧ pN V 62 j = w) ∧ (w = 2 → ¬ (pN V 60 j = f ∧ pN V 62 j = 2))) ∧ ¬ bt (f_Mod_aheadOf f V) b = true)) := by
    intro t
    induction t with
    | zero => intro l h; omega
    | succ t ih =>
      intro l h hl
      rw [f_Mod_isFree_3, e8]
      by_cases q : n ≤ l
      · rw [if_pos q]
        have s := sb_0 (u := f_Mod_aheadOf f V) (x := b) (by omega)
        by_cases r : ((f_Mod_aheadOf f V) >>> (nI b &&& 31)) &&& 1 = 0
        · rw [if_pos r]
          exact ⟨fun _ => ⟨fun j h1 h2 => by omega, s.mp r⟩, fun _ => z1z⟩
        · rw [if_neg r]
          exact ⟨fun z => absurd rfl z, fun z => absurd (s.mpr z.2) r⟩
      rw [if_neg q]
      have i61 : V 61 l = nI b ↔ pN V 61 l = b := by
        rw [(h61 l).1]; exact nI_eq (by have := (h61 l).2; omega) (by omega)
      have i60 : V 60 l = nI f ↔ pN V 60 l = f := by
        rw [(h60 l).1]; exact nI_eq (by have := (h60 l).2; omega) (by omega)
      have i62 : V 62 l = nI w ↔ pN V 62 l = w := by
        rw [(h62 l).1]; exact nI_eq (by have := (h62 l).2; omega) (by omega)
      have i2 : V 62 l = 2 ↔ pN V 62 l = 2 := by
        rw [(h62 l).1]; exact nI_eq (b := 2) (by have := (h62 l).2; omega) (by omega)
      have iw : nI w = 2 ↔ w = 2 := nI_eq (b := 2) (by omega) (by omega)
      have no : (pN V 61 l = b ∧ pN V 62 l = w) ∨ (w = 2 ∧ pN V 60 l = f ∧ pN V 62 l = 2) → (¬ (0 : Int32) = 0 ↔ ((∀ j, l ≤ j → j < n → ¬ (pN V 61 j = b ∧ pN V 62 j = w) ∧ (w = 2 → ¬ (pN V 60 j = f ∧ pN V 62 j = 2))) ∧ ¬ bt (f_Mod_aheadOf f V) b = true)) := fun hh => ⟨fun z => absurd rfl z, fun z => by
        have g := z.1 l (Nat.le_refl _) (by omega)
        rcases hh with hh | ⟨h1, h2⟩
        · exact absurd hh g.1
        · exact absurd h2 (g.2 h1)⟩
      have go : ¬ (pN V 61 l = b ∧ pN V 62 l = w) → (w = 2 → ¬ (pN V 60 l = f ∧ pN V 62 l = 2)) → (¬ f_Mod_isFree_3 f b (nI w) t V (l + 1) = 0 ↔ ((∀ j, l ≤ j → j < n → ¬ (pN V 61 j = b ∧ pN V 62 j = w) ∧ (w = 2 → ¬ (pN V 60 j = f ∧ pN V 62 j = 2))) ∧ ¬ bt (f_Mod_aheadOf f V) b = true)) := fun g1 g2 => by
        rw [ih (l + 1) (by omega) (by omega)]
        refine ⟨fun z => ⟨fun j h1 h2 => ?_, z.2⟩, fun z => ⟨fun j h1 h2 => z.1 j (by omega) h2, z.2⟩⟩
        by_cases d : j = l
        · subst d; exact ⟨g1, g2⟩
        · exact z.1 j (by omega) h2
      by_cases c1 : pN V 61 l = b
      · rw [if_pos (i61.mpr c1)]
        by_cases c2 : pN V 62 l = w
        · rw [if_pos (i62.mpr c2)]; exact no (Or.inl ⟨c1, c2⟩)
        · rw [if_neg (fun z => c2 (i62.mp z))]
          by_cases c3 : w = 2
          · rw [if_pos (iw.mpr c3)]
            by_cases c4 : pN V 62 l = 2
            · rw [if_pos (i2.mpr c4)]
              by_cases c5 : pN V 60 l = f
              · rw [if_pos (i60.mpr c5)]; exact no (Or.inr ⟨c3, c5, c4⟩)
              · rw [if_neg (fun z => c5 (i60.mp z))]; exact go (fun z => c2 z.2) (fun _ z => c5 z.1)
            · rw [if_neg (fun z => c4 (i2.mp z))]; exact go (fun z => c2 z.2) (fun _ z => c4 z.2)
          · rw [if_neg (fun z => c3 (iw.mp z))]; exact go (fun z => c2 z.2) (fun z => absurd z c3)
      · rw [if_neg (fun z => c1 (i61.mp z))]
        by_cases c3 : w = 2
        · rw [if_pos (iw.mpr c3)]
          by_cases c4 : pN V 62 l = 2
          · rw [if_pos (i2.mpr c4)]
            by_cases c5 : pN V 60 l = f
            · rw [if_pos (i60.mpr c5)]; exact no (Or.inr ⟨c3, c5, c4⟩)
            · rw [if_neg (fun z => c5 (i60.mp z))]; exact go (fun z => c1 z.1) (fun _ z => c5 z.1)
          · rw [if_neg (fun z => c4 (i2.mp z))]; exact go (fun z => c1 z.1) (fun _ z => c4 z.2)
        · rw [if_neg (fun z => c3 (iw.mp z))]; exact go (fun z => c1 z.1) (fun z => absurd z c3)
  rw [key 13 0 (by omega) (by omega)]
  exact ⟨fun z => ⟨fun l hl => z.1 l (by omega) hl, z.2⟩, fun z => ⟨fun l _ hl => z.1 l hl, z.2⟩⟩
theorem hl_sp {a b n w : Nat} {Z V : Zf} (hp : PlB Z V) (h8 : V 100 68 = nI n) (hn : n < 13) (ha : a < pN V 100 67) (hb : b < pN V 100 67) (hw : w < 3) : f_Plan_hasLinked Z a b w = 0 ↔ ∀ l, l < n → ¬ (pN V 61 l = b ∧ pN V 62 l = w) ∧ (w = 2 → ¬ (pN V 60 l = a ∧ pN V 62 l = 2)) := by
  have e8 : pN V 100 68 = n := pN_mk (by omega) h8
  have l1 := hp.2.2.2.1.1 b w hb hw
  have l2 := hp.2.2.2.1.2 a ha
  unfold LkP at l1
  unfold SfP at l2
  rw [e8] at l1 l2
  unfold f_Plan_hasLinked
  rcases l1 with ⟨x1, x2⟩ | ⟨l, y1, y2, y3, y4⟩
  · rw [if_pos x1]
    by_cases q : w = 2
    · rw [if_pos q]
      rcases l2 with ⟨u1, u2⟩ | ⟨l, y1, y2, y3, y4⟩
      · rw [if_pos u1]
        exact ⟨fun _ l hl => ⟨x2 l hl, fun _ => u2 l hl⟩, fun _ => rfl⟩
      · rw [if_neg (by rw [y2]; exact m1_ne (by omega))]
        exact ⟨fun z => absurd z z1z, fun z => absurd ⟨y3, y4⟩ ((z l y1).2 q)⟩
    · rw [if_neg q]
      exact ⟨fun _ l hl => ⟨x2 l hl, fun z => absurd z q⟩, fun _ => rfl⟩
  · rw [if_neg (by rw [y2]; exact m1_ne (by omega))]
    exact ⟨fun z => absurd z z1z, fun z => absurd ⟨y3, y4⟩ (z l y1).1⟩
theorem su_sp {a b w : Nat} {Z V : Zf} (ea : Z 0 a = V 55 a) (eb : Z 0 b = V 55 b) (hw : w < 3) : f_Plan_suits Z a b w = f_Mod_isPlace (V 55 a) (V 55 b) (nI w) ∧ (¬ f_Plan_suits Z a b w = 0 → w = 2 → V 55 b = 1 ∨ V 55 b = 2) := by
  unfold f_Plan_suits f_Mod_isPlace
  rw [ea, eb]
  have hc : w = 0 ∨ w = 1 ∨ w = 2 := by omega
  rcases hc with rfl | rfl | rfl
  · rw [if_neg (show ¬ (0 : Nat) = 2 by decide), if_pos (show (0 : Nat) = 0 from rfl), if_pos (show nI 0 = 0 from rfl)]
    refine ⟨?_, fun _ z => absurd z (by decide)⟩
    by_cases q3 : V 55 b = 3
    · rw [if_pos q3, if_neg (show ¬ V 55 b = 1 by rw [q3]; decide), if_pos q3]
    · rw [if_neg q3, if_neg q3]
  · rw [if_neg (show ¬ (1 : Nat) = 2 by decide), if_neg (show ¬ (1 : Nat) = 0 by decide), if_neg (show ¬ nI 1 = 0 by decide), if_pos (show nI 1 = 1 by decide)]
    exact ⟨rfl, fun _ z => absurd z (by decide)⟩
  · rw [if_pos rfl, if_neg (show ¬ nI 2 = 0 by decide), if_neg (show ¬ nI 2 = 1 by decide)]
    refine ⟨rfl, fun z _ => ?_⟩
    by_cases q : V 55 a = 1
    · rw [if_pos q] at z
      by_cases q1 : V 55 b = 1
      · exact Or.inl q1
      · rw [if_neg q1] at z
        by_cases q2 : V 55 b = 2
        · exact Or.inr q2
        · rw [if_neg q2] at z; exact absurd rfl z
    · rw [if_neg q] at z; exact absurd rfl z
def alZ (n a b w : Nat) (Z : Zf) : Zf := u2 (u2 (u2 (u2 (if w = 2 then u2 (u2 Z 10 (b * 3 + w) (Z 31 0)) 11 a (Z 31 0) else u2 Z 10 (b * 3 + w) (Z 31 0)) 12 n (nI a)) 13 n (nI b)) 14 n (nI w)) 31 0 (nI (n + 1))
theorem mx4 {F Z : Zf} (h : ∀ k, k ≠ 31 → k ≠ 12 → k ≠ 13 → k ≠ 14 → F k = Z k) : mixK [31, 12, 13, 14] F Z = F := by
  funext k
  by_cases q : k ∈ [31, 12, 13, 14]
  · exact mx_in q
  · rw [mix_o q]
    simp only [List.mem_cons, List.not_mem_nil, or_false] at q
    exact (h k (by omega) (by omega) (by omega) (by omega)).symm
theorem al_eq {n a b w : Nat} {Z : Zf} : mixK [30, 31, 0, 1, 2, 3, 4, 5, 6, 7, 8, 9, 10, 11, 12, 13, 14, 15, 16, 17] (f_Plan_addLink n a b w Z) Z = alZ n a b w Z := by
  have la : ∀ Y : Zf, mixK [31, 12, 13, 14] (f_Links_add n (nI a) (nI b) (nI w) Y) Y = u2 (u2 (u2 (u2 Y 12 n (nI a)) 13 n (nI b)) 14 n (nI w)) 31 0 (nI (n + 1)) := fun Y => mx4 (fun k h1 h2 h3 h4 => by
    unfold f_Links_add
    rw [u2_k h1, u2_k h4, u2_k h3, u2_k h2])
  have e : f_Plan_addLink n a b w Z = alZ n a b w Z := by
    unfold f_Plan_addLink alZ
    rw [la, la, u2_k (show 31 ≠ 10 by decide)]
    by_cases q : w = 2
    · rw [if_pos q, if_pos q]
    · rw [if_neg q, if_neg q]
  rw [e]
  funext k
  by_cases h : k ∈ [30, 31, 0, 1, 2, 3, 4, 5, 6, 7, 8, 9, 10, 11, 12, 13, 14, 15, 16, 17]
  · exact mx_in h
  · rw [mix_o h]
    simp only [List.mem_cons, List.not_mem_nil, or_false] at h
    unfold alZ
    rw [u2_k (by omega), u2_k (by omega), u2_k (by omega), u2_k (by omega)]
    by_cases q : w = 2
    · rw [if_pos q, u2_k (by omega), u2_k (by omega)]
    · rw [if_neg q, u2_k (by omega)]
theorem alk {n a b w : Nat} {Z : Zf} {k : Nat} (h : k ≠ 10 ∧ k ≠ 11 ∧ k ≠ 12 ∧ k ≠ 13 ∧ k ≠ 14 ∧ k ≠ 31) : alZ n a b w Z k = Z k := by
  unfold alZ
  rw [u2_k (by omega), u2_k (by omega), u2_k (by omega), u2_k (by omega)]
  by_cases q : w = 2
  · rw [if_pos q, u2_k (by omega), u2_k (by omega)]
  · rw [if_neg q, u2_k (by omega)]
theorem al10 {n a b w : Nat} {Z : Zf} : alZ n a b w Z 10 = upd (Z 10) (b * 3 + w) (Z 31 0) := by
  unfold alZ
  rw [u2_k (by decide), u2_k (by decide), u2_k (by decide), u2_k (by decide)]
  by_cases q : w = 2
  · rw [if_pos q, u2_k (by decide), u2_e]
  · rw [if_neg q, u2_e]
theorem al11 {n a b w : Nat} {Z : Zf} : alZ n a b w Z 11 = if w = 2 then upd (Z 11) a (Z 31 0) else Z 11 := by
  unfold alZ
  rw [u2_k (by decide), u2_k (by decide), u2_k (by decide), u2_k (by decide)]
  by_cases q : w = 2
  · rw [if_pos q, if_pos q, u2_e, u2_k (by decide)]
  · rw [if_neg q, if_neg q, u2_k (by decide)]
theorem al_b {n a b w : Nat} {Z : Zf} {k : Nat} (h : k = 12 ∨ k = 13 ∨ k = 14 ∨ k = 31) : (if w = 2 then u2 (u2 Z 10 (b * 3 + w) (Z 31 0)) 11 a (Z 31 0) else u2 Z 10 (b * 3 + w) (Z 31 0)) k = Z k := by
  by_cases q : w = 2
  · rw [if_pos q, u2_k (by omega), u2_k (by omega)]
  · rw [if_neg q, u2_k (by omega)]
theorem al12 {n a b w : Nat} {Z : Zf} : alZ n a b w Z 12 = upd (Z 12) n (nI a) := by
  unfold alZ
  rw [u2_k (by decide), u2_k (by decide), u2_k (by decide), u2_e, al_b (n := n) (by omega)]
theorem al13 {n a b w : Nat} {Z : Zf} : alZ n a b w Z 13 = upd (Z 13) n (nI b) := by
  unfold alZ
  rw [u2_k (by decide), u2_k (by decide), u2_e, u2_k (by decide), al_b (n := n) (by omega)]
theorem al14 {n a b w : Nat} {Z : Zf} : alZ n a b w Z 14 = upd (Z 14) n (nI w) := by
  unfold alZ
  rw [u2_k (by decide), u2_e, u2_k (by decide), u2_k (by decide), al_b (n := n) (by omega)]
theorem al31 {n a b w : Nat} {Z : Zf} : alZ n a b w Z 31 0 = nI (n + 1) := by
  unfold alZ
  rw [u2_s]
theorem YQ.al {n a b w : Nat} {Z : Zf} (h : YQ Z) (h1 : Z 31 0 = nI n) (hn : n < 12) (ha : a < 10) (hb : b < 10) (hw : w < 3) : YQ (alZ n a b w Z) := by
  obtain ⟨h0, h1', h12, h13, h14, h10, h11, h18⟩ := h
  refine ⟨h0.e (alk (by omega)), h1'.e (alk (by omega)), h12.w al12 ha (by omega), h13.w al13 hb (by omega), h14.w al14 hw (by omega), h10.w al10 (Or.inr ⟨n, hn, h1⟩) (by omega), ?_, h18.e (alk (by omega))⟩
  by_cases q : w = 2
  · exact h11.w (i := a) (x := Z 31 0) (by rw [al11, if_pos q]) (Or.inr ⟨n, hn, h1⟩) (by omega)
  · exact h11.e (by rw [al11, if_neg q])
