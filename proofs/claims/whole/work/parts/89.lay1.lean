/-! how a cycle is laid, alike on both sides -/
def cgE (f : Nat → Int32) (y : Int) : Nat → Nat
  | 0 => 0
  | n + 1 => cgE f y n + (if y ≤ (f n).toInt then 1 else 0)
theorem cgE_le {f : Nat → Int32} {y : Int} : ∀ n, cgE f y n ≤ n
  | 0 => Nat.le_refl _
  | n + 1 => by
    show cgE f y n + (if y ≤ (f n).toInt then 1 else 0) ≤ n + 1
    have := cgE_le (f := f) (y := y) n
    split <;> omega
theorem cgE_mono {f : Nat → Int32} {y : Int} : ∀ n, cgE f (y + 1) n ≤ cgE f y n
  | 0 => Nat.le_refl _
  | n + 1 => by
    show cgE f (y + 1) n + (if y + 1 ≤ (f n).toInt then 1 else 0) ≤ cgE f y n + (if y ≤ (f n).toInt then 1 else 0)
    have := cgE_mono (f := f) (y := y) n
    split <;> split <;> omega
theorem cgE_dec {f : Nat → Int32} {y : Int} {l : Nat} (h : (f l).toInt = y) : ∀ n, l < n → cgE f (y + 1) n + 1 ≤ cgE f y n
  | 0, hl => by omega
  | n + 1, hl => by
    show cgE f (y + 1) n + (if y + 1 ≤ (f n).toInt then 1 else 0) + 1 ≤ cgE f y n + (if y ≤ (f n).toInt then 1 else 0)
    by_cases e : l = n
    · subst e
      have := cgE_mono (f := f) (y := y) l
      rw [if_neg (by omega), if_pos (by omega)]; omega
    · have := cgE_dec h n (by omega)
      split <;> split <;> omega
theorem cgE_lt {f : Nat → Int32} {y : Int} {l : Nat} (h : (f l).toInt < y) : ∀ n, l < n → cgE f y n + 1 ≤ n
  | 0, hl => by omega
  | n + 1, hl => by
    show cgE f y n + (if y ≤ (f n).toInt then 1 else 0) + 1 ≤ n + 1
    by_cases e : l = n
    · subst e
      have := cgE_le (f := f) (y := y) l
      rw [if_neg (by omega)]; omega
    · have := cgE_lt h n (by omega)
      split <;> omega
theorem icl_sp {L : Zf} {x : Int32} : ∀ (t k : Nat), 12 - k < t → (f_Layout_isClaimed_2 L x t k = 0 ↔ ∀ l, k ≤ l → l < 12 → ¬ L 22 l = x ∧ ¬ L 23 l = x) := by
  intro t
  induction t with
  | zero => intro k h; omega
  | succ t ih =>
    intro k h
    rw [f_Layout_isClaimed_2]
    by_cases q : 12 ≤ k
    · rw [if_pos q]; exact ⟨fun _ l h1 h2 => by omega, fun _ => rfl⟩
    rw [if_neg q]
    by_cases q1 : L 22 k = x
    · rw [if_pos q1]; exact ⟨fun z => absurd z (by decide), fun z => absurd q1 (z k (by omega) (by omega)).1⟩
    rw [if_neg q1]
    by_cases q2 : L 23 k = x
    · rw [if_pos q2]; exact ⟨fun z => absurd z (by decide), fun z => absurd q2 (z k (by omega) (by omega)).2⟩
    rw [if_neg q2, ih (k + 1) (by omega)]
    refine ⟨fun z l h1 h2 => ?_, fun z l h1 h2 => z l (by omega) h2⟩
    by_cases e : l = k
    · subst e; exact ⟨q1, q2⟩
    · exact z l (by omega) h2
def LR (P L V : Zf) : Prop :=
  (L 32 0 = V 100 42 ∧ L 32 1 = V 100 43) ∧ (∀ b, b < pN P 30 3 → (L 19 b = -1 ↔ V 40 b = 0) ∧ (¬ V 40 b = 0 → L 20 b = V 35 b ∧ L 21 b = V 36 b)) ∧
  (∀ d, d < 5 → L 24 d = V 39 d) ∧ (∀ p, p < 1000 → (¬ V 41 p = 0 ↔ ∃ l, l < 12 ∧ (L 22 l = nI p ∨ L 23 l = nI p)))
theorem cs_lp {L : Zf} {x : Int32} {p : Nat} (hp : p < 1000) (hf : f_Layout_isClaimed L (nI p) = 0) : ∀ (t c k : Nat), 24 - c < t → k ≤ p → (∀ j, k ≤ j → j < p → ¬ f_Layout_isClaimed L (nI j) = 0) → cgE (L 22) (k : Int) 12 + cgE (L 23) (k : Int) 12 + c ≤ 23 → f_Layout_claimSlot_4 x t L (nI k) c = f_Layout_claimSlot_27 x L (nI p) := by
  intro t
  induction t with
  | zero => intro c k h; omega
  | succ t ih =>
    intro c k ht hk hj hn
    rw [f_Layout_claimSlot_4, if_neg (by omega)]
    by_cases e : k = p
    · subst e; rw [if_pos hf]
    · have hc := hj k (by omega) (by omega)
      rw [if_neg hc, nI_1]
      refine ih (c + 1) (k + 1) (by omega) (by omega) (fun j h1 h2 => hj j (by omega) h2) ?_
      have ex : ∃ l, l < 12 ∧ (L 22 l = nI k ∨ L 23 l = nI k) := by
        apply Classical.byContradiction
        intro hn
        exact hc ((icl_sp 13 0 (by omega)).mpr (fun l _ hl => ⟨fun z => hn ⟨l, hl, Or.inl z⟩, fun z => hn ⟨l, hl, Or.inr z⟩⟩))
      obtain ⟨l, hl, z⟩ := ex
      have m1 := cgE_mono (f := L 22) (y := (k : Int)) 12
      have m2 := cgE_mono (f := L 23) (y := (k : Int)) 12
      have ek : ((k + 1 : Nat) : Int) = (k : Int) + 1 := by omega
      rw [ek]
      rcases z with z | z
      · have := cgE_dec (f := L 22) (y := (k : Int)) (l := l) (by rw [z, nI_toInt (by omega)]) 12 hl
        omega
      · have := cgE_dec (f := L 23) (y := (k : Int)) (l := l) (by rw [z, nI_toInt (by omega)]) 12 hl
        omega
/-- a place is claimed, the same on both sides -/
theorem cs_eq {P L V : Zf} {a K : Nat} (h : LR P L V) (hY : LyI V K) (hK : K < 1000) (ha : a ≤ pN V 100 42) (hfr : ∃ l, l < 12 ∧ (L 22 l = -1 ∨ L 23 l = -1)) : f_Layout_claimSlot (nI a) L = (nI (slN V 1001 a), u2 (u2 L 32 1 (L 32 1 + 1)) 32 0 (nI (max (pN V 100 42) (slN V 1001 a + 1)))) := by
  obtain ⟨s1, s2, s3, s4, s5⟩ := sl_of hY hK ha
  have hy := hY.1
  generalize slN V 1001 a = p at *
  have cl : ∀ j, j < 1000 → (¬ f_Layout_isClaimed L (nI j) = 0 ↔ ¬ V 41 j = 0) := by
    intro j hj
    rw [h.2.2.2 j hj]
    have sp := icl_sp (L := L) (x := nI j) 13 0 (by omega)
    refine ⟨fun z => ?_, fun z w => ?_⟩
    · apply Classical.byContradiction
      intro hn
      exact z (sp.mpr (fun l _ hl => ⟨fun w => hn ⟨l, hl, Or.inl w⟩, fun w => hn ⟨l, hl, Or.inr w⟩⟩))
    · obtain ⟨l, hl, z⟩ := z
      have := sp.mp w l (by omega) hl
      rcases z with z | z
      · exact this.1 z
      · exact this.2 z
  unfold f_Layout_claimSlot
  rw [cs_lp (p := p) (by omega) (Decidable.of_not_not (fun z => (cl p (by omega)).mp z s4)) 25 0 a (by omega) s2 (fun j h1 h2 => (cl j (by omega)).mpr (s5 j h1 h2)) ?_]
  · unfold f_Layout_claimSlot_27
    rw [u2_i (by decide) rfl, h.1.1, hy.1, nI_1]
    congr 2
    by_cases q : nI (pN V 100 42) < nI (p + 1)
    · rw [if_pos q]
      rw [nI_ltI (by omega) (by omega)] at q
      rw [show max (pN V 100 42) (p + 1) = p + 1 by omega]
    · rw [if_neg q]
      rw [nI_ltI (by omega) (by omega)] at q
      rw [show max (pN V 100 42) (p + 1) = pN V 100 42 by omega]
  · obtain ⟨l, hl, z⟩ := hfr
    have m1 := cgE_le (f := L 22) (y := (a : Int)) 12
    have m2 := cgE_le (f := L 23) (y := (a : Int)) 12
    rcases z with z | z
    · have := cgE_lt (f := L 22) (y := (a : Int)) (l := l) (by rw [z, t_m1]; omega) 12 hl
      omega
    · have := cgE_lt (f := L 23) (y := (a : Int)) (l := l) (by rw [z, t_m1]; omega) 12 hl
      omega
/-- what a cycle is laid by, with one time longer -/
def PS4 (P V : Zf) (x y : Int32) : Prop := (pN P 30 3 = pN V 100 20 ∧ pN P 31 0 = pN V 100 21) ∧ (∀ k, k < pN P 30 3 → pN P 1 k = pN V 1 k ∧ V 2 k = if nI k = x then P 2 k + y else P 2 k) ∧ ∀ l, l < pN P 31 0 → pN P 12 l = pN V 8 l ∧ pN P 13 l = pN V 9 l ∧ pN P 14 l = pN V 10 l
theorem PS4.cg {P V U : Zf} {x y : Int32} (h : PS4 P V x y) (h20 : U 100 20 = V 100 20) (h21 : U 100 21 = V 100 21) (h1 : U 1 = V 1) (h2 : U 2 = V 2) (h8 : U 8 = V 8) (h9 : U 9 = V 9) (h10 : U 10 = V 10) : PS4 P U x y := by
  unfold PS4 pN at *
  rw [h20, h21, h1, h2, h8, h9, h10]; exact h
theorem iw_ac {P V : Zf} {x y : Int32} {l : Nat} (h : PS4 P V x y) (hp : PlM V) (hl : l < pN P 31 0) : f_Layout_isAcross P l = 0 ↔ ¬ f_Mod_isWithin V l = 0 := by
  obtain ⟨⟨e1, e2⟩, e3, e4⟩ := h
  obtain ⟨f1, f2, -⟩ := e4 l hl
  have q := hp.2.2 l (by omega)
  unfold f_Layout_isAcross f_Mod_isWithin
  rw [f1, f2, (e3 (pN V 8 l) (by omega)).1, (e3 (pN V 9 l) (by omega)).1]
  by_cases z : pN V 1 (pN V 8 l) = pN V 1 (pN V 9 l)
  · rw [if_pos z, if_pos z]; decide
  · rw [if_neg z, if_neg z]; decide
/-- a claimed place is told of a link -/
theorem LR.slot {P L V : Zf} {a K l kk : Nat} (h : LR P L V) (hY : LyI V K) (hK : K < 1000) (ha : a ≤ pN V 100 42) (hl : l < 12) (hk : kk = 22 ∨ kk = 23) (hfr : L kk l = -1) (w : Nat) (hw : w = 37 ∨ w = 38) : LR P (u2 (f_Layout_claimSlot (nI a) L).2 kk l (f_Layout_claimSlot (nI a) L).1) (u2 (f_Mod_slotFrom a V).2 w l (f_Mod_slotFrom a V).1) ∧ (f_Layout_claimSlot (nI a) L).1 = (f_Mod_slotFrom a V).1 ∧ ∃ p, p < 1000 ∧ (f_Mod_slotFrom a V).1 = nI p ∧ pN (f_Mod_slotFrom a V).2 100 42 = max (pN V 100 42) (p + 1) := by
  obtain ⟨s1, s2, s3, s4, s5⟩ := sl_of hY hK ha
  have hy := hY.1
  have l2 := (ly_slot hY hK ha).2
  have hfr2 : L 22 l = -1 ∨ L 23 l = -1 := by
    rcases hk with rfl | rfl
    · exact Or.inl hfr
    · exact Or.inr hfr
  rw [cs_eq h hY hK ha ⟨l, hl, hfr2⟩]
  rw [s1] at l2 ⊢
  generalize slN V 1001 a = p at *
  obtain ⟨⟨a1, a2⟩, b, d, c⟩ := h
  refine ⟨⟨⟨?_, ?_⟩, fun k hk2 => ?_, fun e he => ?_, fun q hq => ?_⟩, rfl, p, by omega, rfl, l2⟩
  · show u2 (u2 (u2 L 32 1 (L 32 1 + 1)) 32 0 _) kk l (nI p) 32 0 = u2 (u2 (u2 (u2 V 41 p 1) 100 43 _) 100 42 _) w l (nI p) 100 42
    rw [u2_k (by omega), u2_s, u2_k (by omega), u2_s]
  · show u2 (u2 (u2 L 32 1 (L 32 1 + 1)) 32 0 _) kk l (nI p) 32 1 = u2 (u2 (u2 (u2 V 41 p 1) 100 43 (V 100 43 + 1)) 100 42 _) w l (nI p) 100 43
    rw [u2_k (by omega), u2_i (by decide) rfl, u2_s, u2_k (by omega), u2_i (by decide) rfl, u2_s, a2]
  · show (u2 (u2 (u2 L 32 1 (L 32 1 + 1)) 32 0 _) kk l (nI p) 19 k = -1 ↔ u2 (u2 (u2 (u2 V 41 p 1) 100 43 (V 100 43 + 1)) 100 42 _) w l (nI p) 40 k = 0) ∧ (¬ u2 (u2 (u2 (u2 V 41 p 1) 100 43 (V 100 43 + 1)) 100 42 _) w l (nI p) 40 k = 0 → u2 (u2 (u2 L 32 1 (L 32 1 + 1)) 32 0 _) kk l (nI p) 20 k = u2 (u2 (u2 (u2 V 41 p 1) 100 43 (V 100 43 + 1)) 100 42 _) w l (nI p) 35 k ∧ u2 (u2 (u2 L 32 1 (L 32 1 + 1)) 32 0 _) kk l (nI p) 21 k = u2 (u2 (u2 (u2 V 41 p 1) 100 43 (V 100 43 + 1)) 100 42 _) w l (nI p) 36 k)
    rw [u2_k (by omega), u2_k (by omega), u2_k (by omega), u2_k (by omega), u2_k (by omega), u2_k (by omega), u2_k (by omega), u2_k (by omega), u2_k (by omega), u2_k (by omega), u2_k (by omega), u2_k (by omega), u2_k (by omega), u2_k (by omega), u2_k (by omega), u2_k (by omega), u2_k (by omega), u2_k (by omega), u2_k (by omega), u2_k (by omega), u2_k (by omega)]
    exact b k hk2
  · show u2 (u2 (u2 L 32 1 (L 32 1 + 1)) 32 0 _) kk l (nI p) 24 e = u2 (u2 (u2 (u2 V 41 p 1) 100 43 (V 100 43 + 1)) 100 42 _) w l (nI p) 39 e
    rw [u2_k (by omega), u2_k (by omega), u2_k (by omega), u2_k (by omega), u2_k (by omega), u2_k (by omega), u2_k (by omega)]
    exact d e he
  · show ¬ u2 (u2 (u2 (u2 V 41 p 1) 100 43 (V 100 43 + 1)) 100 42 _) w l (nI p) 41 q = 0 ↔ ∃ m, m < 12 ∧ (u2 (u2 (u2 L 32 1 (L 32 1 + 1)) 32 0 _) kk l (nI p) 22 m = nI q ∨ u2 (u2 (u2 L 32 1 (L 32 1 + 1)) 32 0 _) kk l (nI p) 23 m = nI q)
    rw [u2_k (show (41 : Nat) ≠ w by omega), u2_k (show (41 : Nat) ≠ 100 by decide), u2_k (show (41 : Nat) ≠ 100 by decide)]
    have e22 : ∀ m, u2 (u2 (u2 L 32 1 (L 32 1 + 1)) 32 0 (nI (max (pN V 100 42) (p + 1)))) kk l (nI p) 22 m = if kk = 22 ∧ m = l then nI p else L 22 m := by
      intro m
      by_cases z : kk = 22
      · subst z
        by_cases z2 : m = l
        · subst z2; rw [u2_s, if_pos ⟨rfl, rfl⟩]
        · rw [u2_i z2 rfl, if_neg (fun v => z2 v.2), u2_k (by decide), u2_k (by decide)]
      · rw [u2_k (by omega), u2_k (by decide), u2_k (by decide), if_neg (fun v => z v.1)]
    have e23 : ∀ m, u2 (u2 (u2 L 32 1 (L 32 1 + 1)) 32 0 (nI (max (pN V 100 42) (p + 1)))) kk l (nI p) 23 m = if kk = 23 ∧ m = l then nI p else L 23 m := by
      intro m
      by_cases z : kk = 23
      · subst z
        by_cases z2 : m = l
        · subst z2; rw [u2_s, if_pos ⟨rfl, rfl⟩]
        · rw [u2_i z2 rfl, if_neg (fun v => z2 v.2), u2_k (by decide), u2_k (by decide)]
      · rw [u2_k (by omega), u2_k (by decide), u2_k (by decide), if_neg (fun v => z v.1)]
    have nm : ¬ (-1 : Int32) = nI q := fun z => m1_ne (by omega) z.symm
    by_cases e : q = p
    · subst e
      refine ⟨fun _ => ⟨l, hl, ?_⟩, fun _ => by rw [u2_s]; decide⟩
      rcases hk with rfl | rfl
      · left; rw [e22, if_pos ⟨rfl, rfl⟩]
      · right; rw [e23, if_pos ⟨rfl, rfl⟩]
    · rw [u2_i e rfl, c q hq]
      have npq : ¬ nI p = nI q := fun z => e ((nI_eq (by omega) (by omega)).mp z).symm
      refine ⟨fun ⟨m, hm, z⟩ => ⟨m, hm, ?_⟩, fun ⟨m, hm, z⟩ => ⟨m, hm, ?_⟩⟩
      · rcases z with z | z
        · left
          rw [e22]
          by_cases y : kk = 22 ∧ m = l
          · obtain ⟨rfl, rfl⟩ := y
            rw [hfr] at z; exact absurd z nm
          · rw [if_neg y]; exact z
        · right
          rw [e23]
          by_cases y : kk = 23 ∧ m = l
          · obtain ⟨rfl, rfl⟩ := y
            rw [hfr] at z; exact absurd z nm
          · rw [if_neg y]; exact z
      · rcases z with z | z
        · rw [e22] at z
          by_cases y : kk = 22 ∧ m = l
          · rw [if_pos y] at z; exact absurd z npq
          · rw [if_neg y] at z; exact Or.inl z
        · rw [e23] at z
          by_cases y : kk = 23 ∧ m = l
          · rw [if_pos y] at z; exact absurd z npq
          · rw [if_neg y] at z; exact Or.inr z
