/-! a plan's first State, alike on both sides -/
def tgP (P : Zf) (k : Nat) : Int32 := if P 10 (k * 3 + 2) = -1 then 2 else 3
theorem sa_2 {P : Zf} : ∀ (t k : Nat) (c : Nat → Int32), 225 - k < t → k ≤ 225 → ∀ i, f_State_startAnew_2 P t c k i = if k ≤ i ∧ i < 225 then 0 else c i := by
  intro t
  induction t with
  | zero => intro k c h; omega
  | succ t ih =>
    intro k c h hk i
    rw [f_State_startAnew_2]
    by_cases q : 225 ≤ k
    · rw [if_pos q, if_neg (show ¬ (k ≤ i ∧ i < 225) by omega)]
    · rw [if_neg q, ih (k + 1) _ (by omega) (by omega)]
      by_cases d : i = k
      · subst d; rw [if_neg (show ¬ (i + 1 ≤ i ∧ i < 225) by omega), ud_s, if_pos (show i ≤ i ∧ i < 225 by omega)]
      · rw [ud_o d]
        by_cases e : k + 1 ≤ i ∧ i < 225
        · rw [if_pos e, if_pos (show k ≤ i ∧ i < 225 by omega)]
        · rw [if_neg e, if_neg (show ¬ (k ≤ i ∧ i < 225) by omega)]
def rw24 (P : Zf) (x : Int32) (i : Nat) : Int32 := if i % 9 = 0 then tgP P (i / 9) else if i % 9 = 1 then 1 else if i % 9 = 5 then 1 else if i % 9 = 8 then P 4 (i / 9) else x
theorem sa_24 {P : Zf} (hb : pN P 30 3 ≤ 10) : ∀ (t k : Nat) (c : Nat → Int32), 10 - k < t → k ≤ 10 → ∀ i, f_State_startAnew_24 P t c k i = if i < 90 ∧ k ≤ i / 9 ∧ i / 9 < pN P 30 3 then rw24 P (c i) i else c i := by
  intro t
  induction t with
  | zero => intro k c h; omega
  | succ t ih =>
    intro k c h hk i
    rw [f_State_startAnew_24]
    by_cases q : pN P 30 3 ≤ k
    · rw [if_pos q, if_neg (show ¬ (i < 90 ∧ k ≤ i / 9 ∧ i / 9 < pN P 30 3) by omega)]
    · rw [if_neg q]
      have key : ∀ v : Int32, v = tgP P k → f_State_startAnew_24 P t (upd (upd (upd (upd c (k * 9 + 0) v) (k * 9 + 1) 1) (k * 9 + 5) 1) (k * 9 + 8) (P 4 k)) (k + 1) i = if i < 90 ∧ k ≤ i / 9 ∧ i / 9 < pN P 30 3 then rw24 P (c i) i else c i := by
        intro v hv
        rw [ih (k + 1) _ (by omega) (by omega)]
        by_cases e : i / 9 = k
        · rw [if_neg (show ¬ (i < 90 ∧ k + 1 ≤ i / 9 ∧ i / 9 < pN P 30 3) by omega), if_pos (show i < 90 ∧ k ≤ i / 9 ∧ i / 9 < pN P 30 3 by omega)]
          unfold rw24
          rw [e]
          by_cases m8 : i % 9 = 8
          · rw [show i = k * 9 + 8 by omega, ud_s, if_neg (by omega), if_neg (by omega), if_neg (by omega), if_pos (by omega)]
          rw [ud_o (by omega)]
          by_cases m5 : i % 9 = 5
          · rw [show i = k * 9 + 5 by omega, ud_s, if_neg (by omega), if_neg (by omega), if_pos (by omega)]
          rw [ud_o (by omega)]
          by_cases m1 : i % 9 = 1
          · rw [show i = k * 9 + 1 by omega, ud_s, if_neg (by omega), if_pos (by omega)]
          rw [ud_o (by omega)]
          by_cases m0 : i % 9 = 0
          · rw [show i = k * 9 + 0 by omega, ud_s, if_pos (by omega), hv]
          rw [ud_o (by omega), if_neg m0, if_neg m1, if_neg m5, if_neg m8]
        · rw [ud_o (by omega), ud_o (by omega), ud_o (by omega), ud_o (by omega)]
          by_cases f : i < 90 ∧ k + 1 ≤ i / 9 ∧ i / 9 < pN P 30 3
          · rw [if_pos f, if_pos (show i < 90 ∧ k ≤ i / 9 ∧ i / 9 < pN P 30 3 by omega)]
          · rw [if_neg f, if_neg (show ¬ (i < 90 ∧ k ≤ i / 9 ∧ i / 9 < pN P 30 3) by omega)]
      by_cases g : P 10 (k * 3 + 2) = -1
      · rw [if_pos g]; exact key 2 (by unfold tgP; rw [if_pos g])
      · rw [if_neg g]; exact key 3 (by unfold tgP; rw [if_neg g])
theorem sa_105 {P : Zf} : ∀ (t k : Nat) (c : Nat → Int32), 12 - k < t → k ≤ 12 → ∀ i, f_State_startAnew_105 P t c k i = if 155 ≤ i ∧ i < 215 ∧ i % 5 = 3 ∧ k ≤ (i - 155) / 5 then 1 else c i := by
  intro t
  induction t with
  | zero => intro k c h; omega
  | succ t ih =>
    intro k c h hk i
    rw [f_State_startAnew_105]
    by_cases q : 12 ≤ k
    · rw [if_pos q, if_neg (show ¬ (155 ≤ i ∧ i < 215 ∧ i % 5 = 3 ∧ k ≤ (i - 155) / 5) by omega)]
    · rw [if_neg q, ih (k + 1) _ (by omega) (by omega)]
      by_cases d : i = 155 + k * 5 + 3
      · rw [if_neg (show ¬ (155 ≤ i ∧ i < 215 ∧ i % 5 = 3 ∧ k + 1 ≤ (i - 155) / 5) by omega), if_pos (show 155 ≤ i ∧ i < 215 ∧ i % 5 = 3 ∧ k ≤ (i - 155) / 5 by omega), d, ud_s]
      · rw [ud_o d]
        by_cases e : 155 ≤ i ∧ i < 215 ∧ i % 5 = 3 ∧ k + 1 ≤ (i - 155) / 5
        · rw [if_pos e, if_pos (show 155 ≤ i ∧ i < 215 ∧ i % 5 = 3 ∧ k ≤ (i - 155) / 5 by omega)]
        · rw [if_neg e, if_neg (show ¬ (155 ≤ i ∧ i < 215 ∧ i % 5 = 3 ∧ k ≤ (i - 155) / 5) by omega)]
theorem sa_all {P : Zf} {c : Nat → Int32} (hb : pN P 30 3 ≤ 10) (i : Nat) (hi : i < 225) : f_State_startAnew P c i = if i = 224 then P 30 1 else if i = 220 then ((1 : Int32) <<< (nI (pN P 30 0) &&& 31)) - 1 else if 155 ≤ i ∧ i < 215 ∧ i % 5 = 3 then 1 else if i < 90 ∧ i / 9 < pN P 30 3 then rw24 P 0 i else 0 := by
  unfold f_State_startAnew
  by_cases a : i = 224
  · rw [if_pos a, a, ud_s]
  rw [if_neg a, ud_o a]
  by_cases b : i = 220
  · rw [if_pos b, b, ud_s]
  rw [if_neg b, ud_o b, sa_105 13 0 _ (by omega) (by omega)]
  by_cases d : 155 ≤ i ∧ i < 215 ∧ i % 5 = 3
  · rw [if_pos d, if_pos ⟨d.1, d.2.1, d.2.2, Nat.zero_le _⟩]
  rw [if_neg d, if_neg (fun z => d ⟨z.1, z.2.1, z.2.2.1⟩), sa_24 hb 11 0 _ (by omega) (by omega), sa_2 226 0 c (by omega) (by omega), if_pos (show 0 ≤ i ∧ i < 225 by omega)]
  by_cases e : i < 90 ∧ i / 9 < pN P 30 3
  · rw [if_pos e, if_pos ⟨e.1, Nat.zero_le _, e.2⟩]
  · rw [if_neg e, if_neg (fun z => e ⟨z.1, z.2.2⟩)]
/-! the reference -/
theorem bg_2 : ∀ (t k : Nat) (Z : Zf), 210 - k < t → k ≤ 210 → ∀ i, f_Mod_begins_2 t Z k 0 i = if k ≤ i ∧ i < 210 then 0 else Z 0 i := by
  intro t
  induction t with
  | zero => intro k c h; omega
  | succ t ih =>
    intro k Z h hk i
    rw [f_Mod_begins_2]
    by_cases q : 210 ≤ k
    · rw [if_pos q, if_neg (show ¬ (k ≤ i ∧ i < 210) by omega)]
    · rw [if_neg q, ih (k + 1) _ (by omega) (by omega), u2_e]
      by_cases d : i = k
      · subst d; rw [if_neg (show ¬ (i + 1 ≤ i ∧ i < 210) by omega), ud_s, if_pos (show i ≤ i ∧ i < 210 by omega)]
      · rw [ud_o d]
        by_cases e : k + 1 ≤ i ∧ i < 210
        · rw [if_pos e, if_pos (show k ≤ i ∧ i < 210 by omega)]
        · rw [if_neg e, if_neg (show ¬ (k ≤ i ∧ i < 210) by omega)]
def tgM (V : Zf) (k : Nat) : Int32 := if nI (lkP V k 2) + -1 = -1 then 2 else 3
def rm24 (V : Zf) (x : Int32) (i : Nat) : Int32 := if i % 8 = 0 then tgM V (i / 8) else if i % 8 = 1 then 1 else if i % 8 = 5 then 1 else x
theorem lkP_cg {V U : Zf} {k w : Nat} (h : ∀ j, j ≠ 0 → U j = V j) : lkP U k w = lkP V k w := by
  unfold lkP
  rw [lt_cg (by rw [h 100 (by decide)]) (h 9 (by decide)) (h 10 (by decide))]
theorem bg_24 : ∀ (t k : Nat) (Z : Zf), pN Z 100 20 ≤ 10 → 10 - k < t → k ≤ 10 → ∀ i, f_Mod_begins_24 t Z k 0 i = if i < 80 ∧ k ≤ i / 8 ∧ i / 8 < pN Z 100 20 then rm24 Z (Z 0 i) i else Z 0 i := by
  intro t
  induction t with
  | zero => intro k Z _ h; omega
  | succ t ih =>
    intro k Z hb h hk i
    rw [f_Mod_begins_24]
    by_cases q : pN Z 100 20 ≤ k
    · rw [if_pos q, if_neg (show ¬ (i < 80 ∧ k ≤ i / 8 ∧ i / 8 < pN Z 100 20) by omega)]
    · rw [if_neg q]
      have key : ∀ v : Int32, v = tgM Z k → f_Mod_begins_24 t (u2 (u2 (u2 Z 0 (0 + 8 * k + 0) v) 0 (0 + 8 * k + 1) 1) 0 (0 + 8 * k + 5) 1) (k + 1) 0 i = if i < 80 ∧ k ≤ i / 8 ∧ i / 8 < pN Z 100 20 then rm24 Z (Z 0 i) i else Z 0 i := by
        intro v hv
        have kk : ∀ j, j ≠ 0 → u2 (u2 (u2 Z 0 (0 + 8 * k + 0) v) 0 (0 + 8 * k + 1) 1) 0 (0 + 8 * k + 5) 1 j = Z j := fun j hj => by rw [u2_k hj, u2_k hj, u2_k hj]
        have p20 : pN (u2 (u2 (u2 Z 0 (0 + 8 * k + 0) v) 0 (0 + 8 * k + 1) 1) 0 (0 + 8 * k + 5) 1) 100 20 = pN Z 100 20 := by unfold pN; rw [kk 100 (by decide)]
        have tg : ∀ j, tgM (u2 (u2 (u2 Z 0 (0 + 8 * k + 0) v) 0 (0 + 8 * k + 1) 1) 0 (0 + 8 * k + 5) 1) j = tgM Z j := fun j => by unfold tgM; rw [lkP_cg kk]
        rw [ih (k + 1) _ (by rw [p20]; exact hb) (by omega) (by omega), p20]
        unfold rm24
        rw [tg, u2_e, u2_e, u2_e]
        by_cases e : i / 8 = k
        · rw [if_neg (show ¬ (i < 80 ∧ k + 1 ≤ i / 8 ∧ i / 8 < pN Z 100 20) by omega), if_pos (show i < 80 ∧ k ≤ i / 8 ∧ i / 8 < pN Z 100 20 by omega), e]
          by_cases m5 : i % 8 = 5
          · rw [show i = 0 + 8 * k + 5 by omega, ud_s, if_neg (by omega), if_neg (by omega), if_pos (by omega)]
          rw [ud_o (by omega)]
          by_cases m1 : i % 8 = 1
          · rw [show i = 0 + 8 * k + 1 by omega, ud_s, if_neg (by omega), if_pos (by omega)]
          rw [ud_o (by omega)]
          by_cases m0 : i % 8 = 0
          · rw [show i = 0 + 8 * k + 0 by omega, ud_s, if_pos (by omega), hv]
          rw [ud_o (by omega), if_neg m0, if_neg m1, if_neg m5]
        · rw [ud_o (by omega), ud_o (by omega), ud_o (by omega)]
          by_cases f : i < 80 ∧ k + 1 ≤ i / 8 ∧ i / 8 < pN Z 100 20
          · rw [if_pos f, if_pos (show i < 80 ∧ k ≤ i / 8 ∧ i / 8 < pN Z 100 20 by omega)]
          · rw [if_neg f, if_neg (show ¬ (i < 80 ∧ k ≤ i / 8 ∧ i / 8 < pN Z 100 20) by omega)]
      by_cases g : nI (lkP Z k 2) + -1 = -1
      · rw [if_pos g]; exact key 2 (by unfold tgM; rw [if_pos g])
      · rw [if_neg g]; exact key 3 (by unfold tgM; rw [if_neg g])
theorem bg_93 : ∀ (t k : Nat) (Z : Zf), pN Z 100 21 ≤ 12 → 12 - k < t → k ≤ 12 → ∀ i, f_Mod_begins_93 t Z k 0 i = if 80 ≤ i ∧ i < 200 ∧ i % 10 = 8 ∧ k ≤ (i - 80) / 10 ∧ (i - 80) / 10 < pN Z 100 21 then 1 else Z 0 i := by
  intro t
  induction t with
  | zero => intro k Z _ h; omega
  | succ t ih =>
    intro k Z hb h hk i
    rw [f_Mod_begins_93]
    by_cases q : pN Z 100 21 ≤ k
    · rw [if_pos q, if_neg (show ¬ (80 ≤ i ∧ i < 200 ∧ i % 10 = 8 ∧ k ≤ (i - 80) / 10 ∧ (i - 80) / 10 < pN Z 100 21) by omega)]
    · have p21 : pN (u2 Z 0 (0 + 80 + 10 * k + 8) 1) 100 21 = pN Z 100 21 := by unfold pN; rw [u2_k (by decide)]
      rw [if_neg q, ih (k + 1) _ (by rw [p21]; exact hb) (by omega) (by omega), p21, u2_e]
      by_cases d : i = 0 + 80 + 10 * k + 8
      · rw [if_neg (show ¬ (80 ≤ i ∧ i < 200 ∧ i % 10 = 8 ∧ k + 1 ≤ (i - 80) / 10 ∧ (i - 80) / 10 < pN Z 100 21) by omega), if_pos (show 80 ≤ i ∧ i < 200 ∧ i % 10 = 8 ∧ k ≤ (i - 80) / 10 ∧ (i - 80) / 10 < pN Z 100 21 by omega), d, ud_s]
      · rw [ud_o d]
        by_cases e : 80 ≤ i ∧ i < 200 ∧ i % 10 = 8 ∧ k + 1 ≤ (i - 80) / 10 ∧ (i - 80) / 10 < pN Z 100 21
        · rw [if_pos e, if_pos (show 80 ≤ i ∧ i < 200 ∧ i % 10 = 8 ∧ k ≤ (i - 80) / 10 ∧ (i - 80) / 10 < pN Z 100 21 by omega)]
        · rw [if_neg e, if_neg (show ¬ (80 ≤ i ∧ i < 200 ∧ i % 10 = 8 ∧ k ≤ (i - 80) / 10 ∧ (i - 80) / 10 < pN Z 100 21) by omega)]
theorem bg_all {V : Zf} (hb : pN V 100 20 ≤ 10) (hl : pN V 100 21 ≤ 12) (i : Nat) : f_Mod_begins V 0 i = if i = 205 then ((1 : Int32) <<< (nI (pN V 100 19) &&& 31)) - 1 else if 80 ≤ i ∧ i < 200 ∧ i % 10 = 8 ∧ (i - 80) / 10 < pN V 100 21 then 1 else if i < 80 ∧ i / 8 < pN V 100 20 then rm24 V 0 i else if i < 210 then 0 else V 0 i := by
  have k1 : ∀ j, j ≠ 0 → f_Mod_begins_2 211 V 0 j = V j := fun j hj => k_begins_2 _ _ _ hj
  have k2 : ∀ j, j ≠ 0 → f_Mod_begins_24 11 (f_Mod_begins_2 211 V 0) 0 j = V j := fun j hj => (k_begins_24 _ _ _ hj).trans (k1 j hj)
  have k3 : ∀ j, j ≠ 0 → f_Mod_begins_93 13 (f_Mod_begins_24 11 (f_Mod_begins_2 211 V 0) 0) 0 j = V j := fun j hj => (k_begins_93 _ _ _ hj).trans (k2 j hj)
  have p20 : pN (f_Mod_begins_2 211 V 0) 100 20 = pN V 100 20 := by unfold pN; rw [k1 100 (by decide)]
  have p21 : pN (f_Mod_begins_24 11 (f_Mod_begins_2 211 V 0) 0) 100 21 = pN V 100 21 := by unfold pN; rw [k2 100 (by decide)]
  have p19 : pN (f_Mod_begins_93 13 (f_Mod_begins_24 11 (f_Mod_begins_2 211 V 0) 0) 0) 100 19 = pN V 100 19 := by unfold pN; rw [k3 100 (by decide)]
  have tg : ∀ j, tgM (f_Mod_begins_2 211 V 0) j = tgM V j := fun j => by unfold tgM; rw [lkP_cg k1]
  unfold f_Mod_begins f_Mod_begins_121
  rw [fu_eq, fu_eq, fu_eq, u2_e, p19]
  by_cases a : i = 205
  · rw [if_pos a, a, ud_s]
  rw [if_neg a, ud_o a, bg_93 13 0 _ (by rw [p21]; exact hl) (by omega) (by omega), p21]
  by_cases d : 80 ≤ i ∧ i < 200 ∧ i % 10 = 8 ∧ (i - 80) / 10 < pN V 100 21
  · rw [if_pos d, if_pos ⟨d.1, d.2.1, d.2.2.1, Nat.zero_le _, d.2.2.2⟩]
  rw [if_neg d, if_neg (fun z => d ⟨z.1, z.2.1, z.2.2.1, z.2.2.2.2⟩), bg_24 11 0 _ (by rw [p20]; exact hb) (by omega) (by omega), p20, bg_2 211 0 V (by omega) (by omega)]
  unfold rm24
  rw [tg]
  by_cases e : i < 80 ∧ i / 8 < pN V 100 20
  · rw [if_pos e, if_pos ⟨e.1, Nat.zero_le _, e.2⟩, if_pos (show 0 ≤ i ∧ i < 210 by omega)]
  · rw [if_neg e, if_neg (fun z => e ⟨z.1, z.2.2⟩)]
    by_cases f : i < 210
    · rw [if_pos f, if_pos ⟨Nat.zero_le _, f⟩]
    · rw [if_neg f, if_neg (fun z => f z.2)]
