/-! causes and what was noted: fits -/
def NSo (Z : Zf) (c : Nat → Int32) (n : Nat) : Prop := ∀ i, i < pN Z 310 0 → Z 312 i = nI n → c (pN Z 311 i * 9 + 1) = Z 313 i
def okN (P Z : Zf) : Nat → (Nat → Int32) → Nat → Prop
  | 0, _, _ => True
  | t + 1, c, k => NSo Z (f_Cycle_goBy P c) k ∧ okN P Z t (f_Cycle_goBy P c) (k + 1)
def gN (P : Zf) : Nat → (Nat → Int32) → (Nat → Int32)
  | 0, c => c
  | m + 1, c => gN P m (f_Cycle_goBy P c)
theorem ok_far {P Z : Zf} {u : Nat} (h : ∀ n, u < n → n ≤ 20 → ∀ c, NSo Z c n) : ∀ (e : Nat) (c : Nat → Int32) (k : Nat), u < k → k + e ≤ 21 → okN P Z e c k := by
  intro e
  induction e with
  | zero => intro c k _ _; trivial
  | succ e ih => intro c k hk he; exact ⟨h k hk (by omega) _, ih _ (k + 1) (by omega) (by omega)⟩
theorem ok_ext {P Z : Zf} {u : Nat} (h : ∀ n, u < n → n ≤ 20 → ∀ c, NSo Z c n) : ∀ (a : Nat) (c : Nat → Int32) (k : Nat), k + a = u + 1 → u ≤ 20 → (okN P Z a c k ↔ okN P Z (21 - k) c k) := by
  intro a
  induction a with
  | zero =>
    intro c k hk hu
    exact ⟨fun _ => ok_far h _ _ _ (by omega) (by omega), fun _ => trivial⟩
  | succ a ih =>
    intro c k hk hu
    rw [show 21 - k = (21 - (k + 1)) + 1 by omega]
    exact ⟨fun z => ⟨z.1, (ih _ (k + 1) (by omega) hu).mp z.2⟩, fun z => ⟨z.1, (ih _ (k + 1) (by omega) hu).mpr z.2⟩⟩
theorem so_sp {L : Zf} {n : Nat} {c : Nat → Int32} {x : Int32} (hn : n < 7) : ∀ (t k : Nat), 6 - k < t → (¬ f_Noted_isSo_2 L n c x t k = 0 ↔ ∀ i, k ≤ i → i < n → L 2 i = x → c (pN L 1 i * 9 + 1) = L 3 i) := by
  intro t
  induction t with
  | zero => intro k h; omega
  | succ t ih =>
    intro k h
    rw [f_Noted_isSo_2]
    by_cases q : n ≤ k
    · rw [if_pos q]
      exact ⟨fun _ i h1 h2 => by omega, fun _ => by decide⟩
    rw [if_neg q]
    by_cases q2 : L 2 k = x
    · rw [if_pos q2]
      by_cases q3 : c (pN L 1 k * 9 + 1) = L 3 k
      · rw [if_pos q3, ih (k + 1) (by omega)]
        refine ⟨fun z i h1 h2 h3 => ?_, fun z i h1 h2 h3 => z i (by omega) h2 h3⟩
        by_cases e : i = k
        · subst e; exact q3
        · exact z i (by omega) h2 h3
      · rw [if_neg q3]
        exact ⟨fun z => absurd rfl z, fun z => absurd (z k (by omega) (by omega) q2) q3⟩
    · rw [if_neg q2, ih (k + 1) (by omega)]
      refine ⟨fun z i h1 h2 h3 => ?_, fun z i h1 h2 h3 => z i (by omega) h2 h3⟩
      by_cases e : i = k
      · subst e; exact absurd h3 q2
      · exact z i (by omega) h2 h3
theorem fu_4 {L : Zf} {n : Nat} (hL : ∀ i, L 2 i = nI (pN L 2 i) ∧ pN L 2 i < 21) (hn : n < 7) : ∀ (t k a : Nat), 6 - k < t → a ≤ 20 → ∃ v, f_Noted_furthest_4 L n t (nI a) k = nI v ∧ v ≤ 20 ∧ a ≤ v ∧ ∀ i, k ≤ i → i < n → pN L 2 i ≤ v := by
  intro t
  induction t with
  | zero => intro k a h; omega
  | succ t ih =>
    intro k a h ha
    rw [f_Noted_furthest_4]
    by_cases q : n ≤ k
    · rw [if_pos q]
      exact ⟨a, rfl, ha, by omega, fun i h1 h2 => by omega⟩
    rw [if_neg q]
    obtain ⟨l1, l2⟩ := hL k
    rw [l1]
    by_cases q2 : nI a < nI (pN L 2 k)
    · rw [if_pos q2]
      rw [nI_ltI (by omega) (by omega)] at q2
      obtain ⟨v, e1, e2, e3, e4⟩ := ih (k + 1) (pN L 2 k) (by omega) (by omega)
      refine ⟨v, e1, e2, by omega, fun i h1 h2 => ?_⟩
      by_cases e : i = k
      · subst e; exact e3
      · exact e4 i (by omega) h2
    · rw [if_neg q2]
      rw [nI_ltI (by omega) (by omega)] at q2
      obtain ⟨v, e1, e2, e3, e4⟩ := ih (k + 1) a (by omega) ha
      refine ⟨v, e1, e2, e3, fun i h1 h2 => ?_⟩
      by_cases e : i = k
      · subst e; omega
      · exact e4 i (by omega) h2
theorem tn_sp {P Z : Zf} (hi : NtI Z) : ∀ (t k u : Nat) (Q : Zf), u + 1 - k < t → 1 ≤ k → u ≤ 20 → Zfr Z Q → ((f_Bus_trialIsAsNoted_13 P t Q u k).1 = 0 ∨ (f_Bus_trialIsAsNoted_13 P t Q u k).1 = 1) ∧ (¬ (f_Bus_trialIsAsNoted_13 P t Q u k).1 = 0 ↔ okN P Z (u + 1 - k) (Q 501) k) ∧ Zfr Z (f_Bus_trialIsAsNoted_13 P t Q u k).2 := by
  intro t
  induction t with
  | zero => intro k u Q h; omega
  | succ t ih =>
    intro k u Q h hk hu hz
    rw [f_Bus_trialIsAsNoted_13]
    by_cases q : u < k
    · rw [if_pos q, show u + 1 - k = 0 by omega]
      exact ⟨Or.inr rfl, ⟨fun _ => trivial, fun _ => (by decide : ¬ (1 : Int32) = 0)⟩, hz⟩
    rw [if_neg q, show u + 1 - k = (u + 1 - (k + 1)) + 1 by omega]
    have hz1 : Zfr Z (va_up Q 501 (f_Cycle_goBy P (Q 501))) := hz.up (by omega)
    have e310 : pN Q 310 0 = pN Z 310 0 := by unfold pN; rw [hz 310 (by omega)]
    have sp := so_sp (L := fun k => va_up Q 501 (f_Cycle_goBy P (Q 501)) (310 + k)) (n := pN Q 310 0) (c := va_up Q 501 (f_Cycle_goBy P (Q 501)) 501) (x := nI k) (by rw [e310]; exact hi.1.2) 7 0 (by omega)
    have so : ¬ f_Noted_isSo (fun k => va_up Q 501 (f_Cycle_goBy P (Q 501)) (310 + k)) (pN Q 310 0) (va_up Q 501 (f_Cycle_goBy P (Q 501)) 501) (nI k) = 0 ↔ NSo Z (f_Cycle_goBy P (Q 501)) k := by
      unfold f_Noted_isSo NSo
      rw [sp, e310, up_same]
      have e1 : ∀ i, pN (fun k => va_up Q 501 (f_Cycle_goBy P (Q 501)) (310 + k)) 1 i = pN Z 311 i := fun i => by
        show (va_up Q 501 (f_Cycle_goBy P (Q 501)) (310 + 1) i).toNatClampNeg = _
        rw [hz1 _ (by omega)]; rfl
      refine ⟨fun z i h1 h2 => ?_, fun z i _ h1 h2 => ?_⟩
      · have := z i (by omega) h1 (by show va_up Q 501 (f_Cycle_goBy P (Q 501)) (310 + 2) i = nI k; rw [hz1 _ (by omega)]; exact h2)
        rw [e1] at this
        rw [this]
        show va_up Q 501 (f_Cycle_goBy P (Q 501)) (310 + 3) i = Z 313 i
        rw [hz1 _ (by omega)]
      · rw [e1]
        have h2' : va_up Q 501 (f_Cycle_goBy P (Q 501)) (310 + 2) i = nI k := h2
        rw [hz1 _ (by omega)] at h2'
        rw [z i h1 h2']
        show Z 313 i = va_up Q 501 (f_Cycle_goBy P (Q 501)) (310 + 3) i
        rw [hz1 _ (by omega)]
    by_cases q2 : f_Noted_isSo (fun k => va_up Q 501 (f_Cycle_goBy P (Q 501)) (310 + k)) (pN Q 310 0) (va_up Q 501 (f_Cycle_goBy P (Q 501)) 501) (nI k) = 0
    · rw [if_pos q2]
      exact ⟨Or.inl rfl, ⟨fun z => absurd rfl z, fun z => absurd q2 (so.mpr z.1)⟩, hz1⟩
    · rw [if_neg q2]
      obtain ⟨i1, i2, i3⟩ := ih (k + 1) u _ (by omega) (by omega) hu hz1
      refine ⟨i1, ?_, i3⟩
      rw [i2, up_same]
      exact ⟨fun z => ⟨so.mp q2, z⟩, fun z => z.2⟩
/-- a trial as noted, all twenty cycles -/
theorem tn_all {P Z Q : Zf} (hi : NtI Z) (hz : Zfr Z Q) : ((f_Bus_trialIsAsNoted P Q).1 = 0 ∨ (f_Bus_trialIsAsNoted P Q).1 = 1) ∧ (¬ (f_Bus_trialIsAsNoted P Q).1 = 0 ↔ okN P Z 20 (Q 501) 1) ∧ Zfr Z (f_Bus_trialIsAsNoted P Q).2 := by
  unfold f_Bus_trialIsAsNoted furN f_Noted_furthest
  have hL : ∀ i, (fun k => Q (310 + k)) 2 i = nI (pN (fun k => Q (310 + k)) 2 i) ∧ pN (fun k => Q (310 + k)) 2 i < 21 := by
    intro i
    show Q (310 + 2) i = nI (Q (310 + 2) i).toNatClampNeg ∧ (Q (310 + 2) i).toNatClampNeg < 21
    rw [hz _ (by omega)]; exact hi.2.2 i
  have e310 : pN Q 310 0 = pN Z 310 0 := by unfold pN; rw [hz 310 (by omega)]
  obtain ⟨v, e1, e2, -, e4⟩ := fu_4 (L := fun k => Q (310 + k)) (n := pN Q 310 0) hL (by rw [e310]; exact hi.1.2) 7 0 0 (by omega) (by omega)
  rw [show nI 0 = 0 by decide] at e1
  rw [e1, nI_clamp (by omega)]
  obtain ⟨i1, i2, i3⟩ := tn_sp (P := P) hi 22 1 v Q (by omega) (by omega) e2 hz
  refine ⟨i1, ?_, i3⟩
  rw [i2]
  refine ok_ext (fun n h1 h2 c i hi1 hi2 => ?_) _ _ _ (by omega) e2
  have := e4 i (by omega) (by omega)
  have e5 : pN (fun k => Q (310 + k)) 2 i = n := by
    show (Q (310 + 2) i).toNatClampNeg = n
    rw [hz _ (by omega)]
    show (Z 312 i).toNatClampNeg = n
    rw [hi2, nI_clamp (by omega)]
  omega
theorem rn_64 {c n : Nat} {V : Zf} (hn : pN V 100 26 ≤ 6) : ∀ (t i : Nat) (w : Int32), 6 - i < t → (w = 0 ∨ w = 1) → (f_Mod_isNoted_64 c t V w n i).2 = V ∧ ((f_Mod_isNoted_64 c t V w n i).1 = 0 ∨ (f_Mod_isNoted_64 c t V w n i).1 = 1) ∧ (¬ (f_Mod_isNoted_64 c t V w n i).1 = 0 ↔ ¬ w = 0 ∧ ∀ j, i ≤ j → j < pN V 100 26 → V 15 j = nI n → V 0 (210 + 8 * pN V 14 j + 1) = V 16 j) := by
  intro t
  induction t with
  | zero => intro i w h; omega
  | succ t ih =>
    intro i w h hw
    rw [f_Mod_isNoted_64]
    by_cases q : pN V 100 26 ≤ i
    · rw [if_pos q]
      exact ⟨rfl, hw, fun z => ⟨z, fun j h1 h2 => by omega⟩, fun z => z.1⟩
    rw [if_neg q]
    by_cases q0 : w = 0
    · rw [if_pos q0]
      obtain ⟨i1, i2, i3⟩ := ih (i + 1) 0 (by omega) (Or.inl rfl)
      refine ⟨i1, i2, ?_⟩
      rw [i3]
      exact ⟨fun z => absurd rfl z.1, fun z => absurd q0 z.1⟩
    rw [if_neg q0]
    by_cases q1 : V 15 i = nI n
    · rw [if_pos q1]
      by_cases q2 : V 0 (210 + 8 * pN V 14 i + 1) = V 16 i
      · rw [if_pos q2]
        obtain ⟨i1, i2, i3⟩ := ih (i + 1) 1 (by omega) (Or.inr rfl)
        refine ⟨i1, i2, ?_⟩
        rw [i3]
        refine ⟨fun z => ⟨q0, fun j h1 h2 h3 => ?_⟩, fun z => ⟨by decide, fun j h1 h2 h3 => z.2 j (by omega) h2 h3⟩⟩
        by_cases e : j = i
        · subst e; exact q2
        · exact z.2 j (by omega) h2 h3
      · rw [if_neg q2]
        obtain ⟨i1, i2, i3⟩ := ih (i + 1) 0 (by omega) (Or.inl rfl)
        refine ⟨i1, i2, ?_⟩
        rw [i3]
        exact ⟨fun z => absurd rfl z.1, fun z => absurd (z.2 i (by omega) (by omega) q1) q2⟩
    · rw [if_neg q1]
      obtain ⟨i1, i2, i3⟩ := ih (i + 1) 1 (by omega) (Or.inr rfl)
      refine ⟨i1, i2, ?_⟩
      rw [i3]
      refine ⟨fun z => ⟨q0, fun j h1 h2 h3 => ?_⟩, fun z => ⟨by decide, fun j h1 h2 h3 => z.2 j (by omega) h2 h3⟩⟩
      by_cases e : j = i
      · subst e; exact absurd h3 q1
      · exact z.2 j (by omega) h2 h3
theorem rn_139 {c n : Nat} {w : Int32} : ∀ (t b : Nat) (V : Zf), pN V 100 20 ≤ 10 → 10 - b < t → (∀ k, k ≠ 73 → f_Mod_isNoted_139 c t V w n b k = V k) ∧ ∀ i, f_Mod_isNoted_139 c t V w n b 73 i = if b ≤ i ∧ i < pN V 100 20 then V 0 (210 + 8 * i + 1) else V 73 i := by
  intro t
  induction t with
  | zero => intro b V _ h; omega
  | succ t ih =>
    intro b V hn h
    rw [f_Mod_isNoted_139]
    by_cases q : pN V 100 20 ≤ b
    · rw [if_pos q]
      exact ⟨fun _ _ => rfl, fun i => by rw [if_neg (by omega)]⟩
    rw [if_neg q]
    have e : pN (u2 V 73 b (V 0 (210 + 8 * b + 1))) 100 20 = pN V 100 20 := by unfold pN; rw [u2_k (by decide)]
    obtain ⟨i1, i2⟩ := ih (b + 1) (u2 V 73 b (V 0 (210 + 8 * b + 1))) (by omega) (by omega)
    refine ⟨fun k hk => by rw [i1 k hk, u2_k hk], fun i => ?_⟩
    rw [i2 i, e, u2_k (show (0 : Nat) ≠ 73 by decide)]
    by_cases q1 : b + 1 ≤ i ∧ i < pN V 100 20
    · rw [if_pos q1, if_pos (by omega)]
    · rw [if_neg q1]
      by_cases q2 : i = b
      · subst q2
        rw [u2_s, if_pos (by omega)]
      · rw [u2_i q2 rfl, if_neg (by omega)]
/-- what the reference's twenty cycles say of what was noted -/
theorem rn_lp {P Z W : Zf} {cc : Nat} (hi : NtI Z) (hr : NtR Z W 310 26 0) : ∀ (t n : Nat) (V : Zf) (c : Nat → Int32) (w : Int32), 21 - n < t → 1 ≤ n → n ≤ 21 → (w = 0 ∨ w = 1) → Wfs W V → PK P V → (∃ x y, CX P V 210 (V 0) x y c (V 0)) → ((f_Mod_isNoted_48 cc t V w n).1 = 0 ∨ (f_Mod_isNoted_48 cc t V w n).1 = 1) ∧ (¬ (f_Mod_isNoted_48 cc t V w n).1 = 0 ↔ ¬ w = 0 ∧ okN P Z (21 - n) c n) ∧ Wfs W (f_Mod_isNoted_48 cc t V w n).2 ∧ (f_Mod_isNoted_48 cc t V w n).2 74 = V 74 ∧ ∀ b, b < pN P 30 3 → (f_Mod_isNoted_48 cc t V w n).2 73 b = if n ≤ 8 then gN P (9 - n) c (b * 9 + 1) else V 73 b := by
  intro t
  induction t with
  | zero => intro n V c w h; omega
  | succ t ih =>
    intro n V c w h hn1 hn hw hW hp hc
    have n2 := hp.nb
    rw [f_Mod_isNoted_48]
    by_cases q : 20 < n
    · rw [if_pos q, show 21 - n = 0 by omega]
      exact ⟨hw, ⟨fun z => ⟨z, trivial⟩, fun z => z.1⟩, hW, rfl, fun b hb => by rw [if_neg (by omega)]⟩
    rw [if_neg q]
    obtain ⟨x, y, hx⟩ := hc
    obtain ⟨x', y', hc1, -⟩ := cx_cycle hx hp
    have fr : ∀ i, i < 210 ∨ 420 ≤ i → f_Mod_cycle V 210 (V 0) i = V 0 i := fun i hi => hc1.fr (by omega)
    generalize f_Mod_cycle V 210 (V 0) = f at *
    have hW1 : Wfs W (va_up V 0 f) := hW.up (fun i hi => fr i (by omega))
    have hp1 : PK P (va_up V 0 f) := hp.up
    have hcx1 : CX P (va_up V 0 f) 210 f x' y' (f_Cycle_goBy P c) f := CX.up (hc1.re (fun _ _ _ => rfl))
    have v0 : va_up V 0 f 0 = f := up_same
    have v73 : va_up V 0 f 73 = V 73 := up_ne (by decide) rfl
    have v74 : va_up V 0 f 74 = V 74 := up_ne (by decide) rfl
    generalize va_up V 0 f = U at *
    have e26 : pN U 100 26 = pN Z 310 0 := by unfold pN; rw [hW1.1.2.1 26 (by decide) (by decide) (by decide), ← hr.1]
    have e14 : U 14 = W 14 := hW1.1.1 14 (by decide) (by decide) (by decide) (by decide)
    have e15 : U 15 = W 15 := hW1.1.1 15 (by decide) (by decide) (by decide) (by decide)
    have e16 : U 16 = W 16 := hW1.1.1 16 (by decide) (by decide) (by decide) (by decide)
    have b7 := hi.1.2
    obtain ⟨s1, s2, s3⟩ := rn_64 (c := cc) (n := n) (V := U) (by omega) 7 0 w (by omega) hw
    rw [s1]
    have ns : (∀ j, 0 ≤ j → j < pN U 100 26 → U 15 j = nI n → U 0 (210 + 8 * pN U 14 j + 1) = U 16 j) ↔ NSo Z (f_Cycle_goBy P c) n := by
      unfold NSo
      rw [e26]
      have key : ∀ j, j < pN Z 310 0 → U 15 j = Z 312 j ∧ U 16 j = Z 313 j ∧ U 0 (210 + 8 * pN U 14 j + 1) = f_Cycle_goBy P c (pN Z 311 j * 9 + 1) := by
        intro j hj
        obtain ⟨r1, r2, r3⟩ := hr.2 j hj
        rw [Nat.zero_add] at r1 r2 r3
        have p14 : pN U 14 j = pN Z 311 j := by unfold pN; rw [e14, ← r1]
        refine ⟨by rw [e15, ← r2], by rw [e16, ← r3], ?_⟩
        rw [p14, v0]
        exact (hcx1.gb (hi.2.1 j).2 (j := 1) (by omega)).symm
      refine ⟨fun z i h1 h2 => ?_, fun z i _ h1 h2 => ?_⟩
      · obtain ⟨k1, k2, k3⟩ := key i h1
        rw [← k3, ← k2]; exact z i (by omega) h1 (by rw [k1]; exact h2)
      · obtain ⟨k1, k2, k3⟩ := key i h1
        rw [k3, k2]; exact z i h1 (by rw [← k1]; exact h2)
    rw [ns] at s3
    rw [show 21 - n = (21 - (n + 1)) + 1 by omega]
    have join : ∀ R : Int32, (¬ R = 0 ↔ ¬ (f_Mod_isNoted_64 cc 7 U w n 0).1 = 0 ∧ okN P Z (21 - (n + 1)) (f_Cycle_goBy P c) (n + 1)) → (¬ R = 0 ↔ ¬ w = 0 ∧ okN P Z (21 - (n + 1) + 1) c n) := by
      intro R hR
      rw [hR, s3]
      exact ⟨fun z => ⟨z.1.1, z.1.2, z.2⟩, fun z => ⟨⟨z.1, z.2.1⟩, z.2.2⟩⟩
    by_cases q8 : n = 8
    · rw [if_pos q8]
      have u20 : pN U 100 20 ≤ 10 := by have := hp1.nb; omega
      obtain ⟨m1, m2⟩ := rn_139 (c := cc) (n := n) (w := (f_Mod_isNoted_64 cc 7 U w n 0).1) 11 0 U u20 (by omega)
      have hU2 : Wfs W (f_Mod_isNoted_139 cc 11 U (f_Mod_isNoted_64 cc 7 U w n 0).1 n 0) := by
        refine hW1.tr ⟨⟨fun k a b c d => m1 k c, fun i a b c => by rw [m1 100 (by decide)], fun i hi => by rw [m1 0 (by decide)]⟩, by rw [m1 100 (by decide)]⟩
      generalize hB : f_Mod_isNoted_139 cc 11 U (f_Mod_isNoted_64 cc 7 U w n 0).1 n 0 = B at *
      have hp2 : PK P B := hp1.cg (fun k hk => m1 k (by omega)) (fun i hi => by rw [m1 100 (by decide)])
      have hcx2 : CX P B 210 (B 0) x' y' (f_Cycle_goBy P c) (B 0) := by
        rw [m1 0 (by decide), v0]
        exact hcx1.cgW (by rw [m1 100 (by decide)]) (by rw [m1 100 (by decide)]) (by rw [m1 100 (by decide)]) (m1 4 (by decide))
      obtain ⟨i1, i2, i3, i4, i5⟩ := ih (n + 1) B (f_Cycle_goBy P c) _ (by omega) (by omega) (by omega) s2 hU2 hp2 ⟨x', y', hcx2⟩
      refine ⟨i1, join _ i2, i3, by rw [i4, m1 74 (by decide), v74], fun b hb => ?_⟩
      rw [i5 b hb, if_neg (by omega), if_pos (by omega), m2 b, if_pos (by have := hp1.nb; omega), v0, show 9 - n = 0 + 1 by omega]
      exact (hcx1.gb (k := b) (j := 1) (by omega) (by omega)).symm
    · rw [if_neg q8]
      obtain ⟨i1, i2, i3, i4, i5⟩ := ih (n + 1) U (f_Cycle_goBy P c) _ (by omega) (by omega) (by omega) s2 hW1 hp1 ⟨x', y', by rw [v0]; exact hcx1⟩
      refine ⟨i1, join _ i2, i3, by rw [i4, v74], fun b hb => ?_⟩
      rw [i5 b hb]
      by_cases z : n ≤ 8
      · rw [if_pos (by omega), if_pos z, show 9 - n = (9 - (n + 1)) + 1 by omega]; rfl
      · rw [if_neg (by omega), if_neg z, v73]
