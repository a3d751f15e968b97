/-! the reference: how it lays the cycle (written by wip/whole/c_mod6.py) -/
/-- the layout so far: its length, at most K; slots, devices and taken blocks within it -/
def LyI (Z : Nat → Nat → Int32) (K : Nat) : Prop :=
  (Z 100 42 = nI (pN Z 100 42) ∧ pN Z 100 42 ≤ K) ∧ (∀ j, j < 1000 → ¬ Z 41 j = 0 → j < pN Z 100 42) ∧ (∀ d, d < 5 → Z 39 d = nI (pN Z 39 d) ∧ pN Z 39 d ≤ pN Z 100 42) ∧ (∀ b, b < 10 → ¬ Z 40 b = 0 → Z 36 b = nI (pN Z 36 b) ∧ pN Z 36 b ≤ pN Z 100 42)
theorem LyI.of {Z Q : Nat → Nat → Int32} {K : Nat} (h : LyI Z K) (e0 : Q 100 42 = Z 100 42) (e1 : Q 41 = Z 41) (e2 : Q 39 = Z 39) (e3 : Q 40 = Z 40) (e4 : Q 36 = Z 36) : LyI Q K := by
  unfold LyI pN at *
  rw [e0, e1, e2, e3, e4]; exact h
theorem LyI.mono {Z : Nat → Nat → Int32} {K K' : Nat} (h : LyI Z K) (hK : K ≤ K') : LyI Z K' := ⟨⟨h.1.1, Nat.le_trans h.1.2 hK⟩, h.2⟩
/-- blocks that one waits for are taken -/
def RdI (Z : Nat → Nat → Int32) (b : Nat) : Prop := ∀ l, l < pN Z 100 21 → pN Z 9 l = b → ¬ Z 40 (pN Z 8 l) = 0
theorem RdI.of {Z Q : Nat → Nat → Int32} {b : Nat} (h : RdI Z b) (e0 : Q 100 21 = Z 100 21) (e1 : Q 9 = Z 9) (e2 : Q 40 = Z 40) (e3 : Q 8 = Z 8) : RdI Q b := by
  unfold RdI pN at *
  rw [e0, e1, e2, e3]; exact h
theorem ly_en {Z : Nat → Nat → Int32} {K b l : Nat} (hw : wfM Z) (h : LyI Z K) (hK : K < 1000) (hR : RdI Z b) (hl : l < pN Z 100 21) (H : pN Z 9 l = b) : Z 36 (pN Z 8 l) = nI (pN Z 36 (pN Z 8 l)) ∧ pN Z 36 (pN Z 8 l) ≤ pN Z 100 42 ∧ pN Z 100 42 < 1000 := by
  have q := h.2.2.2 _ (hw.frm l).2 (hR l hl H)
  exact ⟨q.1, q.2, Nat.lt_of_le_of_lt h.1.2 hK⟩
def f_Mod_canBeTaken_13 (b : Nat) : Nat → (Nat → Nat → Int32) → (Nat) → Int32
  | 0, _, _ => 0
  | t + 1, Z, l => if (pN Z 100 21) ≤ l then 1 else if (pN Z 9 l) = b then if ((Z 40) (pN Z 8 l)) = 0 then 0 else f_Mod_canBeTaken_13 b t Z (l + 1) else f_Mod_canBeTaken_13 b t Z (l + 1)
set_option maxRecDepth 4000 in
theorem w_Mod_canBeTaken_13 {g : GG} {Q : QT} {h : Hp} {kc ks : Nat} (hst : (gl g).stackTraces = false) {A : Nat → Nat} (hnd : (gK (moL g A)).Nodup) (b : Nat) (hb : b < 10)  (t : Nat) : ∀ (Z : Nat → Nat → Int32) (l : Nat) (hw : wfM Z) (hl9 : l ≤ 12) (hlt : 12 - l < t) (hk : Q (.inl (some (.int (f_Mod_canBeTaken_13 b t Z l)))) (ov h (gO (moL g A) Z))), PW g M_Mod_canBeTaken 0 kc ks Q 13 [.ref (A 100), .int (nI (b)), .int (nI (l))] [] (ov h (gO (moL g A) Z)) := by
  induction t with
  | zero => intro Z l hw hl9 hlt _; exact absurd hlt (Nat.not_lt_zero _)
  | succ t ih =>
    intro Z l hw hl9 hlt hk
    have hz0 := hw.blk.2
    have hz1 := hw.lnk.2
    have hz2 := hw.dvs.2
    refine pw_iload_n e_Mod_canBeTaken_13 rfl ?_
    refine pw_aload_n e_Mod_canBeTaken_14 rfl ?_
    refine pw_getf e_Mod_canBeTaken_15 fl_Mod_162 (gO_get hnd (i := 0) rfl) rfl ?_
    rw [show Z 100 21 = nI (pN Z 100 21) from hw.lnk.1]
    refine pw_icmp_geN (tgt := 53) e_Mod_canBeTaken_18 (by decide) (by omega) (by omega) (fun (H1 : (pN Z 100 21) ≤ l) => ?_) (fun (H1 : l < (pN Z 100 21)) => ?_)
    · refine pw_iconst (v := nI 1) e_Mod_canBeTaken_53 (by decide) ?_
      refine pw_iret e_Mod_canBeTaken_54 rfl (by decide) ?_
      rw [f_Mod_canBeTaken_13, if_pos H1] at hk
      exact hk
    · refine pw_aload_n e_Mod_canBeTaken_21 rfl ?_
      refine pw_getf e_Mod_canBeTaken_22 fl_Mod_37 (gO_get hnd (i := 0) rfl) rfl ?_
      refine pw_iload_n e_Mod_canBeTaken_25 rfl ?_
      have hb2 := hw.to l
      refine pw_ialdC e_Mod_canBeTaken_26 (gO_get hnd (i := 10) rfl) (by omega) (by decide) hb2.1 ?_
      replace hb2 := hb2.2
      refine pw_iload_n e_Mod_canBeTaken_27 rfl ?_
      refine pw_icmp_neN (tgt := 47) e_Mod_canBeTaken_28 (by decide) (by omega) (by omega) (fun (H3 : ¬ (pN Z 9 l) = b) => ?_) (fun (H3 : (pN Z 9 l) = b) => ?_)
      · refine pw_iincN (ls2 := [_, _, _]) e_Mod_canBeTaken_47 rfl (by decide) rfl ?_
        refine pw_goto (tgt := 13) e_Mod_canBeTaken_50 (by decide) ?_
        refine ih Z (l + 1) hw (by omega) (by omega) ?_
        rw [f_Mod_canBeTaken_13, if_neg (Nat.not_le.mpr H1), if_neg H3] at hk
        exact hk
      · refine pw_aload_n e_Mod_canBeTaken_31 rfl ?_
        refine pw_getf e_Mod_canBeTaken_32 fl_Mod_98 (gO_get hnd (i := 0) rfl) rfl ?_
        refine pw_aload_n e_Mod_canBeTaken_35 rfl ?_
        refine pw_getf e_Mod_canBeTaken_36 fl_Mod_34 (gO_get hnd (i := 0) rfl) rfl ?_
        refine pw_iload_n e_Mod_canBeTaken_39 rfl ?_
        have hb4 := hw.frm l
        refine pw_ialdC e_Mod_canBeTaken_40 (gO_get hnd (i := 9) rfl) (by omega) (by decide) hb4.1 ?_
        replace hb4 := hb4.2
        refine pw_zaldN e_Mod_canBeTaken_41 (gO_get hnd (i := 26) rfl) (by omega) (by decide) ?_
        refine pw_if_ne (tgt := 47) e_Mod_canBeTaken_42 (by decide) (fun (H5 : ¬ ((Z 40) (pN Z 8 l)) = 0) => ?_) (fun (H5 : ((Z 40) (pN Z 8 l)) = 0) => ?_)
        · refine pw_iincN (ls2 := [_, _, _]) e_Mod_canBeTaken_47 rfl (by decide) rfl ?_
          refine pw_goto (tgt := 13) e_Mod_canBeTaken_50 (by decide) ?_
          refine ih Z (l + 1) hw (by omega) (by omega) ?_
          rw [f_Mod_canBeTaken_13, if_neg (Nat.not_le.mpr H1), if_pos H3, if_neg H5] at hk
          exact hk
        · refine pw_iconst (v := nI 0) e_Mod_canBeTaken_45 (by decide) ?_
          refine pw_iret e_Mod_canBeTaken_46 rfl (by decide) ?_
          rw [f_Mod_canBeTaken_13, if_neg (Nat.not_le.mpr H1), if_pos H3, if_pos H5] at hk
          exact hk
def f_Mod_canBeTaken (b : Nat) (Z : Nat → Nat → Int32) : Int32 :=
  if ((Z 40) b) = 0 then f_Mod_canBeTaken_13 b 13 Z 0 else 0
set_option maxRecDepth 4000 in
theorem w_Mod_canBeTaken_0 {g : GG} {Q : QT} {h : Hp} {kc ks : Nat} (hst : (gl g).stackTraces = false) {A : Nat → Nat} (hnd : (gK (moL g A)).Nodup) (b : Nat) (hb : b < 10)  (Z : Nat → Nat → Int32) (hw : wfM Z) (hk : Q (.inl (some (.int (f_Mod_canBeTaken b Z)))) (ov h (gO (moL g A) Z))) : PW g M_Mod_canBeTaken 0 kc ks Q 0 [.ref (A 100), .int (nI (b)), .retAddr 0] [] (ov h (gO (moL g A) Z)) := by
  have hz0 := hw.blk.2
  have hz1 := hw.lnk.2
  have hz2 := hw.dvs.2
  refine pw_aload_n e_Mod_canBeTaken_0 rfl ?_
  refine pw_getf e_Mod_canBeTaken_1 fl_Mod_98 (gO_get hnd (i := 0) rfl) rfl ?_
  refine pw_iload_n e_Mod_canBeTaken_4 rfl ?_
  refine pw_zaldN e_Mod_canBeTaken_5 (gO_get hnd (i := 26) rfl) (by omega) (by decide) ?_
  refine pw_if_eq (tgt := 11) e_Mod_canBeTaken_6 (by decide) (fun (H1 : ((Z 40) b) = 0) => ?_) (fun (H1 : ¬ ((Z 40) b) = 0) => ?_)
  · refine pw_iconst (v := nI 0) e_Mod_canBeTaken_11 (by decide) ?_
    refine pw_istore_n (ls2 := [_, _, _]) e_Mod_canBeTaken_12 (by decide) rfl ?_
    refine w_Mod_canBeTaken_13 hst hnd b hb 13 Z 0 hw (by omega) (by omega) ?_
    rw [f_Mod_canBeTaken, if_pos H1] at hk
    exact hk
  · refine pw_iconst (v := nI 0) e_Mod_canBeTaken_9 (by decide) ?_
    refine pw_iret e_Mod_canBeTaken_10 rfl (by decide) ?_
    rw [f_Mod_canBeTaken, if_neg H1] at hk
    exact hk
theorem q_Mod_canBeTaken {g : GG} {h : Hp} (hst : (gl g).stackTraces = false) {A : Nat → Nat} (hnd : (gK (moL g A)).Nodup) (b : Nat) (hb : b < 10)  (Z : Nat → Nat → Int32) (hm : ∀ q ∈ gO (moL g A) Z, h q.1 = some q.2) (hw : wfM Z) : PM g M_Mod_canBeTaken 0 0 0 [.ref (A 100), .int (nI (b))] h (RetV (some (.int (f_Mod_canBeTaken b Z))) h) := by
  refine PM.of hst (by decide) rfl (fun v hv => ?_) (Nat.le_of_ble_eq_true rfl) ?_
  · simp only [List.mem_cons, List.not_mem_nil, or_false] at hv; rcases hv with rfl | rfl <;> rfl
  · have hq := w_Mod_canBeTaken_0 (g := g) (Q := RetV (some (.int (f_Mod_canBeTaken b Z))) h) (h := h) (kc := 0) (ks := 0) hst hnd b hb Z hw ?_
    · rw [ov_self hm] at hq; exact hq
    · exact ⟨rfl, ov_self hm⟩

theorem cb_of {b : Nat} {Z : Nat → Nat → Int32} (hw : wfM Z) (H : ¬ f_Mod_canBeTaken b Z = 0) : Z 40 b = 0 ∧ RdI Z b := by
  have hz1 := hw.lnk.2
  rw [f_Mod_canBeTaken] at H
  by_cases h0 : Z 40 b = 0
  · rw [if_pos h0] at H
    refine ⟨h0, ?_⟩
    have key : ∀ (t l : Nat), ¬ f_Mod_canBeTaken_13 b t Z l = 0 → ∀ j, l ≤ j → j < pN Z 100 21 → pN Z 9 j = b → ¬ Z 40 (pN Z 8 j) = 0 := by
      intro t
      induction t with
      | zero => intro l q; exact absurd rfl q
      | succ t ih =>
        intro l q j h1 h2 h3
        rw [f_Mod_canBeTaken_13] at q
        by_cases c1 : pN Z 100 21 ≤ l
        · omega
        · rw [if_neg c1] at q
          by_cases c2 : pN Z 9 l = b
          · rw [if_pos c2] at q
            by_cases c3 : Z 40 (pN Z 8 l) = 0
            · rw [if_pos c3] at q; exact absurd rfl q
            · rw [if_neg c3] at q
              by_cases e : j = l
              · rw [e]; exact c3
              · exact ih (l + 1) q j (by omega) h2 h3
          · rw [if_neg c2] at q
            have : j ≠ l := fun e => c2 (by rw [← e]; exact h3)
            exact ih (l + 1) q j (by omega) h2 h3
    exact fun l hl => key _ _ H l (Nat.zero_le _) hl
  · rw [if_neg h0] at H; exact absurd rfl H
theorem cb_to {b : Nat} {Z : Nat → Nat → Int32} (hw : wfM Z) (h0 : Z 40 b = 0) (hR : RdI Z b) : f_Mod_canBeTaken b Z = 1 := by
  have hz1 := hw.lnk.2
  rw [f_Mod_canBeTaken, if_pos h0]
  have key : ∀ (t l : Nat), 12 - l < t → l ≤ 12 → f_Mod_canBeTaken_13 b t Z l = 1 := by
    intro t
    induction t with
    | zero => intro l h _; omega
    | succ t ih =>
      intro l h hl
      rw [f_Mod_canBeTaken_13]
      by_cases c1 : pN Z 100 21 ≤ l
      · rw [if_pos c1]
      · rw [if_neg c1]
        by_cases c2 : pN Z 9 l = b
        · rw [if_pos c2, if_neg (hR l (by omega) c2)]; exact ih _ (by omega) (by omega)
        · rw [if_neg c2]; exact ih _ (by omega) (by omega)
  exact key _ _ (by omega) (by omega)
def f_Mod_slotFrom_2 (a : Nat) : Nat → (Nat → Nat → Int32) → (Nat) → Int32 × (Nat → Nat → Int32)
  | 0, Z, _ => (0, Z)
  | t + 1, Z, k => if ((Z 41) k) = 0 then (nI (k), u2 (u2 (u2 Z 41 k 1) 100 43 (((u2 Z 41 k 1) 100 43) + 1)) 100 42 (f_Mod_greater ((u2 (u2 Z 41 k 1) 100 43 (((u2 Z 41 k 1) 100 43) + 1)) 100 42) (nI (k + 1)))) else f_Mod_slotFrom_2 a t Z (k + 1)
set_option maxRecDepth 4000 in
theorem w_Mod_slotFrom_2 {g : GG} {Q : QT} {h : Hp} {kc ks : Nat} (hst : (gl g).stackTraces = false) {A : Nat → Nat} (hnd : (gK (moL g A)).Nodup) (a : Nat) {K : Nat}  (t : Nat) : ∀ (Z : Nat → Nat → Int32) (k : Nat) (hw : wfM Z) (hY : LyI Z K) (hK : K < 1000) (hk9 : k ≤ pN Z 100 42) (hlt : 1000 - k < t) (hk : Q (.inl (some (.int (f_Mod_slotFrom_2 a t Z k).1))) (ov h (gO (moL g A) ((f_Mod_slotFrom_2 a t Z k).2)))), PW g M_Mod_slotFrom 1 kc ks Q 2 [.ref (A 100), .int (nI (a)), .int (nI (k))] [] (ov h (gO (moL g A) Z)) := by
  induction t with
  | zero => intro Z k hw hY hK hk9 hlt _; exact absurd hlt (Nat.not_lt_zero _)
  | succ t ih =>
    intro Z k hw hY hK hk9 hlt hk
    have hy1 := hY.1.2
    have hz0 := hw.blk.2
    have hz1 := hw.lnk.2
    have hz2 := hw.dvs.2
    refine pw_aload_n e_Mod_slotFrom_2 rfl ?_
    refine pw_getf e_Mod_slotFrom_3 fl_Mod_102 (gO_get hnd (i := 0) rfl) rfl ?_
    refine pw_iload_n e_Mod_slotFrom_6 rfl ?_
    refine pw_zaldN e_Mod_slotFrom_7 (gO_get hnd (i := 27) rfl) (by omega) (by decide) ?_
    refine pw_if_eq (tgt := 17) e_Mod_slotFrom_8 (by decide) (fun (H1 : ((Z 41) k) = 0) => ?_) (fun (H1 : ¬ ((Z 41) k) = 0) => ?_)
    · refine pw_aload_n e_Mod_slotFrom_17 rfl ?_
      refine pw_getf e_Mod_slotFrom_18 fl_Mod_102 (gO_get hnd (i := 0) rfl) rfl ?_
      refine pw_iload_n e_Mod_slotFrom_21 rfl ?_
      refine pw_iconst (v := nI 1) e_Mod_slotFrom_22 (by decide) ?_
      refine pw_zastG (i := 27) e_Mod_slotFrom_23 hnd (mo_x _ _) rfl (by omega) (by decide) (by decide) ?_
      refine pw_aload_n e_Mod_slotFrom_24 rfl ?_
      refine pw_dup e_Mod_slotFrom_25 rfl ?_
      refine pw_getf e_Mod_slotFrom_26 fl_Mod_165 (gO_get hnd (i := 0) rfl) rfl ?_
      refine pw_iconst (v := nI 1) e_Mod_slotFrom_29 (by decide) ?_
      refine pw_iadd e_Mod_slotFrom_30 ?_
      refine pw_putGi (i := 0) (ps := 43) (x := ((u2 Z 41 k 1) 100 43) + 1) e_Mod_slotFrom_31 fp_Mod_165 hnd (mo_x _ _) rfl (Nat.le_of_ble_eq_true rfl) rfl rfl (fun _ _ => rfl) ?_
      refine pw_aload_n e_Mod_slotFrom_34 rfl ?_
      refine pw_aload_n e_Mod_slotFrom_35 rfl ?_
      refine pw_getf e_Mod_slotFrom_36 fl_Mod_168 (gO_get hnd (i := 0) rfl) rfl ?_
      refine pw_iload_n e_Mod_slotFrom_39 rfl ?_
      refine pw_iconst (v := nI 1) e_Mod_slotFrom_40 (by decide) ?_
      refine pw_iaddN e_Mod_slotFrom_41 ?_
      refine pw_detS (As := [.int ((u2 (u2 Z 41 k 1) 100 43 (((u2 Z 41 k 1) 100 43) + 1)) 100 42), .int (nI (k + 1))]) e_Mod_slotFrom_42 li_Mod_171 (q_Mod_greater hst ((u2 (u2 Z 41 k 1) 100 43 (((u2 Z 41 k 1) 100 43) + 1)) 100 42) (nI (k + 1))) rfl (by decide) (Nat.le_of_ble_eq_true rfl) rfl ?_
      refine pw_putGi (i := 0) (ps := 42) (x := f_Mod_greater ((u2 (u2 Z 41 k 1) 100 43 (((u2 Z 41 k 1) 100 43) + 1)) 100 42) (nI (k + 1))) e_Mod_slotFrom_45 fp_Mod_168 hnd (mo_x _ _) rfl (Nat.le_of_ble_eq_true rfl) rfl rfl (fun _ _ => rfl) ?_
      refine pw_iload_n e_Mod_slotFrom_48 rfl ?_
      refine pw_iret e_Mod_slotFrom_49 rfl rfl ?_
      rw [f_Mod_slotFrom_2, if_pos H1] at hk
      exact hk
    · refine pw_iincN (ls2 := [_, _, _]) e_Mod_slotFrom_11 rfl (by decide) rfl ?_
      refine pw_goto (tgt := 2) e_Mod_slotFrom_14 (by decide) ?_
      refine ih Z (k + 1) hw hY hK (by have := hY.2.1 k (by omega) H1; omega) (by omega) ?_
      rw [f_Mod_slotFrom_2, if_neg H1] at hk
      exact hk
def f_Mod_slotFrom (a : Nat) (Z : Nat → Nat → Int32) : Int32 × (Nat → Nat → Int32) :=
  f_Mod_slotFrom_2 a 1001 Z a
set_option maxRecDepth 4000 in
theorem w_Mod_slotFrom_0 {g : GG} {Q : QT} {h : Hp} {kc ks : Nat} (hst : (gl g).stackTraces = false) {A : Nat → Nat} (hnd : (gK (moL g A)).Nodup) (a : Nat) {K : Nat}  (Z : Nat → Nat → Int32) (hw : wfM Z) (hY : LyI Z K) (hK : K < 1000) (ha : a ≤ pN Z 100 42) (hk : Q (.inl (some (.int (f_Mod_slotFrom a Z).1))) (ov h (gO (moL g A) ((f_Mod_slotFrom a Z).2)))) : PW g M_Mod_slotFrom 1 kc ks Q 0 [.ref (A 100), .int (nI (a)), .retAddr 0] [] (ov h (gO (moL g A) Z)) := by
  have hy1 := hY.1.2
  have hz0 := hw.blk.2
  have hz1 := hw.lnk.2
  have hz2 := hw.dvs.2
  refine pw_iload_n e_Mod_slotFrom_0 rfl ?_
  refine pw_istore_n (ls2 := [_, _, _]) e_Mod_slotFrom_1 (by decide) rfl ?_
  refine w_Mod_slotFrom_2 hst hnd a 1001 Z a hw hY hK (by omega) (by omega) ?_
  rw [f_Mod_slotFrom] at hk
  exact hk
theorem q_Mod_slotFrom {g : GG} {h : Hp} (hst : (gl g).stackTraces = false) {A : Nat → Nat} (hnd : (gK (moL g A)).Nodup) (a : Nat) {K : Nat}  (Z : Nat → Nat → Int32) (hm : ∀ q ∈ gO (moL g A) Z, h q.1 = some q.2) (hw : wfM Z) (hY : LyI Z K) (hK : K < 1000) (ha : a ≤ pN Z 100 42) : PM g M_Mod_slotFrom 1 0 0 [.ref (A 100), .int (nI (a))] h (RetV (some (.int (f_Mod_slotFrom a Z).1)) (ov h (gO (moL g A) ((f_Mod_slotFrom a Z).2)))) := by
  refine PM.of hst (by decide) rfl (fun v hv => ?_) (Nat.le_of_ble_eq_true rfl) ?_
  · simp only [List.mem_cons, List.not_mem_nil, or_false] at hv; rcases hv with rfl | rfl <;> rfl
  · have hq := w_Mod_slotFrom_0 (g := g) (Q := RetV (some (.int (f_Mod_slotFrom a Z).1)) (ov h (gO (moL g A) ((f_Mod_slotFrom a Z).2)))) (h := h) (kc := 0) (ks := 0) hst hnd a Z hw hY hK ha ?_
    · rw [ov_self hm] at hq; exact hq
    · exact ⟨rfl, rfl⟩

theorem sf_keep {a : Nat} {Z : Nat → Nat → Int32} : (∀ k, k ≠ 41 → k ≠ 100 → (f_Mod_slotFrom a Z).2 k = Z k) ∧ ∀ i, i ≠ 42 → i ≠ 43 → (f_Mod_slotFrom a Z).2 100 i = Z 100 i := by
  have key : ∀ (t : Nat) (Z : Nat → Nat → Int32) (k : Nat), (∀ j, j ≠ 41 → j ≠ 100 → (f_Mod_slotFrom_2 a t Z k).2 j = Z j) ∧ ∀ i, i ≠ 42 → i ≠ 43 → (f_Mod_slotFrom_2 a t Z k).2 100 i = Z 100 i := by
    intro t
    induction t with
    | zero => intro Z k; exact ⟨fun _ _ _ => rfl, fun _ _ _ => rfl⟩
    | succ t ih =>
      intro Z k
      rw [f_Mod_slotFrom_2]
      split
      · exact ⟨fun j h0 h1 => by dsimp only; rw [u2_k h1, u2_k h1, u2_k h0], fun i h0 h1 => by dsimp only; rw [u2_i h0 rfl, u2_i h1 rfl, u2_k (by decide)]⟩
      · exact ih _ _
  exact key _ _ _
theorem z_slotFrom {a : Nat} {Z : Nat → Nat → Int32} (h : wfM Z) : wfM (f_Mod_slotFrom a Z).2 :=
  h.of (sf_keep.1 _ (by decide) (by decide)) (sf_keep.1 _ (by decide) (by decide)) (sf_keep.1 _ (by decide) (by decide)) (sf_keep.1 _ (by decide) (by decide)) (sf_keep.1 _ (by decide) (by decide)) (sf_keep.1 _ (by decide) (by decide)) (sf_keep.1 _ (by decide) (by decide)) (sf_keep.1 _ (by decide) (by decide)) (sf_keep.1 _ (by decide) (by decide)) (sf_keep.2 _ (by decide) (by decide)) (sf_keep.2 _ (by decide) (by decide)) (sf_keep.2 _ (by decide) (by decide))
theorem gr_nI {a b : Nat} (ha : a < 2 ^ 31) (hb : b < 2 ^ 31) : f_Mod_greater (nI a) (nI b) = nI (max a b) := by
  rw [f_Mod_greater]
  by_cases h : nI a ≤ nI b
  · have h2 := h
    rw [i_le, nI_toInt ha, nI_toInt hb] at h2
    rw [if_pos h]; congr 1; omega
  · have h2 := h
    rw [i_le, nI_toInt ha, nI_toInt hb] at h2
    rw [if_neg h]; congr 1; omega
/-- the first free slot from a on -/
def slN (Z : Nat → Nat → Int32) : Nat → Nat → Nat
  | 0, k => k
  | t + 1, k => if Z 41 k = 0 then k else slN Z t (k + 1)
theorem sl_of {a K : Nat} {Z : Nat → Nat → Int32} (hY : LyI Z K) (hK : K < 1000) (ha : a ≤ pN Z 100 42) : f_Mod_slotFrom a Z = (nI (slN Z 1001 a), u2 (u2 (u2 Z 41 (slN Z 1001 a) 1) 100 43 (Z 100 43 + 1)) 100 42 (nI (max (pN Z 100 42) (slN Z 1001 a + 1)))) ∧ a ≤ slN Z 1001 a ∧ slN Z 1001 a ≤ pN Z 100 42 ∧ Z 41 (slN Z 1001 a) = 0 ∧ ∀ j, a ≤ j → j < slN Z 1001 a → ¬ Z 41 j = 0 := by
  have hy := hY.1.2
  have key : ∀ (t k : Nat), k ≤ pN Z 100 42 → 1000 - k < t → f_Mod_slotFrom_2 a t Z k = (nI (slN Z t k), u2 (u2 (u2 Z 41 (slN Z t k) 1) 100 43 (Z 100 43 + 1)) 100 42 (nI (max (pN Z 100 42) (slN Z t k + 1)))) ∧ k ≤ slN Z t k ∧ slN Z t k ≤ pN Z 100 42 ∧ Z 41 (slN Z t k) = 0 ∧ ∀ j, k ≤ j → j < slN Z t k → ¬ Z 41 j = 0 := by
    intro t
    induction t with
    | zero => intro k _ h; omega
    | succ t ih =>
      intro k hk ht
      rw [f_Mod_slotFrom_2, slN]
      by_cases c : Z 41 k = 0
      · rw [if_pos c, if_pos c]
        refine ⟨?_, Nat.le_refl _, hk, c, fun j h1 h2 => by omega⟩
        have e : (u2 (u2 Z 41 k 1) 100 43 ((u2 Z 41 k 1) 100 43 + 1)) 100 42 = nI (pN Z 100 42) := u2_i (by decide) (u2_o (by decide) hY.1.1)
        have e2 : (u2 Z 41 k 1) 100 43 = Z 100 43 := u2_o (by decide) rfl
        rw [e, gr_nI (by omega) (by omega), e2]
      · rw [if_neg c, if_neg c]
        have hlt := hY.2.1 k (by omega) c
        obtain ⟨h1, h2, h3, h4, h5⟩ := ih (k + 1) (by omega) (by omega)
        refine ⟨h1, by omega, h3, h4, fun j h6 h7 => ?_⟩
        by_cases e : j = k
        · rw [e]; exact c
        · exact h5 j (by omega) h7
  have q := key 1001 a ha (by omega)
  rw [f_Mod_slotFrom]
  exact q
theorem ly_slot {a K : Nat} {Z : Nat → Nat → Int32} (hY : LyI Z K) (hK : K < 1000) (ha : a ≤ pN Z 100 42) : LyI (f_Mod_slotFrom a Z).2 (K + 1) ∧ pN (f_Mod_slotFrom a Z).2 100 42 = max (pN Z 100 42) (slN Z 1001 a + 1) := by
  obtain ⟨e, h1, h2, h3, h4⟩ := sl_of hY hK ha
  have hy := hY.1.2
  rw [e]
  dsimp only
  have e42 : ∀ (L : Nat → Nat → Int32) (m : Nat), m < 2 ^ 31 → pN (u2 L 100 42 (nI m)) 100 42 = m := fun L m hm => by unfold pN; rw [u2_s, nI_clamp hm]
  have em := e42 (u2 (u2 Z 41 (slN Z 1001 a) 1) 100 43 (Z 100 43 + 1)) (max (pN Z 100 42) (slN Z 1001 a + 1)) (by omega)
  refine ⟨?_, em⟩
  unfold LyI
  rw [em]
  refine ⟨⟨u2_s, by omega⟩, fun j hj0 hj => ?_, fun d hd0 => ?_, fun b hb0 hb => ?_⟩
  · rw [u2_k (by decide), u2_k (by decide)] at hj
    by_cases c : j = slN Z 1001 a
    · omega
    · have : (u2 Z 41 (slN Z 1001 a) 1) 41 j = Z 41 j := u2_i c rfl
      rw [this] at hj
      have := hY.2.1 j hj0 hj
      omega
  · have q := hY.2.2.1 d hd0
    unfold pN at q ⊢
    rw [u2_k (by decide), u2_k (by decide), u2_k (by decide)]
    exact ⟨q.1, by have := q.2; omega⟩
  · rw [u2_k (by decide), u2_k (by decide), u2_k (by decide)] at hb
    have q := hY.2.2.2 b hb0 hb
    unfold pN at q ⊢
    rw [u2_k (by decide), u2_k (by decide), u2_k (by decide)]
    exact ⟨q.1, by have := q.2; omega⟩
theorem rd_slot {a b : Nat} {Z : Nat → Nat → Int32} (h : RdI Z b) : RdI (f_Mod_slotFrom a Z).2 b := h.of (sf_keep.2 _ (by decide) (by decide)) (sf_keep.1 _ (by decide) (by decide)) (sf_keep.1 _ (by decide) (by decide)) (sf_keep.1 _ (by decide) (by decide))
theorem LyI.uk {Z : Nat → Nat → Int32} {K k i : Nat} {v : Int32} (h : LyI Z K) (hk : (41 ≠ k ∧ 39 ≠ k) ∧ (40 ≠ k ∧ 36 ≠ k) ∧ 100 ≠ k) : LyI (u2 Z k i v) K := h.of (u2_o hk.2.2 rfl) (u2_k hk.1.1) (u2_k hk.1.2) (u2_k hk.2.1.1) (u2_k hk.2.1.2)
theorem RdI.uk {Z : Nat → Nat → Int32} {b k i : Nat} {v : Int32} (h : RdI Z b) (hk : (9 ≠ k ∧ 40 ≠ k) ∧ 8 ≠ k ∧ 100 ≠ k) : RdI (u2 Z k i v) b := h.of (u2_o hk.2.2 rfl) (u2_k hk.1.1) (u2_k hk.1.2) (u2_k hk.2.1)
def f_Mod_takes_14 (b : Nat) : Nat → (Nat → Nat → Int32) → (Int32) → (Nat) → (Nat → Nat → Int32)
  | 0, Z, _, _ => Z
  | t + 1, Z, e, l => if (pN Z 100 21) ≤ l then u2 (u2 (u2 (u2 (u2 Z 35 b e) 36 b (e + (((u2 Z 35 b e) 2) b))) 39 (pN Z 1 b) (((u2 (u2 Z 35 b e) 36 b (e + (((u2 Z 35 b e) 2) b))) 36) b)) 100 42 (f_Mod_greater ((u2 (u2 (u2 Z 35 b e) 36 b (e + (((u2 Z 35 b e) 2) b))) 39 (pN Z 1 b) (((u2 (u2 Z 35 b e) 36 b (e + (((u2 Z 35 b e) 2) b))) 36) b)) 100 42) (((u2 (u2 (u2 Z 35 b e) 36 b (e + (((u2 Z 35 b e) 2) b))) 39 (pN Z 1 b) (((u2 (u2 Z 35 b e) 36 b (e + (((u2 Z 35 b e) 2) b))) 36) b)) 36) b))) 40 b 1 else if (pN Z 9 l) = b then if (f_Mod_isWithin Z l) = 0 then if (f_Mod_isWithin (u2 ((f_Mod_slotFrom (pN Z 36 (pN Z 8 l)) Z).2) 37 l ((f_Mod_slotFrom (pN Z 36 (pN Z 8 l)) Z).1)) l) = 0 then f_Mod_takes_14 b t (u2 ((f_Mod_slotFrom (pN Z 36 (pN Z 8 l)) Z).2) 37 l ((f_Mod_slotFrom (pN Z 36 (pN Z 8 l)) Z).1)) (f_Mod_greater e ((((u2 ((f_Mod_slotFrom (pN Z 36 (pN Z 8 l)) Z).2) 37 l ((f_Mod_slotFrom (pN Z 36 (pN Z 8 l)) Z).1)) 37) l) + 1)) (l + 1) else f_Mod_takes_14 b t (u2 ((f_Mod_slotFrom (pN Z 36 (pN Z 8 l)) Z).2) 37 l ((f_Mod_slotFrom (pN Z 36 (pN Z 8 l)) Z).1)) (f_Mod_greater e (((u2 ((f_Mod_slotFrom (pN Z 36 (pN Z 8 l)) Z).2) 37 l ((f_Mod_slotFrom (pN Z 36 (pN Z 8 l)) Z).1)) 36) (pN Z 8 l))) (l + 1) else if (f_Mod_isWithin (u2 Z 37 l ((-1))) l) = 0 then f_Mod_takes_14 b t (u2 Z 37 l ((-1))) (f_Mod_greater e ((((u2 Z 37 l ((-1))) 37) l) + 1)) (l + 1) else f_Mod_takes_14 b t (u2 Z 37 l ((-1))) (f_Mod_greater e (((u2 Z 37 l ((-1))) 36) (pN Z 8 l))) (l + 1) else f_Mod_takes_14 b t Z e (l + 1)
set_option maxRecDepth 4000 in
theorem w_Mod_takes_14 {g : GG} {Q : QT} {h : Hp} {kc ks : Nat} (hst : (gl g).stackTraces = false) {A : Nat → Nat} (hnd : (gK (moL g A)).Nodup) (b : Nat) (hb : b < 10) {K : Nat}  (t : Nat) : ∀ (Z : Nat → Nat → Int32) (e : Int32) (l : Nat) (hw : wfM Z) (hY : LyI Z (K + l)) (hR : RdI Z b) (hK : K + 12 < 1000) (hl9 : l ≤ 12) (hlt : 12 - l < t) (hk : Q (.inl none) (ov h (gO (moL g A) (f_Mod_takes_14 b t Z e l)))), PW g M_Mod_takes 2 kc ks Q 14 [.ref (A 100), .int (nI (b)), .int (e), .int (nI (l))] [] (ov h (gO (moL g A) Z)) := by
  induction t with
  | zero => intro Z e l hw hY hR hK hl9 hlt _; exact absurd hlt (Nat.not_lt_zero _)
  | succ t ih =>
    intro Z e l hw hY hR hK hl9 hlt hk
    have hz0 := hw.blk.2
    have hz1 := hw.lnk.2
    have hz2 := hw.dvs.2
    refine pw_iload_n e_Mod_takes_14 rfl ?_
    refine pw_aload_n e_Mod_takes_15 rfl ?_
    refine pw_getf e_Mod_takes_16 fl_Mod_162 (gO_get hnd (i := 0) rfl) rfl ?_
    rw [show Z 100 21 = nI (pN Z 100 21) from hw.lnk.1]
    refine pw_icmp_geN (tgt := 109) e_Mod_takes_19 (by decide) (by omega) (by omega) (fun (H1 : (pN Z 100 21) ≤ l) => ?_) (fun (H1 : l < (pN Z 100 21)) => ?_)
    · refine pw_aload_n e_Mod_takes_109 rfl ?_
      refine pw_getf e_Mod_takes_110 fl_Mod_83 (gO_get hnd (i := 0) rfl) rfl ?_
      refine pw_iload_n e_Mod_takes_113 rfl ?_
      refine pw_iload_n e_Mod_takes_114 rfl ?_
      refine pw_iastG (i := 21) e_Mod_takes_115 hnd (mo_x _ _) rfl (by omega) (by decide) ?_
      refine pw_aload_n e_Mod_takes_116 rfl ?_
      refine pw_getf e_Mod_takes_117 fl_Mod_86 (gO_get hnd (i := 0) rfl) rfl ?_
      refine pw_iload_n e_Mod_takes_120 rfl ?_
      refine pw_iload_n e_Mod_takes_121 rfl ?_
      refine pw_aload_n e_Mod_takes_122 rfl ?_
      refine pw_getf e_Mod_takes_123 fl_Mod_16 (gO_get hnd (i := 0) rfl) rfl ?_
      refine pw_iload_n e_Mod_takes_126 rfl ?_
      refine pw_ialdN e_Mod_takes_127 (gO_get hnd (i := 3) rfl) (by omega) (by decide) ?_
      refine pw_iadd e_Mod_takes_128 ?_
      refine pw_iastG (i := 22) e_Mod_takes_129 hnd (mo_x _ _) rfl (by omega) (by decide) ?_
      refine pw_aload_n e_Mod_takes_130 rfl ?_
      refine pw_getf e_Mod_takes_131 fl_Mod_95 (gO_get hnd (i := 0) rfl) rfl ?_
      refine pw_aload_n e_Mod_takes_134 rfl ?_
      refine pw_getf e_Mod_takes_135 fl_Mod_13 (gO_get hnd (i := 0) rfl) rfl ?_
      refine pw_iload_n e_Mod_takes_138 rfl ?_
      have hb2 := hw.dev b
      refine pw_ialdC e_Mod_takes_139 (gO_get hnd (i := 2) rfl) (by omega) (by decide) hb2.1 ?_
      replace hb2 := hb2.2
      refine pw_aload_n e_Mod_takes_140 rfl ?_
      refine pw_getf e_Mod_takes_141 fl_Mod_86 (gO_get hnd (i := 0) rfl) rfl ?_
      refine pw_iload_n e_Mod_takes_144 rfl ?_
      refine pw_ialdN e_Mod_takes_145 (gO_get hnd (i := 22) rfl) (by omega) (by decide) ?_
      refine pw_iastG (i := 25) e_Mod_takes_146 hnd (mo_x _ _) rfl (by omega) (by decide) ?_
      refine pw_aload_n e_Mod_takes_147 rfl ?_
      refine pw_aload_n e_Mod_takes_148 rfl ?_
      refine pw_getf e_Mod_takes_149 fl_Mod_168 (gO_get hnd (i := 0) rfl) rfl ?_
      refine pw_aload_n e_Mod_takes_152 rfl ?_
      refine pw_getf e_Mod_takes_153 fl_Mod_86 (gO_get hnd (i := 0) rfl) rfl ?_
      refine pw_iload_n e_Mod_takes_156 rfl ?_
      refine pw_ialdN e_Mod_takes_157 (gO_get hnd (i := 22) rfl) (by omega) (by decide) ?_
      refine pw_detS (As := [.int ((u2 (u2 (u2 Z 35 b e) 36 b (e + (((u2 Z 35 b e) 2) b))) 39 (pN Z 1 b) (((u2 (u2 Z 35 b e) 36 b (e + (((u2 Z 35 b e) 2) b))) 36) b)) 100 42), .int (((u2 (u2 (u2 Z 35 b e) 36 b (e + (((u2 Z 35 b e) 2) b))) 39 (pN Z 1 b) (((u2 (u2 Z 35 b e) 36 b (e + (((u2 Z 35 b e) 2) b))) 36) b)) 36) b)]) e_Mod_takes_158 li_Mod_171 (q_Mod_greater hst ((u2 (u2 (u2 Z 35 b e) 36 b (e + (((u2 Z 35 b e) 2) b))) 39 (pN Z 1 b) (((u2 (u2 Z 35 b e) 36 b (e + (((u2 Z 35 b e) 2) b))) 36) b)) 100 42) (((u2 (u2 (u2 Z 35 b e) 36 b (e + (((u2 Z 35 b e) 2) b))) 39 (pN Z 1 b) (((u2 (u2 Z 35 b e) 36 b (e + (((u2 Z 35 b e) 2) b))) 36) b)) 36) b)) rfl (by decide) (Nat.le_of_ble_eq_true rfl) rfl ?_
      refine pw_putGi (i := 0) (ps := 42) (x := f_Mod_greater ((u2 (u2 (u2 Z 35 b e) 36 b (e + (((u2 Z 35 b e) 2) b))) 39 (pN Z 1 b) (((u2 (u2 Z 35 b e) 36 b (e + (((u2 Z 35 b e) 2) b))) 36) b)) 100 42) (((u2 (u2 (u2 Z 35 b e) 36 b (e + (((u2 Z 35 b e) 2) b))) 39 (pN Z 1 b) (((u2 (u2 Z 35 b e) 36 b (e + (((u2 Z 35 b e) 2) b))) 36) b)) 36) b)) e_Mod_takes_161 fp_Mod_168 hnd (mo_x _ _) rfl (Nat.le_of_ble_eq_true rfl) rfl rfl (fun _ _ => rfl) ?_
      refine pw_aload_n e_Mod_takes_164 rfl ?_
      refine pw_getf e_Mod_takes_165 fl_Mod_98 (gO_get hnd (i := 0) rfl) rfl ?_
      refine pw_iload_n e_Mod_takes_168 rfl ?_
      refine pw_iconst (v := nI 1) e_Mod_takes_169 (by decide) ?_
      refine pw_zastG (i := 26) e_Mod_takes_170 hnd (mo_x _ _) rfl (by omega) (by decide) (by decide) ?_
      refine pw_vret e_Mod_takes_171 rfl ?_
      rw [f_Mod_takes_14, if_pos H1] at hk
      exact hk
    · refine pw_aload_n e_Mod_takes_22 rfl ?_
      refine pw_getf e_Mod_takes_23 fl_Mod_37 (gO_get hnd (i := 0) rfl) rfl ?_
      refine pw_iload_n e_Mod_takes_26 rfl ?_
      have hb3 := hw.to l
      refine pw_ialdC e_Mod_takes_27 (gO_get hnd (i := 10) rfl) (by omega) (by decide) hb3.1 ?_
      replace hb3 := hb3.2
      refine pw_iload_n e_Mod_takes_28 rfl ?_
      refine pw_icmp_eqN (tgt := 35) e_Mod_takes_29 (by decide) (by omega) (by omega) (fun (H4 : (pN Z 9 l) = b) => ?_) (fun (H4 : ¬ (pN Z 9 l) = b) => ?_)
      · refine pw_aload_n e_Mod_takes_35 rfl ?_
        refine pw_getf e_Mod_takes_36 fl_Mod_89 (gO_get hnd (i := 0) rfl) rfl ?_
        refine pw_iload_n e_Mod_takes_39 rfl ?_
        refine pw_aload_n e_Mod_takes_40 rfl ?_
        refine pw_iload_n e_Mod_takes_41 rfl ?_
        refine pw_detV (As := [.int (nI (l))]) e_Mod_takes_42 li_Mod_175 rfl (gO_get hnd (i := 0) rfl) (q_Mod_isWithin hst (mo_pl hnd) hw l (by omega)) rfl (by decide) (Nat.le_of_ble_eq_true rfl) rfl ?_
        refine pw_if_eq (tgt := 52) e_Mod_takes_45 (by decide) (fun (H5 : (f_Mod_isWithin Z l) = 0) => ?_) (fun (H5 : ¬ (f_Mod_isWithin Z l) = 0) => ?_)
        · refine pw_aload_n e_Mod_takes_52 rfl ?_
          refine pw_aload_n e_Mod_takes_53 rfl ?_
          refine pw_getf e_Mod_takes_54 fl_Mod_86 (gO_get hnd (i := 0) rfl) rfl ?_
          refine pw_aload_n e_Mod_takes_57 rfl ?_
          refine pw_getf e_Mod_takes_58 fl_Mod_34 (gO_get hnd (i := 0) rfl) rfl ?_
          refine pw_iload_n e_Mod_takes_61 rfl ?_
          have hb6 := hw.frm l
          refine pw_ialdC e_Mod_takes_62 (gO_get hnd (i := 9) rfl) (by omega) (by decide) hb6.1 ?_
          replace hb6 := hb6.2
          have hb7 := ly_en hw hY (by omega) hR (by omega) H4
          refine pw_ialdC e_Mod_takes_63 (gO_get hnd (i := 22) rfl) (by omega) (by decide) hb7.1 ?_
          replace hb7 := hb7.2
          refine pw_detV (As := [.int (nI (pN Z 36 (pN Z 8 l)))]) e_Mod_takes_64 li_Mod_179 rfl (gO_get hnd (i := 0) rfl) (q_Mod_slotFrom hst hnd (pN Z 36 (pN Z 8 l)) Z (gO_in hnd (fun _ z => z)) hw hY (by omega) (by omega)) rfl (by decide) (Nat.le_of_ble_eq_true rfl) rfl ?_
          refine pw_sameG hnd ?_
          refine pw_iastG (i := 23) e_Mod_takes_67 hnd (mo_x _ _) rfl (by omega) (by decide) ?_
          refine pw_iload_n e_Mod_takes_68 rfl ?_
          refine pw_aload_n e_Mod_takes_69 rfl ?_
          refine pw_iload_n e_Mod_takes_70 rfl ?_
          refine pw_detV (As := [.int (nI (l))]) e_Mod_takes_71 li_Mod_175 rfl (gO_get hnd (i := 0) rfl) (q_Mod_isWithin hst (mo_pl hnd) (wfM.uk (k := 37) (z_slotFrom hw) (by decide)) l (by omega)) rfl (by decide) (Nat.le_of_ble_eq_true rfl) rfl ?_
          refine pw_if_eq (tgt := 91) e_Mod_takes_74 (by decide) (fun (H8 : (f_Mod_isWithin (u2 ((f_Mod_slotFrom (pN Z 36 (pN Z 8 l)) Z).2) 37 l ((f_Mod_slotFrom (pN Z 36 (pN Z 8 l)) Z).1)) l) = 0) => ?_) (fun (H8 : ¬ (f_Mod_isWithin (u2 ((f_Mod_slotFrom (pN Z 36 (pN Z 8 l)) Z).2) 37 l ((f_Mod_slotFrom (pN Z 36 (pN Z 8 l)) Z).1)) l) = 0) => ?_)
          · refine pw_aload_n e_Mod_takes_91 rfl ?_
            refine pw_getf e_Mod_takes_92 fl_Mod_89 (gO_get hnd (i := 0) rfl) rfl ?_
            refine pw_iload_n e_Mod_takes_95 rfl ?_
            refine pw_ialdN e_Mod_takes_96 (gO_get hnd (i := 23) rfl) (by omega) (by decide) ?_
            refine pw_iconst (v := nI 1) e_Mod_takes_97 (by decide) ?_
            refine pw_iadd e_Mod_takes_98 ?_
            refine pw_detS (As := [.int (e), .int ((((u2 ((f_Mod_slotFrom (pN Z 36 (pN Z 8 l)) Z).2) 37 l ((f_Mod_slotFrom (pN Z 36 (pN Z 8 l)) Z).1)) 37) l) + 1)]) e_Mod_takes_99 li_Mod_171 (q_Mod_greater hst e ((((u2 ((f_Mod_slotFrom (pN Z 36 (pN Z 8 l)) Z).2) 37 l ((f_Mod_slotFrom (pN Z 36 (pN Z 8 l)) Z).1)) 37) l) + 1)) rfl (by decide) (Nat.le_of_ble_eq_true rfl) rfl ?_
            refine pw_istore_n (ls2 := [_, _, _, _]) e_Mod_takes_102 (by decide) rfl ?_
            refine pw_iincN (ls2 := [_, _, _, _]) e_Mod_takes_103 rfl (by decide) rfl ?_
            refine pw_goto (tgt := 14) e_Mod_takes_106 (by decide) ?_
            refine ih (u2 ((f_Mod_slotFrom (pN Z 36 (pN Z 8 l)) Z).2) 37 l ((f_Mod_slotFrom (pN Z 36 (pN Z 8 l)) Z).1)) (f_Mod_greater e ((((u2 ((f_Mod_slotFrom (pN Z 36 (pN Z 8 l)) Z).2) 37 l ((f_Mod_slotFrom (pN Z 36 (pN Z 8 l)) Z).1)) 37) l) + 1)) (l + 1) (wfM.uk (k := 37) (z_slotFrom hw) (by decide)) (by first | exact hY.mono (by omega) | (refine LyI.uk ?_ (by decide); first | exact hY.mono (by omega) | exact (ly_slot hY (by omega) (by omega)).1.mono (by omega))) (by first | exact hR | (refine RdI.uk ?_ (by decide); first | exact hR | exact rd_slot hR)) hK (by omega) (by omega) ?_
            rw [f_Mod_takes_14, if_neg (Nat.not_le.mpr H1), if_pos H4, if_pos H5, if_pos H8] at hk
            exact hk
          · refine pw_aload_n e_Mod_takes_77 rfl ?_
            refine pw_getf e_Mod_takes_78 fl_Mod_86 (gO_get hnd (i := 0) rfl) rfl ?_
            refine pw_aload_n e_Mod_takes_81 rfl ?_
            refine pw_getf e_Mod_takes_82 fl_Mod_34 (gO_get hnd (i := 0) rfl) rfl ?_
            refine pw_iload_n e_Mod_takes_85 rfl ?_
            have hb9 := (show (u2 ((f_Mod_slotFrom (pN Z 36 (pN Z 8 l)) Z).2) 37 l ((f_Mod_slotFrom (pN Z 36 (pN Z 8 l)) Z).1)) 8 l = nI (pN Z 8 l) ∧ pN Z 8 l < 10 from by first | exact hw.frm l | (rw [u2_k (by decide), sf_keep.1 _ (by decide) (by decide)]; exact hw.frm l))
            refine pw_ialdC e_Mod_takes_86 (gO_get hnd (i := 9) rfl) (by omega) (by decide) hb9.1 ?_
            replace hb9 := hb9.2
            refine pw_ialdN e_Mod_takes_87 (gO_get hnd (i := 22) rfl) (by omega) (by decide) ?_
            refine pw_goto (tgt := 99) e_Mod_takes_88 (by decide) ?_
            refine pw_detS (As := [.int (e), .int (((u2 ((f_Mod_slotFrom (pN Z 36 (pN Z 8 l)) Z).2) 37 l ((f_Mod_slotFrom (pN Z 36 (pN Z 8 l)) Z).1)) 36) (pN Z 8 l))]) e_Mod_takes_99 li_Mod_171 (q_Mod_greater hst e (((u2 ((f_Mod_slotFrom (pN Z 36 (pN Z 8 l)) Z).2) 37 l ((f_Mod_slotFrom (pN Z 36 (pN Z 8 l)) Z).1)) 36) (pN Z 8 l))) rfl (by decide) (Nat.le_of_ble_eq_true rfl) rfl ?_
            refine pw_istore_n (ls2 := [_, _, _, _]) e_Mod_takes_102 (by decide) rfl ?_
            refine pw_iincN (ls2 := [_, _, _, _]) e_Mod_takes_103 rfl (by decide) rfl ?_
            refine pw_goto (tgt := 14) e_Mod_takes_106 (by decide) ?_
            refine ih (u2 ((f_Mod_slotFrom (pN Z 36 (pN Z 8 l)) Z).2) 37 l ((f_Mod_slotFrom (pN Z 36 (pN Z 8 l)) Z).1)) (f_Mod_greater e (((u2 ((f_Mod_slotFrom (pN Z 36 (pN Z 8 l)) Z).2) 37 l ((f_Mod_slotFrom (pN Z 36 (pN Z 8 l)) Z).1)) 36) (pN Z 8 l))) (l + 1) (wfM.uk (k := 37) (z_slotFrom hw) (by decide)) (by first | exact hY.mono (by omega) | (refine LyI.uk ?_ (by decide); first | exact hY.mono (by omega) | exact (ly_slot hY (by omega) (by omega)).1.mono (by omega))) (by first | exact hR | (refine RdI.uk ?_ (by decide); first | exact hR | exact rd_slot hR)) hK (by omega) (by omega) ?_
            rw [f_Mod_takes_14, if_neg (Nat.not_le.mpr H1), if_pos H4, if_pos H5, if_neg H8] at hk
            exact hk
        · refine pw_iconst (v := (-1)) e_Mod_takes_48 (by decide) ?_
          refine pw_goto (tgt := 67) e_Mod_takes_49 (by decide) ?_
          refine pw_iastG (i := 23) e_Mod_takes_67 hnd (mo_x _ _) rfl (by omega) (by decide) ?_
          refine pw_iload_n e_Mod_takes_68 rfl ?_
          refine pw_aload_n e_Mod_takes_69 rfl ?_
          refine pw_iload_n e_Mod_takes_70 rfl ?_
          refine pw_detV (As := [.int (nI (l))]) e_Mod_takes_71 li_Mod_175 rfl (gO_get hnd (i := 0) rfl) (q_Mod_isWithin hst (mo_pl hnd) (wfM.uk (k := 37) hw (by decide)) l (by omega)) rfl (by decide) (Nat.le_of_ble_eq_true rfl) rfl ?_
          refine pw_if_eq (tgt := 91) e_Mod_takes_74 (by decide) (fun (H10 : (f_Mod_isWithin (u2 Z 37 l ((-1))) l) = 0) => ?_) (fun (H10 : ¬ (f_Mod_isWithin (u2 Z 37 l ((-1))) l) = 0) => ?_)
          · refine pw_aload_n e_Mod_takes_91 rfl ?_
            refine pw_getf e_Mod_takes_92 fl_Mod_89 (gO_get hnd (i := 0) rfl) rfl ?_
            refine pw_iload_n e_Mod_takes_95 rfl ?_
            refine pw_ialdN e_Mod_takes_96 (gO_get hnd (i := 23) rfl) (by omega) (by decide) ?_
            refine pw_iconst (v := nI 1) e_Mod_takes_97 (by decide) ?_
            refine pw_iadd e_Mod_takes_98 ?_
            refine pw_detS (As := [.int (e), .int ((((u2 Z 37 l ((-1))) 37) l) + 1)]) e_Mod_takes_99 li_Mod_171 (q_Mod_greater hst e ((((u2 Z 37 l ((-1))) 37) l) + 1)) rfl (by decide) (Nat.le_of_ble_eq_true rfl) rfl ?_
            refine pw_istore_n (ls2 := [_, _, _, _]) e_Mod_takes_102 (by decide) rfl ?_
            refine pw_iincN (ls2 := [_, _, _, _]) e_Mod_takes_103 rfl (by decide) rfl ?_
            refine pw_goto (tgt := 14) e_Mod_takes_106 (by decide) ?_
            refine ih (u2 Z 37 l ((-1))) (f_Mod_greater e ((((u2 Z 37 l ((-1))) 37) l) + 1)) (l + 1) (wfM.uk (k := 37) hw (by decide)) (by first | exact hY.mono (by omega) | (refine LyI.uk ?_ (by decide); first | exact hY.mono (by omega) | exact (ly_slot hY (by omega) (by omega)).1.mono (by omega))) (by first | exact hR | (refine RdI.uk ?_ (by decide); first | exact hR | exact rd_slot hR)) hK (by omega) (by omega) ?_
            rw [f_Mod_takes_14, if_neg (Nat.not_le.mpr H1), if_pos H4, if_neg H5, if_pos H10] at hk
            exact hk
          · refine pw_aload_n e_Mod_takes_77 rfl ?_
            refine pw_getf e_Mod_takes_78 fl_Mod_86 (gO_get hnd (i := 0) rfl) rfl ?_
            refine pw_aload_n e_Mod_takes_81 rfl ?_
            refine pw_getf e_Mod_takes_82 fl_Mod_34 (gO_get hnd (i := 0) rfl) rfl ?_
            refine pw_iload_n e_Mod_takes_85 rfl ?_
            have hb11 := (show (u2 Z 37 l ((-1))) 8 l = nI (pN Z 8 l) ∧ pN Z 8 l < 10 from by first | exact hw.frm l | (rw [u2_k (by decide), sf_keep.1 _ (by decide) (by decide)]; exact hw.frm l))
            refine pw_ialdC e_Mod_takes_86 (gO_get hnd (i := 9) rfl) (by omega) (by decide) hb11.1 ?_
            replace hb11 := hb11.2
            refine pw_ialdN e_Mod_takes_87 (gO_get hnd (i := 22) rfl) (by omega) (by decide) ?_
            refine pw_goto (tgt := 99) e_Mod_takes_88 (by decide) ?_
            refine pw_detS (As := [.int (e), .int (((u2 Z 37 l ((-1))) 36) (pN Z 8 l))]) e_Mod_takes_99 li_Mod_171 (q_Mod_greater hst e (((u2 Z 37 l ((-1))) 36) (pN Z 8 l))) rfl (by decide) (Nat.le_of_ble_eq_true rfl) rfl ?_
            refine pw_istore_n (ls2 := [_, _, _, _]) e_Mod_takes_102 (by decide) rfl ?_
            refine pw_iincN (ls2 := [_, _, _, _]) e_Mod_takes_103 rfl (by decide) rfl ?_
            refine pw_goto (tgt := 14) e_Mod_takes_106 (by decide) ?_
            refine ih (u2 Z 37 l ((-1))) (f_Mod_greater e (((u2 Z 37 l ((-1))) 36) (pN Z 8 l))) (l + 1) (wfM.uk (k := 37) hw (by decide)) (by first | exact hY.mono (by omega) | (refine LyI.uk ?_ (by decide); first | exact hY.mono (by omega) | exact (ly_slot hY (by omega) (by omega)).1.mono (by omega))) (by first | exact hR | (refine RdI.uk ?_ (by decide); first | exact hR | exact rd_slot hR)) hK (by omega) (by omega) ?_
            rw [f_Mod_takes_14, if_neg (Nat.not_le.mpr H1), if_pos H4, if_neg H5, if_neg H10] at hk
            exact hk
      · refine pw_goto (tgt := 103) e_Mod_takes_32 (by decide) ?_
        refine pw_iincN (ls2 := [_, _, _, _]) e_Mod_takes_103 rfl (by decide) rfl ?_
        refine pw_goto (tgt := 14) e_Mod_takes_106 (by decide) ?_
        refine ih Z e (l + 1) hw (by first | exact hY.mono (by omega) | (refine LyI.uk ?_ (by decide); first | exact hY.mono (by omega) | exact (ly_slot hY (by omega) (by omega)).1.mono (by omega))) (by first | exact hR | (refine RdI.uk ?_ (by decide); first | exact hR | exact rd_slot hR)) hK (by omega) (by omega) ?_
        rw [f_Mod_takes_14, if_neg (Nat.not_le.mpr H1), if_neg H4] at hk
        exact hk
def f_Mod_takes (b : Nat) (Z : Nat → Nat → Int32) : (Nat → Nat → Int32) :=
  f_Mod_takes_14 b 13 Z ((Z 39) (pN Z 1 b)) 0
set_option maxRecDepth 4000 in
theorem w_Mod_takes_0 {g : GG} {Q : QT} {h : Hp} {kc ks : Nat} (hst : (gl g).stackTraces = false) {A : Nat → Nat} (hnd : (gK (moL g A)).Nodup) (b : Nat) (hb : b < 10) {K : Nat}  (Z : Nat → Nat → Int32) (hw : wfM Z) (hY : LyI Z K) (hR : RdI Z b) (hK : K + 12 < 1000) (hk : Q (.inl none) (ov h (gO (moL g A) (f_Mod_takes b Z)))) : PW g M_Mod_takes 2 kc ks Q 0 [.ref (A 100), .int (nI (b)), .retAddr 0, .retAddr 0] [] (ov h (gO (moL g A) Z)) := by
  have hz0 := hw.blk.2
  have hz1 := hw.lnk.2
  have hz2 := hw.dvs.2
  refine pw_aload_n e_Mod_takes_0 rfl ?_
  refine pw_getf e_Mod_takes_1 fl_Mod_95 (gO_get hnd (i := 0) rfl) rfl ?_
  refine pw_aload_n e_Mod_takes_4 rfl ?_
  refine pw_getf e_Mod_takes_5 fl_Mod_13 (gO_get hnd (i := 0) rfl) rfl ?_
  refine pw_iload_n e_Mod_takes_8 rfl ?_
  have hb1 := hw.dev b
  refine pw_ialdC e_Mod_takes_9 (gO_get hnd (i := 2) rfl) (by omega) (by decide) hb1.1 ?_
  replace hb1 := hb1.2
  refine pw_ialdN e_Mod_takes_10 (gO_get hnd (i := 25) rfl) (by omega) (by decide) ?_
  refine pw_istore_n (ls2 := [_, _, _, _]) e_Mod_takes_11 (by decide) rfl ?_
  refine pw_iconst (v := nI 0) e_Mod_takes_12 (by decide) ?_
  refine pw_istore_n (ls2 := [_, _, _, _]) e_Mod_takes_13 (by decide) rfl ?_
  refine w_Mod_takes_14 hst hnd b hb 13 Z ((Z 39) (pN Z 1 b)) 0 hw (hY.mono (by omega)) hR hK (by omega) (by omega) ?_
  rw [f_Mod_takes] at hk
  exact hk
theorem q_Mod_takes {g : GG} {h : Hp} (hst : (gl g).stackTraces = false) {A : Nat → Nat} (hnd : (gK (moL g A)).Nodup) (b : Nat) (hb : b < 10) {K : Nat}  (Z : Nat → Nat → Int32) (hm : ∀ q ∈ gO (moL g A) Z, h q.1 = some q.2) (hw : wfM Z) (hY : LyI Z K) (hR : RdI Z b) (hK : K + 12 < 1000) : PM g M_Mod_takes 2 0 0 [.ref (A 100), .int (nI (b))] h (RetV none (ov h (gO (moL g A) (f_Mod_takes b Z)))) := by
  refine PM.of hst (by decide) rfl (fun v hv => ?_) (Nat.le_of_ble_eq_true rfl) ?_
  · simp only [List.mem_cons, List.not_mem_nil, or_false] at hv; rcases hv with rfl | rfl <;> rfl
  · have hq := w_Mod_takes_0 (g := g) (Q := RetV none (ov h (gO (moL g A) (f_Mod_takes b Z)))) (h := h) (kc := 0) (ks := 0) hst hnd b hb Z hw hY hR hK ?_
    · rw [ov_self hm] at hq; exact hq
    · exact ⟨rfl, rfl⟩

theorem iw_of {Z Q : Nat → Nat → Int32} {l : Nat} (e1 : Q 1 = Z 1) (e8 : Q 8 = Z 8) (e9 : Q 9 = Z 9) : f_Mod_isWithin Q l = f_Mod_isWithin Z l := by
  unfold f_Mod_isWithin pN
  rw [e1, e8, e9]
/-- keys that a block's taking leaves as they were -/
def tkK (k : Nat) : Prop := k ≠ 35 ∧ k ≠ 36 ∧ k ≠ 37 ∧ k ≠ 39 ∧ k ≠ 40 ∧ k ≠ 41 ∧ k ≠ 100
theorem tk_keep {b : Nat} : ∀ (t : Nat) (Z : Nat → Nat → Int32) (e : Int32) (l : Nat), (∀ k, tkK k → f_Mod_takes_14 b t Z e l k = Z k) ∧ (∀ i, i ≠ 42 → i ≠ 43 → f_Mod_takes_14 b t Z e l 100 i = Z 100 i) := by
  intro t
  induction t with
  | zero => intro Z e l; exact ⟨fun _ _ => rfl, fun _ _ _ => rfl⟩
  | succ t ih =>
    intro Z e l
    rw [f_Mod_takes_14]
    repeat' split
    · refine ⟨fun k hk => ?_, fun i h0 h1 => ?_⟩
      · obtain ⟨h35, h36, h37, h39, h40, h41, h100⟩ := hk
        rw [u2_k h40, u2_k h100, u2_k h39, u2_k h36, u2_k h35]
      · rw [u2_k (by decide), u2_i h0 rfl, u2_k (by decide), u2_k (by decide), u2_k (by decide)]
    all_goals refine ⟨fun k hk => ?_, fun i h0 h1 => ?_⟩
    all_goals first | rw [(ih _ _ _).1 k hk] | rw [(ih _ _ _).2 i h0 h1]
    all_goals try rw [u2_k (by first | exact hk.2.2.1 | decide)]
    all_goals first | rw [sf_keep.1 k hk.2.2.2.2.2.1 hk.2.2.2.2.2.2] | rw [sf_keep.2 i h0 h1] | rfl
theorem z_takes {b : Nat} {Z : Nat → Nat → Int32} (h : wfM Z) : wfM (f_Mod_takes b Z) := by
  have q := tk_keep (b := b) 13 Z (Z 39 (pN Z 1 b)) 0
  rw [f_Mod_takes]
  exact h.of (q.1 _ (by unfold tkK; decide)) (q.1 _ (by unfold tkK; decide)) (q.1 _ (by unfold tkK; decide)) (q.1 _ (by unfold tkK; decide)) (q.1 _ (by unfold tkK; decide)) (q.1 _ (by unfold tkK; decide)) (q.1 _ (by unfold tkK; decide)) (q.1 _ (by unfold tkK; decide)) (q.1 _ (by unfold tkK; decide)) (q.2 _ (by decide) (by decide)) (q.2 _ (by decide) (by decide)) (q.2 _ (by decide) (by decide))
theorem pN_mk {Z : Nat → Nat → Int32} {k i n : Nat} (hn : n < 2 ^ 31) (h : Z k i = nI n) : pN Z k i = n := by
  unfold pN; rw [h, nI_clamp hn]
theorem pN_o {Z Q : Nat → Nat → Int32} {k i : Nat} (h : Q k i = Z k i) : pN Q k i = pN Z k i := by unfold pN; rw [h]
/-- what a block's taking does to the layout -/
theorem tk_ly {b K : Nat} (hb : b < 10) (hK : K + 12 < 1000) : ∀ (t : Nat) (Z : Nat → Nat → Int32) (m l : Nat), wfM Z → isN Z 2 60 → LyI Z (K + l) → RdI Z b → l ≤ 12 → 12 - l < t → m ≤ pN Z 100 42 → LyI (f_Mod_takes_14 b t Z (nI m) l) (K + 72) ∧ f_Mod_takes_14 b t Z (nI m) l 40 = upd (Z 40) b 1 := by
  intro t
  induction t with
  | zero => intro Z m l _ _ _ _ _ h; omega
  | succ t ih =>
    intro Z m l hw hT hY hR hl ht hm
    have hz1 := hw.lnk.2
    have hy := hY.1.2
    rw [f_Mod_takes_14]
    by_cases c1 : pN Z 100 21 ≤ l
    · rw [if_pos c1]
      have hd := (hw.dev b).2
      have htm := hT b
      have e1 : (u2 Z 35 b (nI m)) 2 b = nI (pN Z 2 b) := u2_o (by decide) htm.1
      rw [e1, nI_add]
      have e2 : (u2 (u2 Z 35 b (nI m)) 36 b (nI (m + pN Z 2 b))) 36 b = nI (m + pN Z 2 b) := u2_s
      rw [e2]
      have e3 : (u2 (u2 (u2 Z 35 b (nI m)) 36 b (nI (m + pN Z 2 b))) 39 (pN Z 1 b) (nI (m + pN Z 2 b))) 36 b = nI (m + pN Z 2 b) := u2_o (by decide) u2_s
      have e4 : (u2 (u2 (u2 Z 35 b (nI m)) 36 b (nI (m + pN Z 2 b))) 39 (pN Z 1 b) (nI (m + pN Z 2 b))) 100 42 = nI (pN Z 100 42) := u2_o (by decide) (u2_o (by decide) (u2_o (by decide) hY.1.1))
      rw [e3, e4, gr_nI (by omega) (by omega)]
      refine ⟨?_, ?_⟩
      · have em : pN (u2 (u2 (u2 (u2 (u2 Z 35 b (nI m)) 36 b (nI (m + pN Z 2 b))) 39 (pN Z 1 b) (nI (m + pN Z 2 b))) 100 42 (nI (max (pN Z 100 42) (m + pN Z 2 b)))) 40 b 1) 100 42 = max (pN Z 100 42) (m + pN Z 2 b) := pN_mk (by omega) (u2_o (by decide) u2_s)
        unfold LyI
        rw [em]
        refine ⟨⟨u2_o (by decide) u2_s, by omega⟩, fun j hj0 hj => ?_, fun d hd0 => ?_, fun k hk0 hk => ?_⟩
        · rw [u2_k (by decide), u2_k (by decide), u2_k (by decide), u2_k (by decide), u2_k (by decide)] at hj
          have := hY.2.1 j hj0 hj
          omega
        · by_cases c : d = pN Z 1 b
          · have e : (u2 (u2 (u2 (u2 (u2 Z 35 b (nI m)) 36 b (nI (m + pN Z 2 b))) 39 (pN Z 1 b) (nI (m + pN Z 2 b))) 100 42 (nI (max (pN Z 100 42) (m + pN Z 2 b)))) 40 b 1) 39 d = nI (m + pN Z 2 b) := by rw [u2_k (by decide), u2_k (by decide), c]; exact u2_s
            rw [pN_mk (by omega) e]
            exact ⟨e, by omega⟩
          · have e : (u2 (u2 (u2 (u2 (u2 Z 35 b (nI m)) 36 b (nI (m + pN Z 2 b))) 39 (pN Z 1 b) (nI (m + pN Z 2 b))) 100 42 (nI (max (pN Z 100 42) (m + pN Z 2 b)))) 40 b 1) 39 d = Z 39 d := by rw [u2_k (by decide), u2_k (by decide), u2_i c rfl, u2_k (by decide), u2_k (by decide)]
            have q := hY.2.2.1 d hd0
            rw [pN_o e, e]
            exact ⟨q.1, by omega⟩
        · by_cases c : k = b
          · have e : (u2 (u2 (u2 (u2 (u2 Z 35 b (nI m)) 36 b (nI (m + pN Z 2 b))) 39 (pN Z 1 b) (nI (m + pN Z 2 b))) 100 42 (nI (max (pN Z 100 42) (m + pN Z 2 b)))) 40 b 1) 36 k = nI (m + pN Z 2 b) := by rw [u2_k (by decide), u2_k (by decide), u2_k (by decide), c]; exact u2_s
            rw [pN_mk (by omega) e]
            exact ⟨e, by omega⟩
          · have e : (u2 (u2 (u2 (u2 (u2 Z 35 b (nI m)) 36 b (nI (m + pN Z 2 b))) 39 (pN Z 1 b) (nI (m + pN Z 2 b))) 100 42 (nI (max (pN Z 100 42) (m + pN Z 2 b)))) 40 b 1) 36 k = Z 36 k := by rw [u2_k (by decide), u2_k (by decide), u2_k (by decide), u2_i c rfl, u2_k (by decide)]
            have e0 : (u2 (u2 (u2 (u2 (u2 Z 35 b (nI m)) 36 b (nI (m + pN Z 2 b))) 39 (pN Z 1 b) (nI (m + pN Z 2 b))) 100 42 (nI (max (pN Z 100 42) (m + pN Z 2 b)))) 40 b 1) 40 k = Z 40 k := by rw [u2_i c rfl, u2_k (by decide), u2_k (by decide), u2_k (by decide), u2_k (by decide)]
            rw [e0] at hk
            have q := hY.2.2.2 k hk0 hk
            rw [pN_o e, e]
            exact ⟨q.1, by omega⟩
      · show va_up _ 40 (upd _ b 1) 40 = _
        rw [up_same, u2_k (by decide), u2_k (by decide), u2_k (by decide), u2_k (by decide)]
    · rw [if_neg c1]
      by_cases c2 : pN Z 9 l = b
      · rw [if_pos c2]
        have hen := ly_en hw hY (by omega) hR (by omega) c2
        by_cases c3 : f_Mod_isWithin Z l = 0
        · rw [if_pos c3]
          obtain ⟨q0, q1, q2, q3, q4⟩ := sl_of (a := pN Z 36 (pN Z 8 l)) hY (by omega) hen.2.1
          have ls := ly_slot (a := pN Z 36 (pN Z 8 l)) hY (by omega) hen.2.1
          have ei : f_Mod_isWithin (u2 (f_Mod_slotFrom (pN Z 36 (pN Z 8 l)) Z).2 37 l (f_Mod_slotFrom (pN Z 36 (pN Z 8 l)) Z).1) l = 0 := by
            rw [iw_of (Z := Z), c3]
            all_goals rw [u2_k (by decide), sf_keep.1 _ (by decide) (by decide)]
          rw [if_pos ei]
          have es : (u2 (f_Mod_slotFrom (pN Z 36 (pN Z 8 l)) Z).2 37 l (f_Mod_slotFrom (pN Z 36 (pN Z 8 l)) Z).1) 37 l = nI (slN Z 1001 (pN Z 36 (pN Z 8 l))) := by rw [u2_s, q0]
          have e1 : nI (slN Z 1001 (pN Z 36 (pN Z 8 l))) + 1 = nI (slN Z 1001 (pN Z 36 (pN Z 8 l)) + 1) := nI_add _ 1
          rw [es, e1, gr_nI (by omega) (by omega)]
          have hL : pN (u2 (f_Mod_slotFrom (pN Z 36 (pN Z 8 l)) Z).2 37 l (f_Mod_slotFrom (pN Z 36 (pN Z 8 l)) Z).1) 100 42 = max (pN Z 100 42) (slN Z 1001 (pN Z 36 (pN Z 8 l)) + 1) := (pN_o (u2_o (by decide) rfl)).trans ls.2
          have r := ih (u2 (f_Mod_slotFrom (pN Z 36 (pN Z 8 l)) Z).2 37 l (f_Mod_slotFrom (pN Z 36 (pN Z 8 l)) Z).1) (max m (slN Z 1001 (pN Z 36 (pN Z 8 l)) + 1)) (l + 1) (wfM.uk (k := 37) (z_slotFrom hw) (by decide)) (by unfold isN pN at hT ⊢; rw [u2_k (by decide), sf_keep.1 _ (by decide) (by decide)]; exact hT) (LyI.uk (ls.1.mono (by omega)) (by decide)) (RdI.uk (rd_slot hR) (by decide)) (by omega) (by omega) (by rw [hL]; omega)
          refine ⟨r.1, r.2.trans ?_⟩
          rw [u2_k (by decide), sf_keep.1 _ (by decide) (by decide)]
        · rw [if_neg c3]
          have ei : ¬ f_Mod_isWithin (u2 Z 37 l (-1)) l = 0 := by
            rw [iw_of (Z := Z)]
            · exact c3
            all_goals rw [u2_k (by decide)]
          rw [if_neg ei]
          have es : (u2 Z 37 l (-1)) 36 (pN Z 8 l) = nI (pN Z 36 (pN Z 8 l)) := u2_o (by decide) hen.1
          rw [es, gr_nI (by omega) (by omega)]
          have hL : pN (u2 Z 37 l (-1)) 100 42 = pN Z 100 42 := pN_o (u2_o (by decide) rfl)
          have r := ih (u2 Z 37 l (-1)) (max m (pN Z 36 (pN Z 8 l))) (l + 1) (wfM.uk (k := 37) hw (by decide)) (by unfold isN pN at hT ⊢; rw [u2_k (by decide)]; exact hT) (LyI.uk (hY.mono (by omega)) (by decide)) (RdI.uk hR (by decide)) (by omega) (by omega) (by rw [hL]; omega)
          refine ⟨r.1, r.2.trans ?_⟩
          rw [u2_k (by decide)]
      · rw [if_neg c2]
        exact ih Z m (l + 1) hw hT (hY.mono (by omega)) hR (by omega) (by omega) hm
theorem tk_all {b K : Nat} {Z : Nat → Nat → Int32} (hb : b < 10) (hK : K + 12 < 1000) (hw : wfM Z) (hT : isN Z 2 60) (hY : LyI Z K) (hR : RdI Z b) : LyI (f_Mod_takes b Z) (K + 72) ∧ f_Mod_takes b Z 40 = upd (Z 40) b 1 := by
  rw [f_Mod_takes]
  have q := hY.2.2.1 _ (hw.dev b).2
  rw [q.1]
  exact tk_ly hb hK 13 Z _ 0 hw hT hY hR (by omega) (by omega) q.2
/-- how many of the first n blocks are taken -/
def cntT (Z : Nat → Nat → Int32) : Nat → Nat
  | 0 => 0
  | n + 1 => cntT Z n + (if Z 40 n = 0 then 0 else 1)
theorem cntT_le (Z : Nat → Nat → Int32) : ∀ n, cntT Z n ≤ n
  | 0 => Nat.le_refl _
  | n + 1 => by
    have := cntT_le Z n
    rw [cntT]; split <;> omega
theorem cntT_lt {Z : Nat → Nat → Int32} : ∀ {n : Nat}, cntT Z n < n → ∃ b, b < n ∧ Z 40 b = 0
  | 0, h => by omega
  | n + 1, h => by
    rw [cntT] at h
    by_cases c : Z 40 n = 0
    · exact ⟨n, by omega, c⟩
    · rw [if_neg c] at h
      obtain ⟨b, h1, h2⟩ := cntT_lt (Z := Z) (n := n) (by omega)
      exact ⟨b, by omega, h2⟩
theorem cntT_full {Z : Nat → Nat → Int32} : ∀ {n : Nat}, cntT Z n = n → ∀ b, b < n → ¬ Z 40 b = 0
  | 0, _, b, hb => by omega
  | n + 1, h, b, hb => by
    have h1 := cntT_le Z n
    rw [cntT] at h
    by_cases c : Z 40 n = 0
    · rw [if_pos c] at h; omega
    · rw [if_neg c] at h
      by_cases e : b = n
      · rw [e]; exact c
      · exact cntT_full (n := n) (by omega) b (by omega)
theorem cntT_o {Z Q : Nat → Nat → Int32} : ∀ {n : Nat}, (∀ b, b < n → Q 40 b = Z 40 b) → cntT Q n = cntT Z n
  | 0, _ => rfl
  | n + 1, h => by
    rw [cntT, cntT, cntT_o (n := n) (fun b hb => h b (by omega)), h n (by omega)]
theorem cntT_up {Z Q : Nat → Nat → Int32} {b : Nat} (h0 : Z 40 b = 0) (e : Q 40 = upd (Z 40) b 1) : ∀ {n : Nat}, b < n → cntT Q n = cntT Z n + 1
  | 0, h => by omega
  | n + 1, h => by
    rw [cntT, cntT]
    by_cases c : b = n
    · subst c
      rw [cntT_o (Z := Z) (Q := Q) (fun k hk => by rw [e]; exact if_neg (by omega)), h0, e]
      have : upd (Z 40) b 1 b = 1 := if_pos rfl
      rw [this, if_pos rfl, if_neg (by decide)]
    · rw [cntT_up h0 e (n := n) (by omega), e]
      have : upd (Z 40) b 1 n = Z 40 n := if_neg (by omega)
      rw [this]; omega
theorem cntT_0 {Z : Nat → Nat → Int32} : ∀ {n : Nat}, (∀ b, b < n → Z 40 b = 0) → cntT Z n = 0
  | 0, _ => rfl
  | n + 1, h => by
    rw [cntT, cntT_0 (n := n) (fun b hb => h b (by omega)), if_pos (h n (by omega))]
/-- the plan that is laid: times, no ring of links, links among its blocks -/
def PlM (Z : Nat → Nat → Int32) : Prop := isN Z 2 60 ∧ (∃ r : Nat → Nat, ∀ l, l < pN Z 100 21 → r (pN Z 8 l) < r (pN Z 9 l)) ∧ (∀ l, l < pN Z 100 21 → pN Z 8 l < pN Z 100 20 ∧ pN Z 9 l < pN Z 100 20)
theorem PlM.of {Z Q : Nat → Nat → Int32} (h : PlM Z) (e2 : Q 2 = Z 2) (e8 : Q 8 = Z 8) (e9 : Q 9 = Z 9) (e20 : Q 100 20 = Z 100 20) (e21 : Q 100 21 = Z 100 21) : PlM Q := by
  unfold PlM isN pN at *
  rw [e2, e8, e9, e20, e21]; exact h
def hasC (Z : Nat → Nat → Int32) (b : Nat) : Prop := ∃ j, b ≤ j ∧ j < 10 ∧ ¬ f_Mod_canBeTaken j Z = 0
theorem hc_lt {Z : Nat → Nat → Int32} {b : Nat} (h : hasC Z b) : b < 10 := by obtain ⟨j, h1, h2, -⟩ := h; omega
theorem hc_st {Z : Nat → Nat → Int32} {b : Nat} (h : hasC Z b) (H : f_Mod_canBeTaken b Z = 0) : hasC Z (b + 1) := by
  obtain ⟨j, h1, h2, h3⟩ := h
  have : j ≠ b := fun e => h3 (by rw [e]; exact H)
  exact ⟨j, by omega, h2, h3⟩
/-- of untaken blocks one of least rank waits for none -/
theorem hc_ex {Z : Nat → Nat → Int32} (hw : wfM Z) (hp : PlM Z) (hc : cntT Z (pN Z 100 20) < pN Z 100 20) : hasC Z 0 := by
  have hz0 := hw.blk.2
  obtain ⟨-, ⟨r, hr⟩, hin⟩ := hp
  have key : ∀ (m b : Nat), r b < m → b < pN Z 100 20 → Z 40 b = 0 → ∃ j, j < pN Z 100 20 ∧ Z 40 j = 0 ∧ RdI Z j := by
    intro m
    induction m with
    | zero => intro b h; omega
    | succ m ih =>
      intro b hm hb h0
      by_cases c : RdI Z b
      · exact ⟨b, hb, h0, c⟩
      · have : ∃ l, l < pN Z 100 21 ∧ pN Z 9 l = b ∧ Z 40 (pN Z 8 l) = 0 := by
          apply Classical.byContradiction
          intro hn
          exact c (fun l hl h1 h2 => hn ⟨l, hl, h1, h2⟩)
        obtain ⟨l, hl, h1, h2⟩ := this
        have h3 := hr l hl
        rw [h1] at h3
        exact ih _ (by omega) (hin l hl).1 h2
  obtain ⟨b, hb, h0⟩ := cntT_lt hc
  obtain ⟨j, hj, h1, h2⟩ := key _ b (Nat.lt_succ_self _) hb h0
  exact ⟨j, Nat.zero_le _, by omega, by rw [cb_to hw h1 h2]; decide⟩
def cbF (Z : Nat → Nat → Int32) : Nat → Nat → Nat
  | 0, b => b
  | t + 1, b => if f_Mod_canBeTaken b Z = 0 then cbF Z t (b + 1) else b
theorem cbF_of {Z : Nat → Nat → Int32} : ∀ (t b : Nat), hasC Z b → 10 - b < t → cbF Z t b < 10 ∧ b ≤ cbF Z t b ∧ ¬ f_Mod_canBeTaken (cbF Z t b) Z = 0 ∧ ∀ j, b ≤ j → j < cbF Z t b → f_Mod_canBeTaken j Z = 0 := by
  intro t
  induction t with
  | zero => intro b _ h; omega
  | succ t ih =>
    intro b hc ht
    have hb := hc_lt hc
    rw [cbF]
    by_cases c : f_Mod_canBeTaken b Z = 0
    · rw [if_pos c]
      obtain ⟨h1, h2, h3, h4⟩ := ih (b + 1) (hc_st hc c) (by omega)
      refine ⟨h1, by omega, h3, fun j h5 h6 => ?_⟩
      by_cases e : j = b
      · rw [e]; exact c
      · exact h4 j (by omega) h6
    · rw [if_neg c]; exact ⟨hb, Nat.le_refl _, c, fun j h5 h6 => by omega⟩
theorem wfM.tk {P : Nat → Nat → Int32} {i b : Nat} (h : wfM P) (hb : b < 10) : wfM (u2 P 34 i (nI b)) := by
  have h1 : isN (u2 P 34 i (nI b)) 34 10 := by
    intro j
    by_cases c : j = i
    · have e : (u2 P 34 i (nI b)) 34 j = nI b := by rw [c]; exact u2_s
      rw [pN_mk (by omega) e]; exact ⟨e, hb⟩
    · have e : (u2 P 34 i (nI b)) 34 j = P 34 j := u2_i c rfl
      rw [pN_o e, e]; exact h.tak j
  exact ⟨h.1, h.2.1, h.2.2.1, h.2.2.2.1, h.2.2.2.2.1, h1, h.2.2.2.2.2.2.1, h.2.2.2.2.2.2.2.1, h.2.2.2.2.2.2.2.2.1, h.2.2.2.2.2.2.2.2.2.1, h.2.2.2.2.2.2.2.2.2.2⟩
