/-! the reference: how it begins, slack (written by wip/whole/c_mod8.py) -/
/-- a number that no reduction opens -/
noncomputable def fu (n : Nat) : Nat := Classical.choose (⟨n, rfl⟩ : ∃ m : Nat, m = n)
theorem fu_eq (n : Nat) : fu n = n := Classical.choose_spec (⟨n, rfl⟩ : ∃ m : Nat, m = n)
noncomputable def f_Mod_begins_121  (Z : Nat → Nat → Int32) : (Nat → Nat → Int32) :=
  u2 Z 0 205 (((1 : Int32) <<< ((nI (pN Z 100 19)) &&& 31)) - 1)
set_option maxRecDepth 4000 in
theorem w_Mod_begins_121 {g : GG} {Q : QT} {h : Hp} {kc ks : Nat} (hst : (gl g).stackTraces = false) {A : Nat → Nat} (hnd : (gK (moL g A)).Nodup)  (Z : Nat → Nat → Int32) (hw : wfM Z) (hk : Q (.inl none) (ov h (gO (moL g A) (f_Mod_begins_121  Z)))) : PW g M_Mod_begins 1 kc ks Q 121 [.ref (A 100), .retAddr 0] [] (ov h (gO (moL g A) Z)) := by
  have hz0 := hw.blk.2
  have hz1 := hw.lnk.2
  have hz2 := hw.dvs.2
  refine pw_aload_n e_Mod_begins_121 rfl ?_
  refine pw_getf e_Mod_begins_122 fl_Mod_9 (gO_get hnd (i := 0) rfl) rfl ?_
  refine pw_sipush (v := nI 205) e_Mod_begins_125 (by decide) ?_
  refine pw_iconst (v := nI 1) e_Mod_begins_128 (by decide) ?_
  refine pw_aload_n e_Mod_begins_129 rfl ?_
  refine pw_getf e_Mod_begins_130 fl_Mod_64 (gO_get hnd (i := 0) rfl) rfl ?_
  rw [show Z 100 19 = nI (pN Z 100 19) from hw.dvs.1]
  refine pw_ishl e_Mod_begins_133 ?_
  refine pw_iconst (v := nI 1) e_Mod_begins_134 (by decide) ?_
  refine pw_isub e_Mod_begins_135 ?_
  refine pw_iastG (i := 1) e_Mod_begins_136 hnd (mo_x _ _) rfl (by omega) (by decide) ?_
  refine pw_vret e_Mod_begins_137 rfl ?_
  rw [f_Mod_begins_121] at hk
  exact hk
noncomputable def f_Mod_begins_93  : Nat → (Nat → Nat → Int32) → (Nat) → (Nat → Nat → Int32)
  | 0, Z, _ => Z
  | t + 1, Z, l => if (pN Z 100 21) ≤ l then Z else f_Mod_begins_93  t (u2 Z 0 ((0 + 80 + 10 * l) + 8) 1) (l + 1)
set_option maxRecDepth 4000 in
theorem w_Mod_begins_93 {g : GG} {Q : QT} {h : Hp} {kc ks : Nat} (hst : (gl g).stackTraces = false) {A : Nat → Nat} (hnd : (gK (moL g A)).Nodup)  (t : Nat) : ∀ (Z : Nat → Nat → Int32) (l : Nat) (hw : wfM Z) (hl9 : l ≤ 12) (hlt : 12 - l < t) (hk : PW g M_Mod_begins 1 kc ks Q 121 [.ref (A 100), .retAddr 0] [] (ov h (gO (moL g A) (f_Mod_begins_93  t Z l)))), PW g M_Mod_begins 1 kc ks Q 93 [.ref (A 100), .int (nI (l))] [] (ov h (gO (moL g A) Z)) := by
  induction t with
  | zero => intro Z l hw hl9 hlt _; exact absurd hlt (Nat.not_lt_zero _)
  | succ t ih =>
    intro Z l hw hl9 hlt hk
    have hz0 := hw.blk.2
    have hz1 := hw.lnk.2
    have hz2 := hw.dvs.2
    refine pw_iload_n e_Mod_begins_93 rfl ?_
    refine pw_aload_n e_Mod_begins_94 rfl ?_
    refine pw_getf e_Mod_begins_95 fl_Mod_162 (gO_get hnd (i := 0) rfl) rfl ?_
    rw [show Z 100 21 = nI (pN Z 100 21) from hw.lnk.1]
    refine pw_icmp_geN (tgt := 121) e_Mod_begins_98 (by decide) (by omega) (by omega) (fun (H1 : (pN Z 100 21) ≤ l) => ?_) (fun (H1 : l < (pN Z 100 21)) => ?_)
    · refine pw_fgt (ls' := [.ref (A 100), .retAddr 0]) ⟨Or.inr rfl, Or.inl rfl, trivial⟩ ?_
      rw [f_Mod_begins_93, if_pos H1] at hk
      exact hk
    · refine pw_aload_n e_Mod_begins_101 rfl ?_
      refine pw_getf e_Mod_begins_102 fl_Mod_9 (gO_get hnd (i := 0) rfl) rfl ?_
      refine pw_iconst (v := nI 0) e_Mod_begins_105 (by decide) ?_
      refine pw_iload_n e_Mod_begins_106 rfl ?_
      refine pw_detS (As := [.int (nI (0)), .int (nI (l))]) e_Mod_begins_107 li_Mod_199 (q_linkAt hst 0 l) rfl (by decide) (Nat.le_of_ble_eq_true rfl) rfl ?_
      refine pw_bipush (v := nI 8) e_Mod_begins_110 (by decide) ?_
      refine pw_iaddN e_Mod_begins_112 ?_
      refine pw_iconst (v := nI 1) e_Mod_begins_113 (by decide) ?_
      refine pw_iastG (i := 1) e_Mod_begins_114 hnd (mo_x _ _) rfl (by omega) (by decide) ?_
      refine pw_iincN (ls2 := [_, _]) e_Mod_begins_115 rfl (by decide) rfl ?_
      refine pw_goto (tgt := 93) e_Mod_begins_118 (by decide) ?_
      refine ih (u2 Z 0 ((0 + 80 + 10 * l) + 8) 1) (l + 1) (wfM.uk (k := 0) hw (by decide)) (by omega) (by omega) ?_
      rw [f_Mod_begins_93, if_neg (Nat.not_le.mpr H1)] at hk
      exact hk
theorem z_begins_93 : ∀ (t : Nat) {Z : Nat → Nat → Int32} (l : Nat) (h : wfM Z), wfM (f_Mod_begins_93 t Z l) := by
  intro t
  induction t with
  | zero => intro Z l h; exact h
  | succ t ih =>
    intro Z l h
    rw [f_Mod_begins_93]
    repeat' split
    all_goals repeat (first | exact h | apply ih | apply wfM.up0 | refine wfM.u100 ?_ (by decide) | refine wfM.uk ?_ (by decide))
noncomputable def f_Mod_begins_24  : Nat → (Nat → Nat → Int32) → (Nat) → (Nat → Nat → Int32)
  | 0, Z, _ => Z
  | t + 1, Z, b => if (pN Z 100 20) ≤ b then Z else if (nI (lkP Z b 2) + -1) = ((-1)) then f_Mod_begins_24  t (u2 (u2 (u2 Z 0 ((0 + 8 * b) + 0) 2) 0 ((0 + 8 * b) + 1) 1) 0 ((0 + 8 * b) + 5) 1) (b + 1) else f_Mod_begins_24  t (u2 (u2 (u2 Z 0 ((0 + 8 * b) + 0) 3) 0 ((0 + 8 * b) + 1) 1) 0 ((0 + 8 * b) + 5) 1) (b + 1)
set_option maxRecDepth 4000 in
theorem w_Mod_begins_24 {g : GG} {Q : QT} {h : Hp} {kc ks : Nat} (hst : (gl g).stackTraces = false) {A : Nat → Nat} (hnd : (gK (moL g A)).Nodup)  (t : Nat) : ∀ (Z : Nat → Nat → Int32) (b : Nat) (hw : wfM Z) (hb9 : b ≤ 10) (hlt : 10 - b < t) (hk : PW g M_Mod_begins 1 kc ks Q 91 [.ref (A 100), .retAddr 0] [] (ov h (gO (moL g A) (f_Mod_begins_24  t Z b)))), PW g M_Mod_begins 1 kc ks Q 24 [.ref (A 100), .int (nI (b))] [] (ov h (gO (moL g A) Z)) := by
  induction t with
  | zero => intro Z b hw hb9 hlt _; exact absurd hlt (Nat.not_lt_zero _)
  | succ t ih =>
    intro Z b hw hb9 hlt hk
    have hz0 := hw.blk.2
    have hz1 := hw.lnk.2
    have hz2 := hw.dvs.2
    refine pw_iload_n e_Mod_begins_24 rfl ?_
    refine pw_aload_n e_Mod_begins_25 rfl ?_
    refine pw_getf e_Mod_begins_26 fl_Mod_183 (gO_get hnd (i := 0) rfl) rfl ?_
    rw [show Z 100 20 = nI (pN Z 100 20) from hw.blk.1]
    refine pw_icmp_geN (tgt := 91) e_Mod_begins_29 (by decide) (by omega) (by omega) (fun (H1 : (pN Z 100 20) ≤ b) => ?_) (fun (H1 : b < (pN Z 100 20)) => ?_)
    · refine pw_fgt (ls' := [.ref (A 100), .retAddr 0]) ⟨Or.inr rfl, Or.inl rfl, trivial⟩ ?_
      rw [f_Mod_begins_24, if_pos H1] at hk
      exact hk
    · refine pw_aload_n e_Mod_begins_32 rfl ?_
      refine pw_getf e_Mod_begins_33 fl_Mod_9 (gO_get hnd (i := 0) rfl) rfl ?_
      refine pw_iconst (v := nI 0) e_Mod_begins_36 (by decide) ?_
      refine pw_iload_n e_Mod_begins_37 rfl ?_
      refine pw_detS (As := [.int (nI (0)), .int (nI (b))]) e_Mod_begins_38 li_Mod_193 (q_at hst 0 b) rfl (by decide) (Nat.le_of_ble_eq_true rfl) rfl ?_
      refine pw_iconst (v := nI 0) e_Mod_begins_41 (by decide) ?_
      refine pw_iaddN e_Mod_begins_42 ?_
      refine pw_aload_n e_Mod_begins_43 rfl ?_
      refine pw_iload_n e_Mod_begins_44 rfl ?_
      refine pw_iconst (v := nI 2) e_Mod_begins_45 (by decide) ?_
      have hb2 := (lk_of hw b 2).2
      refine pw_detV (As := [.int (nI (b)), .int (nI (2))]) e_Mod_begins_46 li_Mod_196 rfl (gO_get hnd (i := 0) rfl) (q_lkN hst (mo_pl hnd) hw b 2 (by omega) (by omega)) rfl (by decide) (Nat.le_of_ble_eq_true rfl) rfl ?_
      refine pw_iconst (v := (-1)) e_Mod_begins_49 (by decide) ?_
      refine pw_icmp_ne (tgt := 57) e_Mod_begins_50 (by decide) (fun (H3 : ¬ (nI (lkP Z b 2) + -1) = ((-1))) => ?_) (fun (H3 : (nI (lkP Z b 2) + -1) = ((-1))) => ?_)
      · refine pw_iconst (v := nI 3) e_Mod_begins_57 (by decide) ?_
        refine pw_iastG (i := 1) e_Mod_begins_58 hnd (mo_x _ _) rfl (by omega) (by decide) ?_
        refine pw_aload_n e_Mod_begins_59 rfl ?_
        refine pw_getf e_Mod_begins_60 fl_Mod_9 (gO_get hnd (i := 0) rfl) rfl ?_
        refine pw_iconst (v := nI 0) e_Mod_begins_63 (by decide) ?_
        refine pw_iload_n e_Mod_begins_64 rfl ?_
        refine pw_detS (As := [.int (nI (0)), .int (nI (b))]) e_Mod_begins_65 li_Mod_193 (q_at hst 0 b) rfl (by decide) (Nat.le_of_ble_eq_true rfl) rfl ?_
        refine pw_iconst (v := nI 1) e_Mod_begins_68 (by decide) ?_
        refine pw_iaddN e_Mod_begins_69 ?_
        refine pw_iconst (v := nI 1) e_Mod_begins_70 (by decide) ?_
        refine pw_iastG (i := 1) e_Mod_begins_71 hnd (mo_x _ _) rfl (by omega) (by decide) ?_
        refine pw_aload_n e_Mod_begins_72 rfl ?_
        refine pw_getf e_Mod_begins_73 fl_Mod_9 (gO_get hnd (i := 0) rfl) rfl ?_
        refine pw_iconst (v := nI 0) e_Mod_begins_76 (by decide) ?_
        refine pw_iload_n e_Mod_begins_77 rfl ?_
        refine pw_detS (As := [.int (nI (0)), .int (nI (b))]) e_Mod_begins_78 li_Mod_193 (q_at hst 0 b) rfl (by decide) (Nat.le_of_ble_eq_true rfl) rfl ?_
        refine pw_iconst (v := nI 5) e_Mod_begins_81 (by decide) ?_
        refine pw_iaddN e_Mod_begins_82 ?_
        refine pw_iconst (v := nI 1) e_Mod_begins_83 (by decide) ?_
        refine pw_iastG (i := 1) e_Mod_begins_84 hnd (mo_x _ _) rfl (by omega) (by decide) ?_
        refine pw_iincN (ls2 := [_, _]) e_Mod_begins_85 rfl (by decide) rfl ?_
        refine pw_goto (tgt := 24) e_Mod_begins_88 (by decide) ?_
        refine ih (u2 (u2 (u2 Z 0 ((0 + 8 * b) + 0) 3) 0 ((0 + 8 * b) + 1) 1) 0 ((0 + 8 * b) + 5) 1) (b + 1) (wfM.uk (k := 0) (wfM.uk (k := 0) (wfM.uk (k := 0) hw (by decide)) (by decide)) (by decide)) (by omega) (by omega) ?_
        rw [f_Mod_begins_24, if_neg (Nat.not_le.mpr H1), if_neg H3] at hk
        exact hk
      · refine pw_iconst (v := nI 2) e_Mod_begins_53 (by decide) ?_
        refine pw_goto (tgt := 58) e_Mod_begins_54 (by decide) ?_
        refine pw_iastG (i := 1) e_Mod_begins_58 hnd (mo_x _ _) rfl (by omega) (by decide) ?_
        refine pw_aload_n e_Mod_begins_59 rfl ?_
        refine pw_getf e_Mod_begins_60 fl_Mod_9 (gO_get hnd (i := 0) rfl) rfl ?_
        refine pw_iconst (v := nI 0) e_Mod_begins_63 (by decide) ?_
        refine pw_iload_n e_Mod_begins_64 rfl ?_
        refine pw_detS (As := [.int (nI (0)), .int (nI (b))]) e_Mod_begins_65 li_Mod_193 (q_at hst 0 b) rfl (by decide) (Nat.le_of_ble_eq_true rfl) rfl ?_
        refine pw_iconst (v := nI 1) e_Mod_begins_68 (by decide) ?_
        refine pw_iaddN e_Mod_begins_69 ?_
        refine pw_iconst (v := nI 1) e_Mod_begins_70 (by decide) ?_
        refine pw_iastG (i := 1) e_Mod_begins_71 hnd (mo_x _ _) rfl (by omega) (by decide) ?_
        refine pw_aload_n e_Mod_begins_72 rfl ?_
        refine pw_getf e_Mod_begins_73 fl_Mod_9 (gO_get hnd (i := 0) rfl) rfl ?_
        refine pw_iconst (v := nI 0) e_Mod_begins_76 (by decide) ?_
        refine pw_iload_n e_Mod_begins_77 rfl ?_
        refine pw_detS (As := [.int (nI (0)), .int (nI (b))]) e_Mod_begins_78 li_Mod_193 (q_at hst 0 b) rfl (by decide) (Nat.le_of_ble_eq_true rfl) rfl ?_
        refine pw_iconst (v := nI 5) e_Mod_begins_81 (by decide) ?_
        refine pw_iaddN e_Mod_begins_82 ?_
        refine pw_iconst (v := nI 1) e_Mod_begins_83 (by decide) ?_
        refine pw_iastG (i := 1) e_Mod_begins_84 hnd (mo_x _ _) rfl (by omega) (by decide) ?_
        refine pw_iincN (ls2 := [_, _]) e_Mod_begins_85 rfl (by decide) rfl ?_
        refine pw_goto (tgt := 24) e_Mod_begins_88 (by decide) ?_
        refine ih (u2 (u2 (u2 Z 0 ((0 + 8 * b) + 0) 2) 0 ((0 + 8 * b) + 1) 1) 0 ((0 + 8 * b) + 5) 1) (b + 1) (wfM.uk (k := 0) (wfM.uk (k := 0) (wfM.uk (k := 0) hw (by decide)) (by decide)) (by decide)) (by omega) (by omega) ?_
        rw [f_Mod_begins_24, if_neg (Nat.not_le.mpr H1), if_pos H3] at hk
        exact hk
theorem z_begins_24 : ∀ (t : Nat) {Z : Nat → Nat → Int32} (b : Nat) (h : wfM Z), wfM (f_Mod_begins_24 t Z b) := by
  intro t
  induction t with
  | zero => intro Z b h; exact h
  | succ t ih =>
    intro Z b h
    rw [f_Mod_begins_24]
    repeat' split
    all_goals repeat (first | exact h | apply ih | apply wfM.up0 | refine wfM.u100 ?_ (by decide) | refine wfM.uk ?_ (by decide))
noncomputable def f_Mod_begins_2  : Nat → (Nat → Nat → Int32) → (Nat) → (Nat → Nat → Int32)
  | 0, Z, _ => Z
  | t + 1, Z, k => if 210 ≤ k then Z else f_Mod_begins_2  t (u2 Z 0 k 0) (k + 1)
set_option maxRecDepth 4000 in
theorem w_Mod_begins_2 {g : GG} {Q : QT} {h : Hp} {kc ks : Nat} (hst : (gl g).stackTraces = false) {A : Nat → Nat} (hnd : (gK (moL g A)).Nodup)  (t : Nat) : ∀ (Z : Nat → Nat → Int32) (k : Nat) (hw : wfM Z) (hk9 : k ≤ 210) (hlt : 210 - k < t) (hk : PW g M_Mod_begins 1 kc ks Q 22 [.ref (A 100), .retAddr 0] [] (ov h (gO (moL g A) (f_Mod_begins_2  t Z k)))), PW g M_Mod_begins 1 kc ks Q 2 [.ref (A 100), .int (nI (k))] [] (ov h (gO (moL g A) Z)) := by
  induction t with
  | zero => intro Z k hw hk9 hlt _; exact absurd hlt (Nat.not_lt_zero _)
  | succ t ih =>
    intro Z k hw hk9 hlt hk
    have hz0 := hw.blk.2
    have hz1 := hw.lnk.2
    have hz2 := hw.dvs.2
    refine pw_iload_n e_Mod_begins_2 rfl ?_
    refine pw_sipush (v := nI 210) e_Mod_begins_3 (by decide) ?_
    refine pw_icmp_geN (tgt := 22) e_Mod_begins_6 (by decide) (by omega) (by omega) (fun (H1 : 210 ≤ k) => ?_) (fun (H1 : k < 210) => ?_)
    · refine pw_fgt (ls' := [.ref (A 100), .retAddr 0]) ⟨Or.inr rfl, Or.inl rfl, trivial⟩ ?_
      rw [f_Mod_begins_2, if_pos H1] at hk
      exact hk
    · refine pw_aload_n e_Mod_begins_9 rfl ?_
      refine pw_getf e_Mod_begins_10 fl_Mod_9 (gO_get hnd (i := 0) rfl) rfl ?_
      refine pw_iload_n e_Mod_begins_13 rfl ?_
      refine pw_iconst (v := nI 0) e_Mod_begins_14 (by decide) ?_
      refine pw_iastG (i := 1) e_Mod_begins_15 hnd (mo_x _ _) rfl (by omega) (by decide) ?_
      refine pw_iincN (ls2 := [_, _]) e_Mod_begins_16 rfl (by decide) rfl ?_
      refine pw_goto (tgt := 2) e_Mod_begins_19 (by decide) ?_
      refine ih (u2 Z 0 k 0) (k + 1) (wfM.uk (k := 0) hw (by decide)) (by omega) (by omega) ?_
      rw [f_Mod_begins_2, if_neg (Nat.not_le.mpr H1)] at hk
      exact hk
theorem z_begins_2 : ∀ (t : Nat) {Z : Nat → Nat → Int32} (k : Nat) (h : wfM Z), wfM (f_Mod_begins_2 t Z k) := by
  intro t
  induction t with
  | zero => intro Z k h; exact h
  | succ t ih =>
    intro Z k h
    rw [f_Mod_begins_2]
    repeat' split
    all_goals repeat (first | exact h | apply ih | apply wfM.up0 | refine wfM.u100 ?_ (by decide) | refine wfM.uk ?_ (by decide))
noncomputable def f_Mod_begins  (Z : Nat → Nat → Int32) : (Nat → Nat → Int32) :=
  f_Mod_begins_121  (f_Mod_begins_93  (fu 13) (f_Mod_begins_24  (fu 11) (f_Mod_begins_2  (fu 211) Z 0) 0) 0)
set_option maxRecDepth 4000 in
theorem w_Mod_begins_0 {g : GG} {Q : QT} {h : Hp} {kc ks : Nat} (hst : (gl g).stackTraces = false) {A : Nat → Nat} (hnd : (gK (moL g A)).Nodup)  (Z : Nat → Nat → Int32) (hw : wfM Z) (hk : Q (.inl none) (ov h (gO (moL g A) (f_Mod_begins  Z)))) : PW g M_Mod_begins 1 kc ks Q 0 [.ref (A 100), .retAddr 0] [] (ov h (gO (moL g A) Z)) := by
  have hz0 := hw.blk.2
  have hz1 := hw.lnk.2
  have hz2 := hw.dvs.2
  refine pw_iconst (v := nI 0) e_Mod_begins_0 (by decide) ?_
  refine pw_istore_n (ls2 := [_, _]) e_Mod_begins_1 (by decide) rfl ?_
  refine w_Mod_begins_2 hst hnd (fu 211) Z 0 hw (by omega) (by rw [fu_eq]; omega) ?_
  refine pw_iconst (v := nI 0) e_Mod_begins_22 (by decide) ?_
  refine pw_istore_n (ls2 := [_, _]) e_Mod_begins_23 (by decide) rfl ?_
  refine w_Mod_begins_24 hst hnd (fu 11) (f_Mod_begins_2  (fu 211) Z 0) 0 (z_begins_2 _ _ hw) (by omega) (by rw [fu_eq]; omega) ?_
  refine pw_iconst (v := nI 0) e_Mod_begins_91 (by decide) ?_
  refine pw_istore_n (ls2 := [_, _]) e_Mod_begins_92 (by decide) rfl ?_
  refine w_Mod_begins_93 hst hnd (fu 13) (f_Mod_begins_24  (fu 11) (f_Mod_begins_2  (fu 211) Z 0) 0) 0 (z_begins_24 _ _ (z_begins_2 _ _ hw)) (by omega) (by rw [fu_eq]; omega) ?_
  refine w_Mod_begins_121 hst hnd (f_Mod_begins_93  (fu 13) (f_Mod_begins_24  (fu 11) (f_Mod_begins_2  (fu 211) Z 0) 0) 0) (z_begins_93 _ _ (z_begins_24 _ _ (z_begins_2 _ _ hw))) ?_
  rw [f_Mod_begins] at hk
  exact hk
theorem q_Mod_begins {g : GG} {h : Hp} (hst : (gl g).stackTraces = false) {A : Nat → Nat} (hnd : (gK (moL g A)).Nodup)  (Z : Nat → Nat → Int32) (hm : ∀ q ∈ gO (moL g A) Z, h q.1 = some q.2) (hw : wfM Z) : PM g M_Mod_begins 1 0 0 [.ref (A 100)] h (RetV none (ov h (gO (moL g A) (f_Mod_begins  Z)))) := by
  refine PM.of hst (by decide) rfl (fun v hv => ?_) (Nat.le_of_ble_eq_true rfl) ?_
  · simp only [List.mem_cons, List.not_mem_nil, or_false] at hv; rcases hv with rfl <;> rfl
  · have hq := w_Mod_begins_0 (g := g) (Q := RetV none (ov h (gO (moL g A) (f_Mod_begins  Z)))) (h := h) (kc := 0) (ks := 0) hst hnd Z hw ?_
    · rw [ov_self hm] at hq; exact hq
    · exact ⟨rfl, rfl⟩

theorem k_begins_2 : ∀ (t : Nat) (Z : Nat → Nat → Int32) (k : Nat) {j : Nat}, j ≠ 0 → f_Mod_begins_2 t Z k j = Z j := by
  intro t
  induction t with
  | zero => intro Z k j h; rfl
  | succ t ih =>
    intro Z k j h
    rw [f_Mod_begins_2]
    repeat' split
    all_goals first | rfl | (rw [ih _ _ h]; repeat rw [u2_k h])
theorem k_begins_24 : ∀ (t : Nat) (Z : Nat → Nat → Int32) (b : Nat) {j : Nat}, j ≠ 0 → f_Mod_begins_24 t Z b j = Z j := by
  intro t
  induction t with
  | zero => intro Z b j h; rfl
  | succ t ih =>
    intro Z b j h
    rw [f_Mod_begins_24]
    repeat' split
    all_goals first | rfl | (rw [ih _ _ h]; repeat rw [u2_k h])
theorem k_begins_93 : ∀ (t : Nat) (Z : Nat → Nat → Int32) (l : Nat) {j : Nat}, j ≠ 0 → f_Mod_begins_93 t Z l j = Z j := by
  intro t
  induction t with
  | zero => intro Z l j h; rfl
  | succ t ih =>
    intro Z l j h
    rw [f_Mod_begins_93]
    repeat' split
    all_goals first | rfl | (rw [ih _ _ h]; repeat rw [u2_k h])
theorem begins_keep {Z : Nat → Nat → Int32} {j : Nat} (h : j ≠ 0) : f_Mod_begins Z j = Z j := by
  rw [f_Mod_begins, f_Mod_begins_121, u2_k h, k_begins_93 _ _ _ h, k_begins_24 _ _ _ h, k_begins_2 _ _ _ h]
theorem z_begins {Z : Nat → Nat → Int32} (h : wfM Z) : wfM (f_Mod_begins Z) :=
  h.of (begins_keep (by decide)) (begins_keep (by decide)) (begins_keep (by decide)) (begins_keep (by decide)) (begins_keep (by decide)) (begins_keep (by decide)) (begins_keep (by decide)) (begins_keep (by decide)) (begins_keep (by decide)) (by rw [begins_keep (by decide)]) (by rw [begins_keep (by decide)]) (by rw [begins_keep (by decide)])
theorem PlM.rt {x y : Int32} {Z : Nat → Nat → Int32} (h : PlM Z) : PlM (f_Mod_right x y Z).2 := h.of (rt_keep (by decide)) (rt_keep (by decide)) (rt_keep (by decide)) (rt_100 (by decide)) (rt_100 (by decide))
theorem tm_rt {x y : Int32} {Z : Nat → Nat → Int32} (h : isN Z 2 10) : isN (f_Mod_right x y Z).2 2 10 := by
  unfold isN pN at *; rw [rt_keep (by decide)]; exact h
noncomputable def s_Mod_laysCycle : (Nat → Nat → Int32) → (Nat → Nat → Int32) := Classical.choose (⟨f_Mod_laysCycle, rfl⟩ : ∃ F : (Nat → Nat → Int32) → (Nat → Nat → Int32), F = f_Mod_laysCycle)
theorem s_laysCycle : s_Mod_laysCycle = f_Mod_laysCycle := Classical.choose_spec (⟨f_Mod_laysCycle, rfl⟩ : ∃ F : (Nat → Nat → Int32) → (Nat → Nat → Int32), F = f_Mod_laysCycle)
theorem qs_Mod_laysCycle {g : GG} {h : Hp} (hst : (gl g).stackTraces = false) {A : Nat → Nat} (hnd : (gK (moL g A)).Nodup) (Z : Nat → Nat → Int32) (hm : ∀ q ∈ gO (moL g A) Z, h q.1 = some q.2) (hw : wfM Z) (hp : PlM Z) : PM g M_Mod_laysCycle 3 0 0 [.ref (A 100)] h (RetV none (ov h (gO (moL g A) (s_Mod_laysCycle Z)))) := by
  rw [s_laysCycle]; exact q_Mod_laysCycle hst hnd Z hm hw hp
noncomputable def s_Mod_begins : (Nat → Nat → Int32) → (Nat → Nat → Int32) := Classical.choose (⟨f_Mod_begins, rfl⟩ : ∃ F : (Nat → Nat → Int32) → (Nat → Nat → Int32), F = f_Mod_begins)
theorem s_begins : s_Mod_begins = f_Mod_begins := Classical.choose_spec (⟨f_Mod_begins, rfl⟩ : ∃ F : (Nat → Nat → Int32) → (Nat → Nat → Int32), F = f_Mod_begins)
theorem qs_Mod_begins {g : GG} {h : Hp} (hst : (gl g).stackTraces = false) {A : Nat → Nat} (hnd : (gK (moL g A)).Nodup) (Z : Nat → Nat → Int32) (hm : ∀ q ∈ gO (moL g A) Z, h q.1 = some q.2) (hw : wfM Z) : PM g M_Mod_begins 1 0 0 [.ref (A 100)] h (RetV none (ov h (gO (moL g A) (s_Mod_begins Z)))) := by
  rw [s_begins]; exact q_Mod_begins hst hnd Z hm hw
theorem lay_s {Z : Nat → Nat → Int32} (hw : wfM Z) (hp : PlM Z) : wfM (s_Mod_laysCycle Z) ∧ PlM (s_Mod_laysCycle Z) ∧ TkI (s_Mod_laysCycle Z) ∧ (∀ k, lyK k → s_Mod_laysCycle Z k = Z k) ∧ ∀ i, i ≠ 42 → i ≠ 43 → s_Mod_laysCycle Z 100 i = Z 100 i := by
  rw [s_laysCycle]; exact lay_all hw hp
theorem z_beginsS {Z : Nat → Nat → Int32} (h : wfM Z) : wfM (s_Mod_begins Z) := by rw [s_begins]; exact z_begins h
noncomputable def f_Mod_slack_33 (x : Int32) : Nat → (Nat → Nat → Int32) → (Nat) → (Nat) → (Int32) → (Int32) → (Nat) → Int32 × (Nat → Nat → Int32)
  | 0, Z, _, _, _, _, _ => (0, Z)
  | t + 1, Z, b, hd, du, it, m => if 50 < m then (it, s_Mod_laysCycle (u2 Z 2 b (nI (hd)))) else if ((s_Mod_laysCycle (u2 Z 2 b (nI (hd + m)))) 100 42) = du then f_Mod_slack_33 x t (s_Mod_laysCycle (u2 Z 2 b (nI (hd + m)))) b hd du (nI (m)) (m + 1) else f_Mod_slack_33 x t (s_Mod_laysCycle (u2 Z 2 b (nI (hd + m)))) b hd du it (m + 1)
set_option maxRecDepth 4000 in
theorem w_Mod_slack_33 {g : GG} {Q : QT} {h : Hp} {kc ks : Nat} (hst : (gl g).stackTraces = false) {A : Nat → Nat} (hnd : (gK (moL g A)).Nodup) (x : Int32)  (t : Nat) : ∀ (Z : Nat → Nat → Int32) (b : Nat) (hd : Nat) (du : Int32) (it : Int32) (m : Nat) (hw : wfM Z) (hp : PlM Z) (hb : b < 10) (hh : hd < 10) (hm9 : 1 ≤ m ∧ m ≤ 51) (hlt : 51 - m < t) (hk : Q (.inl (some (.int (f_Mod_slack_33 x t Z b hd du it m).1))) (ov h (gO (moL g A) ((f_Mod_slack_33 x t Z b hd du it m).2)))), PW g M_Mod_slack 4 kc ks Q 33 [.ref (A 100), .int (nI (b)), .int (nI (hd)), .int (du), .int (it), .int (nI (m))] [] (ov h (gO (moL g A) Z)) := by
  induction t with
  | zero => intro Z b hd du it m hw hp hb hh hm9 hlt _; exact absurd hlt (Nat.not_lt_zero _)
  | succ t ih =>
    intro Z b hd du it m hw hp hb hh hm9 hlt hk
    have hz0 := hw.blk.2
    have hz1 := hw.lnk.2
    have hz2 := hw.dvs.2
    refine pw_iload e_Mod_slack_33 rfl ?_
    refine pw_bipush (v := nI 50) e_Mod_slack_35 (by decide) ?_
    refine pw_icmp_gtN (tgt := 72) e_Mod_slack_37 (by decide) (by omega) (by omega) (fun (H1 : 50 < m) => ?_) (fun (H1 : m ≤ 50) => ?_)
    · refine pw_aload_n e_Mod_slack_72 rfl ?_
      refine pw_getf e_Mod_slack_73 fl_Mod_16 (gO_get hnd (i := 0) rfl) rfl ?_
      refine pw_iload_n e_Mod_slack_76 rfl ?_
      refine pw_iload_n e_Mod_slack_77 rfl ?_
      refine pw_iastG (i := 3) e_Mod_slack_78 hnd (mo_x _ _) rfl (by omega) (by decide) ?_
      refine pw_aload_n e_Mod_slack_79 rfl ?_
      refine pw_detV (As := []) e_Mod_slack_80 li_Mod_153 rfl (gO_get hnd (i := 0) rfl) (qs_Mod_laysCycle hst hnd (u2 Z 2 b (nI (hd))) (gO_in hnd (fun _ z => z)) (wfM.uk (k := 2) hw (by decide)) (hp.tm (by omega))) rfl (by decide) (Nat.le_of_ble_eq_true rfl) rfl ?_
      refine pw_sameG hnd ?_
      refine pw_iload e_Mod_slack_83 rfl ?_
      refine pw_iret e_Mod_slack_85 rfl rfl ?_
      rw [f_Mod_slack_33, if_pos H1] at hk
      exact hk
    · refine pw_aload_n e_Mod_slack_40 rfl ?_
      refine pw_getf e_Mod_slack_41 fl_Mod_16 (gO_get hnd (i := 0) rfl) rfl ?_
      refine pw_iload_n e_Mod_slack_44 rfl ?_
      refine pw_iload_n e_Mod_slack_45 rfl ?_
      refine pw_iload e_Mod_slack_46 rfl ?_
      refine pw_iaddN e_Mod_slack_48 ?_
      refine pw_iastG (i := 3) e_Mod_slack_49 hnd (mo_x _ _) rfl (by omega) (by decide) ?_
      refine pw_aload_n e_Mod_slack_50 rfl ?_
      refine pw_detV (As := []) e_Mod_slack_51 li_Mod_153 rfl (gO_get hnd (i := 0) rfl) (qs_Mod_laysCycle hst hnd (u2 Z 2 b (nI (hd + m))) (gO_in hnd (fun _ z => z)) (wfM.uk (k := 2) hw (by decide)) (hp.tm (by omega))) rfl (by decide) (Nat.le_of_ble_eq_true rfl) rfl ?_
      refine pw_sameG hnd ?_
      refine pw_aload_n e_Mod_slack_54 rfl ?_
      refine pw_getf e_Mod_slack_55 fl_Mod_168 (gO_get hnd (i := 0) rfl) rfl ?_
      refine pw_iload_n e_Mod_slack_58 rfl ?_
      refine pw_icmp_ne (tgt := 66) e_Mod_slack_59 (by decide) (fun (H2 : ¬ ((s_Mod_laysCycle (u2 Z 2 b (nI (hd + m)))) 100 42) = du) => ?_) (fun (H2 : ((s_Mod_laysCycle (u2 Z 2 b (nI (hd + m)))) 100 42) = du) => ?_)
      · refine pw_iincN (ls2 := [_, _, _, _, _, _]) e_Mod_slack_66 rfl (by decide) rfl ?_
        refine pw_goto (tgt := 33) e_Mod_slack_69 (by decide) ?_
        refine ih (s_Mod_laysCycle (u2 Z 2 b (nI (hd + m)))) b hd du it (m + 1) (lay_s (wfM.uk (k := 2) hw (by decide)) (hp.tm (by omega))).1 (lay_s (wfM.uk (k := 2) hw (by decide)) (hp.tm (by omega))).2.1 (by omega) (by omega) (by omega) (by omega) ?_
        rw [f_Mod_slack_33, if_neg (Nat.not_lt.mpr H1), if_neg H2] at hk
        exact hk
      · refine pw_iload e_Mod_slack_62 rfl ?_
        refine pw_istore (ls2 := [_, _, _, _, _, _]) e_Mod_slack_64 (by decide) rfl ?_
        refine pw_iincN (ls2 := [_, _, _, _, _, _]) e_Mod_slack_66 rfl (by decide) rfl ?_
        refine pw_goto (tgt := 33) e_Mod_slack_69 (by decide) ?_
        refine ih (s_Mod_laysCycle (u2 Z 2 b (nI (hd + m)))) b hd du (nI (m)) (m + 1) (lay_s (wfM.uk (k := 2) hw (by decide)) (hp.tm (by omega))).1 (lay_s (wfM.uk (k := 2) hw (by decide)) (hp.tm (by omega))).2.1 (by omega) (by omega) (by omega) (by omega) ?_
        rw [f_Mod_slack_33, if_neg (Nat.not_lt.mpr H1), if_pos H2] at hk
        exact hk
noncomputable def f_Mod_slack_15 (x : Int32) (Z : Nat → Nat → Int32) (b : Nat) : Int32 × (Nat → Nat → Int32) :=
  f_Mod_slack_33 x 51 Z b (pN Z 2 b) (Z 100 42) 0 1
set_option maxRecDepth 4000 in
theorem w_Mod_slack_15 {g : GG} {Q : QT} {h : Hp} {kc ks : Nat} (hst : (gl g).stackTraces = false) {A : Nat → Nat} (hnd : (gK (moL g A)).Nodup) (x : Int32)  (Z : Nat → Nat → Int32) (b : Nat) (hw : wfM Z) (hp : PlM Z) (hT : isN Z 2 10) (hb : b < 10) (hk : Q (.inl (some (.int (f_Mod_slack_15 x Z b).1))) (ov h (gO (moL g A) ((f_Mod_slack_15 x Z b).2)))) : PW g M_Mod_slack 4 kc ks Q 15 [.ref (A 100), .int (nI (b)), .retAddr 0, .retAddr 0, .retAddr 0, .retAddr 0] [] (ov h (gO (moL g A) Z)) := by
  have hz0 := hw.blk.2
  have hz1 := hw.lnk.2
  have hz2 := hw.dvs.2
  refine pw_aload_n e_Mod_slack_15 rfl ?_
  refine pw_getf e_Mod_slack_16 fl_Mod_16 (gO_get hnd (i := 0) rfl) rfl ?_
  refine pw_iload_n e_Mod_slack_19 rfl ?_
  have hb1 := hT b
  refine pw_ialdC e_Mod_slack_20 (gO_get hnd (i := 3) rfl) (by omega) (by decide) hb1.1 ?_
  replace hb1 := hb1.2
  refine pw_istore_n (ls2 := [_, _, _, _, _, _]) e_Mod_slack_21 (by decide) rfl ?_
  refine pw_aload_n e_Mod_slack_22 rfl ?_
  refine pw_getf e_Mod_slack_23 fl_Mod_168 (gO_get hnd (i := 0) rfl) rfl ?_
  refine pw_istore_n (ls2 := [_, _, _, _, _, _]) e_Mod_slack_26 (by decide) rfl ?_
  refine pw_iconst (v := nI 0) e_Mod_slack_27 (by decide) ?_
  refine pw_istore (ls2 := [_, _, _, _, _, _]) e_Mod_slack_28 (by decide) rfl ?_
  refine pw_iconst (v := nI 1) e_Mod_slack_30 (by decide) ?_
  refine pw_istore (ls2 := [_, _, _, _, _, _]) e_Mod_slack_31 (by decide) rfl ?_
  refine w_Mod_slack_33 hst hnd x 51 Z b (pN Z 2 b) (Z 100 42) 0 1 hw hp (by omega) (by omega) (by omega) (by omega) ?_
  rw [f_Mod_slack_15] at hk
  exact hk
noncomputable def f_Mod_slack (x : Int32) (Z : Nat → Nat → Int32) : Int32 × (Nat → Nat → Int32) :=
  if ((f_Mod_isBlock x (u2 Z 100 18 0)).1) = 0 then (0, (f_Mod_isBlock x (u2 Z 100 18 0)).2) else f_Mod_slack_15 x ((f_Mod_isBlock x (u2 Z 100 18 0)).2) x.toNatClampNeg
set_option maxRecDepth 4000 in
theorem w_Mod_slack_0 {g : GG} {Q : QT} {h : Hp} {kc ks : Nat} (hst : (gl g).stackTraces = false) {A : Nat → Nat} (hnd : (gK (moL g A)).Nodup) (x : Int32)  (Z : Nat → Nat → Int32) (hw : wfM Z) (hp : PlM Z) (hT : isN Z 2 10) (hk : Q (.inl (some (.int (f_Mod_slack x Z).1))) (ov h (gO (moL g A) ((f_Mod_slack x Z).2)))) : PW g M_Mod_slack 4 kc ks Q 0 [.ref (A 100), .int (x), .retAddr 0, .retAddr 0, .retAddr 0, .retAddr 0] [] (ov h (gO (moL g A) Z)) := by
  have hz0 := hw.blk.2
  have hz1 := hw.lnk.2
  have hz2 := hw.dvs.2
  refine pw_aload_n e_Mod_slack_0 rfl ?_
  refine pw_iconst (v := nI 0) e_Mod_slack_1 (by decide) ?_
  refine pw_putGi (i := 0) (ps := 18) (x := 0) e_Mod_slack_2 fp_Mod_159 hnd (mo_x _ _) rfl (Nat.le_of_ble_eq_true rfl) rfl rfl (fun _ _ => rfl) ?_
  refine pw_aload_n e_Mod_slack_5 rfl ?_
  refine pw_iload_n e_Mod_slack_6 rfl ?_
  refine pw_detV (As := [.int (x)]) e_Mod_slack_7 li_Mod_397 rfl (gO_get hnd (i := 0) rfl) (q_Mod_isBlock hst hnd x (u2 Z 100 18 0) (gO_in hnd (fun _ z => z)) (wfM.u100 (i := 18) hw (by decide))) rfl (by decide) (Nat.le_of_ble_eq_true rfl) rfl ?_
  refine pw_sameG hnd ?_
  refine pw_if_ne (tgt := 15) e_Mod_slack_10 (by decide) (fun (H1 : ¬ ((f_Mod_isBlock x (u2 Z 100 18 0)).1) = 0) => ?_) (fun (H1 : ((f_Mod_isBlock x (u2 Z 100 18 0)).1) = 0) => ?_)
  · refine pw_eqls (ls' := [.ref (A 100), .int (nI (x.toNatClampNeg)), .retAddr 0, .retAddr 0, .retAddr 0, .retAddr 0]) (by rw [← (show x = nI (x.toNatClampNeg) from (ib10 (wfM.of (Q := u2 Z 100 18 0) hw rfl rfl rfl rfl rfl rfl rfl rfl rfl rfl rfl rfl) H1).1)]) ?_
    refine w_Mod_slack_15 hst hnd x ((f_Mod_isBlock x (u2 Z 100 18 0)).2) x.toNatClampNeg (z_isBlock (wfM.u100 (i := 18) hw (by decide))) (PlM.rt (hp.u100 (i := 18) (by decide))) (tm_rt hT) (ib10 (wfM.of (Q := u2 Z 100 18 0) hw rfl rfl rfl rfl rfl rfl rfl rfl rfl rfl rfl rfl) H1).2 ?_
    rw [f_Mod_slack, if_neg H1] at hk
    exact hk
  · refine pw_iconst (v := nI 0) e_Mod_slack_13 (by decide) ?_
    refine pw_iret e_Mod_slack_14 rfl rfl ?_
    rw [f_Mod_slack, if_pos H1] at hk
    exact hk
theorem q_Mod_slack {g : GG} {h : Hp} (hst : (gl g).stackTraces = false) {A : Nat → Nat} (hnd : (gK (moL g A)).Nodup) (x : Int32)  (Z : Nat → Nat → Int32) (hm : ∀ q ∈ gO (moL g A) Z, h q.1 = some q.2) (hw : wfM Z) (hp : PlM Z) (hT : isN Z 2 10) : PM g M_Mod_slack 4 0 0 [.ref (A 100), .int (x)] h (RetV (some (.int (f_Mod_slack x Z).1)) (ov h (gO (moL g A) ((f_Mod_slack x Z).2)))) := by
  refine PM.of hst (by decide) rfl (fun v hv => ?_) (Nat.le_of_ble_eq_true rfl) ?_
  · simp only [List.mem_cons, List.not_mem_nil, or_false] at hv; rcases hv with rfl | rfl <;> rfl
  · have hq := w_Mod_slack_0 (g := g) (Q := RetV (some (.int (f_Mod_slack x Z).1)) (ov h (gO (moL g A) ((f_Mod_slack x Z).2)))) (h := h) (kc := 0) (ks := 0) hst hnd x Z hw hp hT ?_
    · rw [ov_self hm] at hq; exact hq
    · exact ⟨rfl, rfl⟩

