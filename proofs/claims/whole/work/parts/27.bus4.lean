/-! the object: years, the tape (written by wip/whole/c_bus4.py) -/
def f_Years_draw (P : Nat → Nat → Int32) (x : Int32) (Z : Nat → Nat → Int32) : Int32 × (Nat → Nat → Int32) :=
  if x ≤ 0 then (0, u2 Z 504 1 (((Z 504 1) * 1103515245) + 12345)) else (((((u2 Z 504 1 (((Z 504 1) * 1103515245) + 12345)) 504 1) >>> ((16 : Int32) &&& 31)) &&& 32767) - ((((u2 Z 504 1 (((Z 504 1) * 1103515245) + 12345)) 504 1) >>> ((16 : Int32) &&& 31)) &&& 32767) / x * x, u2 Z 504 1 (((Z 504 1) * 1103515245) + 12345))
set_option maxRecDepth 4000 in
theorem w_Years_draw_0 {g : GG} {Q : QT} {h : Hp} {kc ks : Nat} (hst : (gl g).stackTraces = false) {A : Nat → Nat} {S : SA} {P Y : Nat → Nat → Int32} (hnd : (gK (bsL g A S P Y)).Nodup) (hw : wfP P) (x : Int32)  (Z : Nat → Nat → Int32) (hk : Q (.inl (some (.int (f_Years_draw P x Z).1))) (ov h (gO (bsL g A S P Y) ((f_Years_draw P x Z).2)))) : PW g M_Years_draw 0 kc ks Q 0 [.ref (A 504), .int (x)] [] (ov h (gO (bsL g A S P Y) Z)) := by
  have hz0 := hw.blk.2
  have hz1 := hw.lnk.2
  have hz2 := hw.dvs.2
  refine pw_aload_n e_Years_draw_0 rfl ?_
  refine pw_aload_n e_Years_draw_1 rfl ?_
  refine pw_getf e_Years_draw_2 fl_Years_15 (gO_get hnd (i := 63) rfl) rfl ?_
  refine pw_ldc e_Years_draw_5 kc_Years_67 ?_
  refine pw_imul e_Years_draw_7 ?_
  refine pw_sipush (v := nI 12345) e_Years_draw_8 (by decide) ?_
  refine pw_iadd e_Years_draw_11 ?_
  refine pw_putGi (i := 63) (ps := 1) (x := ((Z 504 1) * 1103515245) + 12345) e_Years_draw_12 fp_Years_15 hnd (bs_x _ _ _ _ _) rfl (Nat.le_of_ble_eq_true rfl) rfl rfl (fun _ _ => rfl) ?_
  refine pw_iload_n e_Years_draw_15 rfl ?_
  refine pw_if_le (tgt := 35) e_Years_draw_16 (by decide) (fun (H1 : x ≤ 0) => ?_) (fun (H1 : ¬ x ≤ 0) => ?_)
  · refine pw_iconst (v := nI 0) e_Years_draw_35 (by decide) ?_
    refine pw_iret e_Years_draw_36 rfl rfl ?_
    rw [f_Years_draw, if_pos H1] at hk
    exact hk
  · refine pw_aload_n e_Years_draw_19 rfl ?_
    refine pw_getf e_Years_draw_20 fl_Years_15 (gO_get hnd (i := 63) rfl) rfl ?_
    refine pw_bipush (v := nI 16) e_Years_draw_23 (by decide) ?_
    refine pw_ishr e_Years_draw_25 ?_
    refine pw_sipush (v := nI 32767) e_Years_draw_26 (by decide) ?_
    refine pw_iand e_Years_draw_29 ?_
    refine pw_iload_n e_Years_draw_30 rfl ?_
    refine pw_irem e_Years_draw_31 (fun q => H1 (by rw [q]; exact Int32.le_refl _)) ?_
    refine pw_goto (tgt := 36) e_Years_draw_32 (by decide) ?_
    refine pw_iret e_Years_draw_36 rfl rfl ?_
    rw [f_Years_draw, if_neg H1] at hk
    exact hk
theorem q_Years_draw {g : GG} {h : Hp} (hst : (gl g).stackTraces = false) {A : Nat → Nat} {S : SA} {P Y : Nat → Nat → Int32} (hnd : (gK (bsL g A S P Y)).Nodup) (hw : wfP P) (x : Int32)  (Z : Nat → Nat → Int32) (hm : ∀ q ∈ gO (bsL g A S P Y) Z, h q.1 = some q.2) : PM g M_Years_draw 0 0 0 [.ref (A 504), .int (x)] h (RetV (some (.int (f_Years_draw P x Z).1)) (ov h (gO (bsL g A S P Y) ((f_Years_draw P x Z).2)))) := by
  refine PM.of hst (by decide) rfl (fun v hv => ?_) (Nat.le_of_ble_eq_true rfl) ?_
  · simp only [List.mem_cons, List.not_mem_nil, or_false] at hv; rcases hv with rfl | rfl <;> rfl
  · have hq := w_Years_draw_0 (g := g) (Q := RetV (some (.int (f_Years_draw P x Z).1)) (ov h (gO (bsL g A S P Y) ((f_Years_draw P x Z).2)))) (h := h) (kc := 0) (ks := 0) hst hnd hw x Z ?_
    · rw [ov_self hm] at hq; exact hq
    · exact ⟨rfl, rfl⟩

def drN (P : Nat → Nat → Int32) (n : Nat) (Z : Nat → Nat → Int32) : Nat := (f_Years_draw P (nI n) Z).1.toNatClampNeg
theorem dr_of {P : Nat → Nat → Int32} {n : Nat} {Z : Nat → Nat → Int32} (h0 : 0 < n) (hn : n < 32768) : (f_Years_draw P (nI n) Z).1 = nI (drN P n Z) ∧ drN P n Z < n := by
  have key : ∃ j, (f_Years_draw P (nI n) Z).1 = nI j ∧ j < n := by
    rw [f_Years_draw]
    have hp : ¬ nI n ≤ 0 := by
      intro q
      have := i_le.mp q
      rw [nI_toInt (by omega), show (0 : Int32).toInt = 0 by decide] at this
      omega
    rw [if_neg hp]
    dsimp only
    obtain ⟨m, hm, e⟩ := and_nI (((u2 Z 504 1 (((Z 504 1) * 1103515245) + 12345)) 504 1) >>> ((16 : Int32) &&& 31))
    rw [e, rem_nI h0 hm hn]
    exact ⟨_, rfl, Nat.mod_lt _ h0⟩
  obtain ⟨j, e, hj⟩ := key
  have e2 : drN P n Z = j := by unfold drN; rw [e, nI_clamp (by omega)]
  rw [e2]; exact ⟨e, hj⟩
theorem q_dr {g : GG} {h : Hp} (hst : (gl g).stackTraces = false) {A : Nat → Nat} {S : SA} {P Y : Nat → Nat → Int32} (hnd : (gK (bsL g A S P Y)).Nodup) (hw : wfP P) (n : Nat) (Z : Nat → Nat → Int32) (h0 : 0 < n) (hn : n < 32768) : PM g M_Years_draw 0 0 0 [.ref (A 504), .int (nI n)] (ov h (gO (bsL g A S P Y) Z)) (RetV (some (.int (nI (drN P n Z)))) (ov (ov h (gO (bsL g A S P Y) Z)) (gO (bsL g A S P Y) (f_Years_draw P (nI n) Z).2))) := by
  rw [← (dr_of h0 hn).1]
  exact q_Years_draw hst hnd hw (nI n) Z (gO_in hnd (fun _ z => z))
theorem hand_of {P : Nat → Nat → Int32} {c : Nat → Int32} {b : Nat} (hb : b < 10) (H : ¬ f_State_handCell P c b = -1) : f_State_handCell P c b = nI (f_State_handCell P c b).toNatClampNeg ∧ (f_State_handCell P c b).toNatClampNeg < 225 := by
  have key : ∃ j, f_State_handCell P c b = nI j ∧ j < 225 := by
    rw [f_State_handCell] at H ⊢
    repeat' split at H
    all_goals first | (exact absurd rfl H) | skip
    all_goals simp only [*, if_true, if_false]
    all_goals exact ⟨_, rfl, by omega⟩
  obtain ⟨j, e, hj⟩ := key
  have e2 : (f_State_handCell P c b).toNatClampNeg = j := by rw [e, nI_clamp (by omega)]
  rw [e2]; exact ⟨e, hj⟩
def f_Years_passSome_3 (P : Nat → Nat → Int32) (n : Nat) : Nat → (Nat → Nat → Int32) → (Nat) → (Nat → Nat → Int32)
  | 0, Z, _ => Z
  | t + 1, Z, k => if n ≤ k then Z else if ((Z 501) 221) = ((-1)) then if (((va_up Z 501 (f_Cycle_goBy P (Z 501))) 501) 221) = ((-1)) then f_Years_passSome_3 P n t (va_up Z 501 (f_Cycle_goBy P (Z 501))) (k + 1) else f_Years_passSome_3 P n t (u2 (va_up Z 501 (f_Cycle_goBy P (Z 501))) 504 0 (((va_up Z 501 (f_Cycle_goBy P (Z 501))) 504 0) + 1)) (k + 1) else f_Years_passSome_3 P n t (va_up Z 501 (f_Cycle_goBy P (Z 501))) (k + 1)
set_option maxRecDepth 4000 in
theorem w_Years_passSome_3 {g : GG} {Q : QT} {h : Hp} {kc ks : Nat} (hst : (gl g).stackTraces = false) {A : Nat → Nat} {S : SA} {P Y : Nat → Nat → Int32} (hnd : (gK (bsL g A S P Y)).Nodup) (hw : wfP P) (n : Nat) (hn : n < 31)  (t : Nat) : ∀ (Z : Nat → Nat → Int32) (k : Nat) (hk9 : k ≤ n) (hlt : n - k < t) (hk : PW g M_Years_passSome 5 kc ks Q 69 [.ref (A 504), .ref (A 30), .ref (A 500), .int (nI (n)), .retAddr 0, .retAddr 0] [] (ov h (gO (bsL g A S P Y) (f_Years_passSome_3 P n t Z k)))), PW g M_Years_passSome 5 kc ks Q 3 [.ref (A 504), .ref (A 30), .ref (A 500), .int (nI (n)), .int (nI (k)), .retAddr 0] [] (ov h (gO (bsL g A S P Y) Z)) := by
  induction t with
  | zero => intro Z k hk9 hlt _; exact absurd hlt (Nat.not_lt_zero _)
  | succ t ih =>
    intro Z k hk9 hlt hk
    have hz0 := hw.blk.2
    have hz1 := hw.lnk.2
    have hz2 := hw.dvs.2
    refine pw_iload e_Years_passSome_3 rfl ?_
    refine pw_iload_n e_Years_passSome_5 rfl ?_
    refine pw_icmp_geN (tgt := 69) e_Years_passSome_6 (by decide) (by omega) (by omega) (fun (H1 : n ≤ k) => ?_) (fun (H1 : k < n) => ?_)
    · refine pw_fgt (ls' := [.ref (A 504), .ref (A 30), .ref (A 500), .int (nI (n)), .retAddr 0, .retAddr 0]) ⟨Or.inr rfl, Or.inr rfl, Or.inr rfl, Or.inr rfl, Or.inl rfl, Or.inr rfl, trivial⟩ ?_
      rw [f_Years_passSome_3, if_pos H1] at hk
      exact hk
    · refine pw_aload_n e_Years_passSome_9 rfl ?_
      refine pw_getf e_Years_passSome_10 fl_Years_59 (gO_get hnd (i := 51) rfl) rfl ?_
      refine pw_sipush (v := nI 221) e_Years_passSome_13 (by decide) ?_
      refine pw_ialdN e_Years_passSome_16 (gO_get hnd (i := 52) rfl) (by omega) (by decide) ?_
      refine pw_iconst (v := (-1)) e_Years_passSome_17 (by decide) ?_
      refine pw_icmp_ne (tgt := 25) e_Years_passSome_18 (by decide) (fun (H2 : ¬ ((Z 501) 221) = ((-1))) => ?_) (fun (H2 : ((Z 501) 221) = ((-1))) => ?_)
      · refine pw_iconst (v := nI 0) e_Years_passSome_25 (by decide) ?_
        refine pw_istore (ls2 := [_, _, _, _, _, _]) e_Years_passSome_26 (by decide) rfl ?_
        refine pw_aload_n e_Years_passSome_28 rfl ?_
        refine pw_aload_n e_Years_passSome_29 rfl ?_
        refine pw_getf e_Years_passSome_30 fl_Years_59 (gO_get hnd (i := 51) rfl) rfl ?_
        refine pw_detS (As := [.ref (A 30), .ref (A 501)]) e_Years_passSome_33 li_Years_68 (q_Cycle_goBy hst (bs_planU hnd (j := 52) rfl (by decide)) hw (Z 501) (gO_get hnd (i := 52) rfl)) rfl (by decide) (Nat.le_of_ble_eq_true rfl) rfl ?_
        refine pw_upG (i := 52) hnd (bs_x _ _ _ _ _) rfl rfl ?_
        refine pw_iload e_Years_passSome_36 rfl ?_
        refine pw_if_eq (tgt := 63) e_Years_passSome_38 (by decide) (fun (H3 : 0 = 0) => ?_) (fun (H3 : ¬ 0 = 0) => ?_)
        · refine pw_iincN (ls2 := [_, _, _, _, _, _]) e_Years_passSome_63 rfl (by decide) rfl ?_
          refine pw_goto (tgt := 3) e_Years_passSome_66 (by decide) ?_
          refine pw_fgt (ls' := [.ref (A 504), .ref (A 30), .ref (A 500), .int (nI (n)), .int (nI (k + 1)), .retAddr 0]) ⟨Or.inr rfl, Or.inr rfl, Or.inr rfl, Or.inr rfl, Or.inr rfl, Or.inl rfl, trivial⟩ ?_
          refine ih (va_up Z 501 (f_Cycle_goBy P (Z 501))) (k + 1) (by omega) (by omega) ?_
          rw [f_Years_passSome_3, if_neg (Nat.not_le.mpr H1), if_neg H2] at hk
          exact hk
        · exact absurd H3 (by decide)
      · refine pw_iconst (v := nI 1) e_Years_passSome_21 (by decide) ?_
        refine pw_goto (tgt := 26) e_Years_passSome_22 (by decide) ?_
        refine pw_istore (ls2 := [_, _, _, _, _, _]) e_Years_passSome_26 (by decide) rfl ?_
        refine pw_aload_n e_Years_passSome_28 rfl ?_
        refine pw_aload_n e_Years_passSome_29 rfl ?_
        refine pw_getf e_Years_passSome_30 fl_Years_59 (gO_get hnd (i := 51) rfl) rfl ?_
        refine pw_detS (As := [.ref (A 30), .ref (A 501)]) e_Years_passSome_33 li_Years_68 (q_Cycle_goBy hst (bs_planU hnd (j := 52) rfl (by decide)) hw (Z 501) (gO_get hnd (i := 52) rfl)) rfl (by decide) (Nat.le_of_ble_eq_true rfl) rfl ?_
        refine pw_upG (i := 52) hnd (bs_x _ _ _ _ _) rfl rfl ?_
        refine pw_iload e_Years_passSome_36 rfl ?_
        refine pw_if_eq (tgt := 63) e_Years_passSome_38 (by decide) (fun (H4 : 1 = 0) => ?_) (fun (H4 : ¬ 1 = 0) => ?_)
        · exact absurd H4 (by decide)
        · refine pw_aload_n e_Years_passSome_41 rfl ?_
          refine pw_getf e_Years_passSome_42 fl_Years_59 (gO_get hnd (i := 51) rfl) rfl ?_
          refine pw_sipush (v := nI 221) e_Years_passSome_45 (by decide) ?_
          refine pw_ialdN e_Years_passSome_48 (gO_get hnd (i := 52) rfl) (by omega) (by decide) ?_
          refine pw_iconst (v := (-1)) e_Years_passSome_49 (by decide) ?_
          refine pw_icmp_eq (tgt := 63) e_Years_passSome_50 (by decide) (fun (H5 : (((va_up Z 501 (f_Cycle_goBy P (Z 501))) 501) 221) = ((-1))) => ?_) (fun (H5 : ¬ (((va_up Z 501 (f_Cycle_goBy P (Z 501))) 501) 221) = ((-1))) => ?_)
          · refine pw_iincN (ls2 := [_, _, _, _, _, _]) e_Years_passSome_63 rfl (by decide) rfl ?_
            refine pw_goto (tgt := 3) e_Years_passSome_66 (by decide) ?_
            refine pw_fgt (ls' := [.ref (A 504), .ref (A 30), .ref (A 500), .int (nI (n)), .int (nI (k + 1)), .retAddr 0]) ⟨Or.inr rfl, Or.inr rfl, Or.inr rfl, Or.inr rfl, Or.inr rfl, Or.inl rfl, trivial⟩ ?_
            refine ih (va_up Z 501 (f_Cycle_goBy P (Z 501))) (k + 1) (by omega) (by omega) ?_
            rw [f_Years_passSome_3, if_neg (Nat.not_le.mpr H1), if_pos H2, if_pos H5] at hk
            exact hk
          · refine pw_aload_n e_Years_passSome_53 rfl ?_
            refine pw_dup e_Years_passSome_54 rfl ?_
            refine pw_getf e_Years_passSome_55 fl_Years_9 (gO_get hnd (i := 63) rfl) rfl ?_
            refine pw_iconst (v := nI 1) e_Years_passSome_58 (by decide) ?_
            refine pw_iadd e_Years_passSome_59 ?_
            refine pw_putGi (i := 63) (ps := 0) (x := ((va_up Z 501 (f_Cycle_goBy P (Z 501))) 504 0) + 1) e_Years_passSome_60 fp_Years_9 hnd (bs_x _ _ _ _ _) rfl (Nat.le_of_ble_eq_true rfl) rfl rfl (fun _ _ => rfl) ?_
            refine pw_iincN (ls2 := [_, _, _, _, _, _]) e_Years_passSome_63 rfl (by decide) rfl ?_
            refine pw_goto (tgt := 3) e_Years_passSome_66 (by decide) ?_
            refine pw_fgt (ls' := [.ref (A 504), .ref (A 30), .ref (A 500), .int (nI (n)), .int (nI (k + 1)), .retAddr 0]) ⟨Or.inr rfl, Or.inr rfl, Or.inr rfl, Or.inr rfl, Or.inr rfl, Or.inl rfl, trivial⟩ ?_
            refine ih (u2 (va_up Z 501 (f_Cycle_goBy P (Z 501))) 504 0 (((va_up Z 501 (f_Cycle_goBy P (Z 501))) 504 0) + 1)) (k + 1) (by omega) (by omega) ?_
            rw [f_Years_passSome_3, if_neg (Nat.not_le.mpr H1), if_pos H2, if_neg H5] at hk
            exact hk
def f_Years_passSome (P : Nat → Nat → Int32) (n : Nat) (Z : Nat → Nat → Int32) : (Nat → Nat → Int32) :=
  f_Years_passSome_3 P n 31 Z 0
set_option maxRecDepth 4000 in
theorem w_Years_passSome_0 {g : GG} {Q : QT} {h : Hp} {kc ks : Nat} (hst : (gl g).stackTraces = false) {A : Nat → Nat} {S : SA} {P Y : Nat → Nat → Int32} (hnd : (gK (bsL g A S P Y)).Nodup) (hw : wfP P) (n : Nat) (hn : n < 31)  (Z : Nat → Nat → Int32) (hk : Q (.inl none) (ov h (gO (bsL g A S P Y) (f_Years_passSome P n Z)))) : PW g M_Years_passSome 5 kc ks Q 0 [.ref (A 504), .ref (A 30), .ref (A 500), .int (nI (n)), .retAddr 0, .retAddr 0] [] (ov h (gO (bsL g A S P Y) Z)) := by
  have hz0 := hw.blk.2
  have hz1 := hw.lnk.2
  have hz2 := hw.dvs.2
  refine pw_iconst (v := nI 0) e_Years_passSome_0 (by decide) ?_
  refine pw_istore (ls2 := [_, _, _, _, _, _]) e_Years_passSome_1 (by decide) rfl ?_
  refine w_Years_passSome_3 hst hnd hw n hn 31 Z 0 (by omega) (by omega) ?_
  refine pw_vret e_Years_passSome_69 rfl ?_
  rw [f_Years_passSome] at hk
  exact hk
theorem q_Years_passSome {g : GG} {h : Hp} (hst : (gl g).stackTraces = false) {A : Nat → Nat} {S : SA} {P Y : Nat → Nat → Int32} (hnd : (gK (bsL g A S P Y)).Nodup) (hw : wfP P) (n : Nat) (hn : n < 31)  (Z : Nat → Nat → Int32) (hm : ∀ q ∈ gO (bsL g A S P Y) Z, h q.1 = some q.2) : PM g M_Years_passSome 5 0 0 [.ref (A 504), .ref (A 30), .ref (A 500), .int (nI (n))] h (RetV none (ov h (gO (bsL g A S P Y) (f_Years_passSome P n Z)))) := by
  refine PM.of hst (by decide) rfl (fun v hv => ?_) (Nat.le_of_ble_eq_true rfl) ?_
  · simp only [List.mem_cons, List.not_mem_nil, or_false] at hv; rcases hv with rfl | rfl | rfl | rfl <;> rfl
  · have hq := w_Years_passSome_0 (g := g) (Q := RetV none (ov h (gO (bsL g A S P Y) (f_Years_passSome P n Z)))) (h := h) (kc := 0) (ks := 0) hst hnd hw n hn Z ?_
    · rw [ov_self hm] at hq; exact hq
    · exact ⟨rfl, rfl⟩

def f_Years_tellBlock_72 (P : Nat → Nat → Int32) (w : Int32) (Z : Nat → Nat → Int32) (v : Nat) (q : Nat) : (Nat → Nat → Int32) :=
  u2 Z 501 q (nI (v))
set_option maxRecDepth 4000 in
theorem w_Years_tellBlock_72 {g : GG} {Q : QT} {h : Hp} {kc ks : Nat} (hst : (gl g).stackTraces = false) {A : Nat → Nat} {S : SA} {P Y : Nat → Nat → Int32} (hnd : (gK (bsL g A S P Y)).Nodup) (hw : wfP P) (w : Int32) (hb0 : 0 < pN P 30 3)  (Z : Nat → Nat → Int32) (v : Nat) (q : Nat) (hq : q < 225) (hk : Q (.inl none) (ov h (gO (bsL g A S P Y) (f_Years_tellBlock_72 P w Z v q)))) : PW g M_Years_tellBlock 4 kc ks Q 72 [.ref (A 504), .ref (A 30), .ref (A 500), .int (w), .retAddr 0, .int (nI (v)), .int (nI (q))] [] (ov h (gO (bsL g A S P Y) Z)) := by
  have hz0 := hw.blk.2
  have hz1 := hw.lnk.2
  have hz2 := hw.dvs.2
  refine pw_aload_n e_Years_tellBlock_72 rfl ?_
  refine pw_getf e_Years_tellBlock_73 fl_Years_59 (gO_get hnd (i := 51) rfl) rfl ?_
  refine pw_iload e_Years_tellBlock_76 rfl ?_
  refine pw_iload e_Years_tellBlock_78 rfl ?_
  refine pw_iastG (i := 52) e_Years_tellBlock_80 hnd (bs_x _ _ _ _ _) rfl (by omega) (by decide) ?_
  refine pw_vret e_Years_tellBlock_81 rfl ?_
  rw [f_Years_tellBlock_72] at hk
  exact hk
def f_Years_tellBlock (P : Nat → Nat → Int32) (w : Int32) (Z : Nat → Nat → Int32) : (Nat → Nat → Int32) :=
  if w = 0 then if (f_State_handCell P (((f_Years_draw P (nI 1001) ((f_Years_draw P (nI (pN P 30 3)) Z).2)).2) 501) (drN P (pN P 30 3) Z)) = ((-1)) then (f_Years_draw P (nI 1001) ((f_Years_draw P (nI (pN P 30 3)) Z).2)).2 else f_Years_tellBlock_72 P w ((f_Years_draw P (nI 1001) ((f_Years_draw P (nI (pN P 30 3)) Z).2)).2) (drN P 1001 ((f_Years_draw P (nI (pN P 30 3)) Z).2)) ((f_State_handCell P (((f_Years_draw P (nI 1001) ((f_Years_draw P (nI (pN P 30 3)) Z).2)).2) 501) (drN P (pN P 30 3) Z)).toNatClampNeg) else if (f_State_canTell P (((f_Years_draw P (nI 4) ((f_Years_draw P (nI (pN P 30 3)) Z).2)).2) 501) (drN P (pN P 30 3) Z) (nI (drN P 4 ((f_Years_draw P (nI (pN P 30 3)) Z).2)))) = 0 then (f_Years_draw P (nI 4) ((f_Years_draw P (nI (pN P 30 3)) Z).2)).2 else u2 ((f_Years_draw P (nI 4) ((f_Years_draw P (nI (pN P 30 3)) Z).2)).2) 501 (((drN P (pN P 30 3) Z) * 9) + 0) (nI (drN P 4 ((f_Years_draw P (nI (pN P 30 3)) Z).2)))
set_option maxRecDepth 4000 in
theorem w_Years_tellBlock_0 {g : GG} {Q : QT} {h : Hp} {kc ks : Nat} (hst : (gl g).stackTraces = false) {A : Nat → Nat} {S : SA} {P Y : Nat → Nat → Int32} (hnd : (gK (bsL g A S P Y)).Nodup) (hw : wfP P) (w : Int32) (hb0 : 0 < pN P 30 3)  (Z : Nat → Nat → Int32) (hk : Q (.inl none) (ov h (gO (bsL g A S P Y) (f_Years_tellBlock P w Z)))) : PW g M_Years_tellBlock 4 kc ks Q 0 [.ref (A 504), .ref (A 30), .ref (A 500), .int (w), .retAddr 0, .retAddr 0, .retAddr 0] [] (ov h (gO (bsL g A S P Y) Z)) := by
  have hz0 := hw.blk.2
  have hz1 := hw.lnk.2
  have hz2 := hw.dvs.2
  refine pw_aload_n e_Years_tellBlock_0 rfl ?_
  refine pw_aload_n e_Years_tellBlock_1 rfl ?_
  refine pw_getf e_Years_tellBlock_2 fl_Years_48 (gO_get hnd (i := 0) rfl) rfl ?_
  rw [hw.blk.1]
  have hb1 := (dr_of (P := P) (n := (pN P 30 3)) (Z := Z) (by omega) (by omega)).2
  refine pw_detV (As := [.int (nI (pN P 30 3))]) e_Years_tellBlock_5 li_Years_18 rfl (gO_get hnd (i := 63) rfl) (q_dr hst hnd hw (pN P 30 3) Z (by omega) (by omega)) rfl (by decide) (Nat.le_of_ble_eq_true rfl) rfl ?_
  refine pw_sameG hnd ?_
  refine pw_istore (ls2 := [_, _, _, _, _, _, _]) e_Years_tellBlock_8 (by decide) rfl ?_
  refine pw_iload_n e_Years_tellBlock_10 rfl ?_
  refine pw_if_eq (tgt := 48) e_Years_tellBlock_11 (by decide) (fun (H2 : w = 0) => ?_) (fun (H2 : ¬ w = 0) => ?_)
  · refine pw_aload_n e_Years_tellBlock_48 rfl ?_
    refine pw_sipush (v := nI 1001) e_Years_tellBlock_49 (by decide) ?_
    have hb3 := (dr_of (P := P) (n := 1001) (Z := ((f_Years_draw P (nI (pN P 30 3)) Z).2)) (by omega) (by omega)).2
    refine pw_detV (As := [.int (nI (1001))]) e_Years_tellBlock_52 li_Years_18 rfl (gO_get hnd (i := 63) rfl) (q_dr hst hnd hw 1001 ((f_Years_draw P (nI (pN P 30 3)) Z).2) (by omega) (by omega)) rfl (by decide) (Nat.le_of_ble_eq_true rfl) rfl ?_
    refine pw_sameG hnd ?_
    refine pw_istore (ls2 := [_, _, _, _, _, _, _]) e_Years_tellBlock_55 (by decide) rfl ?_
    refine pw_aload_n e_Years_tellBlock_57 rfl ?_
    refine pw_aload_n e_Years_tellBlock_58 rfl ?_
    refine pw_iload e_Years_tellBlock_59 rfl ?_
    refine pw_detV (As := [.ref (A 30), .int (nI (drN P (pN P 30 3) Z))]) e_Years_tellBlock_61 li_Years_63 rfl (gO_get hnd (i := 51) rfl) (q_State_handCell hst (gO_get hnd (i := 51) rfl) (((f_Years_draw P (nI 1001) ((f_Years_draw P (nI (pN P 30 3)) Z).2)).2) 501) (gO_get hnd (i := 52) rfl) (bs_pl hnd) hw (drN P (pN P 30 3) Z) (by omega)) rfl (by decide) (Nat.le_of_ble_eq_true rfl) rfl ?_
    refine pw_istore (ls2 := [_, _, _, _, _, _, _]) e_Years_tellBlock_64 (by decide) rfl ?_
    refine pw_iload e_Years_tellBlock_66 rfl ?_
    refine pw_iconst (v := (-1)) e_Years_tellBlock_68 (by decide) ?_
    refine pw_icmp_eq (tgt := 81) e_Years_tellBlock_69 (by decide) (fun (H4 : (f_State_handCell P (((f_Years_draw P (nI 1001) ((f_Years_draw P (nI (pN P 30 3)) Z).2)).2) 501) (drN P (pN P 30 3) Z)) = ((-1))) => ?_) (fun (H4 : ¬ (f_State_handCell P (((f_Years_draw P (nI 1001) ((f_Years_draw P (nI (pN P 30 3)) Z).2)).2) 501) (drN P (pN P 30 3) Z)) = ((-1))) => ?_)
    · refine pw_vret e_Years_tellBlock_81 rfl ?_
      rw [f_Years_tellBlock, if_pos H2, if_pos H4] at hk
      exact hk
    · refine pw_eqls (ls' := [.ref (A 504), .ref (A 30), .ref (A 500), .int (w), .int (nI (drN P (pN P 30 3) Z)), .int (nI (drN P 1001 ((f_Years_draw P (nI (pN P 30 3)) Z).2))), .int (nI ((f_State_handCell P (((f_Years_draw P (nI 1001) ((f_Years_draw P (nI (pN P 30 3)) Z).2)).2) 501) (drN P (pN P 30 3) Z)).toNatClampNeg))]) (by rw [← (show f_State_handCell P (((f_Years_draw P (nI 1001) ((f_Years_draw P (nI (pN P 30 3)) Z).2)).2) 501) (drN P (pN P 30 3) Z) = nI ((f_State_handCell P (((f_Years_draw P (nI 1001) ((f_Years_draw P (nI (pN P 30 3)) Z).2)).2) 501) (drN P (pN P 30 3) Z)).toNatClampNeg) from (hand_of (by omega) H4).1)]) ?_
      refine pw_fgt (ls' := [.ref (A 504), .ref (A 30), .ref (A 500), .int (w), .retAddr 0, .int (nI (drN P 1001 ((f_Years_draw P (nI (pN P 30 3)) Z).2))), .int (nI ((f_State_handCell P (((f_Years_draw P (nI 1001) ((f_Years_draw P (nI (pN P 30 3)) Z).2)).2) 501) (drN P (pN P 30 3) Z)).toNatClampNeg))]) ⟨Or.inr rfl, Or.inr rfl, Or.inr rfl, Or.inr rfl, Or.inl rfl, Or.inr rfl, Or.inr rfl, trivial⟩ ?_
      refine w_Years_tellBlock_72 hst hnd hw w hb0 ((f_Years_draw P (nI 1001) ((f_Years_draw P (nI (pN P 30 3)) Z).2)).2) (drN P 1001 ((f_Years_draw P (nI (pN P 30 3)) Z).2)) ((f_State_handCell P (((f_Years_draw P (nI 1001) ((f_Years_draw P (nI (pN P 30 3)) Z).2)).2) 501) (drN P (pN P 30 3) Z)).toNatClampNeg) (hand_of (by omega) H4).2 ?_
      rw [f_Years_tellBlock, if_pos H2, if_neg H4] at hk
      exact hk
  · refine pw_aload_n e_Years_tellBlock_14 rfl ?_
    refine pw_iconst (v := nI 4) e_Years_tellBlock_15 (by decide) ?_
    have hb5 := (dr_of (P := P) (n := 4) (Z := ((f_Years_draw P (nI (pN P 30 3)) Z).2)) (by omega) (by omega)).2
    refine pw_detV (As := [.int (nI (4))]) e_Years_tellBlock_16 li_Years_18 rfl (gO_get hnd (i := 63) rfl) (q_dr hst hnd hw 4 ((f_Years_draw P (nI (pN P 30 3)) Z).2) (by omega) (by omega)) rfl (by decide) (Nat.le_of_ble_eq_true rfl) rfl ?_
    refine pw_sameG hnd ?_
    refine pw_istore (ls2 := [_, _, _, _, _, _, _]) e_Years_tellBlock_19 (by decide) rfl ?_
    refine pw_aload_n e_Years_tellBlock_21 rfl ?_
    refine pw_aload_n e_Years_tellBlock_22 rfl ?_
    refine pw_iload e_Years_tellBlock_23 rfl ?_
    refine pw_iload e_Years_tellBlock_25 rfl ?_
    refine pw_detV (As := [.ref (A 30), .int (nI (drN P (pN P 30 3) Z)), .int (nI (drN P 4 ((f_Years_draw P (nI (pN P 30 3)) Z).2)))]) e_Years_tellBlock_27 li_Years_55 rfl (gO_get hnd (i := 51) rfl) (q_State_canTell hst (gO_get hnd (i := 51) rfl) (((f_Years_draw P (nI 4) ((f_Years_draw P (nI (pN P 30 3)) Z).2)).2) 501) (gO_get hnd (i := 52) rfl) (bs_pl hnd) hw (drN P (pN P 30 3) Z) (nI (drN P 4 ((f_Years_draw P (nI (pN P 30 3)) Z).2))) (by omega)) rfl (by decide) (Nat.le_of_ble_eq_true rfl) rfl ?_
    refine pw_if_eq (tgt := 47) e_Years_tellBlock_30 (by decide) (fun (H6 : (f_State_canTell P (((f_Years_draw P (nI 4) ((f_Years_draw P (nI (pN P 30 3)) Z).2)).2) 501) (drN P (pN P 30 3) Z) (nI (drN P 4 ((f_Years_draw P (nI (pN P 30 3)) Z).2)))) = 0) => ?_) (fun (H6 : ¬ (f_State_canTell P (((f_Years_draw P (nI 4) ((f_Years_draw P (nI (pN P 30 3)) Z).2)).2) 501) (drN P (pN P 30 3) Z) (nI (drN P 4 ((f_Years_draw P (nI (pN P 30 3)) Z).2)))) = 0) => ?_)
    · refine pw_vret e_Years_tellBlock_47 rfl ?_
      rw [f_Years_tellBlock, if_neg H2, if_pos H6] at hk
      exact hk
    · refine pw_aload_n e_Years_tellBlock_33 rfl ?_
      refine pw_getf e_Years_tellBlock_34 fl_Years_59 (gO_get hnd (i := 51) rfl) rfl ?_
      refine pw_iload e_Years_tellBlock_37 rfl ?_
      refine pw_bipush (v := nI 9) e_Years_tellBlock_39 (by decide) ?_
      refine pw_imulN e_Years_tellBlock_41 ?_
      refine pw_iconst (v := nI 0) e_Years_tellBlock_42 (by decide) ?_
      refine pw_iaddN e_Years_tellBlock_43 ?_
      refine pw_iload e_Years_tellBlock_44 rfl ?_
      refine pw_iastG (i := 52) e_Years_tellBlock_46 hnd (bs_x _ _ _ _ _) rfl (by omega) (by decide) ?_
      refine pw_vret e_Years_tellBlock_47 rfl ?_
      rw [f_Years_tellBlock, if_neg H2, if_neg H6] at hk
      exact hk
theorem q_Years_tellBlock {g : GG} {h : Hp} (hst : (gl g).stackTraces = false) {A : Nat → Nat} {S : SA} {P Y : Nat → Nat → Int32} (hnd : (gK (bsL g A S P Y)).Nodup) (hw : wfP P) (w : Int32) (hb0 : 0 < pN P 30 3)  (Z : Nat → Nat → Int32) (hm : ∀ q ∈ gO (bsL g A S P Y) Z, h q.1 = some q.2) : PM g M_Years_tellBlock 4 0 0 [.ref (A 504), .ref (A 30), .ref (A 500), .int (w)] h (RetV none (ov h (gO (bsL g A S P Y) (f_Years_tellBlock P w Z)))) := by
  refine PM.of hst (by decide) rfl (fun v hv => ?_) (Nat.le_of_ble_eq_true rfl) ?_
  · simp only [List.mem_cons, List.not_mem_nil, or_false] at hv; rcases hv with rfl | rfl | rfl | rfl <;> rfl
  · have hq := w_Years_tellBlock_0 (g := g) (Q := RetV none (ov h (gO (bsL g A S P Y) (f_Years_tellBlock P w Z)))) (h := h) (kc := 0) (ks := 0) hst hnd hw w hb0 Z ?_
    · rw [ov_self hm] at hq; exact hq
    · exact ⟨rfl, rfl⟩

def f_Years_play_13 (P : Nat → Nat → Int32) (x : Int32) (n : Nat) : Nat → (Nat → Nat → Int32) → (Nat) → (Nat → Nat → Int32)
  | 0, Z, _ => Z
  | t + 1, Z, k => if n ≤ k then Z else if 1 < (drN P 6 Z) then if (drN P 6 Z) = 3 then if (f_State_isOn (((f_Years_draw P (nI (pN P 30 0)) ((f_Years_draw P (nI 6) Z).2)).2) 501) (nI (drN P (pN P 30 0) ((f_Years_draw P (nI 6) Z).2)))) = 0 then f_Years_play_13 P x n t (va_up ((f_Years_draw P (nI (pN P 30 0)) ((f_Years_draw P (nI 6) Z).2)).2) 501 (f_State_switchDevice (nI (drN P (pN P 30 0) ((f_Years_draw P (nI 6) Z).2))) 1 (P 30 2) (((f_Years_draw P (nI (pN P 30 0)) ((f_Years_draw P (nI 6) Z).2)).2) 501))) (k + 1) else f_Years_play_13 P x n t (va_up ((f_Years_draw P (nI (pN P 30 0)) ((f_Years_draw P (nI 6) Z).2)).2) 501 (f_State_switchDevice (nI (drN P (pN P 30 0) ((f_Years_draw P (nI 6) Z).2))) 0 (P 30 2) (((f_Years_draw P (nI (pN P 30 0)) ((f_Years_draw P (nI 6) Z).2)).2) 501))) (k + 1) else if (drN P 6 Z) = 4 then f_Years_play_13 P x n t (va_up ((f_Years_draw P (nI 4) ((f_Years_draw P (nI 6) Z).2)).2) 501 (f_State_turnSensor (nI (drN P 4 ((f_Years_draw P (nI 6) Z).2))) (((f_Years_draw P (nI 4) ((f_Years_draw P (nI 6) Z).2)).2) 501))) (k + 1) else if (nI (pN P 30 3)) ≤ 0 then f_Years_play_13 P x n t ((f_Years_draw P (nI 6) Z).2) (k + 1) else if (drN P 6 Z) = 2 then f_Years_play_13 P x n t (f_Years_tellBlock P 1 ((f_Years_draw P (nI 6) Z).2)) (k + 1) else f_Years_play_13 P x n t (f_Years_tellBlock P 0 ((f_Years_draw P (nI 6) Z).2)) (k + 1) else f_Years_play_13 P x n t (f_Years_passSome P ((drN P 5 ((f_Years_draw P (nI 6) Z).2)) + 1) ((f_Years_draw P (nI 5) ((f_Years_draw P (nI 6) Z).2)).2)) (k + 1)
set_option maxRecDepth 4000 in
theorem w_Years_play_13 {g : GG} {Q : QT} {h : Hp} {kc ks : Nat} (hst : (gl g).stackTraces = false) {A : Nat → Nat} {S : SA} {P Y : Nat → Nat → Int32} (hnd : (gK (bsL g A S P Y)).Nodup) (hw : wfP P) (x : Int32) (n : Nat) (hn : n < 31) (hd1 : 0 < pN P 30 0)  (t : Nat) : ∀ (Z : Nat → Nat → Int32) (k : Nat) (hk9 : k ≤ n) (hlt : n - k < t) (hk : PW g M_Years_play 6 kc ks Q 141 [.ref (A 504), .ref (A 30), .ref (A 500), .int (x), .int (nI (n)), .retAddr 0, .retAddr 0, .retAddr 0] [] (ov h (gO (bsL g A S P Y) (f_Years_play_13 P x n t Z k)))), PW g M_Years_play 6 kc ks Q 13 [.ref (A 504), .ref (A 30), .ref (A 500), .int (x), .int (nI (n)), .int (nI (k)), .retAddr 0, .retAddr 0] [] (ov h (gO (bsL g A S P Y) Z)) := by
  induction t with
  | zero => intro Z k hk9 hlt _; exact absurd hlt (Nat.not_lt_zero _)
  | succ t ih =>
    intro Z k hk9 hlt hk
    have hz0 := hw.blk.2
    have hz1 := hw.lnk.2
    have hz2 := hw.dvs.2
    refine pw_iload e_Years_play_13 rfl ?_
    refine pw_iload e_Years_play_15 rfl ?_
    refine pw_icmp_geN (tgt := 141) e_Years_play_17 (by decide) (by omega) (by omega) (fun (H1 : n ≤ k) => ?_) (fun (H1 : k < n) => ?_)
    · refine pw_fgt (ls' := [.ref (A 504), .ref (A 30), .ref (A 500), .int (x), .int (nI (n)), .retAddr 0, .retAddr 0, .retAddr 0]) ⟨Or.inr rfl, Or.inr rfl, Or.inr rfl, Or.inr rfl, Or.inr rfl, Or.inl rfl, Or.inr rfl, Or.inr rfl, trivial⟩ ?_
      rw [f_Years_play_13, if_pos H1] at hk
      exact hk
    · refine pw_aload_n e_Years_play_20 rfl ?_
      refine pw_bipush (v := nI 6) e_Years_play_21 (by decide) ?_
      have hb2 := (dr_of (P := P) (n := 6) (Z := Z) (by omega) (by omega)).2
      refine pw_detV (As := [.int (nI (6))]) e_Years_play_23 li_Years_18 rfl (gO_get hnd (i := 63) rfl) (q_dr hst hnd hw 6 Z (by omega) (by omega)) rfl (by decide) (Nat.le_of_ble_eq_true rfl) rfl ?_
      refine pw_sameG hnd ?_
      refine pw_istore (ls2 := [_, _, _, _, _, _, _, _]) e_Years_play_26 (by decide) rfl ?_
      refine pw_iload e_Years_play_28 rfl ?_
      refine pw_iconst (v := nI 1) e_Years_play_30 (by decide) ?_
      refine pw_icmp_gtN (tgt := 50) e_Years_play_31 (by decide) (by omega) (by omega) (fun (H3 : 1 < (drN P 6 Z)) => ?_) (fun (H3 : (drN P 6 Z) ≤ 1) => ?_)
      · refine pw_iload e_Years_play_50 rfl ?_
        refine pw_iconst (v := nI 3) e_Years_play_52 (by decide) ?_
        refine pw_icmp_neN (tgt := 93) e_Years_play_53 (by decide) (by omega) (by omega) (fun (H4 : ¬ (drN P 6 Z) = 3) => ?_) (fun (H4 : (drN P 6 Z) = 3) => ?_)
        · refine pw_iload e_Years_play_93 rfl ?_
          refine pw_iconst (v := nI 4) e_Years_play_95 (by decide) ?_
          refine pw_icmp_neN (tgt := 111) e_Years_play_96 (by decide) (by omega) (by omega) (fun (H5 : ¬ (drN P 6 Z) = 4) => ?_) (fun (H5 : (drN P 6 Z) = 4) => ?_)
          · refine pw_aload_n e_Years_play_111 rfl ?_
            refine pw_getf e_Years_play_112 fl_Years_48 (gO_get hnd (i := 0) rfl) rfl ?_
            rw [hw.blk.1]
            refine pw_if_le (tgt := 135) e_Years_play_115 (by decide) (fun (H6 : (nI (pN P 30 3)) ≤ 0) => ?_) (fun (H6 : ¬ (nI (pN P 30 3)) ≤ 0) => ?_)
            · refine pw_iincN (ls2 := [_, _, _, _, _, _, _, _]) e_Years_play_135 rfl (by decide) rfl ?_
              refine pw_goto (tgt := 13) e_Years_play_138 (by decide) ?_
              refine pw_fgt (ls' := [.ref (A 504), .ref (A 30), .ref (A 500), .int (x), .int (nI (n)), .int (nI (k + 1)), .retAddr 0, .retAddr 0]) ⟨Or.inr rfl, Or.inr rfl, Or.inr rfl, Or.inr rfl, Or.inr rfl, Or.inr rfl, Or.inl rfl, Or.inr rfl, trivial⟩ ?_
              refine ih ((f_Years_draw P (nI 6) Z).2) (k + 1) (by omega) (by omega) ?_
              rw [f_Years_play_13, if_neg (Nat.not_le.mpr H1), if_pos H3, if_neg H4, if_neg H5, if_pos H6] at hk
              exact hk
            · refine pw_aload_n e_Years_play_118 rfl ?_
              refine pw_aload_n e_Years_play_119 rfl ?_
              refine pw_aload_n e_Years_play_120 rfl ?_
              refine pw_iload e_Years_play_121 rfl ?_
              refine pw_iconst (v := nI 2) e_Years_play_123 (by decide) ?_
              refine pw_icmp_neN (tgt := 131) e_Years_play_124 (by decide) (by omega) (by omega) (fun (H7 : ¬ (drN P 6 Z) = 2) => ?_) (fun (H7 : (drN P 6 Z) = 2) => ?_)
              · refine pw_iconst (v := nI 0) e_Years_play_131 (by decide) ?_
                refine pw_detV (As := [.ref (A 30), .ref (A 500), .int (nI (0))]) e_Years_play_132 li_Years_51 rfl (gO_get hnd (i := 63) rfl) (q_Years_tellBlock hst hnd hw 0 (pos_of (by omega) (by assumption)) ((f_Years_draw P (nI 6) Z).2) (gO_in hnd (fun _ z => z))) rfl (by decide) (Nat.le_of_ble_eq_true rfl) rfl ?_
                refine pw_sameG hnd ?_
                refine pw_iincN (ls2 := [_, _, _, _, _, _, _, _]) e_Years_play_135 rfl (by decide) rfl ?_
                refine pw_goto (tgt := 13) e_Years_play_138 (by decide) ?_
                refine pw_fgt (ls' := [.ref (A 504), .ref (A 30), .ref (A 500), .int (x), .int (nI (n)), .int (nI (k + 1)), .retAddr 0, .retAddr 0]) ⟨Or.inr rfl, Or.inr rfl, Or.inr rfl, Or.inr rfl, Or.inr rfl, Or.inr rfl, Or.inl rfl, Or.inr rfl, trivial⟩ ?_
                refine ih (f_Years_tellBlock P 0 ((f_Years_draw P (nI 6) Z).2)) (k + 1) (by omega) (by omega) ?_
                rw [f_Years_play_13, if_neg (Nat.not_le.mpr H1), if_pos H3, if_neg H4, if_neg H5, if_neg H6, if_neg H7] at hk
                exact hk
              · refine pw_iconst (v := nI 1) e_Years_play_127 (by decide) ?_
                refine pw_goto (tgt := 132) e_Years_play_128 (by decide) ?_
                refine pw_detV (As := [.ref (A 30), .ref (A 500), .int (nI (1))]) e_Years_play_132 li_Years_51 rfl (gO_get hnd (i := 63) rfl) (q_Years_tellBlock hst hnd hw 1 (pos_of (by omega) (by assumption)) ((f_Years_draw P (nI 6) Z).2) (gO_in hnd (fun _ z => z))) rfl (by decide) (Nat.le_of_ble_eq_true rfl) rfl ?_
                refine pw_sameG hnd ?_
                refine pw_iincN (ls2 := [_, _, _, _, _, _, _, _]) e_Years_play_135 rfl (by decide) rfl ?_
                refine pw_goto (tgt := 13) e_Years_play_138 (by decide) ?_
                refine pw_fgt (ls' := [.ref (A 504), .ref (A 30), .ref (A 500), .int (x), .int (nI (n)), .int (nI (k + 1)), .retAddr 0, .retAddr 0]) ⟨Or.inr rfl, Or.inr rfl, Or.inr rfl, Or.inr rfl, Or.inr rfl, Or.inr rfl, Or.inl rfl, Or.inr rfl, trivial⟩ ?_
                refine ih (f_Years_tellBlock P 1 ((f_Years_draw P (nI 6) Z).2)) (k + 1) (by omega) (by omega) ?_
                rw [f_Years_play_13, if_neg (Nat.not_le.mpr H1), if_pos H3, if_neg H4, if_neg H5, if_neg H6, if_pos H7] at hk
                exact hk
          · refine pw_aload_n e_Years_play_99 rfl ?_
            refine pw_aload_n e_Years_play_100 rfl ?_
            refine pw_iconst (v := nI 4) e_Years_play_101 (by decide) ?_
            have hb8 := (dr_of (P := P) (n := 4) (Z := ((f_Years_draw P (nI 6) Z).2)) (by omega) (by omega)).2
            refine pw_detV (As := [.int (nI (4))]) e_Years_play_102 li_Years_18 rfl (gO_get hnd (i := 63) rfl) (q_dr hst hnd hw 4 ((f_Years_draw P (nI 6) Z).2) (by omega) (by omega)) rfl (by decide) (Nat.le_of_ble_eq_true rfl) rfl ?_
            refine pw_sameG hnd ?_
            refine pw_detV (As := [.int (nI (drN P 4 ((f_Years_draw P (nI 6) Z).2)))]) e_Years_play_105 li_Years_44 rfl (gO_get hnd (i := 51) rfl) (q_State_turnSensor hst (bs_ne hnd (i := 51) (j := 52) rfl rfl (by decide)) (nI (drN P 4 ((f_Years_draw P (nI 6) Z).2))) (((f_Years_draw P (nI 4) ((f_Years_draw P (nI 6) Z).2)).2) 501) (gO_get hnd (i := 52) rfl)) rfl (by decide) (Nat.le_of_ble_eq_true rfl) rfl ?_
            refine pw_upG (i := 52) hnd (bs_x _ _ _ _ _) rfl rfl ?_
            refine pw_goto (tgt := 135) e_Years_play_108 (by decide) ?_
            refine pw_iincN (ls2 := [_, _, _, _, _, _, _, _]) e_Years_play_135 rfl (by decide) rfl ?_
            refine pw_goto (tgt := 13) e_Years_play_138 (by decide) ?_
            refine pw_fgt (ls' := [.ref (A 504), .ref (A 30), .ref (A 500), .int (x), .int (nI (n)), .int (nI (k + 1)), .retAddr 0, .retAddr 0]) ⟨Or.inr rfl, Or.inr rfl, Or.inr rfl, Or.inr rfl, Or.inr rfl, Or.inr rfl, Or.inl rfl, Or.inr rfl, trivial⟩ ?_
            refine ih (va_up ((f_Years_draw P (nI 4) ((f_Years_draw P (nI 6) Z).2)).2) 501 (f_State_turnSensor (nI (drN P 4 ((f_Years_draw P (nI 6) Z).2))) (((f_Years_draw P (nI 4) ((f_Years_draw P (nI 6) Z).2)).2) 501))) (k + 1) (by omega) (by omega) ?_
            rw [f_Years_play_13, if_neg (Nat.not_le.mpr H1), if_pos H3, if_neg H4, if_pos H5] at hk
            exact hk
        · refine pw_aload_n e_Years_play_56 rfl ?_
          refine pw_aload_n e_Years_play_57 rfl ?_
          refine pw_getf e_Years_play_58 fl_Years_26 (gO_get hnd (i := 0) rfl) rfl ?_
          rw [hw.dvs.1]
          have hb9 := (dr_of (P := P) (n := (pN P 30 0)) (Z := ((f_Years_draw P (nI 6) Z).2)) (by omega) (by omega)).2
          refine pw_detV (As := [.int (nI (pN P 30 0))]) e_Years_play_61 li_Years_18 rfl (gO_get hnd (i := 63) rfl) (q_dr hst hnd hw (pN P 30 0) ((f_Years_draw P (nI 6) Z).2) (by omega) (by omega)) rfl (by decide) (Nat.le_of_ble_eq_true rfl) rfl ?_
          refine pw_sameG hnd ?_
          refine pw_istore (ls2 := [_, _, _, _, _, _, _, _]) e_Years_play_64 (by decide) rfl ?_
          refine pw_aload_n e_Years_play_66 rfl ?_
          refine pw_iload e_Years_play_67 rfl ?_
          refine pw_aload_n e_Years_play_69 rfl ?_
          refine pw_iload e_Years_play_70 rfl ?_
          refine pw_detV (As := [.int (nI (drN P (pN P 30 0) ((f_Years_draw P (nI 6) Z).2)))]) e_Years_play_72 li_Years_31 rfl (gO_get hnd (i := 51) rfl) (q_State_isOn hst (gO_get hnd (i := 51) rfl) (((f_Years_draw P (nI (pN P 30 0)) ((f_Years_draw P (nI 6) Z).2)).2) 501) (gO_get hnd (i := 52) rfl) (nI (drN P (pN P 30 0) ((f_Years_draw P (nI 6) Z).2)))) rfl (by decide) (Nat.le_of_ble_eq_true rfl) rfl ?_
          refine pw_if_ne (tgt := 82) e_Years_play_75 (by decide) (fun (H10 : ¬ (f_State_isOn (((f_Years_draw P (nI (pN P 30 0)) ((f_Years_draw P (nI 6) Z).2)).2) 501) (nI (drN P (pN P 30 0) ((f_Years_draw P (nI 6) Z).2)))) = 0) => ?_) (fun (H10 : (f_State_isOn (((f_Years_draw P (nI (pN P 30 0)) ((f_Years_draw P (nI 6) Z).2)).2) 501) (nI (drN P (pN P 30 0) ((f_Years_draw P (nI 6) Z).2)))) = 0) => ?_)
          · refine pw_iconst (v := nI 0) e_Years_play_82 (by decide) ?_
            refine pw_aload_n e_Years_play_83 rfl ?_
            refine pw_getf e_Years_play_84 fl_Years_37 (gO_get hnd (i := 0) rfl) rfl ?_
            refine pw_detV (As := [.int (nI (drN P (pN P 30 0) ((f_Years_draw P (nI 6) Z).2))), .int (nI (0)), .int (P 30 2)]) e_Years_play_87 li_Years_40 rfl (gO_get hnd (i := 51) rfl) (q_State_switchDevice hst (bs_ne hnd (i := 51) (j := 52) rfl rfl (by decide)) (nI (drN P (pN P 30 0) ((f_Years_draw P (nI 6) Z).2))) 0 (P 30 2) (((f_Years_draw P (nI (pN P 30 0)) ((f_Years_draw P (nI 6) Z).2)).2) 501) (gO_get hnd (i := 52) rfl)) rfl (by decide) (Nat.le_of_ble_eq_true rfl) rfl ?_
            refine pw_upG (i := 52) hnd (bs_x _ _ _ _ _) rfl rfl ?_
            refine pw_goto (tgt := 135) e_Years_play_90 (by decide) ?_
            refine pw_iincN (ls2 := [_, _, _, _, _, _, _, _]) e_Years_play_135 rfl (by decide) rfl ?_
            refine pw_goto (tgt := 13) e_Years_play_138 (by decide) ?_
            refine pw_fgt (ls' := [.ref (A 504), .ref (A 30), .ref (A 500), .int (x), .int (nI (n)), .int (nI (k + 1)), .retAddr 0, .retAddr 0]) ⟨Or.inr rfl, Or.inr rfl, Or.inr rfl, Or.inr rfl, Or.inr rfl, Or.inr rfl, Or.inl rfl, Or.inl rfl, trivial⟩ ?_
            refine ih (va_up ((f_Years_draw P (nI (pN P 30 0)) ((f_Years_draw P (nI 6) Z).2)).2) 501 (f_State_switchDevice (nI (drN P (pN P 30 0) ((f_Years_draw P (nI 6) Z).2))) 0 (P 30 2) (((f_Years_draw P (nI (pN P 30 0)) ((f_Years_draw P (nI 6) Z).2)).2) 501))) (k + 1) (by omega) (by omega) ?_
            rw [f_Years_play_13, if_neg (Nat.not_le.mpr H1), if_pos H3, if_pos H4, if_neg H10] at hk
            exact hk
          · refine pw_iconst (v := nI 1) e_Years_play_78 (by decide) ?_
            refine pw_goto (tgt := 83) e_Years_play_79 (by decide) ?_
            refine pw_aload_n e_Years_play_83 rfl ?_
            refine pw_getf e_Years_play_84 fl_Years_37 (gO_get hnd (i := 0) rfl) rfl ?_
            refine pw_detV (As := [.int (nI (drN P (pN P 30 0) ((f_Years_draw P (nI 6) Z).2))), .int (nI (1)), .int (P 30 2)]) e_Years_play_87 li_Years_40 rfl (gO_get hnd (i := 51) rfl) (q_State_switchDevice hst (bs_ne hnd (i := 51) (j := 52) rfl rfl (by decide)) (nI (drN P (pN P 30 0) ((f_Years_draw P (nI 6) Z).2))) 1 (P 30 2) (((f_Years_draw P (nI (pN P 30 0)) ((f_Years_draw P (nI 6) Z).2)).2) 501) (gO_get hnd (i := 52) rfl)) rfl (by decide) (Nat.le_of_ble_eq_true rfl) rfl ?_
            refine pw_upG (i := 52) hnd (bs_x _ _ _ _ _) rfl rfl ?_
            refine pw_goto (tgt := 135) e_Years_play_90 (by decide) ?_
            refine pw_iincN (ls2 := [_, _, _, _, _, _, _, _]) e_Years_play_135 rfl (by decide) rfl ?_
            refine pw_goto (tgt := 13) e_Years_play_138 (by decide) ?_
            refine pw_fgt (ls' := [.ref (A 504), .ref (A 30), .ref (A 500), .int (x), .int (nI (n)), .int (nI (k + 1)), .retAddr 0, .retAddr 0]) ⟨Or.inr rfl, Or.inr rfl, Or.inr rfl, Or.inr rfl, Or.inr rfl, Or.inr rfl, Or.inl rfl, Or.inl rfl, trivial⟩ ?_
            refine ih (va_up ((f_Years_draw P (nI (pN P 30 0)) ((f_Years_draw P (nI 6) Z).2)).2) 501 (f_State_switchDevice (nI (drN P (pN P 30 0) ((f_Years_draw P (nI 6) Z).2))) 1 (P 30 2) (((f_Years_draw P (nI (pN P 30 0)) ((f_Years_draw P (nI 6) Z).2)).2) 501))) (k + 1) (by omega) (by omega) ?_
            rw [f_Years_play_13, if_neg (Nat.not_le.mpr H1), if_pos H3, if_pos H4, if_pos H10] at hk
            exact hk
      · refine pw_aload_n e_Years_play_34 rfl ?_
        refine pw_aload_n e_Years_play_35 rfl ?_
        refine pw_aload_n e_Years_play_36 rfl ?_
        refine pw_aload_n e_Years_play_37 rfl ?_
        refine pw_iconst (v := nI 5) e_Years_play_38 (by decide) ?_
        have hb11 := (dr_of (P := P) (n := 5) (Z := ((f_Years_draw P (nI 6) Z).2)) (by omega) (by omega)).2
        refine pw_detV (As := [.int (nI (5))]) e_Years_play_39 li_Years_18 rfl (gO_get hnd (i := 63) rfl) (q_dr hst hnd hw 5 ((f_Years_draw P (nI 6) Z).2) (by omega) (by omega)) rfl (by decide) (Nat.le_of_ble_eq_true rfl) rfl ?_
        refine pw_sameG hnd ?_
        refine pw_iconst (v := nI 1) e_Years_play_42 (by decide) ?_
        refine pw_iaddN e_Years_play_43 ?_
        refine pw_detV (As := [.ref (A 30), .ref (A 500), .int (nI ((drN P 5 ((f_Years_draw P (nI 6) Z).2)) + 1))]) e_Years_play_44 li_Years_22 rfl (gO_get hnd (i := 63) rfl) (q_Years_passSome hst hnd hw ((drN P 5 ((f_Years_draw P (nI 6) Z).2)) + 1) (by omega) ((f_Years_draw P (nI 5) ((f_Years_draw P (nI 6) Z).2)).2) (gO_in hnd (fun _ z => z))) rfl (by decide) (Nat.le_of_ble_eq_true rfl) rfl ?_
        refine pw_sameG hnd ?_
        refine pw_goto (tgt := 135) e_Years_play_47 (by decide) ?_
        refine pw_iincN (ls2 := [_, _, _, _, _, _, _, _]) e_Years_play_135 rfl (by decide) rfl ?_
        refine pw_goto (tgt := 13) e_Years_play_138 (by decide) ?_
        refine pw_fgt (ls' := [.ref (A 504), .ref (A 30), .ref (A 500), .int (x), .int (nI (n)), .int (nI (k + 1)), .retAddr 0, .retAddr 0]) ⟨Or.inr rfl, Or.inr rfl, Or.inr rfl, Or.inr rfl, Or.inr rfl, Or.inr rfl, Or.inl rfl, Or.inr rfl, trivial⟩ ?_
        refine ih (f_Years_passSome P ((drN P 5 ((f_Years_draw P (nI 6) Z).2)) + 1) ((f_Years_draw P (nI 5) ((f_Years_draw P (nI 6) Z).2)).2)) (k + 1) (by omega) (by omega) ?_
        rw [f_Years_play_13, if_neg (Nat.not_le.mpr H1), if_neg (Nat.not_lt.mpr H3)] at hk
        exact hk
def f_Years_play (P : Nat → Nat → Int32) (x : Int32) (n : Nat) (Z : Nat → Nat → Int32) : (Nat → Nat → Int32) :=
  f_Years_play_13 P x n 31 (u2 (u2 Z 504 0 0) 504 1 x) 0
set_option maxRecDepth 4000 in
theorem w_Years_play_0 {g : GG} {Q : QT} {h : Hp} {kc ks : Nat} (hst : (gl g).stackTraces = false) {A : Nat → Nat} {S : SA} {P Y : Nat → Nat → Int32} (hnd : (gK (bsL g A S P Y)).Nodup) (hw : wfP P) (x : Int32) (n : Nat) (hn : n < 31) (hd1 : 0 < pN P 30 0)  (Z : Nat → Nat → Int32) (hk : Q (.inl none) (ov h (gO (bsL g A S P Y) (f_Years_play P x n Z)))) : PW g M_Years_play 6 kc ks Q 0 [.ref (A 504), .ref (A 30), .ref (A 500), .int (x), .int (nI (n)), .retAddr 0, .retAddr 0, .retAddr 0] [] (ov h (gO (bsL g A S P Y) Z)) := by
  have hz0 := hw.blk.2
  have hz1 := hw.lnk.2
  have hz2 := hw.dvs.2
  refine pw_aload_n e_Years_play_0 rfl ?_
  refine pw_iconst (v := nI 0) e_Years_play_1 (by decide) ?_
  refine pw_putGi (i := 63) (ps := 0) (x := 0) e_Years_play_2 fp_Years_9 hnd (bs_x _ _ _ _ _) rfl (Nat.le_of_ble_eq_true rfl) rfl rfl (fun _ _ => rfl) ?_
  refine pw_aload_n e_Years_play_5 rfl ?_
  refine pw_iload_n e_Years_play_6 rfl ?_
  refine pw_putGi (i := 63) (ps := 1) (x := x) e_Years_play_7 fp_Years_15 hnd (bs_x _ _ _ _ _) rfl (Nat.le_of_ble_eq_true rfl) rfl rfl (fun _ _ => rfl) ?_
  refine pw_iconst (v := nI 0) e_Years_play_10 (by decide) ?_
  refine pw_istore (ls2 := [_, _, _, _, _, _, _, _]) e_Years_play_11 (by decide) rfl ?_
  refine w_Years_play_13 hst hnd hw x n hn hd1 31 (u2 (u2 Z 504 0 0) 504 1 x) 0 (by omega) (by omega) ?_
  refine pw_vret e_Years_play_141 rfl ?_
  rw [f_Years_play] at hk
  exact hk
theorem q_Years_play {g : GG} {h : Hp} (hst : (gl g).stackTraces = false) {A : Nat → Nat} {S : SA} {P Y : Nat → Nat → Int32} (hnd : (gK (bsL g A S P Y)).Nodup) (hw : wfP P) (x : Int32) (n : Nat) (hn : n < 31) (hd1 : 0 < pN P 30 0)  (Z : Nat → Nat → Int32) (hm : ∀ q ∈ gO (bsL g A S P Y) Z, h q.1 = some q.2) : PM g M_Years_play 6 0 0 [.ref (A 504), .ref (A 30), .ref (A 500), .int (x), .int (nI (n))] h (RetV none (ov h (gO (bsL g A S P Y) (f_Years_play P x n Z)))) := by
  refine PM.of hst (by decide) rfl (fun v hv => ?_) (Nat.le_of_ble_eq_true rfl) ?_
  · simp only [List.mem_cons, List.not_mem_nil, or_false] at hv; rcases hv with rfl | rfl | rfl | rfl | rfl <;> rfl
  · have hq := w_Years_play_0 (g := g) (Q := RetV none (ov h (gO (bsL g A S P Y) (f_Years_play P x n Z)))) (h := h) (kc := 0) (ks := 0) hst hnd hw x n hn hd1 Z ?_
    · rw [ov_self hm] at hq; exact hq
    · exact ⟨rfl, rfl⟩

def f_Bus_years_24 (P : Nat → Nat → Int32) (x y z : Int32) (Z : Nat → Nat → Int32) (n : Nat) : (Int32 ⊕ String) × (Nat → Nat → Int32) :=
  if z = 1 then (.inl (((f_Years_play P x n (va_up Z 501 (Z 302))) 501) 220), f_Years_play P x n (va_up Z 501 (Z 302))) else if z = 2 then (.inl ((f_Years_play P x n (va_up Z 501 (Z 302))) 504 0), f_Years_play P x n (va_up Z 501 (Z 302))) else (.inl (f_State_sumOfOuts ((f_Years_play P x n (va_up Z 501 (Z 302))) 501) (pN P 30 3)), f_Years_play P x n (va_up Z 501 (Z 302)))
set_option maxRecDepth 4000 in
theorem w_Bus_years_24 {g : GG} {Q : QT} {h : Hp} (hst : (gl g).stackTraces = false) {A : Nat → Nat} {S : SA} {P Y : Nat → Nat → Int32} (hnd : (gK (bsL g A S P Y)).Nodup) (hw : wfP P) (x y z : Int32) (hd1 : 0 < pN P 30 0)  (Z : Nat → Nat → Int32) (n : Nat) (hn : n < 31) (hk : Q (outX (f_Bus_years_24 P x y z Z n).1) (ov h (gO (bsL g A S P Y) ((f_Bus_years_24 P x y z Z n).2)))) : PW g M_Bus_years 7 0 0 Q 24 [.ref (A 507), .int (x), .int (nI (n)), .int (z)] [] (ov h (gO (bsL g A S P Y) Z)) := by
  have hz0 := hw.blk.2
  have hz1 := hw.lnk.2
  have hz2 := hw.dvs.2
  refine pw_aload_n e_Bus_years_24 rfl ?_
  refine pw_getf e_Bus_years_25 fl_Bus_51 (gO_get hnd (i := 29) rfl) rfl ?_
  refine pw_aload_n e_Bus_years_28 rfl ?_
  refine pw_getf e_Bus_years_29 fl_Bus_37 (gO_get hnd (i := 29) rfl) rfl ?_
  refine pw_getf e_Bus_years_32 fl_Bus_76 (gO_get hnd (i := 31) rfl) rfl ?_
  refine pw_detV (As := [.ref (A 301)]) e_Bus_years_35 li_Bus_265 rfl (gO_get hnd (i := 51) rfl) (q_State_copyFrom hst (gO_get hnd (i := 51) rfl) (gO_get hnd (i := 32) rfl) (Z 501) (Z 302) (gO_get hnd (i := 52) rfl) (gO_get hnd (i := 33) rfl)) rfl (by decide) (Nat.le_of_ble_eq_true rfl) rfl ?_
  refine pw_upG (i := 52) hnd (bs_x _ _ _ _ _) rfl rfl ?_
  refine pw_aload_n e_Bus_years_38 rfl ?_
  refine pw_getf e_Bus_years_39 fl_Bus_68 (gO_get hnd (i := 29) rfl) rfl ?_
  refine pw_aload_n e_Bus_years_42 rfl ?_
  refine pw_getf e_Bus_years_43 fl_Bus_23 (gO_get hnd (i := 29) rfl) rfl ?_
  refine pw_aload_n e_Bus_years_46 rfl ?_
  refine pw_getf e_Bus_years_47 fl_Bus_51 (gO_get hnd (i := 29) rfl) rfl ?_
  refine pw_iload_n e_Bus_years_50 rfl ?_
  refine pw_iload_n e_Bus_years_51 rfl ?_
  refine pw_detV (As := [.ref (A 30), .ref (A 500), .int (x), .int (nI (n))]) e_Bus_years_52 li_Bus_327 rfl (gO_get hnd (i := 63) rfl) (q_Years_play hst hnd hw x n (by omega) hd1 (va_up Z 501 (Z 302)) (gO_in hnd (fun _ z => z))) rfl (by decide) (Nat.le_of_ble_eq_true rfl) rfl ?_
  refine pw_sameG hnd ?_
  refine pw_iload_n e_Bus_years_55 rfl ?_
  refine pw_iconst (v := nI 1) e_Bus_years_56 (by decide) ?_
  refine pw_icmp_ne (tgt := 72) e_Bus_years_57 (by decide) (fun (H1 : ¬ z = 1) => ?_) (fun (H1 : z = 1) => ?_)
  · refine pw_iload_n e_Bus_years_72 rfl ?_
    refine pw_iconst (v := nI 2) e_Bus_years_73 (by decide) ?_
    refine pw_icmp_ne (tgt := 87) e_Bus_years_74 (by decide) (fun (H2 : ¬ z = 2) => ?_) (fun (H2 : z = 2) => ?_)
    · refine pw_aload_n e_Bus_years_87 rfl ?_
      refine pw_getf e_Bus_years_88 fl_Bus_51 (gO_get hnd (i := 29) rfl) rfl ?_
      refine pw_aload_n e_Bus_years_91 rfl ?_
      refine pw_getf e_Bus_years_92 fl_Bus_23 (gO_get hnd (i := 29) rfl) rfl ?_
      refine pw_getf e_Bus_years_95 fl_Bus_133 (gO_get hnd (i := 0) rfl) rfl ?_
      rw [hw.blk.1]
      refine pw_detV (As := [.int (nI (pN P 30 3))]) e_Bus_years_98 li_Bus_334 rfl (gO_get hnd (i := 51) rfl) (q_State_sumOfOuts hst (gO_get hnd (i := 51) rfl) ((f_Years_play P x n (va_up Z 501 (Z 302))) 501) (gO_get hnd (i := 52) rfl) (pN P 30 3) (by omega)) rfl (by decide) (Nat.le_of_ble_eq_true rfl) rfl ?_
      refine pw_iret e_Bus_years_101 rfl rfl ?_
      rw [f_Bus_years_24, if_neg H1, if_neg H2] at hk
      exact hk
    · refine pw_aload_n e_Bus_years_77 rfl ?_
      refine pw_getf e_Bus_years_78 fl_Bus_68 (gO_get hnd (i := 29) rfl) rfl ?_
      refine pw_getf e_Bus_years_81 fl_Bus_331 (gO_get hnd (i := 63) rfl) rfl ?_
      refine pw_goto (tgt := 101) e_Bus_years_84 (by decide) ?_
      refine pw_iret e_Bus_years_101 rfl rfl ?_
      rw [f_Bus_years_24, if_neg H1, if_pos H2] at hk
      exact hk
  · refine pw_aload_n e_Bus_years_60 rfl ?_
    refine pw_getf e_Bus_years_61 fl_Bus_51 (gO_get hnd (i := 29) rfl) rfl ?_
    refine pw_getf e_Bus_years_64 fl_Bus_127 (gO_get hnd (i := 51) rfl) rfl ?_
    refine pw_sipush (v := nI 220) e_Bus_years_67 (by decide) ?_
    refine pw_ialdN e_Bus_years_70 (gO_get hnd (i := 52) rfl) (by omega) (by decide) ?_
    refine pw_iret e_Bus_years_71 rfl rfl ?_
    rw [f_Bus_years_24, if_pos H1] at hk
    exact hk
def f_Bus_years (P : Nat → Nat → Int32) (x y z : Int32) (Z : Nat → Nat → Int32) : (Int32 ⊕ String) × (Nat → Nat → Int32) :=
  if z < 0 then (.inr "java/util/NoSuchElementException", Z) else if z ≤ 2 then if ¬ y < nI 0 ∧ y ≤ nI 30 then f_Bus_years_24 P x y z Z y.toNatClampNeg else (.inr "java/lang/IllegalArgumentException", Z) else (.inr "java/util/NoSuchElementException", Z)
set_option maxRecDepth 4000 in
theorem w_Bus_years_0 {g : GG} {Q : QT} {h : Hp} (hst : (gl g).stackTraces = false) {A : Nat → Nat} {S : SA} {P Y : Nat → Nat → Int32} (hnd : (gK (bsL g A S P Y)).Nodup) (hw : wfP P) (x y z : Int32) (hd1 : 0 < pN P 30 0)  (Z : Nat → Nat → Int32) (hk : Q (outX (f_Bus_years P x y z Z).1) (ov h (gO (bsL g A S P Y) ((f_Bus_years P x y z Z).2)))) : PW g M_Bus_years 7 1 6 Q 0 [.ref (A 507), .int (x), .int (y), .int (z)] [] (ov h (gO (bsL g A S P Y) Z)) := by
  have hz0 := hw.blk.2
  have hz1 := hw.lnk.2
  have hz2 := hw.dvs.2
  refine pw_iload_n e_Bus_years_0 rfl ?_
  refine pw_if_lt (tgt := 9) e_Bus_years_1 (by decide) (fun (H1 : z < 0) => ?_) (fun (H1 : ¬ z < 0) => ?_)
  · refine pw_nse (kc := 0) (ks := 0) rfl e_Bus_years_9 e_Bus_years_12 e_Bus_years_13 e_Bus_years_16 rfl (by decide) (Nat.le_of_ble_eq_true rfl) ?_
    rw [f_Bus_years, if_pos H1] at hk
    exact hk
  · refine pw_iload_n e_Bus_years_4 rfl ?_
    refine pw_iconst (v := nI 2) e_Bus_years_5 (by decide) ?_
    refine pw_icmp_le (tgt := 17) e_Bus_years_6 (by decide) (fun (H2 : z ≤ 2) => ?_) (fun (H2 : ¬ z ≤ 2) => ?_)
    · refine pw_iload_n e_Bus_years_17 rfl ?_
      refine pw_iconst (v := nI 0) e_Bus_years_18 (by decide) ?_
      refine pw_bipush (v := nI 30) e_Bus_years_19 (by decide) ?_
      refine pw_brS (kc := 0) (ks := 0) (As := [.int (y), .int (nI (0)), .int (nI (30))]) e_Bus_years_21 li_Bus_261 (q_Bus_needWithin hst y (nI 0) (nI 30)) rfl (by decide) (Nat.le_of_ble_eq_true rfl) rfl rfl (fun (H3 : ¬ y < nI 0 ∧ y ≤ nI 30) => ?_) (fun (H3 : ¬ (¬ y < nI 0 ∧ y ≤ nI 30)) => ?_)
      · refine pw_eqls (ls' := [.ref (A 507), .int (x), .int (nI (y.toNatClampNeg)), .int (z)]) (by rw [← (show y = nI (y.toNatClampNeg) from (win_of (by decide) H3).1)]) ?_
        refine w_Bus_years_24 hst hnd hw x y z hd1 Z y.toNatClampNeg (win_of (by decide) H3).2 ?_
        rw [f_Bus_years, if_neg H1, if_pos H2, if_pos H3] at hk
        exact hk
      · rw [f_Bus_years, if_neg H1, if_pos H2, if_neg H3] at hk
        exact hk
    · refine pw_nse (kc := 0) (ks := 0) rfl e_Bus_years_9 e_Bus_years_12 e_Bus_years_13 e_Bus_years_16 rfl (by decide) (Nat.le_of_ble_eq_true rfl) ?_
      rw [f_Bus_years, if_neg H1, if_neg H2] at hk
      exact hk
theorem q_Bus_years {g : GG} {h : Hp} (hst : (gl g).stackTraces = false) {A : Nat → Nat} {S : SA} {P Y : Nat → Nat → Int32} (hnd : (gK (bsL g A S P Y)).Nodup) (hw : wfP P) (x y z : Int32) (hd1 : 0 < pN P 30 0)  (Z : Nat → Nat → Int32) (hm : ∀ q ∈ gO (bsL g A S P Y) Z, h q.1 = some q.2) : PM g M_Bus_years 7 1 6 [.ref (A 507), .int (x), .int (y), .int (z)] h (RetX (f_Bus_years P x y z Z).1 (ov h (gO (bsL g A S P Y) ((f_Bus_years P x y z Z).2)))) := by
  refine PM.of hst (by decide) rfl (fun v hv => ?_) (Nat.le_of_ble_eq_true rfl) ?_
  · simp only [List.mem_cons, List.not_mem_nil, or_false] at hv; rcases hv with rfl | rfl | rfl | rfl <;> rfl
  · have hq := w_Bus_years_0 (g := g) (Q := RetX (f_Bus_years P x y z Z).1 (ov h (gO (bsL g A S P Y) ((f_Bus_years P x y z Z).2)))) (h := h) hst hnd hw x y z hd1 Z ?_
    · rw [ov_self hm] at hq; exact hq
    · exact ⟨rfl, rfl⟩

def f_Bus_putBytes (P : Nat → Nat → Int32) (n : Nat) (x : Int32) (Z : Nat → Nat → Int32) : (Nat → Nat → Int32) :=
  u2 (u2 (u2 (u2 (u2 (u2 (u2 (u2 Z 506 n (vp_nar .byte (((x.toUInt32 >>> ((nI 24).toUInt32 &&& Int32.toUInt32 31)).toInt32).toInt8.toInt32))) 507 1 (nI (n + 1))) 506 (n + 1) (vp_nar .byte (((x.toUInt32 >>> ((nI 16).toUInt32 &&& Int32.toUInt32 31)).toInt32).toInt8.toInt32))) 507 1 (nI ((n + 1) + 1))) 506 ((n + 1) + 1) (vp_nar .byte (((x.toUInt32 >>> ((nI 8).toUInt32 &&& Int32.toUInt32 31)).toInt32).toInt8.toInt32))) 507 1 (nI (((n + 1) + 1) + 1))) 506 (((n + 1) + 1) + 1) (vp_nar .byte (((x.toUInt32 >>> ((nI 0).toUInt32 &&& Int32.toUInt32 31)).toInt32).toInt8.toInt32))) 507 1 (nI ((((n + 1) + 1) + 1) + 1))
set_option maxRecDepth 4000 in
theorem w_Bus_putBytes_0 {g : GG} {Q : QT} {h : Hp} {kc ks : Nat} (hst : (gl g).stackTraces = false) {A : Nat → Nat} {S : SA} {P Y : Nat → Nat → Int32} (hnd : (gK (bsL g A S P Y)).Nodup) (hw : wfP P) (n : Nat) (x : Int32) (hn : n + 4 ≤ 900)  (Z : Nat → Nat → Int32) (ht : Z 507 1 = nI n) (hk : Q (.inl none) (ov h (gO (bsL g A S P Y) (f_Bus_putBytes P n x Z)))) : PW g M_Bus_putBytes 0 kc ks Q 0 [.ref (A 507), .int (x), .retAddr 0] [] (ov h (gO (bsL g A S P Y) Z)) := by
  have hz0 := hw.blk.2
  have hz1 := hw.lnk.2
  have hz2 := hw.dvs.2
  refine pw_bipush (v := nI 24) e_Bus_putBytes_0 (by decide) ?_
  refine pw_istore_n (ls2 := [_, _, _]) e_Bus_putBytes_2 (by decide) rfl ?_
  refine pw_iload_n e_Bus_putBytes_3 rfl ?_
  refine pw_if_lt (tgt := 36) e_Bus_putBytes_4 (by decide) (fun (H1 : 24 < 0) => ?_) (fun (H1 : ¬ 24 < 0) => ?_)
  · exact absurd H1 (by decide)
  · refine pw_aload_n e_Bus_putBytes_7 rfl ?_
    refine pw_getf e_Bus_putBytes_8 fl_Bus_9 (gO_get hnd (i := 29) rfl) rfl ?_
    refine pw_aload_n e_Bus_putBytes_11 rfl ?_
    refine pw_getf e_Bus_putBytes_12 fl_Bus_13 (gO_get hnd (i := 29) rfl) rfl ?_
    refine pw_eqst (congrArg (fun q => Value.int q :: [.ref (A 506)]) (show _ = nI (n) from ht)) ?_
    refine pw_iload_n e_Bus_putBytes_15 rfl ?_
    refine pw_iload_n e_Bus_putBytes_16 rfl ?_
    refine pw_iushr e_Bus_putBytes_17 ?_
    refine pw_i2b e_Bus_putBytes_18 ?_
    refine pw_bastG (i := 30) e_Bus_putBytes_19 hnd (bs_x _ _ _ _ _) rfl (by omega) (by decide) ?_
    refine pw_aload_n e_Bus_putBytes_20 rfl ?_
    refine pw_dup e_Bus_putBytes_21 rfl ?_
    refine pw_getf e_Bus_putBytes_22 fl_Bus_13 (gO_get hnd (i := 29) rfl) rfl ?_
    refine pw_eqst (congrArg (fun q => Value.int q :: [.ref (A 507)]) (show _ = nI (n) from (u2_o (by decide) ht))) ?_
    refine pw_iconst (v := nI 1) e_Bus_putBytes_25 (by decide) ?_
    refine pw_iaddN e_Bus_putBytes_26 ?_
    refine pw_putGi (i := 29) (ps := 1) (x := nI (n + 1)) e_Bus_putBytes_27 fp_Bus_13 hnd (bs_x _ _ _ _ _) rfl (Nat.le_of_ble_eq_true rfl) rfl rfl (fun _ _ => rfl) ?_
    refine pw_iinc (v := nI 16) (ls2 := [_, _, _]) e_Bus_putBytes_30 rfl (by decide) (by decide) rfl ?_
    refine pw_goto (tgt := 3) e_Bus_putBytes_33 (by decide) ?_
    refine pw_iload_n e_Bus_putBytes_3 rfl ?_
    refine pw_if_lt (tgt := 36) e_Bus_putBytes_4 (by decide) (fun (H2 : 16 < 0) => ?_) (fun (H2 : ¬ 16 < 0) => ?_)
    · exact absurd H2 (by decide)
    · refine pw_aload_n e_Bus_putBytes_7 rfl ?_
      refine pw_getf e_Bus_putBytes_8 fl_Bus_9 (gO_get hnd (i := 29) rfl) rfl ?_
      refine pw_aload_n e_Bus_putBytes_11 rfl ?_
      refine pw_getf e_Bus_putBytes_12 fl_Bus_13 (gO_get hnd (i := 29) rfl) rfl ?_
      refine pw_eqst (congrArg (fun q => Value.int q :: [.ref (A 506)]) (show _ = nI (n + 1) from u2_s)) ?_
      refine pw_iload_n e_Bus_putBytes_15 rfl ?_
      refine pw_iload_n e_Bus_putBytes_16 rfl ?_
      refine pw_iushr e_Bus_putBytes_17 ?_
      refine pw_i2b e_Bus_putBytes_18 ?_
      refine pw_bastG (i := 30) e_Bus_putBytes_19 hnd (bs_x _ _ _ _ _) rfl (by omega) (by decide) ?_
      refine pw_aload_n e_Bus_putBytes_20 rfl ?_
      refine pw_dup e_Bus_putBytes_21 rfl ?_
      refine pw_getf e_Bus_putBytes_22 fl_Bus_13 (gO_get hnd (i := 29) rfl) rfl ?_
      refine pw_eqst (congrArg (fun q => Value.int q :: [.ref (A 507)]) (show _ = nI (n + 1) from (u2_o (by decide) u2_s))) ?_
      refine pw_iconst (v := nI 1) e_Bus_putBytes_25 (by decide) ?_
      refine pw_iaddN e_Bus_putBytes_26 ?_
      refine pw_putGi (i := 29) (ps := 1) (x := nI ((n + 1) + 1)) e_Bus_putBytes_27 fp_Bus_13 hnd (bs_x _ _ _ _ _) rfl (Nat.le_of_ble_eq_true rfl) rfl rfl (fun _ _ => rfl) ?_
      refine pw_iinc (v := nI 8) (ls2 := [_, _, _]) e_Bus_putBytes_30 rfl (by decide) (by decide) rfl ?_
      refine pw_goto (tgt := 3) e_Bus_putBytes_33 (by decide) ?_
      refine pw_iload_n e_Bus_putBytes_3 rfl ?_
      refine pw_if_lt (tgt := 36) e_Bus_putBytes_4 (by decide) (fun (H3 : 8 < 0) => ?_) (fun (H3 : ¬ 8 < 0) => ?_)
      · exact absurd H3 (by decide)
      · refine pw_aload_n e_Bus_putBytes_7 rfl ?_
        refine pw_getf e_Bus_putBytes_8 fl_Bus_9 (gO_get hnd (i := 29) rfl) rfl ?_
        refine pw_aload_n e_Bus_putBytes_11 rfl ?_
        refine pw_getf e_Bus_putBytes_12 fl_Bus_13 (gO_get hnd (i := 29) rfl) rfl ?_
        refine pw_eqst (congrArg (fun q => Value.int q :: [.ref (A 506)]) (show _ = nI ((n + 1) + 1) from u2_s)) ?_
        refine pw_iload_n e_Bus_putBytes_15 rfl ?_
        refine pw_iload_n e_Bus_putBytes_16 rfl ?_
        refine pw_iushr e_Bus_putBytes_17 ?_
        refine pw_i2b e_Bus_putBytes_18 ?_
        refine pw_bastG (i := 30) e_Bus_putBytes_19 hnd (bs_x _ _ _ _ _) rfl (by omega) (by decide) ?_
        refine pw_aload_n e_Bus_putBytes_20 rfl ?_
        refine pw_dup e_Bus_putBytes_21 rfl ?_
        refine pw_getf e_Bus_putBytes_22 fl_Bus_13 (gO_get hnd (i := 29) rfl) rfl ?_
        refine pw_eqst (congrArg (fun q => Value.int q :: [.ref (A 507)]) (show _ = nI ((n + 1) + 1) from (u2_o (by decide) u2_s))) ?_
        refine pw_iconst (v := nI 1) e_Bus_putBytes_25 (by decide) ?_
        refine pw_iaddN e_Bus_putBytes_26 ?_
        refine pw_putGi (i := 29) (ps := 1) (x := nI (((n + 1) + 1) + 1)) e_Bus_putBytes_27 fp_Bus_13 hnd (bs_x _ _ _ _ _) rfl (Nat.le_of_ble_eq_true rfl) rfl rfl (fun _ _ => rfl) ?_
        refine pw_iinc (v := nI 0) (ls2 := [_, _, _]) e_Bus_putBytes_30 rfl (by decide) (by decide) rfl ?_
        refine pw_goto (tgt := 3) e_Bus_putBytes_33 (by decide) ?_
        refine pw_iload_n e_Bus_putBytes_3 rfl ?_
        refine pw_if_lt (tgt := 36) e_Bus_putBytes_4 (by decide) (fun (H4 : 0 < 0) => ?_) (fun (H4 : ¬ 0 < 0) => ?_)
        · exact absurd H4 (by decide)
        · refine pw_aload_n e_Bus_putBytes_7 rfl ?_
          refine pw_getf e_Bus_putBytes_8 fl_Bus_9 (gO_get hnd (i := 29) rfl) rfl ?_
          refine pw_aload_n e_Bus_putBytes_11 rfl ?_
          refine pw_getf e_Bus_putBytes_12 fl_Bus_13 (gO_get hnd (i := 29) rfl) rfl ?_
          refine pw_eqst (congrArg (fun q => Value.int q :: [.ref (A 506)]) (show _ = nI (((n + 1) + 1) + 1) from u2_s)) ?_
          refine pw_iload_n e_Bus_putBytes_15 rfl ?_
          refine pw_iload_n e_Bus_putBytes_16 rfl ?_
          refine pw_iushr e_Bus_putBytes_17 ?_
          refine pw_i2b e_Bus_putBytes_18 ?_
          refine pw_bastG (i := 30) e_Bus_putBytes_19 hnd (bs_x _ _ _ _ _) rfl (by omega) (by decide) ?_
          refine pw_aload_n e_Bus_putBytes_20 rfl ?_
          refine pw_dup e_Bus_putBytes_21 rfl ?_
          refine pw_getf e_Bus_putBytes_22 fl_Bus_13 (gO_get hnd (i := 29) rfl) rfl ?_
          refine pw_eqst (congrArg (fun q => Value.int q :: [.ref (A 507)]) (show _ = nI (((n + 1) + 1) + 1) from (u2_o (by decide) u2_s))) ?_
          refine pw_iconst (v := nI 1) e_Bus_putBytes_25 (by decide) ?_
          refine pw_iaddN e_Bus_putBytes_26 ?_
          refine pw_putGi (i := 29) (ps := 1) (x := nI ((((n + 1) + 1) + 1) + 1)) e_Bus_putBytes_27 fp_Bus_13 hnd (bs_x _ _ _ _ _) rfl (Nat.le_of_ble_eq_true rfl) rfl rfl (fun _ _ => rfl) ?_
          refine pw_iinc (v := (-8)) (ls2 := [_, _, _]) e_Bus_putBytes_30 rfl (by decide) (by decide) rfl ?_
          refine pw_goto (tgt := 3) e_Bus_putBytes_33 (by decide) ?_
          refine pw_iload_n e_Bus_putBytes_3 rfl ?_
          refine pw_if_lt (tgt := 36) e_Bus_putBytes_4 (by decide) (fun (H5 : ((-8)) < 0) => ?_) (fun (H5 : ¬ ((-8)) < 0) => ?_)
          · refine pw_vret e_Bus_putBytes_36 rfl ?_
            rw [f_Bus_putBytes] at hk
            exact hk
          · exact absurd H5 (by decide)
theorem q_Bus_putBytes {g : GG} {h : Hp} (hst : (gl g).stackTraces = false) {A : Nat → Nat} {S : SA} {P Y : Nat → Nat → Int32} (hnd : (gK (bsL g A S P Y)).Nodup) (hw : wfP P) (n : Nat) (x : Int32) (hn : n + 4 ≤ 900)  (Z : Nat → Nat → Int32) (hm : ∀ q ∈ gO (bsL g A S P Y) Z, h q.1 = some q.2) (ht : Z 507 1 = nI n) : PM g M_Bus_putBytes 0 0 0 [.ref (A 507), .int (x)] h (RetV none (ov h (gO (bsL g A S P Y) (f_Bus_putBytes P n x Z)))) := by
  refine PM.of hst (by decide) rfl (fun v hv => ?_) (Nat.le_of_ble_eq_true rfl) ?_
  · simp only [List.mem_cons, List.not_mem_nil, or_false] at hv; rcases hv with rfl | rfl <;> rfl
  · have hq := w_Bus_putBytes_0 (g := g) (Q := RetV none (ov h (gO (bsL g A S P Y) (f_Bus_putBytes P n x Z)))) (h := h) (kc := 0) (ks := 0) hst hnd hw n x hn Z ht ?_
    · rw [ov_self hm] at hq; exact hq
    · exact ⟨rfl, rfl⟩

theorem pb_t (P : Nat → Nat → Int32) (n : Nat) (x : Int32) (Z : Nat → Nat → Int32) : f_Bus_putBytes P n x Z 507 1 = nI (n + 4) := by rw [f_Bus_putBytes]; exact u2_s
def f_Bus_feed (P : Nat → Nat → Int32) (n : Nat) (a b c d e : Int32) (Z : Nat → Nat → Int32) : Int32 × (Nat → Nat → Int32) :=
  if (n + 20) ≤ 900 then (nI (n + 20), f_Bus_putBytes P (n + 16) e (f_Bus_putBytes P (n + 12) d (f_Bus_putBytes P (n + 8) c (f_Bus_putBytes P (n + 4) b (f_Bus_putBytes P n a Z))))) else ((-1), Z)
set_option maxRecDepth 4000 in
theorem w_Bus_feed_0 {g : GG} {Q : QT} {h : Hp} {kc ks : Nat} (hst : (gl g).stackTraces = false) {A : Nat → Nat} {S : SA} {P Y : Nat → Nat → Int32} (hnd : (gK (bsL g A S P Y)).Nodup) (hw : wfP P) (n : Nat) (a b c d e : Int32) (hn : n ≤ 900)  (Z : Nat → Nat → Int32) (ht : Z 507 1 = nI n) (hk : Q (.inl (some (.int (f_Bus_feed P n a b c d e Z).1))) (ov h (gO (bsL g A S P Y) ((f_Bus_feed P n a b c d e Z).2)))) : PW g M_Bus_feed 1 kc ks Q 0 [.ref (A 507), .int (a), .int (b), .int (c), .int (d), .int (e)] [] (ov h (gO (bsL g A S P Y) Z)) := by
  have hz0 := hw.blk.2
  have hz1 := hw.lnk.2
  have hz2 := hw.dvs.2
  refine pw_aload_n e_Bus_feed_0 rfl ?_
  refine pw_getf e_Bus_feed_1 fl_Bus_13 (gO_get hnd (i := 29) rfl) rfl ?_
  refine pw_eqst (congrArg (fun q => Value.int q :: []) (show _ = nI (n) from ht)) ?_
  refine pw_bipush (v := nI 20) e_Bus_feed_4 (by decide) ?_
  refine pw_iaddN e_Bus_feed_6 ?_
  refine pw_sipush (v := nI 900) e_Bus_feed_7 (by decide) ?_
  refine pw_icmp_leN (tgt := 15) e_Bus_feed_10 (by decide) (by omega) (by omega) (fun (H1 : (n + 20) ≤ 900) => ?_) (fun (H1 : 900 < (n + 20)) => ?_)
  · refine pw_aload_n e_Bus_feed_15 rfl ?_
    refine pw_iload_n e_Bus_feed_16 rfl ?_
    refine pw_detV (As := [.int (a)]) e_Bus_feed_17 li_Bus_83 rfl (gO_get hnd (i := 29) rfl) (q_Bus_putBytes hst hnd hw n a (by omega) Z (gO_in hnd (fun _ z => z)) ht) rfl (by decide) (Nat.le_of_ble_eq_true rfl) rfl ?_
    refine pw_sameG hnd ?_
    refine pw_aload_n e_Bus_feed_20 rfl ?_
    refine pw_iload_n e_Bus_feed_21 rfl ?_
    refine pw_detV (As := [.int (b)]) e_Bus_feed_22 li_Bus_83 rfl (gO_get hnd (i := 29) rfl) (q_Bus_putBytes hst hnd hw (n + 4) b (by omega) (f_Bus_putBytes P n a Z) (gO_in hnd (fun _ z => z)) (pb_t _ _ _ _)) rfl (by decide) (Nat.le_of_ble_eq_true rfl) rfl ?_
    refine pw_sameG hnd ?_
    refine pw_aload_n e_Bus_feed_25 rfl ?_
    refine pw_iload_n e_Bus_feed_26 rfl ?_
    refine pw_detV (As := [.int (c)]) e_Bus_feed_27 li_Bus_83 rfl (gO_get hnd (i := 29) rfl) (q_Bus_putBytes hst hnd hw (n + 8) c (by omega) (f_Bus_putBytes P (n + 4) b (f_Bus_putBytes P n a Z)) (gO_in hnd (fun _ z => z)) (pb_t _ _ _ _)) rfl (by decide) (Nat.le_of_ble_eq_true rfl) rfl ?_
    refine pw_sameG hnd ?_
    refine pw_aload_n e_Bus_feed_30 rfl ?_
    refine pw_iload e_Bus_feed_31 rfl ?_
    refine pw_detV (As := [.int (d)]) e_Bus_feed_33 li_Bus_83 rfl (gO_get hnd (i := 29) rfl) (q_Bus_putBytes hst hnd hw (n + 12) d (by omega) (f_Bus_putBytes P (n + 8) c (f_Bus_putBytes P (n + 4) b (f_Bus_putBytes P n a Z))) (gO_in hnd (fun _ z => z)) (pb_t _ _ _ _)) rfl (by decide) (Nat.le_of_ble_eq_true rfl) rfl ?_
    refine pw_sameG hnd ?_
    refine pw_aload_n e_Bus_feed_36 rfl ?_
    refine pw_iload e_Bus_feed_37 rfl ?_
    refine pw_detV (As := [.int (e)]) e_Bus_feed_39 li_Bus_83 rfl (gO_get hnd (i := 29) rfl) (q_Bus_putBytes hst hnd hw (n + 16) e (by omega) (f_Bus_putBytes P (n + 12) d (f_Bus_putBytes P (n + 8) c (f_Bus_putBytes P (n + 4) b (f_Bus_putBytes P n a Z)))) (gO_in hnd (fun _ z => z)) (pb_t _ _ _ _)) rfl (by decide) (Nat.le_of_ble_eq_true rfl) rfl ?_
    refine pw_sameG hnd ?_
    refine pw_aload_n e_Bus_feed_42 rfl ?_
    refine pw_getf e_Bus_feed_43 fl_Bus_13 (gO_get hnd (i := 29) rfl) rfl ?_
    refine pw_eqst (congrArg (fun q => Value.int q :: []) (show _ = nI (n + 20) from (pb_t _ _ _ _))) ?_
    refine pw_iret e_Bus_feed_46 rfl rfl ?_
    rw [f_Bus_feed, if_pos H1] at hk
    exact hk
  · refine pw_iconst (v := (-1)) e_Bus_feed_13 (by decide) ?_
    refine pw_iret e_Bus_feed_14 rfl rfl ?_
    rw [f_Bus_feed, if_neg (Nat.not_le.mpr H1)] at hk
    exact hk
theorem q_Bus_feed {g : GG} {h : Hp} (hst : (gl g).stackTraces = false) {A : Nat → Nat} {S : SA} {P Y : Nat → Nat → Int32} (hnd : (gK (bsL g A S P Y)).Nodup) (hw : wfP P) (n : Nat) (a b c d e : Int32) (hn : n ≤ 900)  (Z : Nat → Nat → Int32) (hm : ∀ q ∈ gO (bsL g A S P Y) Z, h q.1 = some q.2) (ht : Z 507 1 = nI n) : PM g M_Bus_feed 1 0 0 [.ref (A 507), .int (a), .int (b), .int (c), .int (d), .int (e)] h (RetV (some (.int (f_Bus_feed P n a b c d e Z).1)) (ov h (gO (bsL g A S P Y) ((f_Bus_feed P n a b c d e Z).2)))) := by
  refine PM.of hst (by decide) rfl (fun v hv => ?_) (Nat.le_of_ble_eq_true rfl) ?_
  · simp only [List.mem_cons, List.not_mem_nil, or_false] at hv; rcases hv with rfl | rfl | rfl | rfl | rfl | rfl <;> rfl
  · have hq := w_Bus_feed_0 (g := g) (Q := RetV (some (.int (f_Bus_feed P n a b c d e Z).1)) (ov h (gO (bsL g A S P Y) ((f_Bus_feed P n a b c d e Z).2)))) (h := h) (kc := 0) (ks := 0) hst hnd hw n a b c d e hn Z ht ?_
    · rw [ov_self hm] at hq; exact hq
    · exact ⟨rfl, rfl⟩

