/-! the object: what is asked of trials (written by wip/whole/c_bus2.py) -/
theorem ml_Bus_273 : Cond.methodLink "CascadeBus" 273 Lib.Math.abs.name ∈ gw ∧ Cond.static Lib.Math.abs.name ∈ gw ∧ Cond.initialized "java/lang/Math" ∈ gw ∧ Cond.code Lib.Math.abs.name Lib.Math.abs.code 1 (some .int) ∈ gw := ⟨gm5 (i := 64) (by decide +kernel) rfl, gm5 (i := 65) (by decide +kernel) rfl, ini_JMath, cw_JMath_abs⟩
theorem thenC {z : Int32} (H : ¬ f_Bus_thenCell z = -1) : f_Bus_thenCell z = nI (f_Bus_thenCell z).toNatClampNeg ∧ (f_Bus_thenCell z).toNatClampNeg < 9 := by
  rw [f_Bus_thenCell] at H ⊢
  repeat' split at H
  all_goals first | (exact absurd rfl H) | (simp only [*, if_true, if_false]; decide)
theorem dn_of {x : Int32} {t : Nat} (h0 : ¬ x < 0) (ht : (x.toInt + 1).toNat < t + 1) : (((x + -1).toInt) + 1).toNat < t := by
  have a : ¬ x.toInt < 0 := fun q => h0 (i_lt.mpr (by rw [show (0 : Int32).toInt = 0 by decide]; exact q))
  have b := Int32.toInt_lt x
  have e : (x + -1).toInt = x.toInt - 1 := by
    rw [Int32.toInt_add, show (-1 : Int32).toInt = -1 by decide]
    exact Int.bmod_eq_of_le (by omega) (by omega)
  rw [e]; omega
theorem dn_of1 {x : Int32} {t : Nat} (h0 : ¬ x ≤ 0) (ht : x.toInt.toNat < t + 1) : (x + -1).toInt.toNat < t := by
  have a : ¬ x.toInt ≤ 0 := fun q => h0 (i_le.mpr (by rw [show (0 : Int32).toInt = 0 by decide]; exact q))
  have b := Int32.toInt_lt x
  have e : (x + -1).toInt = x.toInt - 1 := by
    rw [Int32.toInt_add, show (-1 : Int32).toInt = -1 by decide]
    exact Int.bmod_eq_of_le (by omega) (by omega)
  rw [e]; omega
def f_Bus_then_32 (P : Nat → Nat → Int32) (x y z : Int32) (Z : Nat → Nat → Int32) (b : Nat) (n : Nat) (q : Nat) : (Int32 ⊕ String) × (Nat → Nat → Int32) :=
  (.inl (((va_up (va_up Z 501 (Z 302)) 501 (f_Bus_passCycles P n ((va_up Z 501 (Z 302)) 501))) 501) ((b * 9) + q)), va_up (va_up Z 501 (Z 302)) 501 (f_Bus_passCycles P n ((va_up Z 501 (Z 302)) 501)))
set_option maxRecDepth 4000 in
theorem w_Bus_then_32 {g : GG} {Q : QT} {h : Hp} (hst : (gl g).stackTraces = false) {A : Nat → Nat} {S : SA} {P Y : Nat → Nat → Int32} (hnd : (gK (bsL g A S P Y)).Nodup) (hw : wfP P) (x y z : Int32)  (Z : Nat → Nat → Int32) (b : Nat) (n : Nat) (q : Nat) (hb : b < 10) (hn : n < 61) (hq : q < 9) (hk : Q (outX (f_Bus_then_32 P x y z Z b n q).1) (ov h (gO (bsL g A S P Y) ((f_Bus_then_32 P x y z Z b n q).2)))) : PW g M_Bus_then 8 0 0 Q 32 [.ref (A 507), .int (nI (b)), .int (nI (n)), .int (z), .int (nI (q))] [] (ov h (gO (bsL g A S P Y) Z)) := by
  have hz0 := hw.blk.2
  have hz1 := hw.lnk.2
  have hz2 := hw.dvs.2
  refine pw_aload_n e_Bus_then_32 rfl ?_
  refine pw_getf e_Bus_then_33 fl_Bus_51 (gO_get hnd (i := 29) rfl) rfl ?_
  refine pw_aload_n e_Bus_then_36 rfl ?_
  refine pw_getf e_Bus_then_37 fl_Bus_37 (gO_get hnd (i := 29) rfl) rfl ?_
  refine pw_getf e_Bus_then_40 fl_Bus_76 (gO_get hnd (i := 31) rfl) rfl ?_
  refine pw_detV (As := [.ref (A 301)]) e_Bus_then_43 li_Bus_265 rfl (gO_get hnd (i := 51) rfl) (q_State_copyFrom hst (gO_get hnd (i := 51) rfl) (gO_get hnd (i := 32) rfl) (Z 501) (Z 302) (gO_get hnd (i := 52) rfl) (gO_get hnd (i := 33) rfl)) rfl (by decide) (Nat.le_of_ble_eq_true rfl) rfl ?_
  refine pw_upG (i := 52) hnd (bs_x _ _ _ _ _) rfl rfl ?_
  refine pw_aload_n e_Bus_then_46 rfl ?_
  refine pw_aload_n e_Bus_then_47 rfl ?_
  refine pw_getf e_Bus_then_48 fl_Bus_51 (gO_get hnd (i := 29) rfl) rfl ?_
  refine pw_iload_n e_Bus_then_51 rfl ?_
  refine pw_detV (As := [.ref (A 500), .int (nI (n))]) e_Bus_then_52 li_Bus_249 rfl (gO_get hnd (i := 29) rfl) (q_Bus_passCycles hst (bs_ne hnd (i := 29) (j := 52) rfl rfl (by decide)) (bs_ne hnd (i := 51) (j := 52) rfl rfl (by decide)) (bs_planU hnd (j := 52) rfl (by decide)) hw n (by omega) ((va_up Z 501 (Z 302)) 501) (gO_get hnd (i := 52) rfl)) rfl (by decide) (Nat.le_of_ble_eq_true rfl) rfl ?_
  refine pw_upG (i := 52) hnd (bs_x _ _ _ _ _) rfl rfl ?_
  refine pw_aload_n e_Bus_then_55 rfl ?_
  refine pw_getf e_Bus_then_56 fl_Bus_51 (gO_get hnd (i := 29) rfl) rfl ?_
  refine pw_getf e_Bus_then_59 fl_Bus_127 (gO_get hnd (i := 51) rfl) rfl ?_
  refine pw_iload_n e_Bus_then_62 rfl ?_
  refine pw_bipush (v := nI 9) e_Bus_then_63 (by decide) ?_
  refine pw_imulN e_Bus_then_65 ?_
  refine pw_iload e_Bus_then_66 rfl ?_
  refine pw_iaddN e_Bus_then_68 ?_
  refine pw_ialdN e_Bus_then_69 (gO_get hnd (i := 52) rfl) (by omega) (by decide) ?_
  refine pw_iret e_Bus_then_70 rfl rfl ?_
  rw [f_Bus_then_32] at hk
  exact hk
def f_Bus_then (P : Nat → Nat → Int32) (x y z : Int32) (Z : Nat → Nat → Int32) : (Int32 ⊕ String) × (Nat → Nat → Int32) :=
  if ¬ f_Bus_isBlock P x = 0 then if (f_Bus_thenCell z) = ((-1)) then (.inr "java/util/NoSuchElementException", Z) else if ¬ y < nI 0 ∧ y ≤ nI 60 then f_Bus_then_32 P x y z Z x.toNatClampNeg y.toNatClampNeg ((f_Bus_thenCell z).toNatClampNeg) else (.inr "java/lang/IllegalArgumentException", Z) else (.inr "java/util/NoSuchElementException", Z)
set_option maxRecDepth 4000 in
theorem w_Bus_then_0 {g : GG} {Q : QT} {h : Hp} (hst : (gl g).stackTraces = false) {A : Nat → Nat} {S : SA} {P Y : Nat → Nat → Int32} (hnd : (gK (bsL g A S P Y)).Nodup) (hw : wfP P) (x y z : Int32)  (Z : Nat → Nat → Int32) (hk : Q (outX (f_Bus_then P x y z Z).1) (ov h (gO (bsL g A S P Y) ((f_Bus_then P x y z Z).2)))) : PW g M_Bus_then 8 2 12 Q 0 [.ref (A 507), .int (x), .int (y), .int (z), .retAddr 0] [] (ov h (gO (bsL g A S P Y) Z)) := by
  have hz0 := hw.blk.2
  have hz1 := hw.lnk.2
  have hz2 := hw.dvs.2
  refine pw_aload_n e_Bus_then_0 rfl ?_
  refine pw_iload_n e_Bus_then_1 rfl ?_
  refine pw_brV (kc := 1) (ks := 6) (As := [.int (x)]) e_Bus_then_2 li_Bus_156 rfl (gO_get hnd (i := 29) rfl) (q_Bus_needBlock hst (Z 507) (gO_get hnd (i := 29) rfl) (bs_pl hnd) hw x) rfl (by decide) (Nat.le_of_ble_eq_true rfl) rfl rfl (fun (H1 : ¬ f_Bus_isBlock P x = 0) => ?_) (fun (H1 : ¬ (¬ f_Bus_isBlock P x = 0)) => ?_)
  · refine pw_iload_n e_Bus_then_5 rfl ?_
    refine pw_detS (As := [.int (z)]) e_Bus_then_6 li_Bus_257 (q_Bus_thenCell hst z) rfl (by decide) (Nat.le_of_ble_eq_true rfl) rfl ?_
    refine pw_istore (ls2 := [_, _, _, _, _]) e_Bus_then_9 (by decide) rfl ?_
    refine pw_iload e_Bus_then_11 rfl ?_
    refine pw_iconst (v := (-1)) e_Bus_then_13 (by decide) ?_
    refine pw_icmp_ne (tgt := 25) e_Bus_then_14 (by decide) (fun (H2 : ¬ (f_Bus_thenCell z) = ((-1))) => ?_) (fun (H2 : (f_Bus_thenCell z) = ((-1))) => ?_)
    · refine pw_iload_n e_Bus_then_25 rfl ?_
      refine pw_iconst (v := nI 0) e_Bus_then_26 (by decide) ?_
      refine pw_bipush (v := nI 60) e_Bus_then_27 (by decide) ?_
      refine pw_brS (kc := 0) (ks := 0) (As := [.int (y), .int (nI (0)), .int (nI (60))]) e_Bus_then_29 li_Bus_261 (q_Bus_needWithin hst y (nI 0) (nI 60)) rfl (by decide) (Nat.le_of_ble_eq_true rfl) rfl rfl (fun (H3 : ¬ y < nI 0 ∧ y ≤ nI 60) => ?_) (fun (H3 : ¬ (¬ y < nI 0 ∧ y ≤ nI 60)) => ?_)
      · refine pw_eqls (ls' := [.ref (A 507), .int (nI (x.toNatClampNeg)), .int (y), .int (z), .int (f_Bus_thenCell z)]) (by rw [← (show x = nI (x.toNatClampNeg) from (blk_of hw H1).1)]) ?_
        refine pw_eqls (ls' := [.ref (A 507), .int (nI (x.toNatClampNeg)), .int (nI (y.toNatClampNeg)), .int (z), .int (f_Bus_thenCell z)]) (by rw [← (show y = nI (y.toNatClampNeg) from (win_of (by decide) H3).1)]) ?_
        refine pw_eqls (ls' := [.ref (A 507), .int (nI (x.toNatClampNeg)), .int (nI (y.toNatClampNeg)), .int (z), .int (nI ((f_Bus_thenCell z).toNatClampNeg))]) (by rw [← (show f_Bus_thenCell z = nI ((f_Bus_thenCell z).toNatClampNeg) from (thenC H2).1)]) ?_
        refine w_Bus_then_32 hst hnd hw x y z Z x.toNatClampNeg y.toNatClampNeg ((f_Bus_thenCell z).toNatClampNeg) (by have := (blk_of hw H1).2; omega) (win_of (by decide) H3).2 (thenC H2).2 ?_
        rw [f_Bus_then, if_pos H1, if_neg H2, if_pos H3] at hk
        exact hk
      · rw [f_Bus_then, if_pos H1, if_neg H2, if_neg H3] at hk
        exact hk
    · refine pw_nse (kc := 0) (ks := 0) rfl e_Bus_then_17 e_Bus_then_20 e_Bus_then_21 e_Bus_then_24 rfl (by decide) (Nat.le_of_ble_eq_true rfl) ?_
      rw [f_Bus_then, if_pos H1, if_pos H2] at hk
      exact hk
  · rw [f_Bus_then, if_neg H1] at hk
    exact hk
theorem q_Bus_then {g : GG} {h : Hp} (hst : (gl g).stackTraces = false) {A : Nat → Nat} {S : SA} {P Y : Nat → Nat → Int32} (hnd : (gK (bsL g A S P Y)).Nodup) (hw : wfP P) (x y z : Int32)  (Z : Nat → Nat → Int32) (hm : ∀ q ∈ gO (bsL g A S P Y) Z, h q.1 = some q.2) : PM g M_Bus_then 8 2 12 [.ref (A 507), .int (x), .int (y), .int (z)] h (RetX (f_Bus_then P x y z Z).1 (ov h (gO (bsL g A S P Y) ((f_Bus_then P x y z Z).2)))) := by
  refine PM.of hst (by decide) rfl (fun v hv => ?_) (Nat.le_of_ble_eq_true rfl) ?_
  · simp only [List.mem_cons, List.not_mem_nil, or_false] at hv; rcases hv with rfl | rfl | rfl | rfl <;> rfl
  · have hq := w_Bus_then_0 (g := g) (Q := RetX (f_Bus_then P x y z Z).1 (ov h (gO (bsL g A S P Y) ((f_Bus_then P x y z Z).2)))) (h := h) hst hnd hw x y z Z ?_
    · rw [ov_self hm] at hq; exact hq
    · exact ⟨rfl, rfl⟩

def f_Bus_first_28 (P : Nat → Nat → Int32) (x : Int32) : Nat → (Nat → Nat → Int32) → (Nat) → (Nat) → (Int32 ⊕ String) × (Nat → Nat → Int32)
  | 0, Z, _, _ => (.inl 0, Z)
  | t + 1, Z, b, k => if 60 < k then (.inl ((-1)), Z) else if (((va_up Z 501 (f_Cycle_goBy P (Z 501))) 501) (b * 9 + 1)) = (((va_up Z 501 (f_Cycle_goBy P (Z 501))) 302) (b * 9 + 1)) then f_Bus_first_28 P x t (va_up Z 501 (f_Cycle_goBy P (Z 501))) b (k + 1) else (.inl (nI (k)), va_up Z 501 (f_Cycle_goBy P (Z 501)))
set_option maxRecDepth 4000 in
theorem w_Bus_first_28 {g : GG} {Q : QT} {h : Hp} (hst : (gl g).stackTraces = false) {A : Nat → Nat} {S : SA} {P Y : Nat → Nat → Int32} (hnd : (gK (bsL g A S P Y)).Nodup) (hw : wfP P) (x : Int32)  (t : Nat) : ∀ (Z : Nat → Nat → Int32) (b : Nat) (k : Nat) (hb : b < 10) (hk9 : 1 ≤ k ∧ k ≤ 61) (hlt : 61 - k < t) (hk : Q (outX (f_Bus_first_28 P x t Z b k).1) (ov h (gO (bsL g A S P Y) ((f_Bus_first_28 P x t Z b k).2)))), PW g M_Bus_first 8 0 0 Q 28 [.ref (A 507), .int (nI (b)), .int (nI (b * 9 + 1)), .int (nI (k))] [] (ov h (gO (bsL g A S P Y) Z)) := by
  induction t with
  | zero => intro Z b k hb hk9 hlt _; exact absurd hlt (Nat.not_lt_zero _)
  | succ t ih =>
    intro Z b k hb hk9 hlt hk
    have hz0 := hw.blk.2
    have hz1 := hw.lnk.2
    have hz2 := hw.dvs.2
    refine pw_iload_n e_Bus_first_28 rfl ?_
    refine pw_bipush (v := nI 60) e_Bus_first_29 (by decide) ?_
    refine pw_icmp_gtN (tgt := 80) e_Bus_first_31 (by decide) (by omega) (by omega) (fun (H1 : 60 < k) => ?_) (fun (H1 : k ≤ 60) => ?_)
    · refine pw_iconst (v := (-1)) e_Bus_first_80 (by decide) ?_
      refine pw_iret e_Bus_first_81 rfl rfl ?_
      rw [f_Bus_first_28, if_pos H1] at hk
      exact hk
    · refine pw_aload_n e_Bus_first_34 rfl ?_
      refine pw_getf e_Bus_first_35 fl_Bus_23 (gO_get hnd (i := 29) rfl) rfl ?_
      refine pw_aload_n e_Bus_first_38 rfl ?_
      refine pw_getf e_Bus_first_39 fl_Bus_51 (gO_get hnd (i := 29) rfl) rfl ?_
      refine pw_getf e_Bus_first_42 fl_Bus_127 (gO_get hnd (i := 51) rfl) rfl ?_
      refine pw_detS (As := [.ref (A 30), .ref (A 501)]) e_Bus_first_45 li_Bus_269 (q_Cycle_goBy hst (bs_planU hnd (j := 52) rfl (by decide)) hw (Z 501) (gO_get hnd (i := 52) rfl)) rfl (by decide) (Nat.le_of_ble_eq_true rfl) rfl ?_
      refine pw_upG (i := 52) hnd (bs_x _ _ _ _ _) rfl rfl ?_
      refine pw_aload_n e_Bus_first_48 rfl ?_
      refine pw_getf e_Bus_first_49 fl_Bus_51 (gO_get hnd (i := 29) rfl) rfl ?_
      refine pw_getf e_Bus_first_52 fl_Bus_127 (gO_get hnd (i := 51) rfl) rfl ?_
      refine pw_iload_n e_Bus_first_55 rfl ?_
      refine pw_ialdN e_Bus_first_56 (gO_get hnd (i := 52) rfl) (by omega) (by decide) ?_
      refine pw_aload_n e_Bus_first_57 rfl ?_
      refine pw_getf e_Bus_first_58 fl_Bus_37 (gO_get hnd (i := 29) rfl) rfl ?_
      refine pw_getf e_Bus_first_61 fl_Bus_76 (gO_get hnd (i := 31) rfl) rfl ?_
      refine pw_getf e_Bus_first_64 fl_Bus_127 (gO_get hnd (i := 32) rfl) rfl ?_
      refine pw_iload_n e_Bus_first_67 rfl ?_
      refine pw_ialdN e_Bus_first_68 (gO_get hnd (i := 33) rfl) (by omega) (by decide) ?_
      refine pw_icmp_eq (tgt := 74) e_Bus_first_69 (by decide) (fun (H2 : (((va_up Z 501 (f_Cycle_goBy P (Z 501))) 501) (b * 9 + 1)) = (((va_up Z 501 (f_Cycle_goBy P (Z 501))) 302) (b * 9 + 1))) => ?_) (fun (H2 : ¬ (((va_up Z 501 (f_Cycle_goBy P (Z 501))) 501) (b * 9 + 1)) = (((va_up Z 501 (f_Cycle_goBy P (Z 501))) 302) (b * 9 + 1))) => ?_)
      · refine pw_iincN (ls2 := [_, _, _, _]) e_Bus_first_74 rfl (by decide) rfl ?_
        refine pw_goto (tgt := 28) e_Bus_first_77 (by decide) ?_
        refine ih (va_up Z 501 (f_Cycle_goBy P (Z 501))) b (k + 1) (by omega) (by omega) (by omega) ?_
        rw [f_Bus_first_28, if_neg (Nat.not_lt.mpr H1), if_pos H2] at hk
        exact hk
      · refine pw_iload_n e_Bus_first_72 rfl ?_
        refine pw_iret e_Bus_first_73 rfl rfl ?_
        rw [f_Bus_first_28, if_neg (Nat.not_lt.mpr H1), if_neg H2] at hk
        exact hk
def f_Bus_first_5 (P : Nat → Nat → Int32) (x : Int32) (Z : Nat → Nat → Int32) (b : Nat) : (Int32 ⊕ String) × (Nat → Nat → Int32) :=
  f_Bus_first_28 P x 61 (va_up Z 501 (Z 302)) b 1
set_option maxRecDepth 4000 in
theorem w_Bus_first_5 {g : GG} {Q : QT} {h : Hp} (hst : (gl g).stackTraces = false) {A : Nat → Nat} {S : SA} {P Y : Nat → Nat → Int32} (hnd : (gK (bsL g A S P Y)).Nodup) (hw : wfP P) (x : Int32)  (Z : Nat → Nat → Int32) (b : Nat) (hb : b < 10) (hk : Q (outX (f_Bus_first_5 P x Z b).1) (ov h (gO (bsL g A S P Y) ((f_Bus_first_5 P x Z b).2)))) : PW g M_Bus_first 8 0 0 Q 5 [.ref (A 507), .int (nI (b)), .retAddr 0, .retAddr 0] [] (ov h (gO (bsL g A S P Y) Z)) := by
  have hz0 := hw.blk.2
  have hz1 := hw.lnk.2
  have hz2 := hw.dvs.2
  refine pw_iload_n e_Bus_first_5 rfl ?_
  refine pw_bipush (v := nI 9) e_Bus_first_6 (by decide) ?_
  refine pw_imulN e_Bus_first_8 ?_
  refine pw_iconst (v := nI 1) e_Bus_first_9 (by decide) ?_
  refine pw_iaddN e_Bus_first_10 ?_
  refine pw_istore_n (ls2 := [_, _, _, _]) e_Bus_first_11 (by decide) rfl ?_
  refine pw_aload_n e_Bus_first_12 rfl ?_
  refine pw_getf e_Bus_first_13 fl_Bus_51 (gO_get hnd (i := 29) rfl) rfl ?_
  refine pw_aload_n e_Bus_first_16 rfl ?_
  refine pw_getf e_Bus_first_17 fl_Bus_37 (gO_get hnd (i := 29) rfl) rfl ?_
  refine pw_getf e_Bus_first_20 fl_Bus_76 (gO_get hnd (i := 31) rfl) rfl ?_
  refine pw_detV (As := [.ref (A 301)]) e_Bus_first_23 li_Bus_265 rfl (gO_get hnd (i := 51) rfl) (q_State_copyFrom hst (gO_get hnd (i := 51) rfl) (gO_get hnd (i := 32) rfl) (Z 501) (Z 302) (gO_get hnd (i := 52) rfl) (gO_get hnd (i := 33) rfl)) rfl (by decide) (Nat.le_of_ble_eq_true rfl) rfl ?_
  refine pw_upG (i := 52) hnd (bs_x _ _ _ _ _) rfl rfl ?_
  refine pw_iconst (v := nI 1) e_Bus_first_26 (by decide) ?_
  refine pw_istore_n (ls2 := [_, _, _, _]) e_Bus_first_27 (by decide) rfl ?_
  refine w_Bus_first_28 hst hnd hw x 61 (va_up Z 501 (Z 302)) b 1 (by omega) (by omega) (by omega) ?_
  rw [f_Bus_first_5] at hk
  exact hk
def f_Bus_first (P : Nat → Nat → Int32) (x : Int32) (Z : Nat → Nat → Int32) : (Int32 ⊕ String) × (Nat → Nat → Int32) :=
  if ¬ f_Bus_isBlock P x = 0 then f_Bus_first_5 P x Z x.toNatClampNeg else (.inr "java/util/NoSuchElementException", Z)
set_option maxRecDepth 4000 in
theorem w_Bus_first_0 {g : GG} {Q : QT} {h : Hp} (hst : (gl g).stackTraces = false) {A : Nat → Nat} {S : SA} {P Y : Nat → Nat → Int32} (hnd : (gK (bsL g A S P Y)).Nodup) (hw : wfP P) (x : Int32)  (Z : Nat → Nat → Int32) (hk : Q (outX (f_Bus_first P x Z).1) (ov h (gO (bsL g A S P Y) ((f_Bus_first P x Z).2)))) : PW g M_Bus_first 8 1 6 Q 0 [.ref (A 507), .int (x), .retAddr 0, .retAddr 0] [] (ov h (gO (bsL g A S P Y) Z)) := by
  have hz0 := hw.blk.2
  have hz1 := hw.lnk.2
  have hz2 := hw.dvs.2
  refine pw_aload_n e_Bus_first_0 rfl ?_
  refine pw_iload_n e_Bus_first_1 rfl ?_
  refine pw_brV (kc := 0) (ks := 0) (As := [.int (x)]) e_Bus_first_2 li_Bus_156 rfl (gO_get hnd (i := 29) rfl) (q_Bus_needBlock hst (Z 507) (gO_get hnd (i := 29) rfl) (bs_pl hnd) hw x) rfl (by decide) (Nat.le_of_ble_eq_true rfl) rfl rfl (fun (H1 : ¬ f_Bus_isBlock P x = 0) => ?_) (fun (H1 : ¬ (¬ f_Bus_isBlock P x = 0)) => ?_)
  · refine pw_eqls (ls' := [.ref (A 507), .int (nI (x.toNatClampNeg)), .retAddr 0, .retAddr 0]) (by rw [← (show x = nI (x.toNatClampNeg) from (blk_of hw H1).1)]) ?_
    refine w_Bus_first_5 hst hnd hw x Z x.toNatClampNeg (by have := (blk_of hw H1).2; omega) ?_
    rw [f_Bus_first, if_pos H1] at hk
    exact hk
  · rw [f_Bus_first, if_neg H1] at hk
    exact hk
theorem q_Bus_first {g : GG} {h : Hp} (hst : (gl g).stackTraces = false) {A : Nat → Nat} {S : SA} {P Y : Nat → Nat → Int32} (hnd : (gK (bsL g A S P Y)).Nodup) (hw : wfP P) (x : Int32)  (Z : Nat → Nat → Int32) (hm : ∀ q ∈ gO (bsL g A S P Y) Z, h q.1 = some q.2) : PM g M_Bus_first 8 1 6 [.ref (A 507), .int (x)] h (RetX (f_Bus_first P x Z).1 (ov h (gO (bsL g A S P Y) ((f_Bus_first P x Z).2)))) := by
  refine PM.of hst (by decide) rfl (fun v hv => ?_) (Nat.le_of_ble_eq_true rfl) ?_
  · simp only [List.mem_cons, List.not_mem_nil, or_false] at hv; rcases hv with rfl | rfl <;> rfl
  · have hq := w_Bus_first_0 (g := g) (Q := RetX (f_Bus_first P x Z).1 (ov h (gO (bsL g A S P Y) ((f_Bus_first P x Z).2)))) (h := h) hst hnd hw x Z ?_
    · rw [ov_self hm] at hq; exact hq
    · exact ⟨rfl, rfl⟩

def f_Bus_jump_39 (P : Nat → Nat → Int32) (x y : Int32) : Nat → (Nat → Nat → Int32) → (Nat) → (Nat) → (Int32) → (Nat) → (Int32 ⊕ String) × (Nat → Nat → Int32)
  | 0, Z, _, _, _, _ => (.inl 0, Z)
  | t + 1, Z, b, n, gr, k => if n ≤ k then (.inl gr, Z) else f_Bus_jump_39 P x y t (va_up Z 501 (f_Cycle_goBy P (Z 501))) b n (if gr < (if 0 ≤ ((((va_up Z 501 (f_Cycle_goBy P (Z 501))) 501) (b * 9 + 3)) - ((Z 501) (b * 9 + 3))) then ((((va_up Z 501 (f_Cycle_goBy P (Z 501))) 501) (b * 9 + 3)) - ((Z 501) (b * 9 + 3))) else 0 - ((((va_up Z 501 (f_Cycle_goBy P (Z 501))) 501) (b * 9 + 3)) - ((Z 501) (b * 9 + 3)))) then (if 0 ≤ ((((va_up Z 501 (f_Cycle_goBy P (Z 501))) 501) (b * 9 + 3)) - ((Z 501) (b * 9 + 3))) then ((((va_up Z 501 (f_Cycle_goBy P (Z 501))) 501) (b * 9 + 3)) - ((Z 501) (b * 9 + 3))) else 0 - ((((va_up Z 501 (f_Cycle_goBy P (Z 501))) 501) (b * 9 + 3)) - ((Z 501) (b * 9 + 3)))) else gr) (k + 1)
set_option maxRecDepth 4000 in
theorem w_Bus_jump_39 {g : GG} {Q : QT} {h : Hp} (hst : (gl g).stackTraces = false) {A : Nat → Nat} {S : SA} {P Y : Nat → Nat → Int32} (hnd : (gK (bsL g A S P Y)).Nodup) (hw : wfP P) (x y : Int32)  (t : Nat) : ∀ (Z : Nat → Nat → Int32) (b : Nat) (n : Nat) (gr : Int32) (k : Nat) (hb : b < 10) (hn : n < 61) (hk9 : k ≤ n) (hlt : n - k < t) (hk : Q (outX (f_Bus_jump_39 P x y t Z b n gr k).1) (ov h (gO (bsL g A S P Y) ((f_Bus_jump_39 P x y t Z b n gr k).2)))), PW g M_Bus_jump 8 0 0 Q 39 [.ref (A 507), .int (nI (b)), .int (nI (n)), .int (nI (b * 9 + 3)), .int (gr), .int (nI (k)), .retAddr 0] [] (ov h (gO (bsL g A S P Y) Z)) := by
  induction t with
  | zero => intro Z b n gr k hb hn hk9 hlt _; exact absurd hlt (Nat.not_lt_zero _)
  | succ t ih =>
    intro Z b n gr k hb hn hk9 hlt hk
    have hz0 := hw.blk.2
    have hz1 := hw.lnk.2
    have hz2 := hw.dvs.2
    refine pw_iload e_Bus_jump_39 rfl ?_
    refine pw_iload_n e_Bus_jump_41 rfl ?_
    refine pw_icmp_geN (tgt := 98) e_Bus_jump_42 (by decide) (by omega) (by omega) (fun (H1 : n ≤ k) => ?_) (fun (H1 : k < n) => ?_)
    · refine pw_iload e_Bus_jump_98 rfl ?_
      refine pw_iret e_Bus_jump_100 rfl rfl ?_
      rw [f_Bus_jump_39, if_pos H1] at hk
      exact hk
    · refine pw_aload_n e_Bus_jump_45 rfl ?_
      refine pw_getf e_Bus_jump_46 fl_Bus_51 (gO_get hnd (i := 29) rfl) rfl ?_
      refine pw_getf e_Bus_jump_49 fl_Bus_127 (gO_get hnd (i := 51) rfl) rfl ?_
      refine pw_iload_n e_Bus_jump_52 rfl ?_
      refine pw_ialdN e_Bus_jump_53 (gO_get hnd (i := 52) rfl) (by omega) (by decide) ?_
      refine pw_istore (ls2 := [_, _, _, _, _, _, _]) e_Bus_jump_54 (by decide) rfl ?_
      refine pw_aload_n e_Bus_jump_56 rfl ?_
      refine pw_getf e_Bus_jump_57 fl_Bus_23 (gO_get hnd (i := 29) rfl) rfl ?_
      refine pw_aload_n e_Bus_jump_60 rfl ?_
      refine pw_getf e_Bus_jump_61 fl_Bus_51 (gO_get hnd (i := 29) rfl) rfl ?_
      refine pw_getf e_Bus_jump_64 fl_Bus_127 (gO_get hnd (i := 51) rfl) rfl ?_
      refine pw_detS (As := [.ref (A 30), .ref (A 501)]) e_Bus_jump_67 li_Bus_269 (q_Cycle_goBy hst (bs_planU hnd (j := 52) rfl (by decide)) hw (Z 501) (gO_get hnd (i := 52) rfl)) rfl (by decide) (Nat.le_of_ble_eq_true rfl) rfl ?_
      refine pw_upG (i := 52) hnd (bs_x _ _ _ _ _) rfl rfl ?_
      refine pw_iload e_Bus_jump_70 rfl ?_
      refine pw_aload_n e_Bus_jump_72 rfl ?_
      refine pw_getf e_Bus_jump_73 fl_Bus_51 (gO_get hnd (i := 29) rfl) rfl ?_
      refine pw_getf e_Bus_jump_76 fl_Bus_127 (gO_get hnd (i := 51) rfl) rfl ?_
      refine pw_iload_n e_Bus_jump_79 rfl ?_
      refine pw_ialdN e_Bus_jump_80 (gO_get hnd (i := 52) rfl) (by omega) (by decide) ?_
      refine pw_iload e_Bus_jump_81 rfl ?_
      refine pw_isub e_Bus_jump_83 ?_
      refine pw_abs e_Bus_jump_84 ml_Bus_273 (by decide) (Nat.le_of_ble_eq_true rfl) ?_
      refine pw_max e_Bus_jump_87 ml_Bus_278 (by decide) (Nat.le_of_ble_eq_true rfl) ?_
      refine pw_istore (ls2 := [_, _, _, _, _, _, _]) e_Bus_jump_90 (by decide) rfl ?_
      refine pw_iincN (ls2 := [_, _, _, _, _, _, _]) e_Bus_jump_92 rfl (by decide) rfl ?_
      refine pw_goto (tgt := 39) e_Bus_jump_95 (by decide) ?_
      refine pw_fgt (ls' := [.ref (A 507), .int (nI (b)), .int (nI (n)), .int (nI (b * 9 + 3)), .int (if gr < (if 0 ≤ ((((va_up Z 501 (f_Cycle_goBy P (Z 501))) 501) (b * 9 + 3)) - ((Z 501) (b * 9 + 3))) then ((((va_up Z 501 (f_Cycle_goBy P (Z 501))) 501) (b * 9 + 3)) - ((Z 501) (b * 9 + 3))) else 0 - ((((va_up Z 501 (f_Cycle_goBy P (Z 501))) 501) (b * 9 + 3)) - ((Z 501) (b * 9 + 3)))) then (if 0 ≤ ((((va_up Z 501 (f_Cycle_goBy P (Z 501))) 501) (b * 9 + 3)) - ((Z 501) (b * 9 + 3))) then ((((va_up Z 501 (f_Cycle_goBy P (Z 501))) 501) (b * 9 + 3)) - ((Z 501) (b * 9 + 3))) else 0 - ((((va_up Z 501 (f_Cycle_goBy P (Z 501))) 501) (b * 9 + 3)) - ((Z 501) (b * 9 + 3)))) else gr), .int (nI (k + 1)), .retAddr 0]) ⟨Or.inr rfl, Or.inr rfl, Or.inr rfl, Or.inr rfl, Or.inr rfl, Or.inr rfl, Or.inl rfl, trivial⟩ ?_
      refine ih (va_up Z 501 (f_Cycle_goBy P (Z 501))) b n (if gr < (if 0 ≤ ((((va_up Z 501 (f_Cycle_goBy P (Z 501))) 501) (b * 9 + 3)) - ((Z 501) (b * 9 + 3))) then ((((va_up Z 501 (f_Cycle_goBy P (Z 501))) 501) (b * 9 + 3)) - ((Z 501) (b * 9 + 3))) else 0 - ((((va_up Z 501 (f_Cycle_goBy P (Z 501))) 501) (b * 9 + 3)) - ((Z 501) (b * 9 + 3)))) then (if 0 ≤ ((((va_up Z 501 (f_Cycle_goBy P (Z 501))) 501) (b * 9 + 3)) - ((Z 501) (b * 9 + 3))) then ((((va_up Z 501 (f_Cycle_goBy P (Z 501))) 501) (b * 9 + 3)) - ((Z 501) (b * 9 + 3))) else 0 - ((((va_up Z 501 (f_Cycle_goBy P (Z 501))) 501) (b * 9 + 3)) - ((Z 501) (b * 9 + 3)))) else gr) (k + 1) (by omega) (by omega) (by omega) (by omega) ?_
      rw [f_Bus_jump_39, if_neg (Nat.not_le.mpr H1)] at hk
      exact hk
def f_Bus_jump_12 (P : Nat → Nat → Int32) (x y : Int32) (Z : Nat → Nat → Int32) (b : Nat) (n : Nat) : (Int32 ⊕ String) × (Nat → Nat → Int32) :=
  f_Bus_jump_39 P x y 61 (va_up Z 501 (Z 302)) b n 0 0
set_option maxRecDepth 4000 in
theorem w_Bus_jump_12 {g : GG} {Q : QT} {h : Hp} (hst : (gl g).stackTraces = false) {A : Nat → Nat} {S : SA} {P Y : Nat → Nat → Int32} (hnd : (gK (bsL g A S P Y)).Nodup) (hw : wfP P) (x y : Int32)  (Z : Nat → Nat → Int32) (b : Nat) (n : Nat) (hb : b < 10) (hn : n < 61) (hk : Q (outX (f_Bus_jump_12 P x y Z b n).1) (ov h (gO (bsL g A S P Y) ((f_Bus_jump_12 P x y Z b n).2)))) : PW g M_Bus_jump 8 0 0 Q 12 [.ref (A 507), .int (nI (b)), .int (nI (n)), .retAddr 0, .retAddr 0, .retAddr 0, .retAddr 0] [] (ov h (gO (bsL g A S P Y) Z)) := by
  have hz0 := hw.blk.2
  have hz1 := hw.lnk.2
  have hz2 := hw.dvs.2
  refine pw_iload_n e_Bus_jump_12 rfl ?_
  refine pw_bipush (v := nI 9) e_Bus_jump_13 (by decide) ?_
  refine pw_imulN e_Bus_jump_15 ?_
  refine pw_iconst (v := nI 3) e_Bus_jump_16 (by decide) ?_
  refine pw_iaddN e_Bus_jump_17 ?_
  refine pw_istore_n (ls2 := [_, _, _, _, _, _, _]) e_Bus_jump_18 (by decide) rfl ?_
  refine pw_iconst (v := nI 0) e_Bus_jump_19 (by decide) ?_
  refine pw_istore (ls2 := [_, _, _, _, _, _, _]) e_Bus_jump_20 (by decide) rfl ?_
  refine pw_aload_n e_Bus_jump_22 rfl ?_
  refine pw_getf e_Bus_jump_23 fl_Bus_51 (gO_get hnd (i := 29) rfl) rfl ?_
  refine pw_aload_n e_Bus_jump_26 rfl ?_
  refine pw_getf e_Bus_jump_27 fl_Bus_37 (gO_get hnd (i := 29) rfl) rfl ?_
  refine pw_getf e_Bus_jump_30 fl_Bus_76 (gO_get hnd (i := 31) rfl) rfl ?_
  refine pw_detV (As := [.ref (A 301)]) e_Bus_jump_33 li_Bus_265 rfl (gO_get hnd (i := 51) rfl) (q_State_copyFrom hst (gO_get hnd (i := 51) rfl) (gO_get hnd (i := 32) rfl) (Z 501) (Z 302) (gO_get hnd (i := 52) rfl) (gO_get hnd (i := 33) rfl)) rfl (by decide) (Nat.le_of_ble_eq_true rfl) rfl ?_
  refine pw_upG (i := 52) hnd (bs_x _ _ _ _ _) rfl rfl ?_
  refine pw_iconst (v := nI 0) e_Bus_jump_36 (by decide) ?_
  refine pw_istore (ls2 := [_, _, _, _, _, _, _]) e_Bus_jump_37 (by decide) rfl ?_
  refine w_Bus_jump_39 hst hnd hw x y 61 (va_up Z 501 (Z 302)) b n 0 0 (by omega) (by omega) (by omega) (by omega) ?_
  rw [f_Bus_jump_12] at hk
  exact hk
def f_Bus_jump (P : Nat → Nat → Int32) (x y : Int32) (Z : Nat → Nat → Int32) : (Int32 ⊕ String) × (Nat → Nat → Int32) :=
  if ¬ f_Bus_isBlock P x = 0 then if ¬ y < nI 1 ∧ y ≤ nI 60 then f_Bus_jump_12 P x y Z x.toNatClampNeg y.toNatClampNeg else (.inr "java/lang/IllegalArgumentException", Z) else (.inr "java/util/NoSuchElementException", Z)
set_option maxRecDepth 4000 in
theorem w_Bus_jump_0 {g : GG} {Q : QT} {h : Hp} (hst : (gl g).stackTraces = false) {A : Nat → Nat} {S : SA} {P Y : Nat → Nat → Int32} (hnd : (gK (bsL g A S P Y)).Nodup) (hw : wfP P) (x y : Int32)  (Z : Nat → Nat → Int32) (hk : Q (outX (f_Bus_jump P x y Z).1) (ov h (gO (bsL g A S P Y) ((f_Bus_jump P x y Z).2)))) : PW g M_Bus_jump 8 2 12 Q 0 [.ref (A 507), .int (x), .int (y), .retAddr 0, .retAddr 0, .retAddr 0, .retAddr 0] [] (ov h (gO (bsL g A S P Y) Z)) := by
  have hz0 := hw.blk.2
  have hz1 := hw.lnk.2
  have hz2 := hw.dvs.2
  refine pw_aload_n e_Bus_jump_0 rfl ?_
  refine pw_iload_n e_Bus_jump_1 rfl ?_
  refine pw_brV (kc := 1) (ks := 6) (As := [.int (x)]) e_Bus_jump_2 li_Bus_156 rfl (gO_get hnd (i := 29) rfl) (q_Bus_needBlock hst (Z 507) (gO_get hnd (i := 29) rfl) (bs_pl hnd) hw x) rfl (by decide) (Nat.le_of_ble_eq_true rfl) rfl rfl (fun (H1 : ¬ f_Bus_isBlock P x = 0) => ?_) (fun (H1 : ¬ (¬ f_Bus_isBlock P x = 0)) => ?_)
  · refine pw_iload_n e_Bus_jump_5 rfl ?_
    refine pw_iconst (v := nI 1) e_Bus_jump_6 (by decide) ?_
    refine pw_bipush (v := nI 60) e_Bus_jump_7 (by decide) ?_
    refine pw_brS (kc := 0) (ks := 0) (As := [.int (y), .int (nI (1)), .int (nI (60))]) e_Bus_jump_9 li_Bus_261 (q_Bus_needWithin hst y (nI 1) (nI 60)) rfl (by decide) (Nat.le_of_ble_eq_true rfl) rfl rfl (fun (H2 : ¬ y < nI 1 ∧ y ≤ nI 60) => ?_) (fun (H2 : ¬ (¬ y < nI 1 ∧ y ≤ nI 60)) => ?_)
    · refine pw_eqls (ls' := [.ref (A 507), .int (nI (x.toNatClampNeg)), .int (y), .retAddr 0, .retAddr 0, .retAddr 0, .retAddr 0]) (by rw [← (show x = nI (x.toNatClampNeg) from (blk_of hw H1).1)]) ?_
      refine pw_eqls (ls' := [.ref (A 507), .int (nI (x.toNatClampNeg)), .int (nI (y.toNatClampNeg)), .retAddr 0, .retAddr 0, .retAddr 0, .retAddr 0]) (by rw [← (show y = nI (y.toNatClampNeg) from (win_of1 (by decide) H2).1)]) ?_
      refine w_Bus_jump_12 hst hnd hw x y Z x.toNatClampNeg y.toNatClampNeg (by have := (blk_of hw H1).2; omega) (win_of1 (by decide) H2).2 ?_
      rw [f_Bus_jump, if_pos H1, if_pos H2] at hk
      exact hk
    · rw [f_Bus_jump, if_pos H1, if_neg H2] at hk
      exact hk
  · rw [f_Bus_jump, if_neg H1] at hk
    exact hk
theorem q_Bus_jump {g : GG} {h : Hp} (hst : (gl g).stackTraces = false) {A : Nat → Nat} {S : SA} {P Y : Nat → Nat → Int32} (hnd : (gK (bsL g A S P Y)).Nodup) (hw : wfP P) (x y : Int32)  (Z : Nat → Nat → Int32) (hm : ∀ q ∈ gO (bsL g A S P Y) Z, h q.1 = some q.2) : PM g M_Bus_jump 8 2 12 [.ref (A 507), .int (x), .int (y)] h (RetX (f_Bus_jump P x y Z).1 (ov h (gO (bsL g A S P Y) ((f_Bus_jump P x y Z).2)))) := by
  refine PM.of hst (by decide) rfl (fun v hv => ?_) (Nat.le_of_ble_eq_true rfl) ?_
  · simp only [List.mem_cons, List.not_mem_nil, or_false] at hv; rcases hv with rfl | rfl | rfl <;> rfl
  · have hq := w_Bus_jump_0 (g := g) (Q := RetX (f_Bus_jump P x y Z).1 (ov h (gO (bsL g A S P Y) ((f_Bus_jump P x y Z).2)))) (h := h) hst hnd hw x y Z ?_
    · rw [ov_self hm] at hq; exact hq
    · exact ⟨rfl, rfl⟩

def f_Bus_unlikeWithout_107 (P : Nat → Nat → Int32) (x : Int32) (n : Nat) (y : Int32) : Nat → (Nat → Nat → Int32) → (Int32) → (Nat) → (Nat) → Int32 × (Nat → Nat → Int32)
  | 0, Z, _, _, _ => (0, Z)
  | t + 1, Z, u, k, b => if (pN P 30 3) ≤ b then (u, Z) else if ((Z 503) ((b * 9) + 1)) = ((Z 501) ((b * 9) + 1)) then f_Bus_unlikeWithout_107 P x n y t Z u k (b + 1) else f_Bus_unlikeWithout_107 P x n y t Z (u ||| ((1 : Int32) <<< ((nI (b)) &&& 31))) k (b + 1)
set_option maxRecDepth 4000 in
theorem w_Bus_unlikeWithout_107 {g : GG} {Q : QT} {h : Hp} {kc ks : Nat} (hst : (gl g).stackTraces = false) {A : Nat → Nat} {S : SA} {P Y : Nat → Nat → Int32} (hnd : (gK (bsL g A S P Y)).Nodup) (hw : wfP P) (x : Int32) (n : Nat) (y : Int32) (hn : n < 31)  (t : Nat) : ∀ (Z : Nat → Nat → Int32) (u : Int32) (k : Nat) (b : Nat) (hb9 : b ≤ pN P 30 3) (hlt : pN P 30 3 - b < t) (hk : PW g M_Bus_unlikeWithout 5 kc ks Q 166 [.ref (A 507), .int (x), .int (nI (n)), .int (y), .int ((f_Bus_unlikeWithout_107 P x n y t Z u k b).1), .int (nI (k)), .retAddr 0, .retAddr 0] [] (ov h (gO (bsL g A S P Y) ((f_Bus_unlikeWithout_107 P x n y t Z u k b).2)))), PW g M_Bus_unlikeWithout 5 kc ks Q 107 [.ref (A 507), .int (x), .int (nI (n)), .int (y), .int (u), .int (nI (k)), .int (nI (b)), .retAddr 0] [] (ov h (gO (bsL g A S P Y) Z)) := by
  induction t with
  | zero => intro Z u k b hb9 hlt _; exact absurd hlt (Nat.not_lt_zero _)
  | succ t ih =>
    intro Z u k b hb9 hlt hk
    have hz0 := hw.blk.2
    have hz1 := hw.lnk.2
    have hz2 := hw.dvs.2
    refine pw_iload e_Bus_unlikeWithout_107 rfl ?_
    refine pw_aload_n e_Bus_unlikeWithout_109 rfl ?_
    refine pw_getf e_Bus_unlikeWithout_110 fl_Bus_23 (gO_get hnd (i := 29) rfl) rfl ?_
    refine pw_getf e_Bus_unlikeWithout_113 fl_Bus_133 (gO_get hnd (i := 0) rfl) rfl ?_
    rw [hw.blk.1]
    refine pw_icmp_geN (tgt := 166) e_Bus_unlikeWithout_116 (by decide) (by omega) (by omega) (fun (H1 : (pN P 30 3) ≤ b) => ?_) (fun (H1 : b < (pN P 30 3)) => ?_)
    · refine pw_fgt (ls' := [.ref (A 507), .int (x), .int (nI (n)), .int (y), .int (u), .int (nI (k)), .retAddr 0, .retAddr 0]) ⟨Or.inr rfl, Or.inr rfl, Or.inr rfl, Or.inr rfl, Or.inr rfl, Or.inr rfl, Or.inl rfl, Or.inr rfl, trivial⟩ ?_
      rw [f_Bus_unlikeWithout_107, if_pos H1] at hk
      exact hk
    · refine pw_iload e_Bus_unlikeWithout_119 rfl ?_
      refine pw_bipush (v := nI 9) e_Bus_unlikeWithout_121 (by decide) ?_
      refine pw_imulN e_Bus_unlikeWithout_123 ?_
      refine pw_iconst (v := nI 1) e_Bus_unlikeWithout_124 (by decide) ?_
      refine pw_iaddN e_Bus_unlikeWithout_125 ?_
      refine pw_istore (ls2 := [_, _, _, _, _, _, _, _]) e_Bus_unlikeWithout_126 (by decide) rfl ?_
      refine pw_aload_n e_Bus_unlikeWithout_128 rfl ?_
      refine pw_getf e_Bus_unlikeWithout_129 fl_Bus_55 (gO_get hnd (i := 29) rfl) rfl ?_
      refine pw_getf e_Bus_unlikeWithout_132 fl_Bus_127 (gO_get hnd (i := 53) rfl) rfl ?_
      refine pw_iload e_Bus_unlikeWithout_135 rfl ?_
      refine pw_ialdN e_Bus_unlikeWithout_137 (gO_get hnd (i := 54) rfl) (by omega) (by decide) ?_
      refine pw_aload_n e_Bus_unlikeWithout_138 rfl ?_
      refine pw_getf e_Bus_unlikeWithout_139 fl_Bus_51 (gO_get hnd (i := 29) rfl) rfl ?_
      refine pw_getf e_Bus_unlikeWithout_142 fl_Bus_127 (gO_get hnd (i := 51) rfl) rfl ?_
      refine pw_iload e_Bus_unlikeWithout_145 rfl ?_
      refine pw_ialdN e_Bus_unlikeWithout_147 (gO_get hnd (i := 52) rfl) (by omega) (by decide) ?_
      refine pw_icmp_eq (tgt := 160) e_Bus_unlikeWithout_148 (by decide) (fun (H2 : ((Z 503) ((b * 9) + 1)) = ((Z 501) ((b * 9) + 1))) => ?_) (fun (H2 : ¬ ((Z 503) ((b * 9) + 1)) = ((Z 501) ((b * 9) + 1))) => ?_)
      · refine pw_iincN (ls2 := [_, _, _, _, _, _, _, _]) e_Bus_unlikeWithout_160 rfl (by decide) rfl ?_
        refine pw_goto (tgt := 107) e_Bus_unlikeWithout_163 (by decide) ?_
        refine pw_fgt (ls' := [.ref (A 507), .int (x), .int (nI (n)), .int (y), .int (u), .int (nI (k)), .int (nI (b + 1)), .retAddr 0]) ⟨Or.inr rfl, Or.inr rfl, Or.inr rfl, Or.inr rfl, Or.inr rfl, Or.inr rfl, Or.inr rfl, Or.inl rfl, trivial⟩ ?_
        refine ih Z u k (b + 1) (by omega) (by omega) ?_
        rw [f_Bus_unlikeWithout_107, if_neg (Nat.not_le.mpr H1), if_pos H2] at hk
        exact hk
      · refine pw_iload e_Bus_unlikeWithout_151 rfl ?_
        refine pw_iconst (v := nI 1) e_Bus_unlikeWithout_153 (by decide) ?_
        refine pw_iload e_Bus_unlikeWithout_154 rfl ?_
        refine pw_ishl e_Bus_unlikeWithout_156 ?_
        refine pw_ior e_Bus_unlikeWithout_157 ?_
        refine pw_istore (ls2 := [_, _, _, _, _, _, _, _]) e_Bus_unlikeWithout_158 (by decide) rfl ?_
        refine pw_iincN (ls2 := [_, _, _, _, _, _, _, _]) e_Bus_unlikeWithout_160 rfl (by decide) rfl ?_
        refine pw_goto (tgt := 107) e_Bus_unlikeWithout_163 (by decide) ?_
        refine pw_fgt (ls' := [.ref (A 507), .int (x), .int (nI (n)), .int (y), .int (u ||| ((1 : Int32) <<< ((nI (b)) &&& 31))), .int (nI (k)), .int (nI (b + 1)), .retAddr 0]) ⟨Or.inr rfl, Or.inr rfl, Or.inr rfl, Or.inr rfl, Or.inr rfl, Or.inr rfl, Or.inr rfl, Or.inl rfl, trivial⟩ ?_
        refine ih Z (u ||| ((1 : Int32) <<< ((nI (b)) &&& 31))) k (b + 1) (by omega) (by omega) ?_
        rw [f_Bus_unlikeWithout_107, if_neg (Nat.not_le.mpr H1), if_neg H2] at hk
        exact hk
def f_Bus_unlikeWithout_70 (P : Nat → Nat → Int32) (x : Int32) (n : Nat) (y : Int32) : Nat → (Nat → Nat → Int32) → (Int32) → (Nat) → Int32 × (Nat → Nat → Int32)
  | 0, Z, _, _ => (0, Z)
  | t + 1, Z, u, k => if n ≤ k then (u, Z) else f_Bus_unlikeWithout_70 P x n y t ((f_Bus_unlikeWithout_107 P x n y 11 (va_up (va_up Z 503 (f_Cycle_goBy P (Z 503))) 501 (f_Cycle_goBy P ((va_up Z 503 (f_Cycle_goBy P (Z 503))) 501))) u k 0).2) ((f_Bus_unlikeWithout_107 P x n y 11 (va_up (va_up Z 503 (f_Cycle_goBy P (Z 503))) 501 (f_Cycle_goBy P ((va_up Z 503 (f_Cycle_goBy P (Z 503))) 501))) u k 0).1) (k + 1)
set_option maxRecDepth 4000 in
theorem w_Bus_unlikeWithout_70 {g : GG} {Q : QT} {h : Hp} {kc ks : Nat} (hst : (gl g).stackTraces = false) {A : Nat → Nat} {S : SA} {P Y : Nat → Nat → Int32} (hnd : (gK (bsL g A S P Y)).Nodup) (hw : wfP P) (x : Int32) (n : Nat) (y : Int32) (hn : n < 31)  (t : Nat) : ∀ (Z : Nat → Nat → Int32) (u : Int32) (k : Nat) (hk9 : k ≤ n) (hlt : n - k < t) (hk : Q (.inl (some (.int (f_Bus_unlikeWithout_70 P x n y t Z u k).1))) (ov h (gO (bsL g A S P Y) ((f_Bus_unlikeWithout_70 P x n y t Z u k).2)))), PW g M_Bus_unlikeWithout 5 kc ks Q 70 [.ref (A 507), .int (x), .int (nI (n)), .int (y), .int (u), .int (nI (k)), .retAddr 0, .retAddr 0] [] (ov h (gO (bsL g A S P Y) Z)) := by
  induction t with
  | zero => intro Z u k hk9 hlt _; exact absurd hlt (Nat.not_lt_zero _)
  | succ t ih =>
    intro Z u k hk9 hlt hk
    have hz0 := hw.blk.2
    have hz1 := hw.lnk.2
    have hz2 := hw.dvs.2
    refine pw_iload e_Bus_unlikeWithout_70 rfl ?_
    refine pw_iload_n e_Bus_unlikeWithout_72 rfl ?_
    refine pw_icmp_geN (tgt := 172) e_Bus_unlikeWithout_73 (by decide) (by omega) (by omega) (fun (H1 : n ≤ k) => ?_) (fun (H1 : k < n) => ?_)
    · refine pw_iload e_Bus_unlikeWithout_172 rfl ?_
      refine pw_iret e_Bus_unlikeWithout_174 rfl rfl ?_
      rw [f_Bus_unlikeWithout_70, if_pos H1] at hk
      exact hk
    · refine pw_aload_n e_Bus_unlikeWithout_76 rfl ?_
      refine pw_getf e_Bus_unlikeWithout_77 fl_Bus_23 (gO_get hnd (i := 29) rfl) rfl ?_
      refine pw_aload_n e_Bus_unlikeWithout_80 rfl ?_
      refine pw_getf e_Bus_unlikeWithout_81 fl_Bus_55 (gO_get hnd (i := 29) rfl) rfl ?_
      refine pw_getf e_Bus_unlikeWithout_84 fl_Bus_127 (gO_get hnd (i := 53) rfl) rfl ?_
      refine pw_detS (As := [.ref (A 30), .ref (A 503)]) e_Bus_unlikeWithout_87 li_Bus_269 (q_Cycle_goBy hst (bs_planU hnd (j := 54) rfl (by decide)) hw (Z 503) (gO_get hnd (i := 54) rfl)) rfl (by decide) (Nat.le_of_ble_eq_true rfl) rfl ?_
      refine pw_upG (i := 54) hnd (bs_x _ _ _ _ _) rfl rfl ?_
      refine pw_aload_n e_Bus_unlikeWithout_90 rfl ?_
      refine pw_getf e_Bus_unlikeWithout_91 fl_Bus_23 (gO_get hnd (i := 29) rfl) rfl ?_
      refine pw_aload_n e_Bus_unlikeWithout_94 rfl ?_
      refine pw_getf e_Bus_unlikeWithout_95 fl_Bus_51 (gO_get hnd (i := 29) rfl) rfl ?_
      refine pw_getf e_Bus_unlikeWithout_98 fl_Bus_127 (gO_get hnd (i := 51) rfl) rfl ?_
      refine pw_detS (As := [.ref (A 30), .ref (A 501)]) e_Bus_unlikeWithout_101 li_Bus_269 (q_Cycle_goBy hst (bs_planU hnd (j := 52) rfl (by decide)) hw ((va_up Z 503 (f_Cycle_goBy P (Z 503))) 501) (gO_get hnd (i := 52) rfl)) rfl (by decide) (Nat.le_of_ble_eq_true rfl) rfl ?_
      refine pw_upG (i := 52) hnd (bs_x _ _ _ _ _) rfl rfl ?_
      refine pw_iconst (v := nI 0) e_Bus_unlikeWithout_104 (by decide) ?_
      refine pw_istore (ls2 := [_, _, _, _, _, _, _, _]) e_Bus_unlikeWithout_105 (by decide) rfl ?_
      refine w_Bus_unlikeWithout_107 hst hnd hw x n y hn 11 (va_up (va_up Z 503 (f_Cycle_goBy P (Z 503))) 501 (f_Cycle_goBy P ((va_up Z 503 (f_Cycle_goBy P (Z 503))) 501))) u k 0 (by omega) (by omega) ?_
      refine pw_iincN (ls2 := [_, _, _, _, _, _, _, _]) e_Bus_unlikeWithout_166 rfl (by decide) rfl ?_
      refine pw_goto (tgt := 70) e_Bus_unlikeWithout_169 (by decide) ?_
      refine ih ((f_Bus_unlikeWithout_107 P x n y 11 (va_up (va_up Z 503 (f_Cycle_goBy P (Z 503))) 501 (f_Cycle_goBy P ((va_up Z 503 (f_Cycle_goBy P (Z 503))) 501))) u k 0).2) ((f_Bus_unlikeWithout_107 P x n y 11 (va_up (va_up Z 503 (f_Cycle_goBy P (Z 503))) 501 (f_Cycle_goBy P ((va_up Z 503 (f_Cycle_goBy P (Z 503))) 501))) u k 0).1) (k + 1) (by omega) (by omega) ?_
      rw [f_Bus_unlikeWithout_70, if_neg (Nat.not_le.mpr H1)] at hk
      exact hk
def f_Bus_unlikeWithout_64 (P : Nat → Nat → Int32) (x : Int32) (n : Nat) (y : Int32) (Z : Nat → Nat → Int32) : Int32 × (Nat → Nat → Int32) :=
  f_Bus_unlikeWithout_70 P x n y 31 Z 0 0
set_option maxRecDepth 4000 in
theorem w_Bus_unlikeWithout_64 {g : GG} {Q : QT} {h : Hp} {kc ks : Nat} (hst : (gl g).stackTraces = false) {A : Nat → Nat} {S : SA} {P Y : Nat → Nat → Int32} (hnd : (gK (bsL g A S P Y)).Nodup) (hw : wfP P) (x : Int32) (n : Nat) (y : Int32) (hn : n < 31)  (Z : Nat → Nat → Int32) (hk : Q (.inl (some (.int (f_Bus_unlikeWithout_64 P x n y Z).1))) (ov h (gO (bsL g A S P Y) ((f_Bus_unlikeWithout_64 P x n y Z).2)))) : PW g M_Bus_unlikeWithout 5 kc ks Q 64 [.ref (A 507), .int (x), .int (nI (n)), .int (y), .retAddr 0, .retAddr 0, .retAddr 0, .retAddr 0] [] (ov h (gO (bsL g A S P Y) Z)) := by
  have hz0 := hw.blk.2
  have hz1 := hw.lnk.2
  have hz2 := hw.dvs.2
  refine pw_iconst (v := nI 0) e_Bus_unlikeWithout_64 (by decide) ?_
  refine pw_istore (ls2 := [_, _, _, _, _, _, _, _]) e_Bus_unlikeWithout_65 (by decide) rfl ?_
  refine pw_iconst (v := nI 0) e_Bus_unlikeWithout_67 (by decide) ?_
  refine pw_istore (ls2 := [_, _, _, _, _, _, _, _]) e_Bus_unlikeWithout_68 (by decide) rfl ?_
  refine w_Bus_unlikeWithout_70 hst hnd hw x n y hn 31 Z 0 0 (by omega) (by omega) ?_
  rw [f_Bus_unlikeWithout_64] at hk
  exact hk
def f_Bus_unlikeWithout (P : Nat → Nat → Int32) (x : Int32) (n : Nat) (y : Int32) (Z : Nat → Nat → Int32) : Int32 × (Nat → Nat → Int32) :=
  if (f_State_isOn ((va_up (u2 (va_up Z 503 (Z 302)) 503 224 y) 501 ((u2 (va_up Z 503 (Z 302)) 503 224 y) 503)) 501) x) = 0 then f_Bus_unlikeWithout_64 P x n y (va_up (u2 (va_up Z 503 (Z 302)) 503 224 y) 501 ((u2 (va_up Z 503 (Z 302)) 503 224 y) 503)) else f_Bus_unlikeWithout_64 P x n y (va_up (va_up (u2 (va_up Z 503 (Z 302)) 503 224 y) 501 ((u2 (va_up Z 503 (Z 302)) 503 224 y) 503)) 501 (f_State_switchDevice x 0 (P 30 2) ((va_up (u2 (va_up Z 503 (Z 302)) 503 224 y) 501 ((u2 (va_up Z 503 (Z 302)) 503 224 y) 503)) 501)))
set_option maxRecDepth 4000 in
theorem w_Bus_unlikeWithout_0 {g : GG} {Q : QT} {h : Hp} {kc ks : Nat} (hst : (gl g).stackTraces = false) {A : Nat → Nat} {S : SA} {P Y : Nat → Nat → Int32} (hnd : (gK (bsL g A S P Y)).Nodup) (hw : wfP P) (x : Int32) (n : Nat) (y : Int32) (hn : n < 31)  (Z : Nat → Nat → Int32) (hk : Q (.inl (some (.int (f_Bus_unlikeWithout P x n y Z).1))) (ov h (gO (bsL g A S P Y) ((f_Bus_unlikeWithout P x n y Z).2)))) : PW g M_Bus_unlikeWithout 5 kc ks Q 0 [.ref (A 507), .int (x), .int (nI (n)), .int (y), .retAddr 0, .retAddr 0, .retAddr 0, .retAddr 0] [] (ov h (gO (bsL g A S P Y) Z)) := by
  have hz0 := hw.blk.2
  have hz1 := hw.lnk.2
  have hz2 := hw.dvs.2
  refine pw_aload_n e_Bus_unlikeWithout_0 rfl ?_
  refine pw_getf e_Bus_unlikeWithout_1 fl_Bus_55 (gO_get hnd (i := 29) rfl) rfl ?_
  refine pw_aload_n e_Bus_unlikeWithout_4 rfl ?_
  refine pw_getf e_Bus_unlikeWithout_5 fl_Bus_37 (gO_get hnd (i := 29) rfl) rfl ?_
  refine pw_getf e_Bus_unlikeWithout_8 fl_Bus_76 (gO_get hnd (i := 31) rfl) rfl ?_
  refine pw_detV (As := [.ref (A 301)]) e_Bus_unlikeWithout_11 li_Bus_265 rfl (gO_get hnd (i := 53) rfl) (q_State_copyFrom hst (gO_get hnd (i := 53) rfl) (gO_get hnd (i := 32) rfl) (Z 503) (Z 302) (gO_get hnd (i := 54) rfl) (gO_get hnd (i := 33) rfl)) rfl (by decide) (Nat.le_of_ble_eq_true rfl) rfl ?_
  refine pw_upG (i := 54) hnd (bs_x _ _ _ _ _) rfl rfl ?_
  refine pw_aload_n e_Bus_unlikeWithout_14 rfl ?_
  refine pw_getf e_Bus_unlikeWithout_15 fl_Bus_55 (gO_get hnd (i := 29) rfl) rfl ?_
  refine pw_getf e_Bus_unlikeWithout_18 fl_Bus_127 (gO_get hnd (i := 53) rfl) rfl ?_
  refine pw_sipush (v := nI 224) e_Bus_unlikeWithout_21 (by decide) ?_
  refine pw_iload_n e_Bus_unlikeWithout_24 rfl ?_
  refine pw_iastG (i := 54) e_Bus_unlikeWithout_25 hnd (bs_x _ _ _ _ _) rfl (by omega) (by decide) ?_
  refine pw_aload_n e_Bus_unlikeWithout_26 rfl ?_
  refine pw_getf e_Bus_unlikeWithout_27 fl_Bus_51 (gO_get hnd (i := 29) rfl) rfl ?_
  refine pw_aload_n e_Bus_unlikeWithout_30 rfl ?_
  refine pw_getf e_Bus_unlikeWithout_31 fl_Bus_55 (gO_get hnd (i := 29) rfl) rfl ?_
  refine pw_detV (As := [.ref (A 502)]) e_Bus_unlikeWithout_34 li_Bus_265 rfl (gO_get hnd (i := 51) rfl) (q_State_copyFrom hst (gO_get hnd (i := 51) rfl) (gO_get hnd (i := 53) rfl) ((u2 (va_up Z 503 (Z 302)) 503 224 y) 501) ((u2 (va_up Z 503 (Z 302)) 503 224 y) 503) (gO_get hnd (i := 52) rfl) (gO_get hnd (i := 54) rfl)) rfl (by decide) (Nat.le_of_ble_eq_true rfl) rfl ?_
  refine pw_upG (i := 52) hnd (bs_x _ _ _ _ _) rfl rfl ?_
  refine pw_aload_n e_Bus_unlikeWithout_37 rfl ?_
  refine pw_getf e_Bus_unlikeWithout_38 fl_Bus_51 (gO_get hnd (i := 29) rfl) rfl ?_
  refine pw_iload_n e_Bus_unlikeWithout_41 rfl ?_
  refine pw_detV (As := [.int (x)]) e_Bus_unlikeWithout_42 li_Bus_233 rfl (gO_get hnd (i := 51) rfl) (q_State_isOn hst (gO_get hnd (i := 51) rfl) ((va_up (u2 (va_up Z 503 (Z 302)) 503 224 y) 501 ((u2 (va_up Z 503 (Z 302)) 503 224 y) 503)) 501) (gO_get hnd (i := 52) rfl) x) rfl (by decide) (Nat.le_of_ble_eq_true rfl) rfl ?_
  refine pw_if_eq (tgt := 64) e_Bus_unlikeWithout_45 (by decide) (fun (H1 : (f_State_isOn ((va_up (u2 (va_up Z 503 (Z 302)) 503 224 y) 501 ((u2 (va_up Z 503 (Z 302)) 503 224 y) 503)) 501) x) = 0) => ?_) (fun (H1 : ¬ (f_State_isOn ((va_up (u2 (va_up Z 503 (Z 302)) 503 224 y) 501 ((u2 (va_up Z 503 (Z 302)) 503 224 y) 503)) 501) x) = 0) => ?_)
  · refine w_Bus_unlikeWithout_64 hst hnd hw x n y hn (va_up (u2 (va_up Z 503 (Z 302)) 503 224 y) 501 ((u2 (va_up Z 503 (Z 302)) 503 224 y) 503)) ?_
    rw [f_Bus_unlikeWithout, if_pos H1] at hk
    exact hk
  · refine pw_aload_n e_Bus_unlikeWithout_48 rfl ?_
    refine pw_getf e_Bus_unlikeWithout_49 fl_Bus_51 (gO_get hnd (i := 29) rfl) rfl ?_
    refine pw_iload_n e_Bus_unlikeWithout_52 rfl ?_
    refine pw_iconst (v := nI 0) e_Bus_unlikeWithout_53 (by decide) ?_
    refine pw_aload_n e_Bus_unlikeWithout_54 rfl ?_
    refine pw_getf e_Bus_unlikeWithout_55 fl_Bus_23 (gO_get hnd (i := 29) rfl) rfl ?_
    refine pw_getf e_Bus_unlikeWithout_58 fl_Bus_236 (gO_get hnd (i := 0) rfl) rfl ?_
    refine pw_detV (As := [.int (x), .int (nI (0)), .int (P 30 2)]) e_Bus_unlikeWithout_61 li_Bus_239 rfl (gO_get hnd (i := 51) rfl) (q_State_switchDevice hst (bs_ne hnd (i := 51) (j := 52) rfl rfl (by decide)) x 0 (P 30 2) ((va_up (u2 (va_up Z 503 (Z 302)) 503 224 y) 501 ((u2 (va_up Z 503 (Z 302)) 503 224 y) 503)) 501) (gO_get hnd (i := 52) rfl)) rfl (by decide) (Nat.le_of_ble_eq_true rfl) rfl ?_
    refine pw_upG (i := 52) hnd (bs_x _ _ _ _ _) rfl rfl ?_
    refine w_Bus_unlikeWithout_64 hst hnd hw x n y hn (va_up (va_up (u2 (va_up Z 503 (Z 302)) 503 224 y) 501 ((u2 (va_up Z 503 (Z 302)) 503 224 y) 503)) 501 (f_State_switchDevice x 0 (P 30 2) ((va_up (u2 (va_up Z 503 (Z 302)) 503 224 y) 501 ((u2 (va_up Z 503 (Z 302)) 503 224 y) 503)) 501))) ?_
    rw [f_Bus_unlikeWithout, if_neg H1] at hk
    exact hk
theorem q_Bus_unlikeWithout {g : GG} {h : Hp} (hst : (gl g).stackTraces = false) {A : Nat → Nat} {S : SA} {P Y : Nat → Nat → Int32} (hnd : (gK (bsL g A S P Y)).Nodup) (hw : wfP P) (x : Int32) (n : Nat) (y : Int32) (hn : n < 31)  (Z : Nat → Nat → Int32) (hm : ∀ q ∈ gO (bsL g A S P Y) Z, h q.1 = some q.2) : PM g M_Bus_unlikeWithout 5 0 0 [.ref (A 507), .int (x), .int (nI (n)), .int (y)] h (RetV (some (.int (f_Bus_unlikeWithout P x n y Z).1)) (ov h (gO (bsL g A S P Y) ((f_Bus_unlikeWithout P x n y Z).2)))) := by
  refine PM.of hst (by decide) rfl (fun v hv => ?_) (Nat.le_of_ble_eq_true rfl) ?_
  · simp only [List.mem_cons, List.not_mem_nil, or_false] at hv; rcases hv with rfl | rfl | rfl | rfl <;> rfl
  · have hq := w_Bus_unlikeWithout_0 (g := g) (Q := RetV (some (.int (f_Bus_unlikeWithout P x n y Z).1)) (ov h (gO (bsL g A S P Y) ((f_Bus_unlikeWithout P x n y Z).2)))) (h := h) (kc := 0) (ks := 0) hst hnd hw x n y hn Z ?_
    · rw [ov_self hm] at hq; exact hq
    · exact ⟨rfl, rfl⟩

def f_Bus_lost_23 (P : Nat → Nat → Int32) (x y : Int32) (Z : Nat → Nat → Int32) (n : Nat) : (Int32 ⊕ String) × (Nat → Nat → Int32) :=
  (.inl ((f_Bus_unlikeWithout P x n ((Z 302) 224) Z).1), (f_Bus_unlikeWithout P x n ((Z 302) 224) Z).2)
set_option maxRecDepth 4000 in
theorem w_Bus_lost_23 {g : GG} {Q : QT} {h : Hp} (hst : (gl g).stackTraces = false) {A : Nat → Nat} {S : SA} {P Y : Nat → Nat → Int32} (hnd : (gK (bsL g A S P Y)).Nodup) (hw : wfP P) (x y : Int32)  (Z : Nat → Nat → Int32) (n : Nat) (hn : n < 31) (hk : Q (outX (f_Bus_lost_23 P x y Z n).1) (ov h (gO (bsL g A S P Y) ((f_Bus_lost_23 P x y Z n).2)))) : PW g M_Bus_lost 8 0 0 Q 23 [.ref (A 507), .int (x), .int (nI (n))] [] (ov h (gO (bsL g A S P Y) Z)) := by
  have hz0 := hw.blk.2
  have hz1 := hw.lnk.2
  have hz2 := hw.dvs.2
  refine pw_aload_n e_Bus_lost_23 rfl ?_
  refine pw_iload_n e_Bus_lost_24 rfl ?_
  refine pw_iload_n e_Bus_lost_25 rfl ?_
  refine pw_aload_n e_Bus_lost_26 rfl ?_
  refine pw_getf e_Bus_lost_27 fl_Bus_37 (gO_get hnd (i := 29) rfl) rfl ?_
  refine pw_getf e_Bus_lost_30 fl_Bus_76 (gO_get hnd (i := 31) rfl) rfl ?_
  refine pw_getf e_Bus_lost_33 fl_Bus_127 (gO_get hnd (i := 32) rfl) rfl ?_
  refine pw_sipush (v := nI 224) e_Bus_lost_36 (by decide) ?_
  refine pw_ialdN e_Bus_lost_39 (gO_get hnd (i := 33) rfl) (by omega) (by decide) ?_
  refine pw_detV (As := [.int (x), .int (nI (n)), .int ((Z 302) 224)]) e_Bus_lost_40 li_Bus_281 rfl (gO_get hnd (i := 29) rfl) (q_Bus_unlikeWithout hst hnd hw x n ((Z 302) 224) (by omega) Z (gO_in hnd (fun _ z => z))) rfl (by decide) (Nat.le_of_ble_eq_true rfl) rfl ?_
  refine pw_sameG hnd ?_
  refine pw_iret e_Bus_lost_43 rfl rfl ?_
  rw [f_Bus_lost_23] at hk
  exact hk
def f_Bus_lost (P : Nat → Nat → Int32) (x y : Int32) (Z : Nat → Nat → Int32) : (Int32 ⊕ String) × (Nat → Nat → Int32) :=
  if (f_Bus_isDevice P x) = 0 then (.inr "java/util/NoSuchElementException", Z) else if ¬ y < nI 1 ∧ y ≤ nI 30 then f_Bus_lost_23 P x y Z y.toNatClampNeg else (.inr "java/lang/IllegalArgumentException", Z)
set_option maxRecDepth 4000 in
theorem w_Bus_lost_0 {g : GG} {Q : QT} {h : Hp} (hst : (gl g).stackTraces = false) {A : Nat → Nat} {S : SA} {P Y : Nat → Nat → Int32} (hnd : (gK (bsL g A S P Y)).Nodup) (hw : wfP P) (x y : Int32)  (Z : Nat → Nat → Int32) (hk : Q (outX (f_Bus_lost P x y Z).1) (ov h (gO (bsL g A S P Y) ((f_Bus_lost P x y Z).2)))) : PW g M_Bus_lost 8 1 6 Q 0 [.ref (A 507), .int (x), .int (y)] [] (ov h (gO (bsL g A S P Y) Z)) := by
  have hz0 := hw.blk.2
  have hz1 := hw.lnk.2
  have hz2 := hw.dvs.2
  refine pw_aload_n e_Bus_lost_0 rfl ?_
  refine pw_iload_n e_Bus_lost_1 rfl ?_
  refine pw_detV (As := [.int (x)]) e_Bus_lost_2 li_Bus_230 rfl (gO_get hnd (i := 29) rfl) (q_Bus_isDevice hst (Z 507) (gO_get hnd (i := 29) rfl) (bs_pl hnd) hw x) rfl (by decide) (Nat.le_of_ble_eq_true rfl) rfl ?_
  refine pw_if_ne (tgt := 16) e_Bus_lost_5 (by decide) (fun (H1 : ¬ (f_Bus_isDevice P x) = 0) => ?_) (fun (H1 : (f_Bus_isDevice P x) = 0) => ?_)
  · refine pw_iload_n e_Bus_lost_16 rfl ?_
    refine pw_iconst (v := nI 1) e_Bus_lost_17 (by decide) ?_
    refine pw_bipush (v := nI 30) e_Bus_lost_18 (by decide) ?_
    refine pw_brS (kc := 0) (ks := 0) (As := [.int (y), .int (nI (1)), .int (nI (30))]) e_Bus_lost_20 li_Bus_261 (q_Bus_needWithin hst y (nI 1) (nI 30)) rfl (by decide) (Nat.le_of_ble_eq_true rfl) rfl rfl (fun (H2 : ¬ y < nI 1 ∧ y ≤ nI 30) => ?_) (fun (H2 : ¬ (¬ y < nI 1 ∧ y ≤ nI 30)) => ?_)
    · refine pw_eqls (ls' := [.ref (A 507), .int (x), .int (nI (y.toNatClampNeg))]) (by rw [← (show y = nI (y.toNatClampNeg) from (win_of1 (by decide) H2).1)]) ?_
      refine w_Bus_lost_23 hst hnd hw x y Z y.toNatClampNeg (win_of1 (by decide) H2).2 ?_
      rw [f_Bus_lost, if_neg H1, if_pos H2] at hk
      exact hk
    · rw [f_Bus_lost, if_neg H1, if_neg H2] at hk
      exact hk
  · refine pw_nse (kc := 0) (ks := 0) rfl e_Bus_lost_8 e_Bus_lost_11 e_Bus_lost_12 e_Bus_lost_15 rfl (by decide) (Nat.le_of_ble_eq_true rfl) ?_
    rw [f_Bus_lost, if_pos H1] at hk
    exact hk
theorem q_Bus_lost {g : GG} {h : Hp} (hst : (gl g).stackTraces = false) {A : Nat → Nat} {S : SA} {P Y : Nat → Nat → Int32} (hnd : (gK (bsL g A S P Y)).Nodup) (hw : wfP P) (x y : Int32)  (Z : Nat → Nat → Int32) (hm : ∀ q ∈ gO (bsL g A S P Y) Z, h q.1 = some q.2) : PM g M_Bus_lost 8 1 6 [.ref (A 507), .int (x), .int (y)] h (RetX (f_Bus_lost P x y Z).1 (ov h (gO (bsL g A S P Y) ((f_Bus_lost P x y Z).2)))) := by
  refine PM.of hst (by decide) rfl (fun v hv => ?_) (Nat.le_of_ble_eq_true rfl) ?_
  · simp only [List.mem_cons, List.not_mem_nil, or_false] at hv; rcases hv with rfl | rfl | rfl <;> rfl
  · have hq := w_Bus_lost_0 (g := g) (Q := RetX (f_Bus_lost P x y Z).1 (ov h (gO (bsL g A S P Y) ((f_Bus_lost P x y Z).2)))) (h := h) hst hnd hw x y Z ?_
    · rw [ov_self hm] at hq; exact hq
    · exact ⟨rfl, rfl⟩

def f_Bus_toRide_67 (P : Nat → Nat → Int32) : Nat → (Nat → Nat → Int32) → (Int32) → (Int32) → (Nat) → Int32 × (Nat → Nat → Int32)
  | 0, Z, _, _, _ => (0, Z)
  | t + 1, Z, d, o, k => if 9 < k then ((-1), Z) else if (((f_Bus_unlikeWithout P d 20 (nI (k)) Z).1) &&& o) = 0 then (nI (k), (f_Bus_unlikeWithout P d 20 (nI (k)) Z).2) else f_Bus_toRide_67 P t ((f_Bus_unlikeWithout P d 20 (nI (k)) Z).2) d o (k + 1)
set_option maxRecDepth 4000 in
theorem w_Bus_toRide_67 {g : GG} {Q : QT} {h : Hp} {kc ks : Nat} (hst : (gl g).stackTraces = false) {A : Nat → Nat} {S : SA} {P Y : Nat → Nat → Int32} (hnd : (gK (bsL g A S P Y)).Nodup) (hw : wfP P)  (t : Nat) : ∀ (Z : Nat → Nat → Int32) (d : Int32) (o : Int32) (k : Nat) (hk1 : 1 ≤ k ∧ k ≤ 10) (hlt : 10 - k < t) (hk : Q (.inl (some (.int (f_Bus_toRide_67 P t Z d o k).1))) (ov h (gO (bsL g A S P Y) ((f_Bus_toRide_67 P t Z d o k).2)))), PW g M_Bus_toRide 8 kc ks Q 67 [.ref (A 507), .int (d), .int (o), .int (nI (k))] [] (ov h (gO (bsL g A S P Y) Z)) := by
  induction t with
  | zero => intro Z d o k hk1 hlt _; exact absurd hlt (Nat.not_lt_zero _)
  | succ t ih =>
    intro Z d o k hk1 hlt hk
    have hz0 := hw.blk.2
    have hz1 := hw.lnk.2
    have hz2 := hw.dvs.2
    refine pw_iload_n e_Bus_toRide_67 rfl ?_
    refine pw_bipush (v := nI 9) e_Bus_toRide_68 (by decide) ?_
    refine pw_icmp_gtN (tgt := 94) e_Bus_toRide_70 (by decide) (by omega) (by omega) (fun (H1 : 9 < k) => ?_) (fun (H1 : k ≤ 9) => ?_)
    · refine pw_iconst (v := (-1)) e_Bus_toRide_94 (by decide) ?_
      refine pw_iret e_Bus_toRide_95 rfl rfl ?_
      rw [f_Bus_toRide_67, if_pos H1] at hk
      exact hk
    · refine pw_aload_n e_Bus_toRide_73 rfl ?_
      refine pw_iload_n e_Bus_toRide_74 rfl ?_
      refine pw_bipush (v := nI 20) e_Bus_toRide_75 (by decide) ?_
      refine pw_iload_n e_Bus_toRide_77 rfl ?_
      refine pw_detV (As := [.int (d), .int (nI (20)), .int (nI (k))]) e_Bus_toRide_78 li_Bus_281 rfl (gO_get hnd (i := 29) rfl) (q_Bus_unlikeWithout hst hnd hw d 20 (nI (k)) (by omega) Z (gO_in hnd (fun _ z => z))) rfl (by decide) (Nat.le_of_ble_eq_true rfl) rfl ?_
      refine pw_sameG hnd ?_
      refine pw_iload_n e_Bus_toRide_81 rfl ?_
      refine pw_iand e_Bus_toRide_82 ?_
      refine pw_if_ne (tgt := 88) e_Bus_toRide_83 (by decide) (fun (H2 : ¬ (((f_Bus_unlikeWithout P d 20 (nI (k)) Z).1) &&& o) = 0) => ?_) (fun (H2 : (((f_Bus_unlikeWithout P d 20 (nI (k)) Z).1) &&& o) = 0) => ?_)
      · refine pw_iincN (ls2 := [_, _, _, _]) e_Bus_toRide_88 rfl (by decide) rfl ?_
        refine pw_goto (tgt := 67) e_Bus_toRide_91 (by decide) ?_
        refine ih ((f_Bus_unlikeWithout P d 20 (nI (k)) Z).2) d o (k + 1) (by omega) (by omega) ?_
        rw [f_Bus_toRide_67, if_neg (Nat.not_lt.mpr H1), if_neg H2] at hk
        exact hk
      · refine pw_iload_n e_Bus_toRide_86 rfl ?_
        refine pw_iret e_Bus_toRide_87 rfl rfl ?_
        rw [f_Bus_toRide_67, if_neg (Nat.not_lt.mpr H1), if_pos H2] at hk
        exact hk
def f_Bus_toRide_29 (P : Nat → Nat → Int32) : Nat → (Nat → Nat → Int32) → (Int32) → (Int32) → (Nat) → Int32 × (Nat → Nat → Int32)
  | 0, Z, _, _, _ => (0, Z)
  | t + 1, Z, d, o, b => if (pN P 30 3) ≤ b then (o, Z) else if ((P 1) b) = d then f_Bus_toRide_29 P t Z d o (b + 1) else f_Bus_toRide_29 P t Z d (o ||| ((1 : Int32) <<< ((nI (b)) &&& 31))) (b + 1)
set_option maxRecDepth 4000 in
theorem w_Bus_toRide_29 {g : GG} {Q : QT} {h : Hp} {kc ks : Nat} (hst : (gl g).stackTraces = false) {A : Nat → Nat} {S : SA} {P Y : Nat → Nat → Int32} (hnd : (gK (bsL g A S P Y)).Nodup) (hw : wfP P)  (t : Nat) : ∀ (Z : Nat → Nat → Int32) (d : Int32) (o : Int32) (b : Nat) (hb9 : b ≤ pN P 30 3) (hlt : pN P 30 3 - b < t) (hk : PW g M_Bus_toRide 8 kc ks Q 65 [.ref (A 507), .int (d), .int ((f_Bus_toRide_29 P t Z d o b).1), .retAddr 0] [] (ov h (gO (bsL g A S P Y) ((f_Bus_toRide_29 P t Z d o b).2)))), PW g M_Bus_toRide 8 kc ks Q 29 [.ref (A 507), .int (d), .int (o), .int (nI (b))] [] (ov h (gO (bsL g A S P Y) Z)) := by
  induction t with
  | zero => intro Z d o b hb9 hlt _; exact absurd hlt (Nat.not_lt_zero _)
  | succ t ih =>
    intro Z d o b hb9 hlt hk
    have hz0 := hw.blk.2
    have hz1 := hw.lnk.2
    have hz2 := hw.dvs.2
    refine pw_iload_n e_Bus_toRide_29 rfl ?_
    refine pw_aload_n e_Bus_toRide_30 rfl ?_
    refine pw_getf e_Bus_toRide_31 fl_Bus_23 (gO_get hnd (i := 29) rfl) rfl ?_
    refine pw_getf e_Bus_toRide_34 fl_Bus_133 (gO_get hnd (i := 0) rfl) rfl ?_
    rw [hw.blk.1]
    refine pw_icmp_geN (tgt := 65) e_Bus_toRide_37 (by decide) (by omega) (by omega) (fun (H1 : (pN P 30 3) ≤ b) => ?_) (fun (H1 : b < (pN P 30 3)) => ?_)
    · refine pw_fgt (ls' := [.ref (A 507), .int (d), .int (o), .retAddr 0]) ⟨Or.inr rfl, Or.inr rfl, Or.inr rfl, Or.inl rfl, trivial⟩ ?_
      rw [f_Bus_toRide_29, if_pos H1] at hk
      exact hk
    · refine pw_aload_n e_Bus_toRide_40 rfl ?_
      refine pw_getf e_Bus_toRide_41 fl_Bus_23 (gO_get hnd (i := 29) rfl) rfl ?_
      refine pw_getf e_Bus_toRide_44 fl_Bus_162 (gO_get hnd (i := 0) rfl) rfl ?_
      refine pw_iload_n e_Bus_toRide_47 rfl ?_
      refine pw_ialdN e_Bus_toRide_48 (bs_pl hnd).a1 (by omega) (by decide) ?_
      refine pw_iload_n e_Bus_toRide_49 rfl ?_
      refine pw_icmp_eq (tgt := 59) e_Bus_toRide_50 (by decide) (fun (H2 : ((P 1) b) = d) => ?_) (fun (H2 : ¬ ((P 1) b) = d) => ?_)
      · refine pw_iincN (ls2 := [_, _, _, _]) e_Bus_toRide_59 rfl (by decide) rfl ?_
        refine pw_goto (tgt := 29) e_Bus_toRide_62 (by decide) ?_
        refine ih Z d o (b + 1) (by omega) (by omega) ?_
        rw [f_Bus_toRide_29, if_neg (Nat.not_le.mpr H1), if_pos H2] at hk
        exact hk
      · refine pw_iload_n e_Bus_toRide_53 rfl ?_
        refine pw_iconst (v := nI 1) e_Bus_toRide_54 (by decide) ?_
        refine pw_iload_n e_Bus_toRide_55 rfl ?_
        refine pw_ishl e_Bus_toRide_56 ?_
        refine pw_ior e_Bus_toRide_57 ?_
        refine pw_istore_n (ls2 := [_, _, _, _]) e_Bus_toRide_58 (by decide) rfl ?_
        refine pw_iincN (ls2 := [_, _, _, _]) e_Bus_toRide_59 rfl (by decide) rfl ?_
        refine pw_goto (tgt := 29) e_Bus_toRide_62 (by decide) ?_
        refine ih Z d (o ||| ((1 : Int32) <<< ((nI (b)) &&& 31))) (b + 1) (by omega) (by omega) ?_
        rw [f_Bus_toRide_29, if_neg (Nat.not_le.mpr H1), if_neg H2] at hk
        exact hk
def f_Bus_toRide (P : Nat → Nat → Int32) (Z : Nat → Nat → Int32) : Int32 × (Nat → Nat → Int32) :=
  if (f_Bus_isDevice P ((Z 302) 221)) = 0 then ((-1), Z) else f_Bus_toRide_67 P 10 ((f_Bus_toRide_29 P 11 Z ((Z 302) 221) 0 0).2) ((Z 302) 221) ((f_Bus_toRide_29 P 11 Z ((Z 302) 221) 0 0).1) 1
set_option maxRecDepth 4000 in
theorem w_Bus_toRide_0 {g : GG} {Q : QT} {h : Hp} {kc ks : Nat} (hst : (gl g).stackTraces = false) {A : Nat → Nat} {S : SA} {P Y : Nat → Nat → Int32} (hnd : (gK (bsL g A S P Y)).Nodup) (hw : wfP P)  (Z : Nat → Nat → Int32) (hk : Q (.inl (some (.int (f_Bus_toRide P Z).1))) (ov h (gO (bsL g A S P Y) ((f_Bus_toRide P Z).2)))) : PW g M_Bus_toRide 8 kc ks Q 0 [.ref (A 507), .retAddr 0, .retAddr 0, .retAddr 0] [] (ov h (gO (bsL g A S P Y) Z)) := by
  have hz0 := hw.blk.2
  have hz1 := hw.lnk.2
  have hz2 := hw.dvs.2
  refine pw_aload_n e_Bus_toRide_0 rfl ?_
  refine pw_getf e_Bus_toRide_1 fl_Bus_37 (gO_get hnd (i := 29) rfl) rfl ?_
  refine pw_getf e_Bus_toRide_4 fl_Bus_76 (gO_get hnd (i := 31) rfl) rfl ?_
  refine pw_getf e_Bus_toRide_7 fl_Bus_127 (gO_get hnd (i := 32) rfl) rfl ?_
  refine pw_sipush (v := nI 221) e_Bus_toRide_10 (by decide) ?_
  refine pw_ialdN e_Bus_toRide_13 (gO_get hnd (i := 33) rfl) (by omega) (by decide) ?_
  refine pw_istore_n (ls2 := [_, _, _, _]) e_Bus_toRide_14 (by decide) rfl ?_
  refine pw_aload_n e_Bus_toRide_15 rfl ?_
  refine pw_iload_n e_Bus_toRide_16 rfl ?_
  refine pw_detV (As := [.int ((Z 302) 221)]) e_Bus_toRide_17 li_Bus_230 rfl (gO_get hnd (i := 29) rfl) (q_Bus_isDevice hst (Z 507) (gO_get hnd (i := 29) rfl) (bs_pl hnd) hw ((Z 302) 221)) rfl (by decide) (Nat.le_of_ble_eq_true rfl) rfl ?_
  refine pw_if_ne (tgt := 25) e_Bus_toRide_20 (by decide) (fun (H1 : ¬ (f_Bus_isDevice P ((Z 302) 221)) = 0) => ?_) (fun (H1 : (f_Bus_isDevice P ((Z 302) 221)) = 0) => ?_)
  · refine pw_iconst (v := nI 0) e_Bus_toRide_25 (by decide) ?_
    refine pw_istore_n (ls2 := [_, _, _, _]) e_Bus_toRide_26 (by decide) rfl ?_
    refine pw_iconst (v := nI 0) e_Bus_toRide_27 (by decide) ?_
    refine pw_istore_n (ls2 := [_, _, _, _]) e_Bus_toRide_28 (by decide) rfl ?_
    refine w_Bus_toRide_29 hst hnd hw 11 Z ((Z 302) 221) 0 0 (by omega) (by omega) ?_
    refine pw_iconst (v := nI 1) e_Bus_toRide_65 (by decide) ?_
    refine pw_istore_n (ls2 := [_, _, _, _]) e_Bus_toRide_66 (by decide) rfl ?_
    refine w_Bus_toRide_67 hst hnd hw 10 ((f_Bus_toRide_29 P 11 Z ((Z 302) 221) 0 0).2) ((Z 302) 221) ((f_Bus_toRide_29 P 11 Z ((Z 302) 221) 0 0).1) 1 (by omega) (by omega) ?_
    rw [f_Bus_toRide, if_neg H1] at hk
    exact hk
  · refine pw_iconst (v := (-1)) e_Bus_toRide_23 (by decide) ?_
    refine pw_iret e_Bus_toRide_24 rfl rfl ?_
    rw [f_Bus_toRide, if_pos H1] at hk
    exact hk
theorem q_Bus_toRide {g : GG} {h : Hp} (hst : (gl g).stackTraces = false) {A : Nat → Nat} {S : SA} {P Y : Nat → Nat → Int32} (hnd : (gK (bsL g A S P Y)).Nodup) (hw : wfP P)  (Z : Nat → Nat → Int32) (hm : ∀ q ∈ gO (bsL g A S P Y) Z, h q.1 = some q.2) : PM g M_Bus_toRide 8 0 0 [.ref (A 507)] h (RetV (some (.int (f_Bus_toRide P Z).1)) (ov h (gO (bsL g A S P Y) ((f_Bus_toRide P Z).2)))) := by
  refine PM.of hst (by decide) rfl (fun v hv => ?_) (Nat.le_of_ble_eq_true rfl) ?_
  · simp only [List.mem_cons, List.not_mem_nil, or_false] at hv; rcases hv with rfl <;> rfl
  · have hq := w_Bus_toRide_0 (g := g) (Q := RetV (some (.int (f_Bus_toRide P Z).1)) (ov h (gO (bsL g A S P Y) ((f_Bus_toRide P Z).2)))) (h := h) (kc := 0) (ks := 0) hst hnd hw Z ?_
    · rw [ov_self hm] at hq; exact hq
    · exact ⟨rfl, rfl⟩

def f_Bus_staysBelow_48 (P : Nat → Nat → Int32) (b : Nat) (y z : Int32) (n : Nat) : Nat → (Nat → Nat → Int32) → (Nat) → Int32 × (Nat → Nat → Int32)
  | 0, Z, _ => (0, Z)
  | t + 1, Z, k => if n ≤ k then (1, Z) else if ((((va_up Z 501 (f_Cycle_goBy P (Z 501))) 501) ((came P b 0) + 0)) - (((va_up Z 501 (f_Cycle_goBy P (Z 501))) 501) ((b * 9) + 2))) ≤ z then f_Bus_staysBelow_48 P b y z n t (va_up Z 501 (f_Cycle_goBy P (Z 501))) (k + 1) else (0, va_up Z 501 (f_Cycle_goBy P (Z 501)))
set_option maxRecDepth 4000 in
theorem w_Bus_staysBelow_48 {g : GG} {Q : QT} {h : Hp} {kc ks : Nat} (hst : (gl g).stackTraces = false) {A : Nat → Nat} {S : SA} {P Y : Nat → Nat → Int32} (hnd : (gK (bsL g A S P Y)).Nodup) (hw : wfP P) (b : Nat) (y z : Int32) (n : Nat) (hb : b < 10) (hn : n < 31)  (t : Nat) : ∀ (Z : Nat → Nat → Int32) (k : Nat) (hk9 : k ≤ n) (hlt : n - k < t) (hk : Q (.inl (some (.int (f_Bus_staysBelow_48 P b y z n t Z k).1))) (ov h (gO (bsL g A S P Y) ((f_Bus_staysBelow_48 P b y z n t Z k).2)))), PW g M_Bus_staysBelow 5 kc ks Q 48 [.ref (A 507), .int (nI (b)), .int (y), .int (z), .int (nI (n)), .int (nI (b * 9)), .int (nI (came P b 0)), .int (nI (k))] [] (ov h (gO (bsL g A S P Y) Z)) := by
  induction t with
  | zero => intro Z k hk9 hlt _; exact absurd hlt (Nat.not_lt_zero _)
  | succ t ih =>
    intro Z k hk9 hlt hk
    have hb0 := came_lt hw b 0
    have hz0 := hw.blk.2
    have hz1 := hw.lnk.2
    have hz2 := hw.dvs.2
    refine pw_iload e_Bus_staysBelow_48 rfl ?_
    refine pw_iload e_Bus_staysBelow_50 rfl ?_
    refine pw_icmp_geN (tgt := 106) e_Bus_staysBelow_52 (by decide) (by omega) (by omega) (fun (H1 : n ≤ k) => ?_) (fun (H1 : k < n) => ?_)
    · refine pw_iconst (v := nI 1) e_Bus_staysBelow_106 (by decide) ?_
      refine pw_iret e_Bus_staysBelow_107 rfl (by decide) ?_
      rw [f_Bus_staysBelow_48, if_pos H1] at hk
      exact hk
    · refine pw_aload_n e_Bus_staysBelow_55 rfl ?_
      refine pw_getf e_Bus_staysBelow_56 fl_Bus_23 (gO_get hnd (i := 29) rfl) rfl ?_
      refine pw_aload_n e_Bus_staysBelow_59 rfl ?_
      refine pw_getf e_Bus_staysBelow_60 fl_Bus_51 (gO_get hnd (i := 29) rfl) rfl ?_
      refine pw_getf e_Bus_staysBelow_63 fl_Bus_127 (gO_get hnd (i := 51) rfl) rfl ?_
      refine pw_detS (As := [.ref (A 30), .ref (A 501)]) e_Bus_staysBelow_66 li_Bus_269 (q_Cycle_goBy hst (bs_planU hnd (j := 52) rfl (by decide)) hw (Z 501) (gO_get hnd (i := 52) rfl)) rfl (by decide) (Nat.le_of_ble_eq_true rfl) rfl ?_
      refine pw_upG (i := 52) hnd (bs_x _ _ _ _ _) rfl rfl ?_
      refine pw_aload_n e_Bus_staysBelow_69 rfl ?_
      refine pw_getf e_Bus_staysBelow_70 fl_Bus_51 (gO_get hnd (i := 29) rfl) rfl ?_
      refine pw_getf e_Bus_staysBelow_73 fl_Bus_127 (gO_get hnd (i := 51) rfl) rfl ?_
      refine pw_iload e_Bus_staysBelow_76 rfl ?_
      refine pw_iconst (v := nI 0) e_Bus_staysBelow_78 (by decide) ?_
      refine pw_iaddN e_Bus_staysBelow_79 ?_
      refine pw_ialdN e_Bus_staysBelow_80 (gO_get hnd (i := 52) rfl) (by omega) (by decide) ?_
      refine pw_aload_n e_Bus_staysBelow_81 rfl ?_
      refine pw_getf e_Bus_staysBelow_82 fl_Bus_51 (gO_get hnd (i := 29) rfl) rfl ?_
      refine pw_getf e_Bus_staysBelow_85 fl_Bus_127 (gO_get hnd (i := 51) rfl) rfl ?_
      refine pw_iload e_Bus_staysBelow_88 rfl ?_
      refine pw_iconst (v := nI 2) e_Bus_staysBelow_90 (by decide) ?_
      refine pw_iaddN e_Bus_staysBelow_91 ?_
      refine pw_ialdN e_Bus_staysBelow_92 (gO_get hnd (i := 52) rfl) (by omega) (by decide) ?_
      refine pw_isub e_Bus_staysBelow_93 ?_
      refine pw_iload_n e_Bus_staysBelow_94 rfl ?_
      refine pw_icmp_le (tgt := 100) e_Bus_staysBelow_95 (by decide) (fun (H2 : ((((va_up Z 501 (f_Cycle_goBy P (Z 501))) 501) ((came P b 0) + 0)) - (((va_up Z 501 (f_Cycle_goBy P (Z 501))) 501) ((b * 9) + 2))) ≤ z) => ?_) (fun (H2 : ¬ ((((va_up Z 501 (f_Cycle_goBy P (Z 501))) 501) ((came P b 0) + 0)) - (((va_up Z 501 (f_Cycle_goBy P (Z 501))) 501) ((b * 9) + 2))) ≤ z) => ?_)
      · refine pw_iincN (ls2 := [_, _, _, _, _, _, _, _]) e_Bus_staysBelow_100 rfl (by decide) rfl ?_
        refine pw_goto (tgt := 48) e_Bus_staysBelow_103 (by decide) ?_
        refine ih (va_up Z 501 (f_Cycle_goBy P (Z 501))) (k + 1) (by omega) (by omega) ?_
        rw [f_Bus_staysBelow_48, if_neg (Nat.not_le.mpr H1), if_pos H2] at hk
        exact hk
      · refine pw_iconst (v := nI 0) e_Bus_staysBelow_98 (by decide) ?_
        refine pw_iret e_Bus_staysBelow_99 rfl (by decide) ?_
        rw [f_Bus_staysBelow_48, if_neg (Nat.not_le.mpr H1), if_neg H2] at hk
        exact hk
def f_Bus_staysBelow (P : Nat → Nat → Int32) (b : Nat) (y z : Int32) (n : Nat) (Z : Nat → Nat → Int32) : Int32 × (Nat → Nat → Int32) :=
  f_Bus_staysBelow_48 P b y z n 31 (u2 (va_up Z 501 (Z 302)) 501 ((b * 9) + 8) y) 0
set_option maxRecDepth 4000 in
theorem w_Bus_staysBelow_0 {g : GG} {Q : QT} {h : Hp} {kc ks : Nat} (hst : (gl g).stackTraces = false) {A : Nat → Nat} {S : SA} {P Y : Nat → Nat → Int32} (hnd : (gK (bsL g A S P Y)).Nodup) (hw : wfP P) (b : Nat) (y z : Int32) (n : Nat) (hb : b < 10) (hn : n < 31)  (Z : Nat → Nat → Int32) (hk : Q (.inl (some (.int (f_Bus_staysBelow P b y z n Z).1))) (ov h (gO (bsL g A S P Y) ((f_Bus_staysBelow P b y z n Z).2)))) : PW g M_Bus_staysBelow 5 kc ks Q 0 [.ref (A 507), .int (nI (b)), .int (y), .int (z), .int (nI (n)), .retAddr 0, .retAddr 0, .retAddr 0] [] (ov h (gO (bsL g A S P Y) Z)) := by
  have hz0 := hw.blk.2
  have hz1 := hw.lnk.2
  have hz2 := hw.dvs.2
  refine pw_iload_n e_Bus_staysBelow_0 rfl ?_
  refine pw_bipush (v := nI 9) e_Bus_staysBelow_1 (by decide) ?_
  refine pw_imulN e_Bus_staysBelow_3 ?_
  refine pw_istore (ls2 := [_, _, _, _, _, _, _, _]) e_Bus_staysBelow_4 (by decide) rfl ?_
  refine pw_aload_n e_Bus_staysBelow_6 rfl ?_
  refine pw_getf e_Bus_staysBelow_7 fl_Bus_23 (gO_get hnd (i := 29) rfl) rfl ?_
  refine pw_iload_n e_Bus_staysBelow_10 rfl ?_
  refine pw_iconst (v := nI 0) e_Bus_staysBelow_11 (by decide) ?_
  have hb1 := came_lt hw b 0
  refine pw_detV (As := [.int (nI (b)), .int (nI (0))]) e_Bus_staysBelow_12 li_Bus_289 rfl (gO_get hnd (i := 0) rfl) (q_came hst (bs_pl hnd) hw b 0 (by omega) (by decide)) rfl (by decide) (Nat.le_of_ble_eq_true rfl) rfl ?_
  refine pw_istore (ls2 := [_, _, _, _, _, _, _, _]) e_Bus_staysBelow_15 (by decide) rfl ?_
  refine pw_aload_n e_Bus_staysBelow_17 rfl ?_
  refine pw_getf e_Bus_staysBelow_18 fl_Bus_51 (gO_get hnd (i := 29) rfl) rfl ?_
  refine pw_aload_n e_Bus_staysBelow_21 rfl ?_
  refine pw_getf e_Bus_staysBelow_22 fl_Bus_37 (gO_get hnd (i := 29) rfl) rfl ?_
  refine pw_getf e_Bus_staysBelow_25 fl_Bus_76 (gO_get hnd (i := 31) rfl) rfl ?_
  refine pw_detV (As := [.ref (A 301)]) e_Bus_staysBelow_28 li_Bus_265 rfl (gO_get hnd (i := 51) rfl) (q_State_copyFrom hst (gO_get hnd (i := 51) rfl) (gO_get hnd (i := 32) rfl) (Z 501) (Z 302) (gO_get hnd (i := 52) rfl) (gO_get hnd (i := 33) rfl)) rfl (by decide) (Nat.le_of_ble_eq_true rfl) rfl ?_
  refine pw_upG (i := 52) hnd (bs_x _ _ _ _ _) rfl rfl ?_
  refine pw_aload_n e_Bus_staysBelow_31 rfl ?_
  refine pw_getf e_Bus_staysBelow_32 fl_Bus_51 (gO_get hnd (i := 29) rfl) rfl ?_
  refine pw_getf e_Bus_staysBelow_35 fl_Bus_127 (gO_get hnd (i := 51) rfl) rfl ?_
  refine pw_iload e_Bus_staysBelow_38 rfl ?_
  refine pw_bipush (v := nI 8) e_Bus_staysBelow_40 (by decide) ?_
  refine pw_iaddN e_Bus_staysBelow_42 ?_
  refine pw_iload_n e_Bus_staysBelow_43 rfl ?_
  refine pw_iastG (i := 52) e_Bus_staysBelow_44 hnd (bs_x _ _ _ _ _) rfl (by omega) (by decide) ?_
  refine pw_iconst (v := nI 0) e_Bus_staysBelow_45 (by decide) ?_
  refine pw_istore (ls2 := [_, _, _, _, _, _, _, _]) e_Bus_staysBelow_46 (by decide) rfl ?_
  refine w_Bus_staysBelow_48 hst hnd hw b y z n hb hn 31 (u2 (va_up Z 501 (Z 302)) 501 ((b * 9) + 8) y) 0 (by omega) (by omega) ?_
  rw [f_Bus_staysBelow] at hk
  exact hk
theorem q_Bus_staysBelow {g : GG} {h : Hp} (hst : (gl g).stackTraces = false) {A : Nat → Nat} {S : SA} {P Y : Nat → Nat → Int32} (hnd : (gK (bsL g A S P Y)).Nodup) (hw : wfP P) (b : Nat) (y z : Int32) (n : Nat) (hb : b < 10) (hn : n < 31)  (Z : Nat → Nat → Int32) (hm : ∀ q ∈ gO (bsL g A S P Y) Z, h q.1 = some q.2) : PM g M_Bus_staysBelow 5 0 0 [.ref (A 507), .int (nI (b)), .int (y), .int (z), .int (nI (n))] h (RetV (some (.int (f_Bus_staysBelow P b y z n Z).1)) (ov h (gO (bsL g A S P Y) ((f_Bus_staysBelow P b y z n Z).2)))) := by
  refine PM.of hst (by decide) rfl (fun v hv => ?_) (Nat.le_of_ble_eq_true rfl) ?_
  · simp only [List.mem_cons, List.not_mem_nil, or_false] at hv; rcases hv with rfl | rfl | rfl | rfl | rfl <;> rfl
  · have hq := w_Bus_staysBelow_0 (g := g) (Q := RetV (some (.int (f_Bus_staysBelow P b y z n Z).1)) (ov h (gO (bsL g A S P Y) ((f_Bus_staysBelow P b y z n Z).2)))) (h := h) (kc := 0) (ks := 0) hst hnd hw b y z n hb hn Z ?_
    · rw [ov_self hm] at hq; exact hq
    · exact ⟨rfl, rfl⟩

def f_Bus_toTune_46 (P : Nat → Nat → Int32) (x y z : Int32) : Nat → (Nat → Nat → Int32) → (Nat) → (Nat) → (Int32) → (Int32 ⊕ String) × (Nat → Nat → Int32)
  | 0, Z, _, _, _ => (.inl 0, Z)
  | t + 1, Z, b, n, gn => if gn < 0 then (.inl ((-1)), Z) else if ((f_Bus_staysBelow P b gn y n Z).1) = 0 then f_Bus_toTune_46 P x y z t ((f_Bus_staysBelow P b gn y n Z).2) b n (gn + (-1)) else (.inl gn, (f_Bus_staysBelow P b gn y n Z).2)
set_option maxRecDepth 4000 in
theorem w_Bus_toTune_46 {g : GG} {Q : QT} {h : Hp} (hst : (gl g).stackTraces = false) {A : Nat → Nat} {S : SA} {P Y : Nat → Nat → Int32} (hnd : (gK (bsL g A S P Y)).Nodup) (hw : wfP P) (x y z : Int32)  (t : Nat) : ∀ (Z : Nat → Nat → Int32) (b : Nat) (n : Nat) (gn : Int32) (hb : b < 10) (hn : n < 31) (hlt : (gn.toInt + 1).toNat < t) (hk : Q (outX (f_Bus_toTune_46 P x y z t Z b n gn).1) (ov h (gO (bsL g A S P Y) ((f_Bus_toTune_46 P x y z t Z b n gn).2)))), PW g M_Bus_toTune 8 0 0 Q 46 [.ref (A 507), .int (nI (b)), .int (y), .int (nI (n)), .int (gn)] [] (ov h (gO (bsL g A S P Y) Z)) := by
  induction t with
  | zero => intro Z b n gn hb hn hlt _; exact absurd hlt (Nat.not_lt_zero _)
  | succ t ih =>
    intro Z b n gn hb hn hlt hk
    have hz0 := hw.blk.2
    have hz1 := hw.lnk.2
    have hz2 := hw.dvs.2
    refine pw_iload e_Bus_toTune_46 rfl ?_
    refine pw_if_lt (tgt := 72) e_Bus_toTune_48 (by decide) (fun (H1 : gn < 0) => ?_) (fun (H1 : ¬ gn < 0) => ?_)
    · refine pw_iconst (v := (-1)) e_Bus_toTune_72 (by decide) ?_
      refine pw_iret e_Bus_toTune_73 rfl rfl ?_
      rw [f_Bus_toTune_46, if_pos H1] at hk
      exact hk
    · refine pw_aload_n e_Bus_toTune_51 rfl ?_
      refine pw_iload_n e_Bus_toTune_52 rfl ?_
      refine pw_iload e_Bus_toTune_53 rfl ?_
      refine pw_iload_n e_Bus_toTune_55 rfl ?_
      refine pw_iload_n e_Bus_toTune_56 rfl ?_
      refine pw_detV (As := [.int (nI (b)), .int (gn), .int (y), .int (nI (n))]) e_Bus_toTune_57 li_Bus_285 rfl (gO_get hnd (i := 29) rfl) (q_Bus_staysBelow hst hnd hw b gn y n (by omega) (by omega) Z (gO_in hnd (fun _ z => z))) rfl (by decide) (Nat.le_of_ble_eq_true rfl) rfl ?_
      refine pw_sameG hnd ?_
      refine pw_if_eq (tgt := 66) e_Bus_toTune_60 (by decide) (fun (H2 : ((f_Bus_staysBelow P b gn y n Z).1) = 0) => ?_) (fun (H2 : ¬ ((f_Bus_staysBelow P b gn y n Z).1) = 0) => ?_)
      · refine pw_iinc (v := gn + (-1)) (ls2 := [_, _, _, _, _]) e_Bus_toTune_66 rfl rfl (by decide) rfl ?_
        refine pw_goto (tgt := 46) e_Bus_toTune_69 (by decide) ?_
        refine ih ((f_Bus_staysBelow P b gn y n Z).2) b n (gn + (-1)) (by omega) (by omega) (dn_of H1 hlt) ?_
        rw [f_Bus_toTune_46, if_neg H1, if_pos H2] at hk
        exact hk
      · refine pw_iload e_Bus_toTune_63 rfl ?_
        refine pw_iret e_Bus_toTune_65 rfl rfl ?_
        rw [f_Bus_toTune_46, if_neg H1, if_neg H2] at hk
        exact hk
def f_Bus_toTune_41 (P : Nat → Nat → Int32) (x y z : Int32) (Z : Nat → Nat → Int32) (b : Nat) (n : Nat) : (Int32 ⊕ String) × (Nat → Nat → Int32) :=
  f_Bus_toTune_46 P x y z 302 Z b n 300
set_option maxRecDepth 4000 in
theorem w_Bus_toTune_41 {g : GG} {Q : QT} {h : Hp} (hst : (gl g).stackTraces = false) {A : Nat → Nat} {S : SA} {P Y : Nat → Nat → Int32} (hnd : (gK (bsL g A S P Y)).Nodup) (hw : wfP P) (x y z : Int32)  (Z : Nat → Nat → Int32) (b : Nat) (n : Nat) (hb : b < 10) (hn : n < 31) (hk : Q (outX (f_Bus_toTune_41 P x y z Z b n).1) (ov h (gO (bsL g A S P Y) ((f_Bus_toTune_41 P x y z Z b n).2)))) : PW g M_Bus_toTune 8 0 0 Q 41 [.ref (A 507), .int (nI (b)), .int (y), .int (nI (n)), .retAddr 0] [] (ov h (gO (bsL g A S P Y) Z)) := by
  have hz0 := hw.blk.2
  have hz1 := hw.lnk.2
  have hz2 := hw.dvs.2
  refine pw_sipush (v := nI 300) e_Bus_toTune_41 (by decide) ?_
  refine pw_istore (ls2 := [_, _, _, _, _]) e_Bus_toTune_44 (by decide) rfl ?_
  refine w_Bus_toTune_46 hst hnd hw x y z 302 Z b n 300 (by omega) (by omega) (by decide) ?_
  rw [f_Bus_toTune_41] at hk
  exact hk
def f_Bus_toTune_5 (P : Nat → Nat → Int32) (x y z : Int32) (Z : Nat → Nat → Int32) (b : Nat) : (Int32 ⊕ String) × (Nat → Nat → Int32) :=
  if ((P 0) b) = 1 then if ¬ y < nI 0 ∧ y ≤ nI 1000 then if ¬ z < nI 1 ∧ z ≤ nI 30 then f_Bus_toTune_41 P x y z Z b z.toNatClampNeg else (.inr "java/lang/IllegalArgumentException", Z) else (.inr "java/lang/IllegalArgumentException", Z) else (.inr "java/util/NoSuchElementException", Z)
set_option maxRecDepth 4000 in
theorem w_Bus_toTune_5 {g : GG} {Q : QT} {h : Hp} (hst : (gl g).stackTraces = false) {A : Nat → Nat} {S : SA} {P Y : Nat → Nat → Int32} (hnd : (gK (bsL g A S P Y)).Nodup) (hw : wfP P) (x y z : Int32)  (Z : Nat → Nat → Int32) (b : Nat) (hb : b < 10) (hk : Q (outX (f_Bus_toTune_5 P x y z Z b).1) (ov h (gO (bsL g A S P Y) ((f_Bus_toTune_5 P x y z Z b).2)))) : PW g M_Bus_toTune 8 2 12 Q 5 [.ref (A 507), .int (nI (b)), .int (y), .int (z), .retAddr 0] [] (ov h (gO (bsL g A S P Y) Z)) := by
  have hz0 := hw.blk.2
  have hz1 := hw.lnk.2
  have hz2 := hw.dvs.2
  refine pw_aload_n e_Bus_toTune_5 rfl ?_
  refine pw_getf e_Bus_toTune_6 fl_Bus_23 (gO_get hnd (i := 29) rfl) rfl ?_
  refine pw_getf e_Bus_toTune_9 fl_Bus_159 (gO_get hnd (i := 0) rfl) rfl ?_
  refine pw_iload_n e_Bus_toTune_12 rfl ?_
  refine pw_ialdN e_Bus_toTune_13 (bs_pl hnd).a0 (by omega) (by decide) ?_
  refine pw_iconst (v := nI 1) e_Bus_toTune_14 (by decide) ?_
  refine pw_icmp_eq (tgt := 26) e_Bus_toTune_15 (by decide) (fun (H1 : ((P 0) b) = 1) => ?_) (fun (H1 : ¬ ((P 0) b) = 1) => ?_)
  · refine pw_iload_n e_Bus_toTune_26 rfl ?_
    refine pw_iconst (v := nI 0) e_Bus_toTune_27 (by decide) ?_
    refine pw_sipush (v := nI 1000) e_Bus_toTune_28 (by decide) ?_
    refine pw_brS (kc := 1) (ks := 6) (As := [.int (y), .int (nI (0)), .int (nI (1000))]) e_Bus_toTune_31 li_Bus_261 (q_Bus_needWithin hst y (nI 0) (nI 1000)) rfl (by decide) (Nat.le_of_ble_eq_true rfl) rfl rfl (fun (H2 : ¬ y < nI 0 ∧ y ≤ nI 1000) => ?_) (fun (H2 : ¬ (¬ y < nI 0 ∧ y ≤ nI 1000)) => ?_)
    · refine pw_iload_n e_Bus_toTune_34 rfl ?_
      refine pw_iconst (v := nI 1) e_Bus_toTune_35 (by decide) ?_
      refine pw_bipush (v := nI 30) e_Bus_toTune_36 (by decide) ?_
      refine pw_brS (kc := 0) (ks := 0) (As := [.int (z), .int (nI (1)), .int (nI (30))]) e_Bus_toTune_38 li_Bus_261 (q_Bus_needWithin hst z (nI 1) (nI 30)) rfl (by decide) (Nat.le_of_ble_eq_true rfl) rfl rfl (fun (H3 : ¬ z < nI 1 ∧ z ≤ nI 30) => ?_) (fun (H3 : ¬ (¬ z < nI 1 ∧ z ≤ nI 30)) => ?_)
      · refine pw_eqls (ls' := [.ref (A 507), .int (nI (b)), .int (y), .int (nI (z.toNatClampNeg)), .retAddr 0]) (by rw [← (show z = nI (z.toNatClampNeg) from (win_of1 (by decide) H3).1)]) ?_
        refine w_Bus_toTune_41 hst hnd hw x y z Z b z.toNatClampNeg (by omega) (win_of1 (by decide) H3).2 ?_
        rw [f_Bus_toTune_5, if_pos H1, if_pos H2, if_pos H3] at hk
        exact hk
      · rw [f_Bus_toTune_5, if_pos H1, if_pos H2, if_neg H3] at hk
        exact hk
    · rw [f_Bus_toTune_5, if_pos H1, if_neg H2] at hk
      exact hk
  · refine pw_nse (kc := 1) (ks := 6) rfl e_Bus_toTune_18 e_Bus_toTune_21 e_Bus_toTune_22 e_Bus_toTune_25 rfl (by decide) (Nat.le_of_ble_eq_true rfl) ?_
    rw [f_Bus_toTune_5, if_neg H1] at hk
    exact hk
def f_Bus_toTune (P : Nat → Nat → Int32) (x y z : Int32) (Z : Nat → Nat → Int32) : (Int32 ⊕ String) × (Nat → Nat → Int32) :=
  if ¬ f_Bus_isBlock P x = 0 then f_Bus_toTune_5 P x y z Z x.toNatClampNeg else (.inr "java/util/NoSuchElementException", Z)
set_option maxRecDepth 4000 in
theorem w_Bus_toTune_0 {g : GG} {Q : QT} {h : Hp} (hst : (gl g).stackTraces = false) {A : Nat → Nat} {S : SA} {P Y : Nat → Nat → Int32} (hnd : (gK (bsL g A S P Y)).Nodup) (hw : wfP P) (x y z : Int32)  (Z : Nat → Nat → Int32) (hk : Q (outX (f_Bus_toTune P x y z Z).1) (ov h (gO (bsL g A S P Y) ((f_Bus_toTune P x y z Z).2)))) : PW g M_Bus_toTune 8 3 18 Q 0 [.ref (A 507), .int (x), .int (y), .int (z), .retAddr 0] [] (ov h (gO (bsL g A S P Y) Z)) := by
  have hz0 := hw.blk.2
  have hz1 := hw.lnk.2
  have hz2 := hw.dvs.2
  refine pw_aload_n e_Bus_toTune_0 rfl ?_
  refine pw_iload_n e_Bus_toTune_1 rfl ?_
  refine pw_brV (kc := 2) (ks := 12) (As := [.int (x)]) e_Bus_toTune_2 li_Bus_156 rfl (gO_get hnd (i := 29) rfl) (q_Bus_needBlock hst (Z 507) (gO_get hnd (i := 29) rfl) (bs_pl hnd) hw x) rfl (by decide) (Nat.le_of_ble_eq_true rfl) rfl rfl (fun (H1 : ¬ f_Bus_isBlock P x = 0) => ?_) (fun (H1 : ¬ (¬ f_Bus_isBlock P x = 0)) => ?_)
  · refine pw_eqls (ls' := [.ref (A 507), .int (nI (x.toNatClampNeg)), .int (y), .int (z), .retAddr 0]) (by rw [← (show x = nI (x.toNatClampNeg) from (blk_of hw H1).1)]) ?_
    refine w_Bus_toTune_5 hst hnd hw x y z Z x.toNatClampNeg (by have := (blk_of hw H1).2; omega) ?_
    rw [f_Bus_toTune, if_pos H1] at hk
    exact hk
  · rw [f_Bus_toTune, if_neg H1] at hk
    exact hk
theorem q_Bus_toTune {g : GG} {h : Hp} (hst : (gl g).stackTraces = false) {A : Nat → Nat} {S : SA} {P Y : Nat → Nat → Int32} (hnd : (gK (bsL g A S P Y)).Nodup) (hw : wfP P) (x y z : Int32)  (Z : Nat → Nat → Int32) (hm : ∀ q ∈ gO (bsL g A S P Y) Z, h q.1 = some q.2) : PM g M_Bus_toTune 8 3 18 [.ref (A 507), .int (x), .int (y), .int (z)] h (RetX (f_Bus_toTune P x y z Z).1 (ov h (gO (bsL g A S P Y) ((f_Bus_toTune P x y z Z).2)))) := by
  refine PM.of hst (by decide) rfl (fun v hv => ?_) (Nat.le_of_ble_eq_true rfl) ?_
  · simp only [List.mem_cons, List.not_mem_nil, or_false] at hv; rcases hv with rfl | rfl | rfl | rfl <;> rfl
  · have hq := w_Bus_toTune_0 (g := g) (Q := RetX (f_Bus_toTune P x y z Z).1 (ov h (gO (bsL g A S P Y) ((f_Bus_toTune P x y z Z).2)))) (h := h) hst hnd hw x y z Z ?_
    · rw [ov_self hm] at hq; exact hq
    · exact ⟨rfl, rfl⟩

def f_Bus_slack_8 (P : Nat → Nat → Int32) (x : Int32) : Nat → (Nat → Nat → Int32) → (Nat) → (Int32) → (Int32 ⊕ String) × (Nat → Nat → Int32)
  | 0, Z, _, _ => (.inl 0, Z)
  | t + 1, Z, b, m => if m ≤ 0 then (.inl 0, Z) else if ((mixK [232, 218, 219, 220, 221, 222, 223, 224] (fun k => f_Layout_lay P (nI (b)) m (fun k => Z (200 + k)) (k - 200)) Z) 232 0) = (P 32 0) then (.inl m, mixK [232, 218, 219, 220, 221, 222, 223, 224] (fun k => f_Layout_lay P (nI (b)) m (fun k => Z (200 + k)) (k - 200)) Z) else f_Bus_slack_8 P x t (mixK [232, 218, 219, 220, 221, 222, 223, 224] (fun k => f_Layout_lay P (nI (b)) m (fun k => Z (200 + k)) (k - 200)) Z) b (m + (-1))
set_option maxRecDepth 4000 in
theorem w_Bus_slack_8 {g : GG} {Q : QT} {h : Hp} (hst : (gl g).stackTraces = false) {A : Nat → Nat} {S : SA} {P Y : Nat → Nat → Int32} (hnd : (gK (bsL g A S P Y)).Nodup) (hw : wfP P) (x : Int32)  (t : Nat) : ∀ (Z : Nat → Nat → Int32) (b : Nat) (m : Int32) (hb : b < 10) (hlt : m.toInt.toNat < t) (hk : Q (outX (f_Bus_slack_8 P x t Z b m).1) (ov h (gO (bsL g A S P Y) ((f_Bus_slack_8 P x t Z b m).2)))), PW g M_Bus_slack 8 0 0 Q 8 [.ref (A 507), .int (nI (b)), .int (m)] [] (ov h (gO (bsL g A S P Y) Z)) := by
  induction t with
  | zero => intro Z b m hb hlt _; exact absurd hlt (Nat.not_lt_zero _)
  | succ t ih =>
    intro Z b m hb hlt hk
    have hz0 := hw.blk.2
    have hz1 := hw.lnk.2
    have hz2 := hw.dvs.2
    refine pw_iload_n e_Bus_slack_8 rfl ?_
    refine pw_if_le (tgt := 53) e_Bus_slack_9 (by decide) (fun (H1 : m ≤ 0) => ?_) (fun (H1 : ¬ m ≤ 0) => ?_)
    · refine pw_iconst (v := nI 0) e_Bus_slack_53 (by decide) ?_
      refine pw_iret e_Bus_slack_54 rfl rfl ?_
      rw [f_Bus_slack_8, if_pos H1] at hk
      exact hk
    · refine pw_aload_n e_Bus_slack_12 rfl ?_
      refine pw_getf e_Bus_slack_13 fl_Bus_61 (gO_get hnd (i := 29) rfl) rfl ?_
      refine pw_aload_n e_Bus_slack_16 rfl ?_
      refine pw_getf e_Bus_slack_17 fl_Bus_23 (gO_get hnd (i := 29) rfl) rfl ?_
      refine pw_iload_n e_Bus_slack_20 rfl ?_
      refine pw_iload_n e_Bus_slack_21 rfl ?_
      refine pw_detV (As := [.ref (A 30), .int (nI (b)), .int (m)]) e_Bus_slack_22 li_Bus_107 rfl (gO_get hnd (i := 55) rfl) (q_Layout_lay (bd := fun i => A (200 + i)) hst (nd_ly hnd) (fun {l} hl => pl0_of (bs_planL hnd (ly_out _ _ _ _ _) hl)) hw.1 (nI (b)) m (fun k => Z (200 + k)) (gO_inS hnd (bs_ly _ _ _ _ _))) rfl (by decide) (Nat.le_of_ble_eq_true rfl) rfl ?_
      refine pw_shG (b := 200) hnd (bs_x _ _ _ _ _) (nd_ly hnd) (bs_ly _ _ _ _ _) ?_
      refine pw_aload_n e_Bus_slack_25 rfl ?_
      refine pw_getf e_Bus_slack_26 fl_Bus_61 (gO_get hnd (i := 29) rfl) rfl ?_
      refine pw_getf e_Bus_slack_29 fl_Bus_145 (gO_get hnd (i := 55) rfl) rfl ?_
      refine pw_aload_n e_Bus_slack_32 rfl ?_
      refine pw_getf e_Bus_slack_33 fl_Bus_23 (gO_get hnd (i := 29) rfl) rfl ?_
      refine pw_getf e_Bus_slack_36 fl_Bus_104 (gO_get hnd (i := 0) rfl) rfl ?_
      refine pw_getf e_Bus_slack_39 fl_Bus_145 (gO_get hnd (i := 3) rfl) rfl ?_
      refine pw_icmp_ne (tgt := 47) e_Bus_slack_42 (by decide) (fun (H2 : ¬ ((mixK [232, 218, 219, 220, 221, 222, 223, 224] (fun k => f_Layout_lay P (nI (b)) m (fun k => Z (200 + k)) (k - 200)) Z) 232 0) = (P 32 0)) => ?_) (fun (H2 : ((mixK [232, 218, 219, 220, 221, 222, 223, 224] (fun k => f_Layout_lay P (nI (b)) m (fun k => Z (200 + k)) (k - 200)) Z) 232 0) = (P 32 0)) => ?_)
      · refine pw_iinc (v := m + (-1)) (ls2 := [_, _, _]) e_Bus_slack_47 rfl rfl (by decide) rfl ?_
        refine pw_goto (tgt := 8) e_Bus_slack_50 (by decide) ?_
        refine ih (mixK [232, 218, 219, 220, 221, 222, 223, 224] (fun k => f_Layout_lay P (nI (b)) m (fun k => Z (200 + k)) (k - 200)) Z) b (m + (-1)) (by omega) (dn_of1 H1 hlt) ?_
        rw [f_Bus_slack_8, if_neg H1, if_neg H2] at hk
        exact hk
      · refine pw_iload_n e_Bus_slack_45 rfl ?_
        refine pw_iret e_Bus_slack_46 rfl rfl ?_
        rw [f_Bus_slack_8, if_neg H1, if_pos H2] at hk
        exact hk
def f_Bus_slack_5 (P : Nat → Nat → Int32) (x : Int32) (Z : Nat → Nat → Int32) (b : Nat) : (Int32 ⊕ String) × (Nat → Nat → Int32) :=
  f_Bus_slack_8 P x 51 Z b 50
set_option maxRecDepth 4000 in
theorem w_Bus_slack_5 {g : GG} {Q : QT} {h : Hp} (hst : (gl g).stackTraces = false) {A : Nat → Nat} {S : SA} {P Y : Nat → Nat → Int32} (hnd : (gK (bsL g A S P Y)).Nodup) (hw : wfP P) (x : Int32)  (Z : Nat → Nat → Int32) (b : Nat) (hb : b < 10) (hk : Q (outX (f_Bus_slack_5 P x Z b).1) (ov h (gO (bsL g A S P Y) ((f_Bus_slack_5 P x Z b).2)))) : PW g M_Bus_slack 8 0 0 Q 5 [.ref (A 507), .int (nI (b)), .retAddr 0] [] (ov h (gO (bsL g A S P Y) Z)) := by
  have hz0 := hw.blk.2
  have hz1 := hw.lnk.2
  have hz2 := hw.dvs.2
  refine pw_bipush (v := nI 50) e_Bus_slack_5 (by decide) ?_
  refine pw_istore_n (ls2 := [_, _, _]) e_Bus_slack_7 (by decide) rfl ?_
  refine w_Bus_slack_8 hst hnd hw x 51 Z b 50 (by omega) (by decide) ?_
  rw [f_Bus_slack_5] at hk
  exact hk
def f_Bus_slack (P : Nat → Nat → Int32) (x : Int32) (Z : Nat → Nat → Int32) : (Int32 ⊕ String) × (Nat → Nat → Int32) :=
  if ¬ f_Bus_isBlock P x = 0 then f_Bus_slack_5 P x Z x.toNatClampNeg else (.inr "java/util/NoSuchElementException", Z)
set_option maxRecDepth 4000 in
theorem w_Bus_slack_0 {g : GG} {Q : QT} {h : Hp} (hst : (gl g).stackTraces = false) {A : Nat → Nat} {S : SA} {P Y : Nat → Nat → Int32} (hnd : (gK (bsL g A S P Y)).Nodup) (hw : wfP P) (x : Int32)  (Z : Nat → Nat → Int32) (hk : Q (outX (f_Bus_slack P x Z).1) (ov h (gO (bsL g A S P Y) ((f_Bus_slack P x Z).2)))) : PW g M_Bus_slack 8 1 6 Q 0 [.ref (A 507), .int (x), .retAddr 0] [] (ov h (gO (bsL g A S P Y) Z)) := by
  have hz0 := hw.blk.2
  have hz1 := hw.lnk.2
  have hz2 := hw.dvs.2
  refine pw_aload_n e_Bus_slack_0 rfl ?_
  refine pw_iload_n e_Bus_slack_1 rfl ?_
  refine pw_brV (kc := 0) (ks := 0) (As := [.int (x)]) e_Bus_slack_2 li_Bus_156 rfl (gO_get hnd (i := 29) rfl) (q_Bus_needBlock hst (Z 507) (gO_get hnd (i := 29) rfl) (bs_pl hnd) hw x) rfl (by decide) (Nat.le_of_ble_eq_true rfl) rfl rfl (fun (H1 : ¬ f_Bus_isBlock P x = 0) => ?_) (fun (H1 : ¬ (¬ f_Bus_isBlock P x = 0)) => ?_)
  · refine pw_eqls (ls' := [.ref (A 507), .int (nI (x.toNatClampNeg)), .retAddr 0]) (by rw [← (show x = nI (x.toNatClampNeg) from (blk_of hw H1).1)]) ?_
    refine w_Bus_slack_5 hst hnd hw x Z x.toNatClampNeg (by have := (blk_of hw H1).2; omega) ?_
    rw [f_Bus_slack, if_pos H1] at hk
    exact hk
  · rw [f_Bus_slack, if_neg H1] at hk
    exact hk
theorem q_Bus_slack {g : GG} {h : Hp} (hst : (gl g).stackTraces = false) {A : Nat → Nat} {S : SA} {P Y : Nat → Nat → Int32} (hnd : (gK (bsL g A S P Y)).Nodup) (hw : wfP P) (x : Int32)  (Z : Nat → Nat → Int32) (hm : ∀ q ∈ gO (bsL g A S P Y) Z, h q.1 = some q.2) : PM g M_Bus_slack 8 1 6 [.ref (A 507), .int (x)] h (RetX (f_Bus_slack P x Z).1 (ov h (gO (bsL g A S P Y) ((f_Bus_slack P x Z).2)))) := by
  refine PM.of hst (by decide) rfl (fun v hv => ?_) (Nat.le_of_ble_eq_true rfl) ?_
  · simp only [List.mem_cons, List.not_mem_nil, or_false] at hv; rcases hv with rfl | rfl <;> rfl
  · have hq := w_Bus_slack_0 (g := g) (Q := RetX (f_Bus_slack P x Z).1 (ov h (gO (bsL g A S P Y) ((f_Bus_slack P x Z).2)))) (h := h) hst hnd hw x Z ?_
    · rw [ov_self hm] at hq; exact hq
    · exact ⟨rfl, rfl⟩

