/-! the class's cycle: its methods as functions (written by wip/whole/c_cycle.py) -/
def f_Bus_hasBit (x y : Int32) : Int32 :=
  if ((x >>> (y &&& 31)) &&& 1) = 1 then 1 else 0
set_option maxRecDepth 4000 in
theorem w_Bus_hasBit_0 {g : GG} {Q : QT} {h : Hp} {kc ks : Nat} (hst : (gl g).stackTraces = false) (x y : Int32)  (hk : Q (.inl (some (.int (f_Bus_hasBit x y)))) h) : PW g M_Bus_hasBit 0 kc ks Q 0 [.int (x), .int (y)] [] h := by
  refine pw_iload_n e_Bus_hasBit_0 rfl ?_
  refine pw_iload_n e_Bus_hasBit_1 rfl ?_
  refine pw_ishr e_Bus_hasBit_2 ?_
  refine pw_iconst (v := nI 1) e_Bus_hasBit_3 (by decide) ?_
  refine pw_iand e_Bus_hasBit_4 ?_
  refine pw_iconst (v := nI 1) e_Bus_hasBit_5 (by decide) ?_
  refine pw_icmp_ne (tgt := 13) e_Bus_hasBit_6 (by decide) (fun (H1 : ¬ ((x >>> (y &&& 31)) &&& 1) = 1) => ?_) (fun (H1 : ((x >>> (y &&& 31)) &&& 1) = 1) => ?_)
  · refine pw_iconst (v := nI 0) e_Bus_hasBit_13 (by decide) ?_
    refine pw_iret e_Bus_hasBit_14 rfl (by decide) ?_
    rw [f_Bus_hasBit, if_neg H1] at hk
    exact hk
  · refine pw_iconst (v := nI 1) e_Bus_hasBit_9 (by decide) ?_
    refine pw_goto (tgt := 14) e_Bus_hasBit_10 (by decide) ?_
    refine pw_iret e_Bus_hasBit_14 rfl (by decide) ?_
    rw [f_Bus_hasBit, if_pos H1] at hk
    exact hk
theorem q_Bus_hasBit {g : GG} {h : Hp} (hst : (gl g).stackTraces = false) (x y : Int32)  : PM g M_Bus_hasBit 0 0 0 [.int (x), .int (y)] h (RetV (some (.int (f_Bus_hasBit x y))) h) := by
  refine PM.of hst (by decide) rfl (fun v hv => ?_) (Nat.le_of_ble_eq_true rfl) ?_
  · simp only [List.mem_cons, List.not_mem_nil, or_false] at hv; rcases hv with rfl | rfl <;> rfl
  · have hq := w_Bus_hasBit_0 (g := g) (Q := RetV (some (.int (f_Bus_hasBit x y))) h) (h := h) (kc := 0) (ks := 0) hst x y ?_
    · exact hq
    · exact ⟨rfl, rfl⟩

def f_Cycle_within (x : Int32) : Int32 :=
  if 0 < (if x < 1000 then x else 1000) then (if x < 1000 then x else 1000) else 0
set_option maxRecDepth 4000 in
theorem w_Cycle_within_0 {g : GG} {Q : QT} {h : Hp} {kc ks : Nat} (hst : (gl g).stackTraces = false) (x : Int32)  (hk : Q (.inl (some (.int (f_Cycle_within x)))) h) : PW g M_Cycle_within 1 kc ks Q 0 [.int (x)] [] h := by
  refine pw_iconst (v := nI 0) e_Cycle_within_0 (by decide) ?_
  refine pw_sipush (v := nI 1000) e_Cycle_within_1 (by decide) ?_
  refine pw_iload_n e_Cycle_within_4 rfl ?_
  refine pw_min e_Cycle_within_5 ml_Cycle_112 (by decide) (Nat.le_of_ble_eq_true rfl) ?_
  refine pw_max e_Cycle_within_8 ml_Cycle_155 (by decide) (Nat.le_of_ble_eq_true rfl) ?_
  refine pw_iret e_Cycle_within_11 rfl rfl ?_
  rw [f_Cycle_within] at hk
  exact hk
theorem q_Cycle_within {g : GG} {h : Hp} (hst : (gl g).stackTraces = false) (x : Int32)  : PM g M_Cycle_within 1 0 0 [.int (x)] h (RetV (some (.int (f_Cycle_within x))) h) := by
  refine PM.of hst (by decide) rfl (fun v hv => ?_) (Nat.le_of_ble_eq_true rfl) ?_
  · simp only [List.mem_cons, List.not_mem_nil, or_false] at hv; rcases hv with rfl <;> rfl
  · have hq := w_Cycle_within_0 (g := g) (Q := RetV (some (.int (f_Cycle_within x))) h) (h := h) (kc := 0) (ks := 0) hst x ?_
    · exact hq
    · exact ⟨rfl, rfl⟩

def f_Cycle_carries (c : Nat → Int32) (a b : Nat) : Int32 :=
  if (f_Bus_hasBit (c 220) (nI (b))) = 0 then 0 else if a = b then 1 else if (c 221) = ((-1)) then 0 else if (f_Bus_hasBit (c 220) (nI (a))) = 0 then 0 else 1
set_option maxRecDepth 4000 in
theorem w_Cycle_carries_0 {g : GG} {Q : QT} {h : Hp} {kc ks : Nat} (hst : (gl g).stackTraces = false) {s : Nat} (c : Nat → Int32) (a b : Nat) (hs : h s = some (aI g 225 c)) (ha : a < 5) (hb : b < 5)  (hk : Q (.inl (some (.int (f_Cycle_carries c a b)))) h) : PW g M_Cycle_carries 1 kc ks Q 0 [.ref (s), .int (nI (a)), .int (nI (b))] [] h := by
  refine pw_aload_n e_Cycle_carries_0 rfl ?_
  refine pw_sipush (v := nI 220) e_Cycle_carries_1 (by decide) ?_
  refine pw_ialdN e_Cycle_carries_4 hs (by omega) (by decide) ?_
  refine pw_iload_n e_Cycle_carries_5 rfl ?_
  refine pw_detSN (As := [.int (c 220), .int (nI (b))]) e_Cycle_carries_6 li_Cycle_44 (q_Bus_hasBit hst (c 220) (nI (b))) rfl (by decide) (Nat.le_of_ble_eq_true rfl) rfl ?_
  refine pw_if_ne (tgt := 14) e_Cycle_carries_9 (by decide) (fun (H1 : ¬ (f_Bus_hasBit (c 220) (nI (b))) = 0) => ?_) (fun (H1 : (f_Bus_hasBit (c 220) (nI (b))) = 0) => ?_)
  · refine pw_iload_n e_Cycle_carries_14 rfl ?_
    refine pw_iload_n e_Cycle_carries_15 rfl ?_
    refine pw_icmp_eqN (tgt := 40) e_Cycle_carries_16 (by decide) (by omega) (by omega) (fun (H2 : a = b) => ?_) (fun (H2 : ¬ a = b) => ?_)
    · refine pw_iconst (v := nI 1) e_Cycle_carries_40 (by decide) ?_
      refine pw_goto (tgt := 45) e_Cycle_carries_41 (by decide) ?_
      refine pw_iret e_Cycle_carries_45 rfl (by decide) ?_
      rw [f_Cycle_carries, if_neg H1, if_pos H2] at hk
      exact hk
    · refine pw_aload_n e_Cycle_carries_19 rfl ?_
      refine pw_sipush (v := nI 221) e_Cycle_carries_20 (by decide) ?_
      refine pw_ialdN e_Cycle_carries_23 hs (by omega) (by decide) ?_
      refine pw_iconst (v := (-1)) e_Cycle_carries_24 (by decide) ?_
      refine pw_icmp_eq (tgt := 44) e_Cycle_carries_25 (by decide) (fun (H3 : (c 221) = ((-1))) => ?_) (fun (H3 : ¬ (c 221) = ((-1))) => ?_)
      · refine pw_iconst (v := nI 0) e_Cycle_carries_44 (by decide) ?_
        refine pw_iret e_Cycle_carries_45 rfl (by decide) ?_
        rw [f_Cycle_carries, if_neg H1, if_neg H2, if_pos H3] at hk
        exact hk
      · refine pw_aload_n e_Cycle_carries_28 rfl ?_
        refine pw_sipush (v := nI 220) e_Cycle_carries_29 (by decide) ?_
        refine pw_ialdN e_Cycle_carries_32 hs (by omega) (by decide) ?_
        refine pw_iload_n e_Cycle_carries_33 rfl ?_
        refine pw_detSN (As := [.int (c 220), .int (nI (a))]) e_Cycle_carries_34 li_Cycle_44 (q_Bus_hasBit hst (c 220) (nI (a))) rfl (by decide) (Nat.le_of_ble_eq_true rfl) rfl ?_
        refine pw_if_eq (tgt := 44) e_Cycle_carries_37 (by decide) (fun (H4 : (f_Bus_hasBit (c 220) (nI (a))) = 0) => ?_) (fun (H4 : ¬ (f_Bus_hasBit (c 220) (nI (a))) = 0) => ?_)
        · refine pw_iconst (v := nI 0) e_Cycle_carries_44 (by decide) ?_
          refine pw_iret e_Cycle_carries_45 rfl (by decide) ?_
          rw [f_Cycle_carries, if_neg H1, if_neg H2, if_neg H3, if_pos H4] at hk
          exact hk
        · refine pw_iconst (v := nI 1) e_Cycle_carries_40 (by decide) ?_
          refine pw_goto (tgt := 45) e_Cycle_carries_41 (by decide) ?_
          refine pw_iret e_Cycle_carries_45 rfl (by decide) ?_
          rw [f_Cycle_carries, if_neg H1, if_neg H2, if_neg H3, if_neg H4] at hk
          exact hk
  · refine pw_iconst (v := nI 0) e_Cycle_carries_12 (by decide) ?_
    refine pw_iret e_Cycle_carries_13 rfl (by decide) ?_
    rw [f_Cycle_carries, if_pos H1] at hk
    exact hk
theorem q_Cycle_carries {g : GG} {h : Hp} (hst : (gl g).stackTraces = false) {s : Nat} (c : Nat → Int32) (a b : Nat) (hs : h s = some (aI g 225 c)) (ha : a < 5) (hb : b < 5)  : PM g M_Cycle_carries 1 0 0 [.ref (s), .int (nI (a)), .int (nI (b))] h (RetV (some (.int (f_Cycle_carries c a b))) h) := by
  refine PM.of hst (by decide) rfl (fun v hv => ?_) (Nat.le_of_ble_eq_true rfl) ?_
  · simp only [List.mem_cons, List.not_mem_nil, or_false] at hv; rcases hv with rfl | rfl | rfl <;> rfl
  · have hq := w_Cycle_carries_0 (g := g) (Q := RetV (some (.int (f_Cycle_carries c a b))) h) (h := h) (kc := 0) (ks := 0) hst c a b hs ha hb ?_
    · exact hq
    · exact ⟨rfl, rfl⟩

def f_Cycle_growOlder (a : Nat) (c : Nat → Int32) : Nat → Int32 :=
  if ((upd c (a + 4) (if ((c (a + 4)) + 1) < 99 then ((c (a + 4)) + 1) else 99)) (a + 4)) ≤ ((upd c (a + 4) (if ((c (a + 4)) + 1) < 99 then ((c (a + 4)) + 1) else 99)) 224) then upd c (a + 4) (if ((c (a + 4)) + 1) < 99 then ((c (a + 4)) + 1) else 99) else upd (upd c (a + 4) (if ((c (a + 4)) + 1) < 99 then ((c (a + 4)) + 1) else 99)) (a + 1) 0
set_option maxRecDepth 4000 in
theorem w_Cycle_growOlder_0 {g : GG} {Q : QT} {h : Hp} {kc ks : Nat} (hst : (gl g).stackTraces = false) {s : Nat} (a : Nat) (ha : a + 4 < 225)  (c : Nat → Int32) (hk : Q (.inl none) (va_up h s (some (aI g 225 (f_Cycle_growOlder a c))))) : PW g M_Cycle_growOlder 1 kc ks Q 0 [.ref (s), .int (nI (a))] [] (va_up h s (some (aI g 225 (c)))) := by
  refine pw_aload_n e_Cycle_growOlder_0 rfl ?_
  refine pw_iload_n e_Cycle_growOlder_1 rfl ?_
  refine pw_iconst (v := nI 4) e_Cycle_growOlder_2 (by decide) ?_
  refine pw_iaddN e_Cycle_growOlder_3 ?_
  refine pw_bipush (v := nI 99) e_Cycle_growOlder_4 (by decide) ?_
  refine pw_aload_n e_Cycle_growOlder_6 rfl ?_
  refine pw_iload_n e_Cycle_growOlder_7 rfl ?_
  refine pw_iconst (v := nI 4) e_Cycle_growOlder_8 (by decide) ?_
  refine pw_iaddN e_Cycle_growOlder_9 ?_
  refine pw_ialdN e_Cycle_growOlder_10 up_same (by omega) (by decide) ?_
  refine pw_iconst (v := nI 1) e_Cycle_growOlder_11 (by decide) ?_
  refine pw_iadd e_Cycle_growOlder_12 ?_
  refine pw_min e_Cycle_growOlder_13 ml_Cycle_112 (by decide) (Nat.le_of_ble_eq_true rfl) ?_
  refine pw_iastU e_Cycle_growOlder_16 (by omega) (by decide) ?_
  refine pw_aload_n e_Cycle_growOlder_17 rfl ?_
  refine pw_iload_n e_Cycle_growOlder_18 rfl ?_
  refine pw_iconst (v := nI 4) e_Cycle_growOlder_19 (by decide) ?_
  refine pw_iaddN e_Cycle_growOlder_20 ?_
  refine pw_ialdN e_Cycle_growOlder_21 up_same (by omega) (by decide) ?_
  refine pw_aload_n e_Cycle_growOlder_22 rfl ?_
  refine pw_sipush (v := nI 224) e_Cycle_growOlder_23 (by decide) ?_
  refine pw_ialdN e_Cycle_growOlder_26 up_same (by omega) (by decide) ?_
  refine pw_icmp_le (tgt := 36) e_Cycle_growOlder_27 (by decide) (fun (H1 : ((upd c (a + 4) (if ((c (a + 4)) + 1) < 99 then ((c (a + 4)) + 1) else 99)) (a + 4)) ≤ ((upd c (a + 4) (if ((c (a + 4)) + 1) < 99 then ((c (a + 4)) + 1) else 99)) 224)) => ?_) (fun (H1 : ¬ ((upd c (a + 4) (if ((c (a + 4)) + 1) < 99 then ((c (a + 4)) + 1) else 99)) (a + 4)) ≤ ((upd c (a + 4) (if ((c (a + 4)) + 1) < 99 then ((c (a + 4)) + 1) else 99)) 224)) => ?_)
  · refine pw_vret e_Cycle_growOlder_36 rfl ?_
    rw [f_Cycle_growOlder, if_pos H1] at hk
    exact hk
  · refine pw_aload_n e_Cycle_growOlder_30 rfl ?_
    refine pw_iload_n e_Cycle_growOlder_31 rfl ?_
    refine pw_iconst (v := nI 1) e_Cycle_growOlder_32 (by decide) ?_
    refine pw_iaddN e_Cycle_growOlder_33 ?_
    refine pw_iconst (v := nI 0) e_Cycle_growOlder_34 (by decide) ?_
    refine pw_iastU e_Cycle_growOlder_35 (by omega) (by decide) ?_
    refine pw_vret e_Cycle_growOlder_36 rfl ?_
    rw [f_Cycle_growOlder, if_neg H1] at hk
    exact hk
theorem q_Cycle_growOlder {g : GG} {h : Hp} (hst : (gl g).stackTraces = false) {s : Nat} (a : Nat) (ha : a + 4 < 225)  (c : Nat → Int32) (hm : h s = some (aI g 225 c)) : PM g M_Cycle_growOlder 1 0 0 [.ref (s), .int (nI (a))] h (RetV none (va_up h s (some (aI g 225 (f_Cycle_growOlder a c))))) := by
  refine PM.of hst (by decide) rfl (fun v hv => ?_) (Nat.le_of_ble_eq_true rfl) ?_
  · simp only [List.mem_cons, List.not_mem_nil, or_false] at hv; rcases hv with rfl | rfl <;> rfl
  · have hq := w_Cycle_growOlder_0 (g := g) (Q := RetV none (va_up h s (some (aI g 225 (f_Cycle_growOlder a c))))) (h := h) (kc := 0) (ks := 0) (s := s) hst a ha c ?_
    · rw [up_self hm] at hq; exact hq
    · exact ⟨rfl, rfl⟩

def f_Cycle_bringLink (P : Nat → Nat → Int32) (l : Nat) (c : Nat → Int32) : Nat → Int32 :=
  if (f_Cycle_carries c (pN P 1 (pN P 12 l)) (pN P 1 (pN P 13 l))) = 0 then f_Cycle_growOlder (90 + (l * 5)) c else upd (upd (upd (upd (upd c ((90 + (l * 5)) + 0) (c (((pN P 12 l) * 9) + 3))) ((90 + (l * 5)) + 1) ((upd c ((90 + (l * 5)) + 0) (c (((pN P 12 l) * 9) + 3))) (((pN P 12 l) * 9) + 5))) ((90 + (l * 5)) + 2) ((upd (upd c ((90 + (l * 5)) + 0) (c (((pN P 12 l) * 9) + 3))) ((90 + (l * 5)) + 1) ((upd c ((90 + (l * 5)) + 0) (c (((pN P 12 l) * 9) + 3))) (((pN P 12 l) * 9) + 5))) (((pN P 12 l) * 9) + 6))) ((90 + (l * 5)) + 3) ((upd (upd (upd c ((90 + (l * 5)) + 0) (c (((pN P 12 l) * 9) + 3))) ((90 + (l * 5)) + 1) ((upd c ((90 + (l * 5)) + 0) (c (((pN P 12 l) * 9) + 3))) (((pN P 12 l) * 9) + 5))) ((90 + (l * 5)) + 2) ((upd (upd c ((90 + (l * 5)) + 0) (c (((pN P 12 l) * 9) + 3))) ((90 + (l * 5)) + 1) ((upd c ((90 + (l * 5)) + 0) (c (((pN P 12 l) * 9) + 3))) (((pN P 12 l) * 9) + 5))) (((pN P 12 l) * 9) + 6))) (((pN P 12 l) * 9) + 7))) ((90 + (l * 5)) + 4) 0
set_option maxRecDepth 4000 in
theorem w_Cycle_bringLink_0 {g : GG} {Q : QT} {h : Hp} {kc ks : Nat} (hst : (gl g).stackTraces = false) {p s : Nat} {ad : Nat → Nat} {P : Nat → Nat → Int32} (hP : ∀ e, PlanAt g p ad P (va_up h s e)) (hw : wfP P) (l : Nat) (hl : l < 12)  (c : Nat → Int32) (hk : Q (.inl none) (va_up h s (some (aI g 225 (f_Cycle_bringLink P l c))))) : PW g M_Cycle_bringLink 2 kc ks Q 0 [.ref (p), .ref (s), .int (nI (l)), .retAddr 0, .retAddr 0, .retAddr 0] [] (va_up h s (some (aI g 225 (c)))) := by
  refine pw_aload_n e_Cycle_bringLink_0 rfl ?_
  refine pw_getf e_Cycle_bringLink_1 fl_Cycle_51 (hP _).o rfl ?_
  refine pw_getf e_Cycle_bringLink_4 fl_Cycle_98 (hP _).k rfl ?_
  refine pw_iload_n e_Cycle_bringLink_7 rfl ?_
  have hb1 := hw.frm l
  refine pw_ialdC e_Cycle_bringLink_8 (hP _).a12 (by omega) (by decide) hb1.1 ?_
  replace hb1 := hb1.2
  refine pw_istore_n (ls2 := [_, _, _, _, _, _]) e_Cycle_bringLink_9 (by decide) rfl ?_
  refine pw_bipush (v := nI 90) e_Cycle_bringLink_10 (by decide) ?_
  refine pw_iload_n e_Cycle_bringLink_12 rfl ?_
  refine pw_iconst (v := nI 5) e_Cycle_bringLink_13 (by decide) ?_
  refine pw_imulN e_Cycle_bringLink_14 ?_
  refine pw_iaddN e_Cycle_bringLink_15 ?_
  refine pw_istore (ls2 := [_, _, _, _, _, _]) e_Cycle_bringLink_16 (by decide) rfl ?_
  refine pw_aload_n e_Cycle_bringLink_18 rfl ?_
  refine pw_aload_n e_Cycle_bringLink_19 rfl ?_
  refine pw_getf e_Cycle_bringLink_20 fl_Cycle_41 (hP _).o rfl ?_
  refine pw_iload_n e_Cycle_bringLink_23 rfl ?_
  have hb2 := hw.dev (pN P 12 l)
  refine pw_ialdC e_Cycle_bringLink_24 (hP _).a1 (by omega) (by decide) hb2.1 ?_
  replace hb2 := hb2.2
  refine pw_aload_n e_Cycle_bringLink_25 rfl ?_
  refine pw_getf e_Cycle_bringLink_26 fl_Cycle_41 (hP _).o rfl ?_
  refine pw_aload_n e_Cycle_bringLink_29 rfl ?_
  refine pw_getf e_Cycle_bringLink_30 fl_Cycle_51 (hP _).o rfl ?_
  refine pw_getf e_Cycle_bringLink_33 fl_Cycle_101 (hP _).k rfl ?_
  refine pw_iload_n e_Cycle_bringLink_36 rfl ?_
  have hb3 := hw.to l
  refine pw_ialdC e_Cycle_bringLink_37 (hP _).a13 (by omega) (by decide) hb3.1 ?_
  replace hb3 := hb3.2
  have hb4 := hw.dev (pN P 13 l)
  refine pw_ialdC e_Cycle_bringLink_38 (hP _).a1 (by omega) (by decide) hb4.1 ?_
  replace hb4 := hb4.2
  refine pw_detS (As := [.ref (s), .int (nI (pN P 1 (pN P 12 l))), .int (nI (pN P 1 (pN P 13 l)))]) e_Cycle_bringLink_39 li_Cycle_104 (q_Cycle_carries hst c (pN P 1 (pN P 12 l)) (pN P 1 (pN P 13 l)) up_same (by omega) (by omega)) rfl (by decide) (Nat.le_of_ble_eq_true rfl) rfl ?_
  refine pw_if_ne (tgt := 52) e_Cycle_bringLink_42 (by decide) (fun (H5 : ¬ (f_Cycle_carries c (pN P 1 (pN P 12 l)) (pN P 1 (pN P 13 l))) = 0) => ?_) (fun (H5 : (f_Cycle_carries c (pN P 1 (pN P 12 l)) (pN P 1 (pN P 13 l))) = 0) => ?_)
  · refine pw_iload_n e_Cycle_bringLink_52 rfl ?_
    refine pw_bipush (v := nI 9) e_Cycle_bringLink_53 (by decide) ?_
    refine pw_imulN e_Cycle_bringLink_55 ?_
    refine pw_istore (ls2 := [_, _, _, _, _, _]) e_Cycle_bringLink_56 (by decide) rfl ?_
    refine pw_aload_n e_Cycle_bringLink_58 rfl ?_
    refine pw_iload e_Cycle_bringLink_59 rfl ?_
    refine pw_iconst (v := nI 0) e_Cycle_bringLink_61 (by decide) ?_
    refine pw_iaddN e_Cycle_bringLink_62 ?_
    refine pw_aload_n e_Cycle_bringLink_63 rfl ?_
    refine pw_iload e_Cycle_bringLink_64 rfl ?_
    refine pw_iconst (v := nI 3) e_Cycle_bringLink_66 (by decide) ?_
    refine pw_iaddN e_Cycle_bringLink_67 ?_
    refine pw_ialdN e_Cycle_bringLink_68 up_same (by omega) (by decide) ?_
    refine pw_iastU e_Cycle_bringLink_69 (by omega) (by decide) ?_
    refine pw_aload_n e_Cycle_bringLink_70 rfl ?_
    refine pw_iload e_Cycle_bringLink_71 rfl ?_
    refine pw_iconst (v := nI 1) e_Cycle_bringLink_73 (by decide) ?_
    refine pw_iaddN e_Cycle_bringLink_74 ?_
    refine pw_aload_n e_Cycle_bringLink_75 rfl ?_
    refine pw_iload e_Cycle_bringLink_76 rfl ?_
    refine pw_iconst (v := nI 5) e_Cycle_bringLink_78 (by decide) ?_
    refine pw_iaddN e_Cycle_bringLink_79 ?_
    refine pw_ialdN e_Cycle_bringLink_80 up_same (by omega) (by decide) ?_
    refine pw_iastU e_Cycle_bringLink_81 (by omega) (by decide) ?_
    refine pw_aload_n e_Cycle_bringLink_82 rfl ?_
    refine pw_iload e_Cycle_bringLink_83 rfl ?_
    refine pw_iconst (v := nI 2) e_Cycle_bringLink_85 (by decide) ?_
    refine pw_iaddN e_Cycle_bringLink_86 ?_
    refine pw_aload_n e_Cycle_bringLink_87 rfl ?_
    refine pw_iload e_Cycle_bringLink_88 rfl ?_
    refine pw_bipush (v := nI 6) e_Cycle_bringLink_90 (by decide) ?_
    refine pw_iaddN e_Cycle_bringLink_92 ?_
    refine pw_ialdN e_Cycle_bringLink_93 up_same (by omega) (by decide) ?_
    refine pw_iastU e_Cycle_bringLink_94 (by omega) (by decide) ?_
    refine pw_aload_n e_Cycle_bringLink_95 rfl ?_
    refine pw_iload e_Cycle_bringLink_96 rfl ?_
    refine pw_iconst (v := nI 3) e_Cycle_bringLink_98 (by decide) ?_
    refine pw_iaddN e_Cycle_bringLink_99 ?_
    refine pw_aload_n e_Cycle_bringLink_100 rfl ?_
    refine pw_iload e_Cycle_bringLink_101 rfl ?_
    refine pw_bipush (v := nI 7) e_Cycle_bringLink_103 (by decide) ?_
    refine pw_iaddN e_Cycle_bringLink_105 ?_
    refine pw_ialdN e_Cycle_bringLink_106 up_same (by omega) (by decide) ?_
    refine pw_iastU e_Cycle_bringLink_107 (by omega) (by decide) ?_
    refine pw_aload_n e_Cycle_bringLink_108 rfl ?_
    refine pw_iload e_Cycle_bringLink_109 rfl ?_
    refine pw_iconst (v := nI 4) e_Cycle_bringLink_111 (by decide) ?_
    refine pw_iaddN e_Cycle_bringLink_112 ?_
    refine pw_iconst (v := nI 0) e_Cycle_bringLink_113 (by decide) ?_
    refine pw_iastU e_Cycle_bringLink_114 (by omega) (by decide) ?_
    refine pw_vret e_Cycle_bringLink_115 rfl ?_
    rw [f_Cycle_bringLink, if_neg H5] at hk
    exact hk
  · refine pw_aload_n e_Cycle_bringLink_45 rfl ?_
    refine pw_iload e_Cycle_bringLink_46 rfl ?_
    refine pw_detS (As := [.ref (s), .int (nI (90 + (l * 5)))]) e_Cycle_bringLink_48 li_Cycle_108 (q_Cycle_growOlder hst (90 + (l * 5)) (by omega) c up_same) rfl (by decide) (Nat.le_of_ble_eq_true rfl) rfl ?_
    rw [up_up]
    refine pw_vret e_Cycle_bringLink_51 rfl ?_
    rw [f_Cycle_bringLink, if_pos H5] at hk
    exact hk
theorem q_Cycle_bringLink {g : GG} {h : Hp} (hst : (gl g).stackTraces = false) {p s : Nat} {ad : Nat → Nat} {P : Nat → Nat → Int32} (hP : ∀ e, PlanAt g p ad P (va_up h s e)) (hw : wfP P) (l : Nat) (hl : l < 12)  (c : Nat → Int32) (hm : h s = some (aI g 225 c)) : PM g M_Cycle_bringLink 2 0 0 [.ref (p), .ref (s), .int (nI (l))] h (RetV none (va_up h s (some (aI g 225 (f_Cycle_bringLink P l c))))) := by
  refine PM.of hst (by decide) rfl (fun v hv => ?_) (Nat.le_of_ble_eq_true rfl) ?_
  · simp only [List.mem_cons, List.not_mem_nil, or_false] at hv; rcases hv with rfl | rfl | rfl <;> rfl
  · have hq := w_Cycle_bringLink_0 (g := g) (Q := RetV none (va_up h s (some (aI g 225 (f_Cycle_bringLink P l c))))) (h := h) (kc := 0) (ks := 0) (s := s) hst hP hw l hl c ?_
    · rw [up_self hm] at hq; exact hq
    · exact ⟨rfl, rfl⟩

def f_Cycle_bringBack_105 (P : Nat → Nat → Int32) (l : Nat) (c : Nat → Int32) : Nat → Int32 :=
  if ((upd c ((155 + l * 5) + 2) (c ((pN P 13 l * 9) + 6))) ((pN P 13 l * 9) + 1)) = 3 then upd (upd (upd c ((155 + l * 5) + 2) (c ((pN P 13 l * 9) + 6))) ((155 + l * 5) + 3) 0) ((155 + l * 5) + 4) 0 else upd (upd (upd c ((155 + l * 5) + 2) (c ((pN P 13 l * 9) + 6))) ((155 + l * 5) + 3) 1) ((155 + l * 5) + 4) 0
set_option maxRecDepth 4000 in
theorem w_Cycle_bringBack_105 {g : GG} {Q : QT} {h : Hp} {kc ks : Nat} (hst : (gl g).stackTraces = false) {p s : Nat} {ad : Nat → Nat} {P : Nat → Nat → Int32} (hP : ∀ e, PlanAt g p ad P (va_up h s e)) (hw : wfP P) (l : Nat) (hl : l < 12)  (c : Nat → Int32) (hk : Q (.inl none) (va_up h s (some (aI g 225 (f_Cycle_bringBack_105 P l c))))) : PW g M_Cycle_bringBack 2 kc ks Q 105 [.ref (p), .ref (s), .int (nI (l)), .int (nI (pN P 13 l)), .int (nI (155 + l * 5)), .int (nI (pN P 13 l * 9))] [] (va_up h s (some (aI g 225 (c)))) := by
  have hb0 := (hw.to l).2
  refine pw_aload_n e_Cycle_bringBack_105 rfl ?_
  refine pw_iload e_Cycle_bringBack_106 rfl ?_
  refine pw_iconst (v := nI 2) e_Cycle_bringBack_108 (by decide) ?_
  refine pw_iaddN e_Cycle_bringBack_109 ?_
  refine pw_aload_n e_Cycle_bringBack_110 rfl ?_
  refine pw_iload e_Cycle_bringBack_111 rfl ?_
  refine pw_bipush (v := nI 6) e_Cycle_bringBack_113 (by decide) ?_
  refine pw_iaddN e_Cycle_bringBack_115 ?_
  refine pw_ialdN e_Cycle_bringBack_116 up_same (by omega) (by decide) ?_
  refine pw_iastU e_Cycle_bringBack_117 (by omega) (by decide) ?_
  refine pw_aload_n e_Cycle_bringBack_118 rfl ?_
  refine pw_iload e_Cycle_bringBack_119 rfl ?_
  refine pw_iconst (v := nI 3) e_Cycle_bringBack_121 (by decide) ?_
  refine pw_iaddN e_Cycle_bringBack_122 ?_
  refine pw_aload_n e_Cycle_bringBack_123 rfl ?_
  refine pw_iload e_Cycle_bringBack_124 rfl ?_
  refine pw_iconst (v := nI 1) e_Cycle_bringBack_126 (by decide) ?_
  refine pw_iaddN e_Cycle_bringBack_127 ?_
  refine pw_ialdN e_Cycle_bringBack_128 up_same (by omega) (by decide) ?_
  refine pw_iconst (v := nI 3) e_Cycle_bringBack_129 (by decide) ?_
  refine pw_icmp_ne (tgt := 137) e_Cycle_bringBack_130 (by decide) (fun (H1 : ¬ ((upd c ((155 + l * 5) + 2) (c ((pN P 13 l * 9) + 6))) ((pN P 13 l * 9) + 1)) = 3) => ?_) (fun (H1 : ((upd c ((155 + l * 5) + 2) (c ((pN P 13 l * 9) + 6))) ((pN P 13 l * 9) + 1)) = 3) => ?_)
  · refine pw_iconst (v := nI 1) e_Cycle_bringBack_137 (by decide) ?_
    refine pw_iastU e_Cycle_bringBack_138 (by omega) (by decide) ?_
    refine pw_aload_n e_Cycle_bringBack_139 rfl ?_
    refine pw_iload e_Cycle_bringBack_140 rfl ?_
    refine pw_iconst (v := nI 4) e_Cycle_bringBack_142 (by decide) ?_
    refine pw_iaddN e_Cycle_bringBack_143 ?_
    refine pw_iconst (v := nI 0) e_Cycle_bringBack_144 (by decide) ?_
    refine pw_iastU e_Cycle_bringBack_145 (by omega) (by decide) ?_
    refine pw_vret e_Cycle_bringBack_146 rfl ?_
    rw [f_Cycle_bringBack_105, if_neg H1] at hk
    exact hk
  · refine pw_iconst (v := nI 0) e_Cycle_bringBack_133 (by decide) ?_
    refine pw_goto (tgt := 138) e_Cycle_bringBack_134 (by decide) ?_
    refine pw_iastU e_Cycle_bringBack_138 (by omega) (by decide) ?_
    refine pw_aload_n e_Cycle_bringBack_139 rfl ?_
    refine pw_iload e_Cycle_bringBack_140 rfl ?_
    refine pw_iconst (v := nI 4) e_Cycle_bringBack_142 (by decide) ?_
    refine pw_iaddN e_Cycle_bringBack_143 ?_
    refine pw_iconst (v := nI 0) e_Cycle_bringBack_144 (by decide) ?_
    refine pw_iastU e_Cycle_bringBack_145 (by omega) (by decide) ?_
    refine pw_vret e_Cycle_bringBack_146 rfl ?_
    rw [f_Cycle_bringBack_105, if_pos H1] at hk
    exact hk
def f_Cycle_bringBack_85 (P : Nat → Nat → Int32) (l : Nat) (c : Nat → Int32) : Nat → Int32 :=
  if (c ((pN P 13 l * 9) + 1)) = 0 then f_Cycle_bringBack_105 P l (upd c ((155 + l * 5) + 1) 0) else f_Cycle_bringBack_105 P l (upd c ((155 + l * 5) + 1) 1)
set_option maxRecDepth 4000 in
theorem w_Cycle_bringBack_85 {g : GG} {Q : QT} {h : Hp} {kc ks : Nat} (hst : (gl g).stackTraces = false) {p s : Nat} {ad : Nat → Nat} {P : Nat → Nat → Int32} (hP : ∀ e, PlanAt g p ad P (va_up h s e)) (hw : wfP P) (l : Nat) (hl : l < 12)  (c : Nat → Int32) (hk : Q (.inl none) (va_up h s (some (aI g 225 (f_Cycle_bringBack_85 P l c))))) : PW g M_Cycle_bringBack 2 kc ks Q 85 [.ref (p), .ref (s), .int (nI (l)), .int (nI (pN P 13 l)), .int (nI (155 + l * 5)), .int (nI (pN P 13 l * 9))] [] (va_up h s (some (aI g 225 (c)))) := by
  have hb0 := (hw.to l).2
  refine pw_aload_n e_Cycle_bringBack_85 rfl ?_
  refine pw_iload e_Cycle_bringBack_86 rfl ?_
  refine pw_iconst (v := nI 1) e_Cycle_bringBack_88 (by decide) ?_
  refine pw_iaddN e_Cycle_bringBack_89 ?_
  refine pw_aload_n e_Cycle_bringBack_90 rfl ?_
  refine pw_iload e_Cycle_bringBack_91 rfl ?_
  refine pw_iconst (v := nI 1) e_Cycle_bringBack_93 (by decide) ?_
  refine pw_iaddN e_Cycle_bringBack_94 ?_
  refine pw_ialdN e_Cycle_bringBack_95 up_same (by omega) (by decide) ?_
  refine pw_if_ne (tgt := 103) e_Cycle_bringBack_96 (by decide) (fun (H1 : ¬ (c ((pN P 13 l * 9) + 1)) = 0) => ?_) (fun (H1 : (c ((pN P 13 l * 9) + 1)) = 0) => ?_)
  · refine pw_iconst (v := nI 1) e_Cycle_bringBack_103 (by decide) ?_
    refine pw_iastU e_Cycle_bringBack_104 (by omega) (by decide) ?_
    refine w_Cycle_bringBack_105 hst hP hw l hl (upd c ((155 + l * 5) + 1) 1) ?_
    rw [f_Cycle_bringBack_85, if_neg H1] at hk
    exact hk
  · refine pw_iconst (v := nI 0) e_Cycle_bringBack_99 (by decide) ?_
    refine pw_goto (tgt := 104) e_Cycle_bringBack_100 (by decide) ?_
    refine pw_iastU e_Cycle_bringBack_104 (by omega) (by decide) ?_
    refine w_Cycle_bringBack_105 hst hP hw l hl (upd c ((155 + l * 5) + 1) 0) ?_
    rw [f_Cycle_bringBack_85, if_pos H1] at hk
    exact hk
def f_Cycle_bringBack (P : Nat → Nat → Int32) (l : Nat) (c : Nat → Int32) : Nat → Int32 :=
  if (f_Cycle_carries c (pN P 1 (pN P 13 l)) (pN P 1 (pN P 12 l))) = 0 then f_Cycle_growOlder (155 + (l * 5)) c else if (pN P 0 (pN P 13 l)) = 1 then f_Cycle_bringBack_85 P l (upd c ((155 + (l * 5)) + 0) (c (((pN P 13 l) * 9) + 2))) else f_Cycle_bringBack_85 P l (upd c ((155 + (l * 5)) + 0) (c (((pN P 13 l) * 9) + 3)))
set_option maxRecDepth 4000 in
theorem w_Cycle_bringBack_0 {g : GG} {Q : QT} {h : Hp} {kc ks : Nat} (hst : (gl g).stackTraces = false) {p s : Nat} {ad : Nat → Nat} {P : Nat → Nat → Int32} (hP : ∀ e, PlanAt g p ad P (va_up h s e)) (hw : wfP P) (l : Nat) (hl : l < 12)  (c : Nat → Int32) (hk : Q (.inl none) (va_up h s (some (aI g 225 (f_Cycle_bringBack P l c))))) : PW g M_Cycle_bringBack 2 kc ks Q 0 [.ref (p), .ref (s), .int (nI (l)), .retAddr 0, .retAddr 0, .retAddr 0] [] (va_up h s (some (aI g 225 (c)))) := by
  have hb0 := (hw.to l).2
  refine pw_aload_n e_Cycle_bringBack_0 rfl ?_
  refine pw_getf e_Cycle_bringBack_1 fl_Cycle_51 (hP _).o rfl ?_
  refine pw_getf e_Cycle_bringBack_4 fl_Cycle_101 (hP _).k rfl ?_
  refine pw_iload_n e_Cycle_bringBack_7 rfl ?_
  have hb1 := hw.to l
  refine pw_ialdC e_Cycle_bringBack_8 (hP _).a13 (by omega) (by decide) hb1.1 ?_
  replace hb1 := hb1.2
  refine pw_istore_n (ls2 := [_, _, _, _, _, _]) e_Cycle_bringBack_9 (by decide) rfl ?_
  refine pw_sipush (v := nI 155) e_Cycle_bringBack_10 (by decide) ?_
  refine pw_iload_n e_Cycle_bringBack_13 rfl ?_
  refine pw_iconst (v := nI 5) e_Cycle_bringBack_14 (by decide) ?_
  refine pw_imulN e_Cycle_bringBack_15 ?_
  refine pw_iaddN e_Cycle_bringBack_16 ?_
  refine pw_istore (ls2 := [_, _, _, _, _, _]) e_Cycle_bringBack_17 (by decide) rfl ?_
  refine pw_aload_n e_Cycle_bringBack_19 rfl ?_
  refine pw_aload_n e_Cycle_bringBack_20 rfl ?_
  refine pw_getf e_Cycle_bringBack_21 fl_Cycle_41 (hP _).o rfl ?_
  refine pw_iload_n e_Cycle_bringBack_24 rfl ?_
  have hb2 := hw.dev (pN P 13 l)
  refine pw_ialdC e_Cycle_bringBack_25 (hP _).a1 (by omega) (by decide) hb2.1 ?_
  replace hb2 := hb2.2
  refine pw_aload_n e_Cycle_bringBack_26 rfl ?_
  refine pw_getf e_Cycle_bringBack_27 fl_Cycle_41 (hP _).o rfl ?_
  refine pw_aload_n e_Cycle_bringBack_30 rfl ?_
  refine pw_getf e_Cycle_bringBack_31 fl_Cycle_51 (hP _).o rfl ?_
  refine pw_getf e_Cycle_bringBack_34 fl_Cycle_98 (hP _).k rfl ?_
  refine pw_iload_n e_Cycle_bringBack_37 rfl ?_
  have hb3 := hw.frm l
  refine pw_ialdC e_Cycle_bringBack_38 (hP _).a12 (by omega) (by decide) hb3.1 ?_
  replace hb3 := hb3.2
  have hb4 := hw.dev (pN P 12 l)
  refine pw_ialdC e_Cycle_bringBack_39 (hP _).a1 (by omega) (by decide) hb4.1 ?_
  replace hb4 := hb4.2
  refine pw_detS (As := [.ref (s), .int (nI (pN P 1 (pN P 13 l))), .int (nI (pN P 1 (pN P 12 l)))]) e_Cycle_bringBack_40 li_Cycle_104 (q_Cycle_carries hst c (pN P 1 (pN P 13 l)) (pN P 1 (pN P 12 l)) up_same (by omega) (by omega)) rfl (by decide) (Nat.le_of_ble_eq_true rfl) rfl ?_
  refine pw_if_ne (tgt := 53) e_Cycle_bringBack_43 (by decide) (fun (H5 : ¬ (f_Cycle_carries c (pN P 1 (pN P 13 l)) (pN P 1 (pN P 12 l))) = 0) => ?_) (fun (H5 : (f_Cycle_carries c (pN P 1 (pN P 13 l)) (pN P 1 (pN P 12 l))) = 0) => ?_)
  · refine pw_iload_n e_Cycle_bringBack_53 rfl ?_
    refine pw_bipush (v := nI 9) e_Cycle_bringBack_54 (by decide) ?_
    refine pw_imulN e_Cycle_bringBack_56 ?_
    refine pw_istore (ls2 := [_, _, _, _, _, _]) e_Cycle_bringBack_57 (by decide) rfl ?_
    refine pw_aload_n e_Cycle_bringBack_59 rfl ?_
    refine pw_iload e_Cycle_bringBack_60 rfl ?_
    refine pw_iconst (v := nI 0) e_Cycle_bringBack_62 (by decide) ?_
    refine pw_iaddN e_Cycle_bringBack_63 ?_
    refine pw_aload_n e_Cycle_bringBack_64 rfl ?_
    refine pw_iload e_Cycle_bringBack_65 rfl ?_
    refine pw_aload_n e_Cycle_bringBack_67 rfl ?_
    refine pw_getf e_Cycle_bringBack_68 fl_Cycle_89 (hP _).o rfl ?_
    refine pw_iload_n e_Cycle_bringBack_71 rfl ?_
    have hb6 := hw.kind (pN P 13 l)
    refine pw_ialdC e_Cycle_bringBack_72 (hP _).a0 (by omega) (by decide) hb6.1 ?_
    replace hb6 := hb6.2
    refine pw_iconst (v := nI 1) e_Cycle_bringBack_73 (by decide) ?_
    refine pw_icmp_neN (tgt := 81) e_Cycle_bringBack_74 (by decide) (by omega) (by omega) (fun (H7 : ¬ (pN P 0 (pN P 13 l)) = 1) => ?_) (fun (H7 : (pN P 0 (pN P 13 l)) = 1) => ?_)
    · refine pw_iconst (v := nI 3) e_Cycle_bringBack_81 (by decide) ?_
      refine pw_iaddN e_Cycle_bringBack_82 ?_
      refine pw_ialdN e_Cycle_bringBack_83 up_same (by omega) (by decide) ?_
      refine pw_iastU e_Cycle_bringBack_84 (by omega) (by decide) ?_
      refine w_Cycle_bringBack_85 hst hP hw l hl (upd c ((155 + (l * 5)) + 0) (c (((pN P 13 l) * 9) + 3))) ?_
      rw [f_Cycle_bringBack, if_neg H5, if_neg H7] at hk
      exact hk
    · refine pw_iconst (v := nI 2) e_Cycle_bringBack_77 (by decide) ?_
      refine pw_goto (tgt := 82) e_Cycle_bringBack_78 (by decide) ?_
      refine pw_iaddN e_Cycle_bringBack_82 ?_
      refine pw_ialdN e_Cycle_bringBack_83 up_same (by omega) (by decide) ?_
      refine pw_iastU e_Cycle_bringBack_84 (by omega) (by decide) ?_
      refine w_Cycle_bringBack_85 hst hP hw l hl (upd c ((155 + (l * 5)) + 0) (c (((pN P 13 l) * 9) + 2))) ?_
      rw [f_Cycle_bringBack, if_neg H5, if_pos H7] at hk
      exact hk
  · refine pw_aload_n e_Cycle_bringBack_46 rfl ?_
    refine pw_iload e_Cycle_bringBack_47 rfl ?_
    refine pw_detS (As := [.ref (s), .int (nI (155 + (l * 5)))]) e_Cycle_bringBack_49 li_Cycle_108 (q_Cycle_growOlder hst (155 + (l * 5)) (by omega) c up_same) rfl (by decide) (Nat.le_of_ble_eq_true rfl) rfl ?_
    rw [up_up]
    refine pw_vret e_Cycle_bringBack_52 rfl ?_
    rw [f_Cycle_bringBack, if_pos H5] at hk
    exact hk
theorem q_Cycle_bringBack {g : GG} {h : Hp} (hst : (gl g).stackTraces = false) {p s : Nat} {ad : Nat → Nat} {P : Nat → Nat → Int32} (hP : ∀ e, PlanAt g p ad P (va_up h s e)) (hw : wfP P) (l : Nat) (hl : l < 12)  (c : Nat → Int32) (hm : h s = some (aI g 225 c)) : PM g M_Cycle_bringBack 2 0 0 [.ref (p), .ref (s), .int (nI (l))] h (RetV none (va_up h s (some (aI g 225 (f_Cycle_bringBack P l c))))) := by
  refine PM.of hst (by decide) rfl (fun v hv => ?_) (Nat.le_of_ble_eq_true rfl) ?_
  · simp only [List.mem_cons, List.not_mem_nil, or_false] at hv; rcases hv with rfl | rfl | rfl <;> rfl
  · have hq := w_Cycle_bringBack_0 (g := g) (Q := RetV none (va_up h s (some (aI g 225 (f_Cycle_bringBack P l c))))) (h := h) (kc := 0) (ks := 0) (s := s) hst hP hw l hl c ?_
    · rw [up_self hm] at hq; exact hq
    · exact ⟨rfl, rfl⟩

def f_Cycle_outOf_7 (P : Nat → Nat → Int32) (c : Nat → Int32) (a : Int32) : Nat → (Nat) → Int32
  | 0, _ => 0
  | t + 1, k => if (nI (k) + (-1)) < 0 then 0 else if (pN P 0 (k - 1)) = 2 then if ((P 3) (k - 1)) = a then c (((k - 1) * 9) + 3) else f_Cycle_outOf_7 P c a t (k - 1) else f_Cycle_outOf_7 P c a t (k - 1)
set_option maxRecDepth 4000 in
theorem w_Cycle_outOf_7 {g : GG} {Q : QT} {h : Hp} {kc ks : Nat} (hst : (gl g).stackTraces = false) {p s : Nat} {ad : Nat → Nat} {P : Nat → Nat → Int32} (hP : PlanAt g p ad P h) (hw : wfP P) (c : Nat → Int32) (a : Int32) (hs : h s = some (aI g 225 c))  (t : Nat) : ∀ (k : Nat) (hk10 : k < 11) (hlt : k < t) (hk : Q (.inl (some (.int (f_Cycle_outOf_7 P c a t k)))) h), PW g M_Cycle_outOf 0 kc ks Q 7 [.ref (p), .ref (s), .int (a), .int (nI (k) + (-1))] [] h := by
  induction t with
  | zero => intro k hk10 hlt _; exact absurd hlt (Nat.not_lt_zero _)
  | succ t ih =>
    intro k hk10 hlt hk
    have hb0 := hw.blk.2
    refine pw_iload_n e_Cycle_outOf_7 rfl ?_
    refine pw_if_lt (tgt := 46) e_Cycle_outOf_8 (by decide) (fun (H1 : (nI (k) + (-1)) < 0) => ?_) (fun (H1 : ¬ (nI (k) + (-1)) < 0) => ?_)
    · refine pw_iconst (v := nI 0) e_Cycle_outOf_46 (by decide) ?_
      refine pw_iret e_Cycle_outOf_47 rfl rfl ?_
      rw [f_Cycle_outOf_7, if_pos H1] at hk
      exact hk
    · have hk0 := dm1 H1
      rw [sb_m1 hk0]
      refine pw_aload_n e_Cycle_outOf_11 rfl ?_
      refine pw_getf e_Cycle_outOf_12 fl_Cycle_89 hP.o rfl ?_
      refine pw_iload_n e_Cycle_outOf_15 rfl ?_
      have hb2 := hw.kind (k - 1)
      refine pw_ialdC e_Cycle_outOf_16 hP.a0 (by omega) (by decide) hb2.1 ?_
      replace hb2 := hb2.2
      refine pw_iconst (v := nI 2) e_Cycle_outOf_17 (by decide) ?_
      refine pw_icmp_neN (tgt := 40) e_Cycle_outOf_18 (by decide) (by omega) (by omega) (fun (H3 : ¬ (pN P 0 (k - 1)) = 2) => ?_) (fun (H3 : (pN P 0 (k - 1)) = 2) => ?_)
      · refine pw_iinc (v := (nI (k - 1)) + (-1)) (ls2 := [_, _, _, _]) e_Cycle_outOf_40 rfl rfl (by decide) rfl ?_
        refine pw_goto (tgt := 7) e_Cycle_outOf_43 (by decide) ?_
        refine ih (k - 1) (by omega) (by omega) ?_
        rw [f_Cycle_outOf_7, if_neg H1, if_neg H3] at hk
        exact hk
      · refine pw_aload_n e_Cycle_outOf_21 rfl ?_
        refine pw_getf e_Cycle_outOf_22 fl_Cycle_92 hP.o rfl ?_
        refine pw_iload_n e_Cycle_outOf_25 rfl ?_
        refine pw_ialdN e_Cycle_outOf_26 hP.a3 (by omega) (by decide) ?_
        refine pw_iload_n e_Cycle_outOf_27 rfl ?_
        refine pw_icmp_ne (tgt := 40) e_Cycle_outOf_28 (by decide) (fun (H4 : ¬ ((P 3) (k - 1)) = a) => ?_) (fun (H4 : ((P 3) (k - 1)) = a) => ?_)
        · refine pw_iinc (v := (nI (k - 1)) + (-1)) (ls2 := [_, _, _, _]) e_Cycle_outOf_40 rfl rfl (by decide) rfl ?_
          refine pw_goto (tgt := 7) e_Cycle_outOf_43 (by decide) ?_
          refine ih (k - 1) (by omega) (by omega) ?_
          rw [f_Cycle_outOf_7, if_neg H1, if_pos H3, if_neg H4] at hk
          exact hk
        · refine pw_aload_n e_Cycle_outOf_31 rfl ?_
          refine pw_iload_n e_Cycle_outOf_32 rfl ?_
          refine pw_bipush (v := nI 9) e_Cycle_outOf_33 (by decide) ?_
          refine pw_imulN e_Cycle_outOf_35 ?_
          refine pw_iconst (v := nI 3) e_Cycle_outOf_36 (by decide) ?_
          refine pw_iaddN e_Cycle_outOf_37 ?_
          refine pw_ialdN e_Cycle_outOf_38 hs (by omega) (by decide) ?_
          refine pw_iret e_Cycle_outOf_39 rfl rfl ?_
          rw [f_Cycle_outOf_7, if_neg H1, if_pos H3, if_pos H4] at hk
          exact hk
def f_Cycle_outOf (P : Nat → Nat → Int32) (c : Nat → Int32) (a : Int32) : Int32 :=
  f_Cycle_outOf_7 P c a (pN P 30 3 + 1) (pN P 30 3)
set_option maxRecDepth 4000 in
theorem w_Cycle_outOf_0 {g : GG} {Q : QT} {h : Hp} {kc ks : Nat} (hst : (gl g).stackTraces = false) {p s : Nat} {ad : Nat → Nat} {P : Nat → Nat → Int32} (hP : PlanAt g p ad P h) (hw : wfP P) (c : Nat → Int32) (a : Int32) (hs : h s = some (aI g 225 c))  (hk : Q (.inl (some (.int (f_Cycle_outOf P c a)))) h) : PW g M_Cycle_outOf 0 kc ks Q 0 [.ref (p), .ref (s), .int (a), .retAddr 0] [] h := by
  have hb0 := hw.blk.2
  refine pw_aload_n e_Cycle_outOf_0 rfl ?_
  refine pw_getf e_Cycle_outOf_1 fl_Cycle_18 hP.o rfl ?_
  rw [hw.blk.1]
  refine pw_iconst (v := nI 1) e_Cycle_outOf_4 (by decide) ?_
  refine pw_isub e_Cycle_outOf_5 ?_
  refine pw_istore_n (ls2 := [_, _, _, _]) e_Cycle_outOf_6 (by decide) rfl ?_
  rw [sub1n]
  refine w_Cycle_outOf_7 hst hP hw c a hs (pN P 30 3 + 1) (pN P 30 3) (by omega) (by omega) ?_
  rw [f_Cycle_outOf] at hk
  exact hk
theorem q_Cycle_outOf {g : GG} {h : Hp} (hst : (gl g).stackTraces = false) {p s : Nat} {ad : Nat → Nat} {P : Nat → Nat → Int32} (hP : PlanAt g p ad P h) (hw : wfP P) (c : Nat → Int32) (a : Int32) (hs : h s = some (aI g 225 c))  : PM g M_Cycle_outOf 0 0 0 [.ref (p), .ref (s), .int (a)] h (RetV (some (.int (f_Cycle_outOf P c a))) h) := by
  refine PM.of hst (by decide) rfl (fun v hv => ?_) (Nat.le_of_ble_eq_true rfl) ?_
  · simp only [List.mem_cons, List.not_mem_nil, or_false] at hv; rcases hv with rfl | rfl | rfl <;> rfl
  · have hq := w_Cycle_outOf_0 (g := g) (Q := RetV (some (.int (f_Cycle_outOf P c a))) h) (h := h) (kc := 0) (ks := 0) hst hP hw c a hs ?_
    · exact hq
    · exact ⟨rfl, rfl⟩

def f_Cycle_seekScheduler_35 (P : Nat → Nat → Int32) : Nat → (Nat → Int32) → (Nat) → Nat → Int32
  | 0, c, _ => c
  | t + 1, c, k => if (nI (k) + (-1)) < 0 then c else if (f_Bus_hasBit (c 220) (nI (k - 1))) = 0 then f_Cycle_seekScheduler_35 P t c (k - 1) else f_Cycle_seekScheduler_35 P t (upd c 221 (nI (k - 1))) (k - 1)
set_option maxRecDepth 4000 in
theorem w_Cycle_seekScheduler_35 {g : GG} {Q : QT} {h : Hp} {kc ks : Nat} (hst : (gl g).stackTraces = false) {p s : Nat} {ad : Nat → Nat} {P : Nat → Nat → Int32} (hP : ∀ e, PlanAt g p ad P (va_up h s e)) (hw : wfP P)  (t : Nat) : ∀ (c : Nat → Int32) (k : Nat) (hk10 : k < 6) (hlt : k < t) (hk : Q (.inl none) (va_up h s (some (aI g 225 (f_Cycle_seekScheduler_35 P t c k))))), PW g M_Cycle_seekScheduler 1 kc ks Q 35 [.ref (p), .ref (s), .int (nI (k) + (-1))] [] (va_up h s (some (aI g 225 (c)))) := by
  induction t with
  | zero => intro c k hk10 hlt _; exact absurd hlt (Nat.not_lt_zero _)
  | succ t ih =>
    intro c k hk10 hlt hk
    have hb0 := hw.dvs.2
    refine pw_iload_n e_Cycle_seekScheduler_35 rfl ?_
    refine pw_if_lt (tgt := 63) e_Cycle_seekScheduler_36 (by decide) (fun (H1 : (nI (k) + (-1)) < 0) => ?_) (fun (H1 : ¬ (nI (k) + (-1)) < 0) => ?_)
    · refine pw_vret e_Cycle_seekScheduler_63 rfl ?_
      rw [f_Cycle_seekScheduler_35, if_pos H1] at hk
      exact hk
    · have hk0 := dm1 H1
      rw [sb_m1 hk0]
      refine pw_aload_n e_Cycle_seekScheduler_39 rfl ?_
      refine pw_sipush (v := nI 220) e_Cycle_seekScheduler_40 (by decide) ?_
      refine pw_ialdN e_Cycle_seekScheduler_43 up_same (by omega) (by decide) ?_
      refine pw_iload_n e_Cycle_seekScheduler_44 rfl ?_
      refine pw_detSN (As := [.int (c 220), .int (nI (k - 1))]) e_Cycle_seekScheduler_45 li_Cycle_44 (q_Bus_hasBit hst (c 220) (nI (k - 1))) rfl (by decide) (Nat.le_of_ble_eq_true rfl) rfl ?_
      refine pw_if_eq (tgt := 57) e_Cycle_seekScheduler_48 (by decide) (fun (H2 : (f_Bus_hasBit (c 220) (nI (k - 1))) = 0) => ?_) (fun (H2 : ¬ (f_Bus_hasBit (c 220) (nI (k - 1))) = 0) => ?_)
      · refine pw_iinc (v := (nI (k - 1)) + (-1)) (ls2 := [_, _, _]) e_Cycle_seekScheduler_57 rfl rfl (by decide) rfl ?_
        refine pw_goto (tgt := 35) e_Cycle_seekScheduler_60 (by decide) ?_
        refine ih c (k - 1) (by omega) (by omega) ?_
        rw [f_Cycle_seekScheduler_35, if_neg H1, if_pos H2] at hk
        exact hk
      · refine pw_aload_n e_Cycle_seekScheduler_51 rfl ?_
        refine pw_sipush (v := nI 221) e_Cycle_seekScheduler_52 (by decide) ?_
        refine pw_iload_n e_Cycle_seekScheduler_55 rfl ?_
        refine pw_iastU e_Cycle_seekScheduler_56 (by omega) (by decide) ?_
        refine pw_iinc (v := (nI (k - 1)) + (-1)) (ls2 := [_, _, _]) e_Cycle_seekScheduler_57 rfl rfl (by decide) rfl ?_
        refine pw_goto (tgt := 35) e_Cycle_seekScheduler_60 (by decide) ?_
        refine ih (upd c 221 (nI (k - 1))) (k - 1) (by omega) (by omega) ?_
        rw [f_Cycle_seekScheduler_35, if_neg H1, if_neg H2] at hk
        exact hk
def f_Cycle_seekScheduler (P : Nat → Nat → Int32) (c : Nat → Int32) : Nat → Int32 :=
  if (c 221) = ((-1)) then if (c 222) ≤ 0 then f_Cycle_seekScheduler_35 P (pN P 30 0 + 1) c (pN P 30 0) else upd c 222 ((c 222) - 1) else c
set_option maxRecDepth 4000 in
theorem w_Cycle_seekScheduler_0 {g : GG} {Q : QT} {h : Hp} {kc ks : Nat} (hst : (gl g).stackTraces = false) {p s : Nat} {ad : Nat → Nat} {P : Nat → Nat → Int32} (hP : ∀ e, PlanAt g p ad P (va_up h s e)) (hw : wfP P)  (c : Nat → Int32) (hk : Q (.inl none) (va_up h s (some (aI g 225 (f_Cycle_seekScheduler P c))))) : PW g M_Cycle_seekScheduler 1 kc ks Q 0 [.ref (p), .ref (s), .retAddr 0] [] (va_up h s (some (aI g 225 (c)))) := by
  have hb0 := hw.dvs.2
  refine pw_aload_n e_Cycle_seekScheduler_0 rfl ?_
  refine pw_sipush (v := nI 221) e_Cycle_seekScheduler_1 (by decide) ?_
  refine pw_ialdN e_Cycle_seekScheduler_4 up_same (by omega) (by decide) ?_
  refine pw_iconst (v := (-1)) e_Cycle_seekScheduler_5 (by decide) ?_
  refine pw_icmp_eq (tgt := 10) e_Cycle_seekScheduler_6 (by decide) (fun (H1 : (c 221) = ((-1))) => ?_) (fun (H1 : ¬ (c 221) = ((-1))) => ?_)
  · refine pw_aload_n e_Cycle_seekScheduler_10 rfl ?_
    refine pw_sipush (v := nI 222) e_Cycle_seekScheduler_11 (by decide) ?_
    refine pw_ialdN e_Cycle_seekScheduler_14 up_same (by omega) (by decide) ?_
    refine pw_if_le (tgt := 28) e_Cycle_seekScheduler_15 (by decide) (fun (H2 : (c 222) ≤ 0) => ?_) (fun (H2 : ¬ (c 222) ≤ 0) => ?_)
    · refine pw_aload_n e_Cycle_seekScheduler_28 rfl ?_
      refine pw_getf e_Cycle_seekScheduler_29 fl_Cycle_95 (hP _).o rfl ?_
      rw [hw.dvs.1]
      refine pw_iconst (v := nI 1) e_Cycle_seekScheduler_32 (by decide) ?_
      refine pw_isub e_Cycle_seekScheduler_33 ?_
      refine pw_istore_n (ls2 := [_, _, _]) e_Cycle_seekScheduler_34 (by decide) rfl ?_
      rw [sub1n]
      refine w_Cycle_seekScheduler_35 hst hP hw (pN P 30 0 + 1) c (pN P 30 0) (by omega) (by omega) ?_
      rw [f_Cycle_seekScheduler, if_pos H1, if_pos H2] at hk
      exact hk
    · refine pw_aload_n e_Cycle_seekScheduler_18 rfl ?_
      refine pw_sipush (v := nI 222) e_Cycle_seekScheduler_19 (by decide) ?_
      refine pw_dup2 e_Cycle_seekScheduler_22 rfl rfl ?_
      refine pw_ialdN e_Cycle_seekScheduler_23 up_same (by omega) (by decide) ?_
      refine pw_iconst (v := nI 1) e_Cycle_seekScheduler_24 (by decide) ?_
      refine pw_isub e_Cycle_seekScheduler_25 ?_
      refine pw_iastU e_Cycle_seekScheduler_26 (by omega) (by decide) ?_
      refine pw_vret e_Cycle_seekScheduler_27 rfl ?_
      rw [f_Cycle_seekScheduler, if_pos H1, if_neg H2] at hk
      exact hk
  · refine pw_vret e_Cycle_seekScheduler_9 rfl ?_
    rw [f_Cycle_seekScheduler, if_neg H1] at hk
    exact hk
theorem q_Cycle_seekScheduler {g : GG} {h : Hp} (hst : (gl g).stackTraces = false) {p s : Nat} {ad : Nat → Nat} {P : Nat → Nat → Int32} (hP : ∀ e, PlanAt g p ad P (va_up h s e)) (hw : wfP P)  (c : Nat → Int32) (hm : h s = some (aI g 225 c)) : PM g M_Cycle_seekScheduler 1 0 0 [.ref (p), .ref (s)] h (RetV none (va_up h s (some (aI g 225 (f_Cycle_seekScheduler P c))))) := by
  refine PM.of hst (by decide) rfl (fun v hv => ?_) (Nat.le_of_ble_eq_true rfl) ?_
  · simp only [List.mem_cons, List.not_mem_nil, or_false] at hv; rcases hv with rfl | rfl <;> rfl
  · have hq := w_Cycle_seekScheduler_0 (g := g) (Q := RetV none (va_up h s (some (aI g 225 (f_Cycle_seekScheduler P c))))) (h := h) (kc := 0) (ks := 0) (s := s) hst hP hw c ?_
    · rw [up_self hm] at hq; exact hq
    · exact ⟨rfl, rfl⟩

def f_Cycle_moveSensors_2 (P : Nat → Nat → Int32) : Nat → (Nat → Int32) → (Nat) → Nat → Int32
  | 0, c, _ => c
  | t + 1, c, i => if 4 ≤ i then c else if ((P 15) i) = ((-1)) then f_Cycle_moveSensors_2 P t c (i + 1) else if ((P 17) i) ≤ 0 then f_Cycle_moveSensors_2 P t c (i + 1) else f_Cycle_moveSensors_2 P t (upd c (215 + i) (f_Cycle_within ((c (215 + i)) + (((((f_Cycle_outOf P c ((P 15) i)) * ((P 16) i)) / 100) - (c (215 + i))) / ((P 17) i))))) (i + 1)
set_option maxRecDepth 4000 in
theorem w_Cycle_moveSensors_2 {g : GG} {Q : QT} {h : Hp} {kc ks : Nat} (hst : (gl g).stackTraces = false) {p s : Nat} {ad : Nat → Nat} {P : Nat → Nat → Int32} (hP : ∀ e, PlanAt g p ad P (va_up h s e)) (hw : wfP P)  (t : Nat) : ∀ (c : Nat → Int32) (i : Nat) (hi : i < 5) (hlt : 4 - i < t) (hk : Q (.inl none) (va_up h s (some (aI g 225 (f_Cycle_moveSensors_2 P t c i))))), PW g M_Cycle_moveSensors 2 kc ks Q 2 [.ref (p), .ref (s), .int (nI (i)), .retAddr 0, .retAddr 0, .retAddr 0, .retAddr 0] [] (va_up h s (some (aI g 225 (c)))) := by
  induction t with
  | zero => intro c i hi hlt _; exact absurd hlt (Nat.not_lt_zero _)
  | succ t ih =>
    intro c i hi hlt hk
    refine pw_iload_n e_Cycle_moveSensors_2 rfl ?_
    refine pw_iconst (v := nI 4) e_Cycle_moveSensors_3 (by decide) ?_
    refine pw_icmp_geN (tgt := 94) e_Cycle_moveSensors_4 (by decide) (by omega) (by omega) (fun (H1 : 4 ≤ i) => ?_) (fun (H1 : i < 4) => ?_)
    · refine pw_vret e_Cycle_moveSensors_94 rfl ?_
      rw [f_Cycle_moveSensors_2, if_pos H1] at hk
      exact hk
    · refine pw_aload_n e_Cycle_moveSensors_7 rfl ?_
      refine pw_getf e_Cycle_moveSensors_8 fl_Cycle_66 (hP _).o rfl ?_
      refine pw_getf e_Cycle_moveSensors_11 fl_Cycle_70 (hP _).l rfl ?_
      refine pw_iload_n e_Cycle_moveSensors_14 rfl ?_
      refine pw_ialdN e_Cycle_moveSensors_15 (hP _).a15 (by omega) (by decide) ?_
      refine pw_istore_n (ls2 := [_, _, _, _, _, _, _]) e_Cycle_moveSensors_16 (by decide) rfl ?_
      refine pw_aload_n e_Cycle_moveSensors_17 rfl ?_
      refine pw_getf e_Cycle_moveSensors_18 fl_Cycle_66 (hP _).o rfl ?_
      refine pw_getf e_Cycle_moveSensors_21 fl_Cycle_75 (hP _).l rfl ?_
      refine pw_iload_n e_Cycle_moveSensors_24 rfl ?_
      refine pw_ialdN e_Cycle_moveSensors_25 (hP _).a17 (by omega) (by decide) ?_
      refine pw_istore (ls2 := [_, _, _, _, _, _, _]) e_Cycle_moveSensors_26 (by decide) rfl ?_
      refine pw_iload_n e_Cycle_moveSensors_28 rfl ?_
      refine pw_iconst (v := (-1)) e_Cycle_moveSensors_29 (by decide) ?_
      refine pw_icmp_eq (tgt := 88) e_Cycle_moveSensors_30 (by decide) (fun (H2 : ((P 15) i) = ((-1))) => ?_) (fun (H2 : ¬ ((P 15) i) = ((-1))) => ?_)
      · refine pw_iincN (ls2 := [_, _, _, _, _, _, _]) e_Cycle_moveSensors_88 rfl (by decide) rfl ?_
        refine pw_goto (tgt := 2) e_Cycle_moveSensors_91 (by decide) ?_
        refine pw_fgt (ls' := [.ref (p), .ref (s), .int (nI (i + 1)), .retAddr 0, .retAddr 0, .retAddr 0, .retAddr 0]) ⟨Or.inr rfl, Or.inr rfl, Or.inr rfl, Or.inl rfl, Or.inl rfl, Or.inr rfl, Or.inr rfl, trivial⟩ ?_
        refine ih c (i + 1) (by omega) (by omega) ?_
        rw [f_Cycle_moveSensors_2, if_neg (Nat.not_le.mpr H1), if_pos H2] at hk
        exact hk
      · refine pw_iload e_Cycle_moveSensors_33 rfl ?_
        refine pw_if_le (tgt := 88) e_Cycle_moveSensors_35 (by decide) (fun (H3 : ((P 17) i) ≤ 0) => ?_) (fun (H3 : ¬ ((P 17) i) ≤ 0) => ?_)
        · refine pw_iincN (ls2 := [_, _, _, _, _, _, _]) e_Cycle_moveSensors_88 rfl (by decide) rfl ?_
          refine pw_goto (tgt := 2) e_Cycle_moveSensors_91 (by decide) ?_
          refine pw_fgt (ls' := [.ref (p), .ref (s), .int (nI (i + 1)), .retAddr 0, .retAddr 0, .retAddr 0, .retAddr 0]) ⟨Or.inr rfl, Or.inr rfl, Or.inr rfl, Or.inl rfl, Or.inl rfl, Or.inr rfl, Or.inr rfl, trivial⟩ ?_
          refine ih c (i + 1) (by omega) (by omega) ?_
          rw [f_Cycle_moveSensors_2, if_neg (Nat.not_le.mpr H1), if_neg H2, if_pos H3] at hk
          exact hk
        · refine pw_sipush (v := nI 215) e_Cycle_moveSensors_38 (by decide) ?_
          refine pw_iload_n e_Cycle_moveSensors_41 rfl ?_
          refine pw_iaddN e_Cycle_moveSensors_42 ?_
          refine pw_istore (ls2 := [_, _, _, _, _, _, _]) e_Cycle_moveSensors_43 (by decide) rfl ?_
          refine pw_aload_n e_Cycle_moveSensors_45 rfl ?_
          refine pw_aload_n e_Cycle_moveSensors_46 rfl ?_
          refine pw_iload_n e_Cycle_moveSensors_47 rfl ?_
          refine pw_detS (As := [.ref (p), .ref (s), .int ((P 15) i)]) e_Cycle_moveSensors_48 li_Cycle_78 (q_Cycle_outOf hst (hP _) hw c ((P 15) i) up_same) rfl (by decide) (Nat.le_of_ble_eq_true rfl) rfl ?_
          refine pw_aload_n e_Cycle_moveSensors_51 rfl ?_
          refine pw_getf e_Cycle_moveSensors_52 fl_Cycle_66 (hP _).o rfl ?_
          refine pw_getf e_Cycle_moveSensors_55 fl_Cycle_82 (hP _).l rfl ?_
          refine pw_iload_n e_Cycle_moveSensors_58 rfl ?_
          refine pw_ialdN e_Cycle_moveSensors_59 (hP _).a16 (by omega) (by decide) ?_
          refine pw_imul e_Cycle_moveSensors_60 ?_
          refine pw_bipush (v := nI 100) e_Cycle_moveSensors_61 (by decide) ?_
          refine pw_idiv e_Cycle_moveSensors_63 (by decide) ?_
          refine pw_istore (ls2 := [_, _, _, _, _, _, _]) e_Cycle_moveSensors_64 (by decide) rfl ?_
          refine pw_aload_n e_Cycle_moveSensors_66 rfl ?_
          refine pw_iload e_Cycle_moveSensors_67 rfl ?_
          refine pw_aload_n e_Cycle_moveSensors_69 rfl ?_
          refine pw_iload e_Cycle_moveSensors_70 rfl ?_
          refine pw_ialdN e_Cycle_moveSensors_72 up_same (by omega) (by decide) ?_
          refine pw_iload e_Cycle_moveSensors_73 rfl ?_
          refine pw_aload_n e_Cycle_moveSensors_75 rfl ?_
          refine pw_iload e_Cycle_moveSensors_76 rfl ?_
          refine pw_ialdN e_Cycle_moveSensors_78 up_same (by omega) (by decide) ?_
          refine pw_isub e_Cycle_moveSensors_79 ?_
          refine pw_iload e_Cycle_moveSensors_80 rfl ?_
          refine pw_idiv e_Cycle_moveSensors_82 (fun q => H3 (by rw [q]; decide)) ?_
          refine pw_iadd e_Cycle_moveSensors_83 ?_
          refine pw_detS (As := [.int ((c (215 + i)) + (((((f_Cycle_outOf P c ((P 15) i)) * ((P 16) i)) / 100) - (c (215 + i))) / ((P 17) i)))]) e_Cycle_moveSensors_84 li_Cycle_85 (q_Cycle_within hst ((c (215 + i)) + (((((f_Cycle_outOf P c ((P 15) i)) * ((P 16) i)) / 100) - (c (215 + i))) / ((P 17) i)))) rfl (by decide) (Nat.le_of_ble_eq_true rfl) rfl ?_
          refine pw_iastU e_Cycle_moveSensors_87 (by omega) (by decide) ?_
          refine pw_iincN (ls2 := [_, _, _, _, _, _, _]) e_Cycle_moveSensors_88 rfl (by decide) rfl ?_
          refine pw_goto (tgt := 2) e_Cycle_moveSensors_91 (by decide) ?_
          refine pw_fgt (ls' := [.ref (p), .ref (s), .int (nI (i + 1)), .retAddr 0, .retAddr 0, .retAddr 0, .retAddr 0]) ⟨Or.inr rfl, Or.inr rfl, Or.inr rfl, Or.inl rfl, Or.inl rfl, Or.inl rfl, Or.inl rfl, trivial⟩ ?_
          refine ih (upd c (215 + i) (f_Cycle_within ((c (215 + i)) + (((((f_Cycle_outOf P c ((P 15) i)) * ((P 16) i)) / 100) - (c (215 + i))) / ((P 17) i))))) (i + 1) (by omega) (by omega) ?_
          rw [f_Cycle_moveSensors_2, if_neg (Nat.not_le.mpr H1), if_neg H2, if_neg H3] at hk
          exact hk
def f_Cycle_moveSensors (P : Nat → Nat → Int32) (c : Nat → Int32) : Nat → Int32 :=
  f_Cycle_moveSensors_2 P 5 c 0
set_option maxRecDepth 4000 in
theorem w_Cycle_moveSensors_0 {g : GG} {Q : QT} {h : Hp} {kc ks : Nat} (hst : (gl g).stackTraces = false) {p s : Nat} {ad : Nat → Nat} {P : Nat → Nat → Int32} (hP : ∀ e, PlanAt g p ad P (va_up h s e)) (hw : wfP P)  (c : Nat → Int32) (hk : Q (.inl none) (va_up h s (some (aI g 225 (f_Cycle_moveSensors P c))))) : PW g M_Cycle_moveSensors 2 kc ks Q 0 [.ref (p), .ref (s), .retAddr 0, .retAddr 0, .retAddr 0, .retAddr 0, .retAddr 0] [] (va_up h s (some (aI g 225 (c)))) := by
  refine pw_iconst (v := nI 0) e_Cycle_moveSensors_0 (by decide) ?_
  refine pw_istore_n (ls2 := [_, _, _, _, _, _, _]) e_Cycle_moveSensors_1 (by decide) rfl ?_
  refine w_Cycle_moveSensors_2 hst hP hw 5 c 0 (by omega) (by omega) ?_
  rw [f_Cycle_moveSensors] at hk
  exact hk
theorem q_Cycle_moveSensors {g : GG} {h : Hp} (hst : (gl g).stackTraces = false) {p s : Nat} {ad : Nat → Nat} {P : Nat → Nat → Int32} (hP : ∀ e, PlanAt g p ad P (va_up h s e)) (hw : wfP P)  (c : Nat → Int32) (hm : h s = some (aI g 225 c)) : PM g M_Cycle_moveSensors 2 0 0 [.ref (p), .ref (s)] h (RetV none (va_up h s (some (aI g 225 (f_Cycle_moveSensors P c))))) := by
  refine PM.of hst (by decide) rfl (fun v hv => ?_) (Nat.le_of_ble_eq_true rfl) ?_
  · simp only [List.mem_cons, List.not_mem_nil, or_false] at hv; rcases hv with rfl | rfl <;> rfl
  · have hq := w_Cycle_moveSensors_0 (g := g) (Q := RetV none (va_up h s (some (aI g 225 (f_Cycle_moveSensors P c))))) (h := h) (kc := 0) (ks := 0) (s := s) hst hP hw c ?_
    · rw [up_self hm] at hq; exact hq
    · exact ⟨rfl, rfl⟩

def f_Plan_cameAt (P : Nat → Nat → Int32) (b w : Nat) : Int32 :=
  if ((P 10) ((b * 3) + w)) = ((-1)) then 150 else nI (90 + ((pN P 10 (b * 3 + w)) * 5))
set_option maxRecDepth 4000 in
theorem w_Plan_cameAt_0 {g : GG} {Q : QT} {h : Hp} {kc ks : Nat} (hst : (gl g).stackTraces = false) {p : Nat} {ad : Nat → Nat} {P : Nat → Nat → Int32} (hP : PlanAt g p ad P h) (hw : wfP P) (b w : Nat) (hb : b < 10) (hw3 : w < 3)  (hk : Q (.inl (some (.int (f_Plan_cameAt P b w)))) h) : PW g M_Plan_cameAt 0 kc ks Q 0 [.ref (p), .int (nI (b)), .int (nI (w)), .retAddr 0] [] h := by
  refine pw_aload_n e_Plan_cameAt_0 rfl ?_
  refine pw_getf e_Plan_cameAt_1 fl_Plan_56 hP.o rfl ?_
  refine pw_iload_n e_Plan_cameAt_4 rfl ?_
  refine pw_iconst (v := nI 3) e_Plan_cameAt_5 (by decide) ?_
  refine pw_imulN e_Plan_cameAt_6 ?_
  refine pw_iload_n e_Plan_cameAt_7 rfl ?_
  refine pw_iaddN e_Plan_cameAt_8 ?_
  refine pw_ialdN e_Plan_cameAt_9 hP.a10 (by omega) (by decide) ?_
  refine pw_istore_n (ls2 := [_, _, _, _]) e_Plan_cameAt_10 (by decide) rfl ?_
  refine pw_iload_n e_Plan_cameAt_11 rfl ?_
  refine pw_iconst (v := (-1)) e_Plan_cameAt_12 (by decide) ?_
  refine pw_icmp_ne (tgt := 22) e_Plan_cameAt_13 (by decide) (fun (H1 : ¬ ((P 10) ((b * 3) + w)) = ((-1))) => ?_) (fun (H1 : ((P 10) ((b * 3) + w)) = ((-1))) => ?_)
  · have hb9 := ((hw.into (b * 3 + w)).resolve_left H1)
    rw [hb9.1]
    replace hb9 := hb9.2
    refine pw_bipush (v := nI 90) e_Plan_cameAt_22 (by decide) ?_
    refine pw_iload_n e_Plan_cameAt_24 rfl ?_
    refine pw_iconst (v := nI 5) e_Plan_cameAt_25 (by decide) ?_
    refine pw_imulN e_Plan_cameAt_26 ?_
    refine pw_iaddN e_Plan_cameAt_27 ?_
    refine pw_iret e_Plan_cameAt_28 rfl rfl ?_
    rw [f_Plan_cameAt, if_neg H1] at hk
    exact hk
  · refine pw_sipush (v := nI 150) e_Plan_cameAt_16 (by decide) ?_
    refine pw_goto (tgt := 28) e_Plan_cameAt_19 (by decide) ?_
    refine pw_iret e_Plan_cameAt_28 rfl rfl ?_
    rw [f_Plan_cameAt, if_pos H1] at hk
    exact hk
theorem q_Plan_cameAt {g : GG} {h : Hp} (hst : (gl g).stackTraces = false) {p : Nat} {ad : Nat → Nat} {P : Nat → Nat → Int32} (hP : PlanAt g p ad P h) (hw : wfP P) (b w : Nat) (hb : b < 10) (hw3 : w < 3)  : PM g M_Plan_cameAt 0 0 0 [.ref (p), .int (nI (b)), .int (nI (w))] h (RetV (some (.int (f_Plan_cameAt P b w))) h) := by
  refine PM.of hst (by decide) rfl (fun v hv => ?_) (Nat.le_of_ble_eq_true rfl) ?_
  · simp only [List.mem_cons, List.not_mem_nil, or_false] at hv; rcases hv with rfl | rfl | rfl <;> rfl
  · have hq := w_Plan_cameAt_0 (g := g) (Q := RetV (some (.int (f_Plan_cameAt P b w))) h) (h := h) (kc := 0) (ks := 0) hst hP hw b w hb hw3 ?_
    · exact hq
    · exact ⟨rfl, rfl⟩

def came (P : Nat → Nat → Int32) (b w : Nat) : Nat := if P 10 (b * 3 + w) = -1 then 150 else 90 + pN P 10 (b * 3 + w) * 5
theorem f_came (P : Nat → Nat → Int32) (b w : Nat) : f_Plan_cameAt P b w = nI (came P b w) := by
  unfold f_Plan_cameAt came
  split <;> rfl
theorem came_lt {P : Nat → Nat → Int32} (hw : wfP P) (b w : Nat) : came P b w + 4 < 155 := by
  unfold came
  split
  · omega
  · rename_i h
    have := ((hw.into (b * 3 + w)).resolve_left h).2
    omega
theorem q_came {g : GG} {h : Hp} (hst : (gl g).stackTraces = false) {p : Nat} {ad : Nat → Nat} {P : Nat → Nat → Int32} (hP : PlanAt g p ad P h) (hw : wfP P) (b w : Nat) (hb : b < 10) (hw3 : w < 3) : PM g M_Plan_cameAt 0 0 0 [.ref p, .int (nI b), .int (nI w)] h (RetV (some (.int (nI (came P b w)))) h) := by
  rw [← f_came]; exact q_Plan_cameAt hst hP hw b w hb hw3

def f_Cycle_fall (P : Nat → Nat → Int32) (b : Nat) (x : Int32) (c : Nat → Int32) : Int32 × (Nat → Int32) :=
  if ((P 8) b) = 0 then (x, c) else (x, upd c ((b * 9) + 0) x)
set_option maxRecDepth 4000 in
theorem w_Cycle_fall_0 {g : GG} {Q : QT} {h : Hp} {kc ks : Nat} (hst : (gl g).stackTraces = false) {p s : Nat} {ad : Nat → Nat} {P : Nat → Nat → Int32} (hP : ∀ e, PlanAt g p ad P (va_up h s e)) (hw : wfP P) (b : Nat) (x : Int32) (hb : b < 10)  (c : Nat → Int32) (hk : Q (.inl (some (.int (f_Cycle_fall P b x c).1))) (va_up h s (some (aI g 225 ((f_Cycle_fall P b x c).2))))) : PW g M_Cycle_fall 0 kc ks Q 0 [.ref (p), .ref (s), .int (nI (b)), .int (x)] [] (va_up h s (some (aI g 225 (c)))) := by
  refine pw_aload_n e_Cycle_fall_0 rfl ?_
  refine pw_getf e_Cycle_fall_1 fl_Cycle_148 (hP _).o rfl ?_
  refine pw_iload_n e_Cycle_fall_4 rfl ?_
  refine pw_zaldN e_Cycle_fall_5 (hP _).a8 (by omega) (by decide) ?_
  refine pw_if_eq (tgt := 18) e_Cycle_fall_6 (by decide) (fun (H1 : ((P 8) b) = 0) => ?_) (fun (H1 : ¬ ((P 8) b) = 0) => ?_)
  · refine pw_iload_n e_Cycle_fall_18 rfl ?_
    refine pw_iret e_Cycle_fall_19 rfl rfl ?_
    rw [f_Cycle_fall, if_pos H1] at hk
    exact hk
  · refine pw_aload_n e_Cycle_fall_9 rfl ?_
    refine pw_iload_n e_Cycle_fall_10 rfl ?_
    refine pw_bipush (v := nI 9) e_Cycle_fall_11 (by decide) ?_
    refine pw_imulN e_Cycle_fall_13 ?_
    refine pw_iconst (v := nI 0) e_Cycle_fall_14 (by decide) ?_
    refine pw_iaddN e_Cycle_fall_15 ?_
    refine pw_iload_n e_Cycle_fall_16 rfl ?_
    refine pw_iastU e_Cycle_fall_17 (by omega) (by decide) ?_
    refine pw_iload_n e_Cycle_fall_18 rfl ?_
    refine pw_iret e_Cycle_fall_19 rfl rfl ?_
    rw [f_Cycle_fall, if_neg H1] at hk
    exact hk
theorem q_Cycle_fall {g : GG} {h : Hp} (hst : (gl g).stackTraces = false) {p s : Nat} {ad : Nat → Nat} {P : Nat → Nat → Int32} (hP : ∀ e, PlanAt g p ad P (va_up h s e)) (hw : wfP P) (b : Nat) (x : Int32) (hb : b < 10)  (c : Nat → Int32) (hm : h s = some (aI g 225 c)) : PM g M_Cycle_fall 0 0 0 [.ref (p), .ref (s), .int (nI (b)), .int (x)] h (RetV (some (.int (f_Cycle_fall P b x c).1)) (va_up h s (some (aI g 225 ((f_Cycle_fall P b x c).2))))) := by
  refine PM.of hst (by decide) rfl (fun v hv => ?_) (Nat.le_of_ble_eq_true rfl) ?_
  · simp only [List.mem_cons, List.not_mem_nil, or_false] at hv; rcases hv with rfl | rfl | rfl | rfl <;> rfl
  · have hq := w_Cycle_fall_0 (g := g) (Q := RetV (some (.int (f_Cycle_fall P b x c).1)) (va_up h s (some (aI g 225 ((f_Cycle_fall P b x c).2))))) (h := h) (kc := 0) (ks := 0) (s := s) hst hP hw b x hb c ?_
    · rw [up_self hm] at hq; exact hq
    · exact ⟨rfl, rfl⟩

def f_Cycle_runInput_18 (a n : Nat) (c : Nat → Int32) : Nat → Int32 :=
  if (c (a + 1)) = 2 then if (f_Bus_hasBit ((upd c (a + 3) (c (215 + n))) 219) (nI (n))) = 0 then upd (upd c (a + 3) (c (215 + n))) (a + 5) 1 else upd (upd c (a + 3) (c (215 + n))) (a + 5) 0 else c
set_option maxRecDepth 4000 in
theorem w_Cycle_runInput_18 {g : GG} {Q : QT} {h : Hp} {kc ks : Nat} (hst : (gl g).stackTraces = false) {s : Nat} (a n : Nat) (ha : a + 8 < 90) (hn : n < 4)  (c : Nat → Int32) (hk : Q (.inl none) (va_up h s (some (aI g 225 (f_Cycle_runInput_18 a n c))))) : PW g M_Cycle_runInput 1 kc ks Q 18 [.ref (s), .int (nI (a)), .int (nI (n))] [] (va_up h s (some (aI g 225 (c)))) := by
  refine pw_aload_n e_Cycle_runInput_18 rfl ?_
  refine pw_iload_n e_Cycle_runInput_19 rfl ?_
  refine pw_iconst (v := nI 1) e_Cycle_runInput_20 (by decide) ?_
  refine pw_iaddN e_Cycle_runInput_21 ?_
  refine pw_ialdN e_Cycle_runInput_22 up_same (by omega) (by decide) ?_
  refine pw_iconst (v := nI 2) e_Cycle_runInput_23 (by decide) ?_
  refine pw_icmp_ne (tgt := 61) e_Cycle_runInput_24 (by decide) (fun (H1 : ¬ (c (a + 1)) = 2) => ?_) (fun (H1 : (c (a + 1)) = 2) => ?_)
  · refine pw_vret e_Cycle_runInput_61 rfl ?_
    rw [f_Cycle_runInput_18, if_neg H1] at hk
    exact hk
  · refine pw_aload_n e_Cycle_runInput_27 rfl ?_
    refine pw_iload_n e_Cycle_runInput_28 rfl ?_
    refine pw_iconst (v := nI 3) e_Cycle_runInput_29 (by decide) ?_
    refine pw_iaddN e_Cycle_runInput_30 ?_
    refine pw_aload_n e_Cycle_runInput_31 rfl ?_
    refine pw_sipush (v := nI 215) e_Cycle_runInput_32 (by decide) ?_
    refine pw_iload_n e_Cycle_runInput_35 rfl ?_
    refine pw_iaddN e_Cycle_runInput_36 ?_
    refine pw_ialdN e_Cycle_runInput_37 up_same (by omega) (by decide) ?_
    refine pw_iastU e_Cycle_runInput_38 (by omega) (by decide) ?_
    refine pw_aload_n e_Cycle_runInput_39 rfl ?_
    refine pw_iload_n e_Cycle_runInput_40 rfl ?_
    refine pw_iconst (v := nI 5) e_Cycle_runInput_41 (by decide) ?_
    refine pw_iaddN e_Cycle_runInput_42 ?_
    refine pw_aload_n e_Cycle_runInput_43 rfl ?_
    refine pw_sipush (v := nI 219) e_Cycle_runInput_44 (by decide) ?_
    refine pw_ialdN e_Cycle_runInput_47 up_same (by omega) (by decide) ?_
    refine pw_iload_n e_Cycle_runInput_48 rfl ?_
    refine pw_detSN (As := [.int ((upd c (a + 3) (c (215 + n))) 219), .int (nI (n))]) e_Cycle_runInput_49 li_Cycle_44 (q_Bus_hasBit hst ((upd c (a + 3) (c (215 + n))) 219) (nI (n))) rfl (by decide) (Nat.le_of_ble_eq_true rfl) rfl ?_
    refine pw_if_eq (tgt := 59) e_Cycle_runInput_52 (by decide) (fun (H2 : (f_Bus_hasBit ((upd c (a + 3) (c (215 + n))) 219) (nI (n))) = 0) => ?_) (fun (H2 : ¬ (f_Bus_hasBit ((upd c (a + 3) (c (215 + n))) 219) (nI (n))) = 0) => ?_)
    · refine pw_iconst (v := nI 1) e_Cycle_runInput_59 (by decide) ?_
      refine pw_iastU e_Cycle_runInput_60 (by omega) (by decide) ?_
      refine pw_vret e_Cycle_runInput_61 rfl ?_
      rw [f_Cycle_runInput_18, if_pos H1, if_pos H2] at hk
      exact hk
    · refine pw_iconst (v := nI 0) e_Cycle_runInput_55 (by decide) ?_
      refine pw_goto (tgt := 60) e_Cycle_runInput_56 (by decide) ?_
      refine pw_iastU e_Cycle_runInput_60 (by omega) (by decide) ?_
      refine pw_vret e_Cycle_runInput_61 rfl ?_
      rw [f_Cycle_runInput_18, if_pos H1, if_neg H2] at hk
      exact hk
def f_Cycle_runInput (a n : Nat) (c : Nat → Int32) : Nat → Int32 :=
  if (c (a + 1)) = 0 then f_Cycle_runInput_18 a n (upd c (a + 5) 0) else f_Cycle_runInput_18 a n (upd c (a + 5) 1)
set_option maxRecDepth 4000 in
theorem w_Cycle_runInput_0 {g : GG} {Q : QT} {h : Hp} {kc ks : Nat} (hst : (gl g).stackTraces = false) {s : Nat} (a n : Nat) (ha : a + 8 < 90) (hn : n < 4)  (c : Nat → Int32) (hk : Q (.inl none) (va_up h s (some (aI g 225 (f_Cycle_runInput a n c))))) : PW g M_Cycle_runInput 1 kc ks Q 0 [.ref (s), .int (nI (a)), .int (nI (n))] [] (va_up h s (some (aI g 225 (c)))) := by
  refine pw_aload_n e_Cycle_runInput_0 rfl ?_
  refine pw_iload_n e_Cycle_runInput_1 rfl ?_
  refine pw_iconst (v := nI 5) e_Cycle_runInput_2 (by decide) ?_
  refine pw_iaddN e_Cycle_runInput_3 ?_
  refine pw_aload_n e_Cycle_runInput_4 rfl ?_
  refine pw_iload_n e_Cycle_runInput_5 rfl ?_
  refine pw_iconst (v := nI 1) e_Cycle_runInput_6 (by decide) ?_
  refine pw_iaddN e_Cycle_runInput_7 ?_
  refine pw_ialdN e_Cycle_runInput_8 up_same (by omega) (by decide) ?_
  refine pw_if_ne (tgt := 16) e_Cycle_runInput_9 (by decide) (fun (H1 : ¬ (c (a + 1)) = 0) => ?_) (fun (H1 : (c (a + 1)) = 0) => ?_)
  · refine pw_iconst (v := nI 1) e_Cycle_runInput_16 (by decide) ?_
    refine pw_iastU e_Cycle_runInput_17 (by omega) (by decide) ?_
    refine w_Cycle_runInput_18 hst a n ha hn (upd c (a + 5) 1) ?_
    rw [f_Cycle_runInput, if_neg H1] at hk
    exact hk
  · refine pw_iconst (v := nI 0) e_Cycle_runInput_12 (by decide) ?_
    refine pw_goto (tgt := 17) e_Cycle_runInput_13 (by decide) ?_
    refine pw_iastU e_Cycle_runInput_17 (by omega) (by decide) ?_
    refine w_Cycle_runInput_18 hst a n ha hn (upd c (a + 5) 0) ?_
    rw [f_Cycle_runInput, if_pos H1] at hk
    exact hk
theorem q_Cycle_runInput {g : GG} {h : Hp} (hst : (gl g).stackTraces = false) {s : Nat} (a n : Nat) (ha : a + 8 < 90) (hn : n < 4)  (c : Nat → Int32) (hm : h s = some (aI g 225 c)) : PM g M_Cycle_runInput 1 0 0 [.ref (s), .int (nI (a)), .int (nI (n))] h (RetV none (va_up h s (some (aI g 225 (f_Cycle_runInput a n c))))) := by
  refine PM.of hst (by decide) rfl (fun v hv => ?_) (Nat.le_of_ble_eq_true rfl) ?_
  · simp only [List.mem_cons, List.not_mem_nil, or_false] at hv; rcases hv with rfl | rfl | rfl <;> rfl
  · have hq := w_Cycle_runInput_0 (g := g) (Q := RetV none (va_up h s (some (aI g 225 (f_Cycle_runInput a n c))))) (h := h) (kc := 0) (ks := 0) (s := s) hst a n ha hn c ?_
    · rw [up_self hm] at hq; exact hq
    · exact ⟨rfl, rfl⟩

def f_Cycle_runOutput_115 (a n : Nat) (r : Int32) (c : Nat → Int32) (o : Int32) (z : Int32) : Nat → Int32 :=
  if o = 1000 then upd c (a + 6) 2 else if z ≤ o then if o = 0 then upd c (a + 6) 1 else if o ≤ z then upd c (a + 6) 0 else upd c (a + 6) 1 else upd c (a + 6) 2
set_option maxRecDepth 4000 in
theorem w_Cycle_runOutput_115 {g : GG} {Q : QT} {h : Hp} {kc ks : Nat} (hst : (gl g).stackTraces = false) {s : Nat} (a n : Nat) (r : Int32) (ha : a + 8 < 90) (hn : n + 4 < 155)  (c : Nat → Int32) (o : Int32) (z : Int32) (hk : Q (.inl none) (va_up h s (some (aI g 225 (f_Cycle_runOutput_115 a n r c o z))))) : PW g M_Cycle_runOutput 1 kc ks Q 115 [.ref (s), .int (nI (a)), .int (nI (n)), .int (r), .retAddr 0, .int (o), .int (z)] [] (va_up h s (some (aI g 225 (c)))) := by
  refine pw_aload_n e_Cycle_runOutput_115 rfl ?_
  refine pw_iload_n e_Cycle_runOutput_116 rfl ?_
  refine pw_bipush (v := nI 6) e_Cycle_runOutput_117 (by decide) ?_
  refine pw_iaddN e_Cycle_runOutput_119 ?_
  refine pw_iload e_Cycle_runOutput_120 rfl ?_
  refine pw_sipush (v := nI 1000) e_Cycle_runOutput_122 (by decide) ?_
  refine pw_icmp_eq (tgt := 135) e_Cycle_runOutput_125 (by decide) (fun (H1 : o = 1000) => ?_) (fun (H1 : ¬ o = 1000) => ?_)
  · refine pw_iconst (v := nI 2) e_Cycle_runOutput_135 (by decide) ?_
    refine pw_goto (tgt := 156) e_Cycle_runOutput_136 (by decide) ?_
    refine pw_iastU e_Cycle_runOutput_156 (by omega) (by decide) ?_
    refine pw_vret e_Cycle_runOutput_157 rfl ?_
    rw [f_Cycle_runOutput_115, if_pos H1] at hk
    exact hk
  · refine pw_iload e_Cycle_runOutput_128 rfl ?_
    refine pw_iload e_Cycle_runOutput_130 rfl ?_
    refine pw_icmp_le (tgt := 139) e_Cycle_runOutput_132 (by decide) (fun (H2 : z ≤ o) => ?_) (fun (H2 : ¬ z ≤ o) => ?_)
    · refine pw_iload e_Cycle_runOutput_139 rfl ?_
      refine pw_if_eq (tgt := 151) e_Cycle_runOutput_141 (by decide) (fun (H3 : o = 0) => ?_) (fun (H3 : ¬ o = 0) => ?_)
      · refine pw_iconst (v := nI 1) e_Cycle_runOutput_151 (by decide) ?_
        refine pw_goto (tgt := 156) e_Cycle_runOutput_152 (by decide) ?_
        refine pw_iastU e_Cycle_runOutput_156 (by omega) (by decide) ?_
        refine pw_vret e_Cycle_runOutput_157 rfl ?_
        rw [f_Cycle_runOutput_115, if_neg H1, if_pos H2, if_pos H3] at hk
        exact hk
      · refine pw_iload e_Cycle_runOutput_144 rfl ?_
        refine pw_iload e_Cycle_runOutput_146 rfl ?_
        refine pw_icmp_ge (tgt := 155) e_Cycle_runOutput_148 (by decide) (fun (H4 : o ≤ z) => ?_) (fun (H4 : ¬ o ≤ z) => ?_)
        · refine pw_iconst (v := nI 0) e_Cycle_runOutput_155 (by decide) ?_
          refine pw_iastU e_Cycle_runOutput_156 (by omega) (by decide) ?_
          refine pw_vret e_Cycle_runOutput_157 rfl ?_
          rw [f_Cycle_runOutput_115, if_neg H1, if_pos H2, if_neg H3, if_pos H4] at hk
          exact hk
        · refine pw_iconst (v := nI 1) e_Cycle_runOutput_151 (by decide) ?_
          refine pw_goto (tgt := 156) e_Cycle_runOutput_152 (by decide) ?_
          refine pw_iastU e_Cycle_runOutput_156 (by omega) (by decide) ?_
          refine pw_vret e_Cycle_runOutput_157 rfl ?_
          rw [f_Cycle_runOutput_115, if_neg H1, if_pos H2, if_neg H3, if_neg H4] at hk
          exact hk
    · refine pw_iconst (v := nI 2) e_Cycle_runOutput_135 (by decide) ?_
      refine pw_goto (tgt := 156) e_Cycle_runOutput_136 (by decide) ?_
      refine pw_iastU e_Cycle_runOutput_156 (by omega) (by decide) ?_
      refine pw_vret e_Cycle_runOutput_157 rfl ?_
      rw [f_Cycle_runOutput_115, if_neg H1, if_neg H2] at hk
      exact hk
def f_Cycle_runOutput_101 (a n : Nat) (r : Int32) (c : Nat → Int32) (m : Int32) : Nat → Int32 :=
  f_Cycle_runOutput_115 a n r c (c (a + 3)) (c (a + 2))
set_option maxRecDepth 4000 in
theorem w_Cycle_runOutput_101 {g : GG} {Q : QT} {h : Hp} {kc ks : Nat} (hst : (gl g).stackTraces = false) {s : Nat} (a n : Nat) (r : Int32) (ha : a + 8 < 90) (hn : n + 4 < 155)  (c : Nat → Int32) (m : Int32) (hk : Q (.inl none) (va_up h s (some (aI g 225 (f_Cycle_runOutput_101 a n r c m))))) : PW g M_Cycle_runOutput 1 kc ks Q 101 [.ref (s), .int (nI (a)), .int (nI (n)), .int (r), .int (m), .retAddr 0, .retAddr 0] [] (va_up h s (some (aI g 225 (c)))) := by
  refine pw_aload_n e_Cycle_runOutput_101 rfl ?_
  refine pw_iload_n e_Cycle_runOutput_102 rfl ?_
  refine pw_iconst (v := nI 3) e_Cycle_runOutput_103 (by decide) ?_
  refine pw_iaddN e_Cycle_runOutput_104 ?_
  refine pw_ialdN e_Cycle_runOutput_105 up_same (by omega) (by decide) ?_
  refine pw_istore (ls2 := [_, _, _, _, _, _, _]) e_Cycle_runOutput_106 (by decide) rfl ?_
  refine pw_aload_n e_Cycle_runOutput_108 rfl ?_
  refine pw_iload_n e_Cycle_runOutput_109 rfl ?_
  refine pw_iconst (v := nI 2) e_Cycle_runOutput_110 (by decide) ?_
  refine pw_iaddN e_Cycle_runOutput_111 ?_
  refine pw_ialdN e_Cycle_runOutput_112 up_same (by omega) (by decide) ?_
  refine pw_istore (ls2 := [_, _, _, _, _, _, _]) e_Cycle_runOutput_113 (by decide) rfl ?_
  refine pw_fgt (ls' := [.ref (s), .int (nI (a)), .int (nI (n)), .int (r), .retAddr 0, .int (c (a + 3)), .int (c (a + 2))]) ⟨Or.inr rfl, Or.inr rfl, Or.inr rfl, Or.inr rfl, Or.inl rfl, Or.inr rfl, Or.inr rfl, trivial⟩ ?_
  refine w_Cycle_runOutput_115 hst a n r ha hn c (c (a + 3)) (c (a + 2)) ?_
  rw [f_Cycle_runOutput_101] at hk
  exact hk
def f_Cycle_runOutput_86 (a n : Nat) (r : Int32) (c : Nat → Int32) (m : Int32) : Nat → Int32 :=
  if m = 0 then f_Cycle_runOutput_101 a n r (upd c (a + 5) 0) m else f_Cycle_runOutput_101 a n r (upd c (a + 5) 1) m
set_option maxRecDepth 4000 in
theorem w_Cycle_runOutput_86 {g : GG} {Q : QT} {h : Hp} {kc ks : Nat} (hst : (gl g).stackTraces = false) {s : Nat} (a n : Nat) (r : Int32) (ha : a + 8 < 90) (hn : n + 4 < 155)  (c : Nat → Int32) (m : Int32) (hk : Q (.inl none) (va_up h s (some (aI g 225 (f_Cycle_runOutput_86 a n r c m))))) : PW g M_Cycle_runOutput 1 kc ks Q 86 [.ref (s), .int (nI (a)), .int (nI (n)), .int (r), .int (m), .retAddr 0, .retAddr 0] [] (va_up h s (some (aI g 225 (c)))) := by
  refine pw_aload_n e_Cycle_runOutput_86 rfl ?_
  refine pw_iload_n e_Cycle_runOutput_87 rfl ?_
  refine pw_iconst (v := nI 5) e_Cycle_runOutput_88 (by decide) ?_
  refine pw_iaddN e_Cycle_runOutput_89 ?_
  refine pw_iload e_Cycle_runOutput_90 rfl ?_
  refine pw_if_ne (tgt := 99) e_Cycle_runOutput_92 (by decide) (fun (H1 : ¬ m = 0) => ?_) (fun (H1 : m = 0) => ?_)
  · refine pw_iconst (v := nI 1) e_Cycle_runOutput_99 (by decide) ?_
    refine pw_iastU e_Cycle_runOutput_100 (by omega) (by decide) ?_
    refine w_Cycle_runOutput_101 hst a n r ha hn (upd c (a + 5) 1) m ?_
    rw [f_Cycle_runOutput_86, if_neg H1] at hk
    exact hk
  · refine pw_iconst (v := nI 0) e_Cycle_runOutput_95 (by decide) ?_
    refine pw_goto (tgt := 100) e_Cycle_runOutput_96 (by decide) ?_
    refine pw_iastU e_Cycle_runOutput_100 (by omega) (by decide) ?_
    refine w_Cycle_runOutput_101 hst a n r ha hn (upd c (a + 5) 0) m ?_
    rw [f_Cycle_runOutput_86, if_pos H1] at hk
    exact hk
def f_Cycle_runOutput_42 (a n : Nat) (r : Int32) (c : Nat → Int32) (m : Int32) : Nat → Int32 :=
  if m = 2 then f_Cycle_runOutput_86 a n r (upd c (a + 3) ((c (a + 3)) + (if (-r) < (if ((c (a + 2)) - (c (a + 3))) < r then ((c (a + 2)) - (c (a + 3))) else r) then (if ((c (a + 2)) - (c (a + 3))) < r then ((c (a + 2)) - (c (a + 3))) else r) else (-r)))) m else if m = 3 then f_Cycle_runOutput_86 a n r (upd c (a + 3) ((c (a + 3)) + (if (-r) < (if ((c (a + 2)) - (c (a + 3))) < r then ((c (a + 2)) - (c (a + 3))) else r) then (if ((c (a + 2)) - (c (a + 3))) < r then ((c (a + 2)) - (c (a + 3))) else r) else (-r)))) m else f_Cycle_runOutput_86 a n r c m
set_option maxRecDepth 4000 in
theorem w_Cycle_runOutput_42 {g : GG} {Q : QT} {h : Hp} {kc ks : Nat} (hst : (gl g).stackTraces = false) {s : Nat} (a n : Nat) (r : Int32) (ha : a + 8 < 90) (hn : n + 4 < 155)  (c : Nat → Int32) (m : Int32) (hk : Q (.inl none) (va_up h s (some (aI g 225 (f_Cycle_runOutput_42 a n r c m))))) : PW g M_Cycle_runOutput 1 kc ks Q 42 [.ref (s), .int (nI (a)), .int (nI (n)), .int (r), .int (m), .retAddr 0, .retAddr 0] [] (va_up h s (some (aI g 225 (c)))) := by
  refine pw_iload e_Cycle_runOutput_42 rfl ?_
  refine pw_iconst (v := nI 2) e_Cycle_runOutput_44 (by decide) ?_
  refine pw_icmp_eq (tgt := 54) e_Cycle_runOutput_45 (by decide) (fun (H1 : m = 2) => ?_) (fun (H1 : ¬ m = 2) => ?_)
  · refine pw_aload_n e_Cycle_runOutput_54 rfl ?_
    refine pw_iload_n e_Cycle_runOutput_55 rfl ?_
    refine pw_iconst (v := nI 2) e_Cycle_runOutput_56 (by decide) ?_
    refine pw_iaddN e_Cycle_runOutput_57 ?_
    refine pw_ialdN e_Cycle_runOutput_58 up_same (by omega) (by decide) ?_
    refine pw_aload_n e_Cycle_runOutput_59 rfl ?_
    refine pw_iload_n e_Cycle_runOutput_60 rfl ?_
    refine pw_iconst (v := nI 3) e_Cycle_runOutput_61 (by decide) ?_
    refine pw_iaddN e_Cycle_runOutput_62 ?_
    refine pw_ialdN e_Cycle_runOutput_63 up_same (by omega) (by decide) ?_
    refine pw_isub e_Cycle_runOutput_64 ?_
    refine pw_istore (ls2 := [_, _, _, _, _, _, _]) e_Cycle_runOutput_65 (by decide) rfl ?_
    refine pw_aload_n e_Cycle_runOutput_67 rfl ?_
    refine pw_iload_n e_Cycle_runOutput_68 rfl ?_
    refine pw_iconst (v := nI 3) e_Cycle_runOutput_69 (by decide) ?_
    refine pw_iaddN e_Cycle_runOutput_70 ?_
    refine pw_dup2 e_Cycle_runOutput_71 rfl rfl ?_
    refine pw_ialdN e_Cycle_runOutput_72 up_same (by omega) (by decide) ?_
    refine pw_iload_n e_Cycle_runOutput_73 rfl ?_
    refine pw_ineg e_Cycle_runOutput_74 ?_
    refine pw_iload_n e_Cycle_runOutput_75 rfl ?_
    refine pw_iload e_Cycle_runOutput_76 rfl ?_
    refine pw_min e_Cycle_runOutput_78 ml_Cycle_112 (by decide) (Nat.le_of_ble_eq_true rfl) ?_
    refine pw_max e_Cycle_runOutput_81 ml_Cycle_155 (by decide) (Nat.le_of_ble_eq_true rfl) ?_
    refine pw_iadd e_Cycle_runOutput_84 ?_
    refine pw_iastU e_Cycle_runOutput_85 (by omega) (by decide) ?_
    refine pw_fgt (ls' := [.ref (s), .int (nI (a)), .int (nI (n)), .int (r), .int (m), .retAddr 0, .retAddr 0]) ⟨Or.inr rfl, Or.inr rfl, Or.inr rfl, Or.inr rfl, Or.inr rfl, Or.inl rfl, Or.inr rfl, trivial⟩ ?_
    refine w_Cycle_runOutput_86 hst a n r ha hn (upd c (a + 3) ((c (a + 3)) + (if (-r) < (if ((c (a + 2)) - (c (a + 3))) < r then ((c (a + 2)) - (c (a + 3))) else r) then (if ((c (a + 2)) - (c (a + 3))) < r then ((c (a + 2)) - (c (a + 3))) else r) else (-r)))) m ?_
    rw [f_Cycle_runOutput_42, if_pos H1] at hk
    exact hk
  · refine pw_iload e_Cycle_runOutput_48 rfl ?_
    refine pw_iconst (v := nI 3) e_Cycle_runOutput_50 (by decide) ?_
    refine pw_icmp_ne (tgt := 86) e_Cycle_runOutput_51 (by decide) (fun (H2 : ¬ m = 3) => ?_) (fun (H2 : m = 3) => ?_)
    · refine w_Cycle_runOutput_86 hst a n r ha hn c m ?_
      rw [f_Cycle_runOutput_42, if_neg H1, if_neg H2] at hk
      exact hk
    · refine pw_aload_n e_Cycle_runOutput_54 rfl ?_
      refine pw_iload_n e_Cycle_runOutput_55 rfl ?_
      refine pw_iconst (v := nI 2) e_Cycle_runOutput_56 (by decide) ?_
      refine pw_iaddN e_Cycle_runOutput_57 ?_
      refine pw_ialdN e_Cycle_runOutput_58 up_same (by omega) (by decide) ?_
      refine pw_aload_n e_Cycle_runOutput_59 rfl ?_
      refine pw_iload_n e_Cycle_runOutput_60 rfl ?_
      refine pw_iconst (v := nI 3) e_Cycle_runOutput_61 (by decide) ?_
      refine pw_iaddN e_Cycle_runOutput_62 ?_
      refine pw_ialdN e_Cycle_runOutput_63 up_same (by omega) (by decide) ?_
      refine pw_isub e_Cycle_runOutput_64 ?_
      refine pw_istore (ls2 := [_, _, _, _, _, _, _]) e_Cycle_runOutput_65 (by decide) rfl ?_
      refine pw_aload_n e_Cycle_runOutput_67 rfl ?_
      refine pw_iload_n e_Cycle_runOutput_68 rfl ?_
      refine pw_iconst (v := nI 3) e_Cycle_runOutput_69 (by decide) ?_
      refine pw_iaddN e_Cycle_runOutput_70 ?_
      refine pw_dup2 e_Cycle_runOutput_71 rfl rfl ?_
      refine pw_ialdN e_Cycle_runOutput_72 up_same (by omega) (by decide) ?_
      refine pw_iload_n e_Cycle_runOutput_73 rfl ?_
      refine pw_ineg e_Cycle_runOutput_74 ?_
      refine pw_iload_n e_Cycle_runOutput_75 rfl ?_
      refine pw_iload e_Cycle_runOutput_76 rfl ?_
      refine pw_min e_Cycle_runOutput_78 ml_Cycle_112 (by decide) (Nat.le_of_ble_eq_true rfl) ?_
      refine pw_max e_Cycle_runOutput_81 ml_Cycle_155 (by decide) (Nat.le_of_ble_eq_true rfl) ?_
      refine pw_iadd e_Cycle_runOutput_84 ?_
      refine pw_iastU e_Cycle_runOutput_85 (by omega) (by decide) ?_
      refine pw_fgt (ls' := [.ref (s), .int (nI (a)), .int (nI (n)), .int (r), .int (m), .retAddr 0, .retAddr 0]) ⟨Or.inr rfl, Or.inr rfl, Or.inr rfl, Or.inr rfl, Or.inr rfl, Or.inl rfl, Or.inr rfl, trivial⟩ ?_
      refine w_Cycle_runOutput_86 hst a n r ha hn (upd c (a + 3) ((c (a + 3)) + (if (-r) < (if ((c (a + 2)) - (c (a + 3))) < r then ((c (a + 2)) - (c (a + 3))) else r) then (if ((c (a + 2)) - (c (a + 3))) < r then ((c (a + 2)) - (c (a + 3))) else r) else (-r)))) m ?_
      rw [f_Cycle_runOutput_42, if_neg H1, if_pos H2] at hk
      exact hk
def f_Cycle_runOutput (a n : Nat) (r : Int32) (c : Nat → Int32) : Nat → Int32 :=
  if (c (a + 1)) = 3 then f_Cycle_runOutput_42 a n r (upd c (a + 2) (c (n + 0))) (c (a + 1)) else if (c (a + 1)) = 1 then f_Cycle_runOutput_42 a n r (upd c (a + 2) (c (a + 3))) (c (a + 1)) else f_Cycle_runOutput_42 a n r c (c (a + 1))
set_option maxRecDepth 4000 in
theorem w_Cycle_runOutput_0 {g : GG} {Q : QT} {h : Hp} {kc ks : Nat} (hst : (gl g).stackTraces = false) {s : Nat} (a n : Nat) (r : Int32) (ha : a + 8 < 90) (hn : n + 4 < 155)  (c : Nat → Int32) (hk : Q (.inl none) (va_up h s (some (aI g 225 (f_Cycle_runOutput a n r c))))) : PW g M_Cycle_runOutput 1 kc ks Q 0 [.ref (s), .int (nI (a)), .int (nI (n)), .int (r), .retAddr 0, .retAddr 0, .retAddr 0] [] (va_up h s (some (aI g 225 (c)))) := by
  refine pw_aload_n e_Cycle_runOutput_0 rfl ?_
  refine pw_iload_n e_Cycle_runOutput_1 rfl ?_
  refine pw_iconst (v := nI 1) e_Cycle_runOutput_2 (by decide) ?_
  refine pw_iaddN e_Cycle_runOutput_3 ?_
  refine pw_ialdN e_Cycle_runOutput_4 up_same (by omega) (by decide) ?_
  refine pw_istore (ls2 := [_, _, _, _, _, _, _]) e_Cycle_runOutput_5 (by decide) rfl ?_
  refine pw_iload e_Cycle_runOutput_7 rfl ?_
  refine pw_iconst (v := nI 3) e_Cycle_runOutput_9 (by decide) ?_
  refine pw_icmp_ne (tgt := 26) e_Cycle_runOutput_10 (by decide) (fun (H1 : ¬ (c (a + 1)) = 3) => ?_) (fun (H1 : (c (a + 1)) = 3) => ?_)
  · refine pw_iload e_Cycle_runOutput_26 rfl ?_
    refine pw_iconst (v := nI 1) e_Cycle_runOutput_28 (by decide) ?_
    refine pw_icmp_ne (tgt := 42) e_Cycle_runOutput_29 (by decide) (fun (H2 : ¬ (c (a + 1)) = 1) => ?_) (fun (H2 : (c (a + 1)) = 1) => ?_)
    · refine w_Cycle_runOutput_42 hst a n r ha hn c (c (a + 1)) ?_
      rw [f_Cycle_runOutput, if_neg H1, if_neg H2] at hk
      exact hk
    · refine pw_aload_n e_Cycle_runOutput_32 rfl ?_
      refine pw_iload_n e_Cycle_runOutput_33 rfl ?_
      refine pw_iconst (v := nI 2) e_Cycle_runOutput_34 (by decide) ?_
      refine pw_iaddN e_Cycle_runOutput_35 ?_
      refine pw_aload_n e_Cycle_runOutput_36 rfl ?_
      refine pw_iload_n e_Cycle_runOutput_37 rfl ?_
      refine pw_iconst (v := nI 3) e_Cycle_runOutput_38 (by decide) ?_
      refine pw_iaddN e_Cycle_runOutput_39 ?_
      refine pw_ialdN e_Cycle_runOutput_40 up_same (by omega) (by decide) ?_
      refine pw_iastU e_Cycle_runOutput_41 (by omega) (by decide) ?_
      refine w_Cycle_runOutput_42 hst a n r ha hn (upd c (a + 2) (c (a + 3))) (c (a + 1)) ?_
      rw [f_Cycle_runOutput, if_neg H1, if_pos H2] at hk
      exact hk
  · refine pw_aload_n e_Cycle_runOutput_13 rfl ?_
    refine pw_iload_n e_Cycle_runOutput_14 rfl ?_
    refine pw_iconst (v := nI 2) e_Cycle_runOutput_15 (by decide) ?_
    refine pw_iaddN e_Cycle_runOutput_16 ?_
    refine pw_aload_n e_Cycle_runOutput_17 rfl ?_
    refine pw_iload_n e_Cycle_runOutput_18 rfl ?_
    refine pw_iconst (v := nI 0) e_Cycle_runOutput_19 (by decide) ?_
    refine pw_iaddN e_Cycle_runOutput_20 ?_
    refine pw_ialdN e_Cycle_runOutput_21 up_same (by omega) (by decide) ?_
    refine pw_iastU e_Cycle_runOutput_22 (by omega) (by decide) ?_
    refine pw_goto (tgt := 42) e_Cycle_runOutput_23 (by decide) ?_
    refine w_Cycle_runOutput_42 hst a n r ha hn (upd c (a + 2) (c (n + 0))) (c (a + 1)) ?_
    rw [f_Cycle_runOutput, if_pos H1] at hk
    exact hk
theorem q_Cycle_runOutput {g : GG} {h : Hp} (hst : (gl g).stackTraces = false) {s : Nat} (a n : Nat) (r : Int32) (ha : a + 8 < 90) (hn : n + 4 < 155)  (c : Nat → Int32) (hm : h s = some (aI g 225 c)) : PM g M_Cycle_runOutput 1 0 0 [.ref (s), .int (nI (a)), .int (nI (n)), .int (r)] h (RetV none (va_up h s (some (aI g 225 (f_Cycle_runOutput a n r c))))) := by
  refine PM.of hst (by decide) rfl (fun v hv => ?_) (Nat.le_of_ble_eq_true rfl) ?_
  · simp only [List.mem_cons, List.not_mem_nil, or_false] at hv; rcases hv with rfl | rfl | rfl | rfl <;> rfl
  · have hq := w_Cycle_runOutput_0 (g := g) (Q := RetV none (va_up h s (some (aI g 225 (f_Cycle_runOutput a n r c))))) (h := h) (kc := 0) (ks := 0) (s := s) hst a n r ha hn c ?_
    · rw [up_self hm] at hq; exact hq
    · exact ⟨rfl, rfl⟩

