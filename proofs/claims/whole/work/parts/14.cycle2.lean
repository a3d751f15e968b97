/-! the class's cycle, its larger methods (written by wip/whole/c_cycle.py) -/
def f_Cycle_actualOf_122 (P : Nat → Nat → Int32) (b : Nat) (c : Nat → Int32) : Int32 × (Nat → Int32) :=
  if (c ((b * 9) + 1)) = 3 then (3, c) else if (c ((came P b 2) + 3)) = 1 then (3, c) else (2, c)
set_option maxRecDepth 4000 in
theorem w_Cycle_actualOf_122 {g : GG} {Q : QT} {h : Hp} {kc ks : Nat} (hst : (gl g).stackTraces = false) {p s : Nat} {ad : Nat → Nat} {P : Nat → Nat → Int32} (hP : ∀ e, PlanAt g p ad P (va_up h s e)) (hw : wfP P) (b : Nat) (hb : b < 10)  (c : Nat → Int32) (hk : Q (.inl (some (.int (f_Cycle_actualOf_122 P b c).1))) (va_up h s (some (aI g 225 ((f_Cycle_actualOf_122 P b c).2))))) : PW g M_Cycle_actualOf 2 kc ks Q 122 [.ref (p), .ref (s), .int (nI (b)), .int (nI (b * 9)), .retAddr 0, .retAddr 0, .int (nI (came P b 2))] [] (va_up h s (some (aI g 225 (c)))) := by
  have hb0 := (hw.kind b).2
  have hb1 := came_lt hw b 2
  refine pw_aload_n e_Cycle_actualOf_122 rfl ?_
  refine pw_iload_n e_Cycle_actualOf_123 rfl ?_
  refine pw_iconst (v := nI 1) e_Cycle_actualOf_124 (by decide) ?_
  refine pw_iaddN e_Cycle_actualOf_125 ?_
  refine pw_ialdN e_Cycle_actualOf_126 up_same (by omega) (by decide) ?_
  refine pw_iconst (v := nI 3) e_Cycle_actualOf_127 (by decide) ?_
  refine pw_icmp_eq (tgt := 141) e_Cycle_actualOf_128 (by decide) (fun (H1 : (c ((b * 9) + 1)) = 3) => ?_) (fun (H1 : ¬ (c ((b * 9) + 1)) = 3) => ?_)
  · refine pw_iconst (v := nI 3) e_Cycle_actualOf_141 (by decide) ?_
    refine pw_goto (tgt := 146) e_Cycle_actualOf_142 (by decide) ?_
    refine pw_iret e_Cycle_actualOf_146 rfl rfl ?_
    rw [f_Cycle_actualOf_122, if_pos H1] at hk
    exact hk
  · refine pw_aload_n e_Cycle_actualOf_131 rfl ?_
    refine pw_iload e_Cycle_actualOf_132 rfl ?_
    refine pw_iconst (v := nI 3) e_Cycle_actualOf_134 (by decide) ?_
    refine pw_iaddN e_Cycle_actualOf_135 ?_
    refine pw_ialdN e_Cycle_actualOf_136 up_same (by omega) (by decide) ?_
    refine pw_iconst (v := nI 1) e_Cycle_actualOf_137 (by decide) ?_
    refine pw_icmp_ne (tgt := 145) e_Cycle_actualOf_138 (by decide) (fun (H2 : ¬ (c ((came P b 2) + 3)) = 1) => ?_) (fun (H2 : (c ((came P b 2) + 3)) = 1) => ?_)
    · refine pw_iconst (v := nI 2) e_Cycle_actualOf_145 (by decide) ?_
      refine pw_iret e_Cycle_actualOf_146 rfl rfl ?_
      rw [f_Cycle_actualOf_122, if_neg H1, if_neg H2] at hk
      exact hk
    · refine pw_iconst (v := nI 3) e_Cycle_actualOf_141 (by decide) ?_
      refine pw_goto (tgt := 146) e_Cycle_actualOf_142 (by decide) ?_
      refine pw_iret e_Cycle_actualOf_146 rfl rfl ?_
      rw [f_Cycle_actualOf_122, if_neg H1, if_pos H2] at hk
      exact hk
def f_Cycle_actualOf_74 (P : Nat → Nat → Int32) (b : Nat) (c : Nat → Int32) (tg : Int32) : Int32 × (Nat → Int32) :=
  if tg = 2 then (2, c) else if (c ((came P b 2) + 1)) = 0 then if (pN P 0 b) = 1 then ((f_Cycle_fall P b ((P 7) b) c).1, (f_Cycle_fall P b ((P 7) b) c).2) else (2, c) else f_Cycle_actualOf_122 P b c
set_option maxRecDepth 4000 in
theorem w_Cycle_actualOf_74 {g : GG} {Q : QT} {h : Hp} {kc ks : Nat} (hst : (gl g).stackTraces = false) {p s : Nat} {ad : Nat → Nat} {P : Nat → Nat → Int32} (hP : ∀ e, PlanAt g p ad P (va_up h s e)) (hw : wfP P) (b : Nat) (hb : b < 10)  (c : Nat → Int32) (tg : Int32) (hk : Q (.inl (some (.int (f_Cycle_actualOf_74 P b c tg).1))) (va_up h s (some (aI g 225 ((f_Cycle_actualOf_74 P b c tg).2))))) : PW g M_Cycle_actualOf 2 kc ks Q 74 [.ref (p), .ref (s), .int (nI (b)), .int (nI (b * 9)), .int (tg), .int (nI (pN P 0 b)), .retAddr 0] [] (va_up h s (some (aI g 225 (c)))) := by
  have hb0 := (hw.kind b).2
  have hb1 := came_lt hw b 2
  refine pw_iload e_Cycle_actualOf_74 rfl ?_
  refine pw_iconst (v := nI 2) e_Cycle_actualOf_76 (by decide) ?_
  refine pw_icmp_ne (tgt := 82) e_Cycle_actualOf_77 (by decide) (fun (H1 : ¬ tg = 2) => ?_) (fun (H1 : tg = 2) => ?_)
  · refine pw_aload_n e_Cycle_actualOf_82 rfl ?_
    refine pw_iload_n e_Cycle_actualOf_83 rfl ?_
    refine pw_iconst (v := nI 2) e_Cycle_actualOf_84 (by decide) ?_
    have hb_101 := came_lt hw b 2
    refine pw_detV (As := [.int (nI (b)), .int (nI (2))]) e_Cycle_actualOf_85 li_Cycle_128 rfl (hP _).o (q_came hst (hP _) hw b 2 (by omega) (by omega)) rfl (by decide) (Nat.le_of_ble_eq_true rfl) rfl ?_
    refine pw_istore (ls2 := [_, _, _, _, _, _, _]) e_Cycle_actualOf_88 (by decide) rfl ?_
    refine pw_aload_n e_Cycle_actualOf_90 rfl ?_
    refine pw_iload e_Cycle_actualOf_91 rfl ?_
    refine pw_iconst (v := nI 1) e_Cycle_actualOf_93 (by decide) ?_
    refine pw_iaddN e_Cycle_actualOf_94 ?_
    refine pw_ialdN e_Cycle_actualOf_95 up_same (by omega) (by decide) ?_
    refine pw_if_ne (tgt := 122) e_Cycle_actualOf_96 (by decide) (fun (H3 : ¬ (c ((came P b 2) + 1)) = 0) => ?_) (fun (H3 : (c ((came P b 2) + 1)) = 0) => ?_)
    · refine pw_fgt (ls' := [.ref (p), .ref (s), .int (nI (b)), .int (nI (b * 9)), .retAddr 0, .retAddr 0, .int (nI (came P b 2))]) ⟨Or.inr rfl, Or.inr rfl, Or.inr rfl, Or.inr rfl, Or.inl rfl, Or.inl rfl, Or.inr rfl, trivial⟩ ?_
      refine w_Cycle_actualOf_122 hst hP hw b hb c ?_
      rw [f_Cycle_actualOf_74, if_neg H1, if_neg H3] at hk
      exact hk
    · refine pw_iload e_Cycle_actualOf_99 rfl ?_
      refine pw_iconst (v := nI 1) e_Cycle_actualOf_101 (by decide) ?_
      refine pw_icmp_neN (tgt := 120) e_Cycle_actualOf_102 (by decide) (by omega) (by omega) (fun (H4 : ¬ (pN P 0 b) = 1) => ?_) (fun (H4 : (pN P 0 b) = 1) => ?_)
      · refine pw_iconst (v := nI 2) e_Cycle_actualOf_120 (by decide) ?_
        refine pw_iret e_Cycle_actualOf_121 rfl rfl ?_
        rw [f_Cycle_actualOf_74, if_neg H1, if_pos H3, if_neg H4] at hk
        exact hk
      · refine pw_aload_n e_Cycle_actualOf_105 rfl ?_
        refine pw_aload_n e_Cycle_actualOf_106 rfl ?_
        refine pw_iload_n e_Cycle_actualOf_107 rfl ?_
        refine pw_aload_n e_Cycle_actualOf_108 rfl ?_
        refine pw_getf e_Cycle_actualOf_109 fl_Cycle_145 (hP _).o rfl ?_
        refine pw_iload_n e_Cycle_actualOf_112 rfl ?_
        refine pw_ialdN e_Cycle_actualOf_113 (hP _).a7 (by omega) (by decide) ?_
        refine pw_detS (As := [.ref (p), .ref (s), .int (nI (b)), .int ((P 7) b)]) e_Cycle_actualOf_114 li_Cycle_141 (q_Cycle_fall hst (upP hP _) hw b ((P 7) b) (by omega) c up_same) rfl (by decide) (Nat.le_of_ble_eq_true rfl) rfl ?_
        rw [up_up]
        refine pw_goto (tgt := 121) e_Cycle_actualOf_117 (by decide) ?_
        refine pw_iret e_Cycle_actualOf_121 rfl rfl ?_
        rw [f_Cycle_actualOf_74, if_neg H1, if_pos H3, if_pos H4] at hk
        exact hk
  · refine pw_iconst (v := nI 2) e_Cycle_actualOf_80 (by decide) ?_
    refine pw_iret e_Cycle_actualOf_81 rfl rfl ?_
    rw [f_Cycle_actualOf_74, if_pos H1] at hk
    exact hk
def f_Cycle_actualOf_47 (P : Nat → Nat → Int32) (b : Nat) (c : Nat → Int32) (tg : Int32) : Int32 × (Nat → Int32) :=
  if (pN P 0 b) = 1 then if (c ((came P b 0) + 1)) = 0 then ((f_Cycle_fall P b 1 c).1, (f_Cycle_fall P b 1 c).2) else f_Cycle_actualOf_74 P b c tg else f_Cycle_actualOf_74 P b c tg
set_option maxRecDepth 4000 in
theorem w_Cycle_actualOf_47 {g : GG} {Q : QT} {h : Hp} {kc ks : Nat} (hst : (gl g).stackTraces = false) {p s : Nat} {ad : Nat → Nat} {P : Nat → Nat → Int32} (hP : ∀ e, PlanAt g p ad P (va_up h s e)) (hw : wfP P) (b : Nat) (hb : b < 10)  (c : Nat → Int32) (tg : Int32) (hk : Q (.inl (some (.int (f_Cycle_actualOf_47 P b c tg).1))) (va_up h s (some (aI g 225 ((f_Cycle_actualOf_47 P b c tg).2))))) : PW g M_Cycle_actualOf 2 kc ks Q 47 [.ref (p), .ref (s), .int (nI (b)), .int (nI (b * 9)), .int (tg), .int (nI (pN P 0 b)), .retAddr 0] [] (va_up h s (some (aI g 225 (c)))) := by
  have hb0 := (hw.kind b).2
  have hb1 := came_lt hw b 2
  refine pw_iload e_Cycle_actualOf_47 rfl ?_
  refine pw_iconst (v := nI 1) e_Cycle_actualOf_49 (by decide) ?_
  refine pw_icmp_neN (tgt := 74) e_Cycle_actualOf_50 (by decide) (by omega) (by omega) (fun (H1 : ¬ (pN P 0 b) = 1) => ?_) (fun (H1 : (pN P 0 b) = 1) => ?_)
  · refine w_Cycle_actualOf_74 hst hP hw b hb c tg ?_
    rw [f_Cycle_actualOf_47, if_neg H1] at hk
    exact hk
  · refine pw_aload_n e_Cycle_actualOf_53 rfl ?_
    refine pw_aload_n e_Cycle_actualOf_54 rfl ?_
    refine pw_iload_n e_Cycle_actualOf_55 rfl ?_
    refine pw_iconst (v := nI 0) e_Cycle_actualOf_56 (by decide) ?_
    have hb_101 := came_lt hw b 0
    refine pw_detV (As := [.int (nI (b)), .int (nI (0))]) e_Cycle_actualOf_57 li_Cycle_128 rfl (hP _).o (q_came hst (hP _) hw b 0 (by omega) (by omega)) rfl (by decide) (Nat.le_of_ble_eq_true rfl) rfl ?_
    refine pw_iconst (v := nI 1) e_Cycle_actualOf_60 (by decide) ?_
    refine pw_iaddN e_Cycle_actualOf_61 ?_
    refine pw_ialdN e_Cycle_actualOf_62 up_same (by omega) (by decide) ?_
    refine pw_if_ne (tgt := 74) e_Cycle_actualOf_63 (by decide) (fun (H3 : ¬ (c ((came P b 0) + 1)) = 0) => ?_) (fun (H3 : (c ((came P b 0) + 1)) = 0) => ?_)
    · refine w_Cycle_actualOf_74 hst hP hw b hb c tg ?_
      rw [f_Cycle_actualOf_47, if_pos H1, if_neg H3] at hk
      exact hk
    · refine pw_aload_n e_Cycle_actualOf_66 rfl ?_
      refine pw_aload_n e_Cycle_actualOf_67 rfl ?_
      refine pw_iload_n e_Cycle_actualOf_68 rfl ?_
      refine pw_iconst (v := nI 1) e_Cycle_actualOf_69 (by decide) ?_
      refine pw_detS (As := [.ref (p), .ref (s), .int (nI (b)), .int (nI (1))]) e_Cycle_actualOf_70 li_Cycle_141 (q_Cycle_fall hst (upP hP _) hw b 1 (by omega) c up_same) rfl (by decide) (Nat.le_of_ble_eq_true rfl) rfl ?_
      rw [up_up]
      refine pw_iret e_Cycle_actualOf_73 rfl rfl ?_
      rw [f_Cycle_actualOf_47, if_pos H1, if_pos H3] at hk
      exact hk
def f_Cycle_actualOf_34 (P : Nat → Nat → Int32) (b : Nat) (c : Nat → Int32) (tg : Int32) : Int32 × (Nat → Int32) :=
  if (pN P 0 b) = 0 then (2, c) else if (pN P 0 b) = 3 then (2, c) else f_Cycle_actualOf_47 P b c tg
set_option maxRecDepth 4000 in
theorem w_Cycle_actualOf_34 {g : GG} {Q : QT} {h : Hp} {kc ks : Nat} (hst : (gl g).stackTraces = false) {p s : Nat} {ad : Nat → Nat} {P : Nat → Nat → Int32} (hP : ∀ e, PlanAt g p ad P (va_up h s e)) (hw : wfP P) (b : Nat) (hb : b < 10)  (c : Nat → Int32) (tg : Int32) (hk : Q (.inl (some (.int (f_Cycle_actualOf_34 P b c tg).1))) (va_up h s (some (aI g 225 ((f_Cycle_actualOf_34 P b c tg).2))))) : PW g M_Cycle_actualOf 2 kc ks Q 34 [.ref (p), .ref (s), .int (nI (b)), .int (nI (b * 9)), .int (tg), .int (nI (pN P 0 b)), .retAddr 0] [] (va_up h s (some (aI g 225 (c)))) := by
  have hb0 := (hw.kind b).2
  have hb1 := came_lt hw b 2
  refine pw_iload e_Cycle_actualOf_34 rfl ?_
  refine pw_if_eqN (tgt := 45) e_Cycle_actualOf_36 (by decide) (by omega) (fun (H1 : (pN P 0 b) = 0) => ?_) (fun (H1 : ¬ (pN P 0 b) = 0) => ?_)
  · refine pw_iconst (v := nI 2) e_Cycle_actualOf_45 (by decide) ?_
    refine pw_iret e_Cycle_actualOf_46 rfl rfl ?_
    rw [f_Cycle_actualOf_34, if_pos H1] at hk
    exact hk
  · refine pw_iload e_Cycle_actualOf_39 rfl ?_
    refine pw_iconst (v := nI 3) e_Cycle_actualOf_41 (by decide) ?_
    refine pw_icmp_neN (tgt := 47) e_Cycle_actualOf_42 (by decide) (by omega) (by omega) (fun (H2 : ¬ (pN P 0 b) = 3) => ?_) (fun (H2 : (pN P 0 b) = 3) => ?_)
    · refine w_Cycle_actualOf_47 hst hP hw b hb c tg ?_
      rw [f_Cycle_actualOf_34, if_neg H1, if_neg H2] at hk
      exact hk
    · refine pw_iconst (v := nI 2) e_Cycle_actualOf_45 (by decide) ?_
      refine pw_iret e_Cycle_actualOf_46 rfl rfl ?_
      rw [f_Cycle_actualOf_34, if_neg H1, if_pos H2] at hk
      exact hk
def f_Cycle_actualOf (P : Nat → Nat → Int32) (b : Nat) (c : Nat → Int32) : Int32 × (Nat → Int32) :=
  if (c ((b * 9) + 0)) = 0 then (c ((b * 9) + 0), c) else if (c ((b * 9) + 0)) = 1 then (c ((b * 9) + 0), c) else f_Cycle_actualOf_34 P b c (c ((b * 9) + 0))
set_option maxRecDepth 4000 in
theorem w_Cycle_actualOf_0 {g : GG} {Q : QT} {h : Hp} {kc ks : Nat} (hst : (gl g).stackTraces = false) {p s : Nat} {ad : Nat → Nat} {P : Nat → Nat → Int32} (hP : ∀ e, PlanAt g p ad P (va_up h s e)) (hw : wfP P) (b : Nat) (hb : b < 10)  (c : Nat → Int32) (hk : Q (.inl (some (.int (f_Cycle_actualOf P b c).1))) (va_up h s (some (aI g 225 ((f_Cycle_actualOf P b c).2))))) : PW g M_Cycle_actualOf 2 kc ks Q 0 [.ref (p), .ref (s), .int (nI (b)), .retAddr 0, .retAddr 0, .retAddr 0, .retAddr 0] [] (va_up h s (some (aI g 225 (c)))) := by
  have hb0 := (hw.kind b).2
  have hb1 := came_lt hw b 2
  refine pw_iload_n e_Cycle_actualOf_0 rfl ?_
  refine pw_bipush (v := nI 9) e_Cycle_actualOf_1 (by decide) ?_
  refine pw_imulN e_Cycle_actualOf_3 ?_
  refine pw_istore_n (ls2 := [_, _, _, _, _, _, _]) e_Cycle_actualOf_4 (by decide) rfl ?_
  refine pw_aload_n e_Cycle_actualOf_5 rfl ?_
  refine pw_iload_n e_Cycle_actualOf_6 rfl ?_
  refine pw_iconst (v := nI 0) e_Cycle_actualOf_7 (by decide) ?_
  refine pw_iaddN e_Cycle_actualOf_8 ?_
  refine pw_ialdN e_Cycle_actualOf_9 up_same (by omega) (by decide) ?_
  refine pw_istore (ls2 := [_, _, _, _, _, _, _]) e_Cycle_actualOf_10 (by decide) rfl ?_
  refine pw_aload_n e_Cycle_actualOf_12 rfl ?_
  refine pw_getf e_Cycle_actualOf_13 fl_Cycle_89 (hP _).o rfl ?_
  refine pw_iload_n e_Cycle_actualOf_16 rfl ?_
  have hb1 := hw.kind b
  refine pw_ialdC e_Cycle_actualOf_17 (hP _).a0 (by omega) (by decide) hb1.1 ?_
  replace hb1 := hb1.2
  refine pw_istore (ls2 := [_, _, _, _, _, _, _]) e_Cycle_actualOf_18 (by decide) rfl ?_
  refine pw_iload e_Cycle_actualOf_20 rfl ?_
  refine pw_if_eq (tgt := 31) e_Cycle_actualOf_22 (by decide) (fun (H2 : (c ((b * 9) + 0)) = 0) => ?_) (fun (H2 : ¬ (c ((b * 9) + 0)) = 0) => ?_)
  · refine pw_iload e_Cycle_actualOf_31 rfl ?_
    refine pw_iret e_Cycle_actualOf_33 rfl rfl ?_
    rw [f_Cycle_actualOf, if_pos H2] at hk
    exact hk
  · refine pw_iload e_Cycle_actualOf_25 rfl ?_
    refine pw_iconst (v := nI 1) e_Cycle_actualOf_27 (by decide) ?_
    refine pw_icmp_ne (tgt := 34) e_Cycle_actualOf_28 (by decide) (fun (H3 : ¬ (c ((b * 9) + 0)) = 1) => ?_) (fun (H3 : (c ((b * 9) + 0)) = 1) => ?_)
    · refine w_Cycle_actualOf_34 hst hP hw b hb c (c ((b * 9) + 0)) ?_
      rw [f_Cycle_actualOf, if_neg H2, if_neg H3] at hk
      exact hk
    · refine pw_iload e_Cycle_actualOf_31 rfl ?_
      refine pw_iret e_Cycle_actualOf_33 rfl rfl ?_
      rw [f_Cycle_actualOf, if_neg H2, if_pos H3] at hk
      exact hk
theorem q_Cycle_actualOf {g : GG} {h : Hp} (hst : (gl g).stackTraces = false) {p s : Nat} {ad : Nat → Nat} {P : Nat → Nat → Int32} (hP : ∀ e, PlanAt g p ad P (va_up h s e)) (hw : wfP P) (b : Nat) (hb : b < 10)  (c : Nat → Int32) (hm : h s = some (aI g 225 c)) : PM g M_Cycle_actualOf 2 0 0 [.ref (p), .ref (s), .int (nI (b))] h (RetV (some (.int (f_Cycle_actualOf P b c).1)) (va_up h s (some (aI g 225 ((f_Cycle_actualOf P b c).2))))) := by
  refine PM.of hst (by decide) rfl (fun v hv => ?_) (Nat.le_of_ble_eq_true rfl) ?_
  · simp only [List.mem_cons, List.not_mem_nil, or_false] at hv; rcases hv with rfl | rfl | rfl <;> rfl
  · have hq := w_Cycle_actualOf_0 (g := g) (Q := RetV (some (.int (f_Cycle_actualOf P b c).1)) (va_up h s (some (aI g 225 ((f_Cycle_actualOf P b c).2))))) (h := h) (kc := 0) (ks := 0) (s := s) hst hP hw b hb c ?_
    · rw [up_self hm] at hq; exact hq
    · exact ⟨rfl, rfl⟩

def f_Cycle_runPick_143 (P : Nat → Nat → Int32) (b : Nat) (c : Nat → Int32) (vg : Int32) (og : Int32) : Nat → Int32 :=
  if vg = 0 then if og = 0 then upd c ((b * 9) + 5) 0 else upd c ((b * 9) + 3) (c ((came P b 1) + 0)) else upd c ((b * 9) + 3) (c ((came P b 0) + 0))
set_option maxRecDepth 4000 in
theorem w_Cycle_runPick_143 {g : GG} {Q : QT} {h : Hp} {kc ks : Nat} (hst : (gl g).stackTraces = false) {p s : Nat} {ad : Nat → Nat} {P : Nat → Nat → Int32} (hP : ∀ e, PlanAt g p ad P (va_up h s e)) (hw : wfP P) (b : Nat) (hb : b < 10)  (c : Nat → Int32) (vg : Int32) (og : Int32) (hk : Q (.inl none) (va_up h s (some (aI g 225 (f_Cycle_runPick_143 P b c vg og))))) : PW g M_Cycle_runPick 1 kc ks Q 143 [.ref (p), .ref (s), .int (nI (b)), .int (nI (b * 9)), .int (nI (came P b 0)), .int (nI (came P b 1)), .int (vg), .int (og)] [] (va_up h s (some (aI g 225 (c)))) := by
  have hb0 := came_lt hw b 0
  have hb1 := came_lt hw b 1
  refine pw_iload e_Cycle_runPick_143 rfl ?_
  refine pw_if_eq (tgt := 162) e_Cycle_runPick_145 (by decide) (fun (H1 : vg = 0) => ?_) (fun (H1 : ¬ vg = 0) => ?_)
  · refine pw_iload e_Cycle_runPick_162 rfl ?_
    refine pw_if_eq (tgt := 181) e_Cycle_runPick_164 (by decide) (fun (H2 : og = 0) => ?_) (fun (H2 : ¬ og = 0) => ?_)
    · refine pw_aload_n e_Cycle_runPick_181 rfl ?_
      refine pw_iload_n e_Cycle_runPick_182 rfl ?_
      refine pw_iconst (v := nI 5) e_Cycle_runPick_183 (by decide) ?_
      refine pw_iaddN e_Cycle_runPick_184 ?_
      refine pw_iconst (v := nI 0) e_Cycle_runPick_185 (by decide) ?_
      refine pw_iastU e_Cycle_runPick_186 (by omega) (by decide) ?_
      refine pw_vret e_Cycle_runPick_187 rfl ?_
      rw [f_Cycle_runPick_143, if_pos H1, if_pos H2] at hk
      exact hk
    · refine pw_aload_n e_Cycle_runPick_167 rfl ?_
      refine pw_iload_n e_Cycle_runPick_168 rfl ?_
      refine pw_iconst (v := nI 3) e_Cycle_runPick_169 (by decide) ?_
      refine pw_iaddN e_Cycle_runPick_170 ?_
      refine pw_aload_n e_Cycle_runPick_171 rfl ?_
      refine pw_iload e_Cycle_runPick_172 rfl ?_
      refine pw_iconst (v := nI 0) e_Cycle_runPick_174 (by decide) ?_
      refine pw_iaddN e_Cycle_runPick_175 ?_
      refine pw_ialdN e_Cycle_runPick_176 up_same (by omega) (by decide) ?_
      refine pw_iastU e_Cycle_runPick_177 (by omega) (by decide) ?_
      refine pw_goto (tgt := 187) e_Cycle_runPick_178 (by decide) ?_
      refine pw_vret e_Cycle_runPick_187 rfl ?_
      rw [f_Cycle_runPick_143, if_pos H1, if_neg H2] at hk
      exact hk
  · refine pw_aload_n e_Cycle_runPick_148 rfl ?_
    refine pw_iload_n e_Cycle_runPick_149 rfl ?_
    refine pw_iconst (v := nI 3) e_Cycle_runPick_150 (by decide) ?_
    refine pw_iaddN e_Cycle_runPick_151 ?_
    refine pw_aload_n e_Cycle_runPick_152 rfl ?_
    refine pw_iload e_Cycle_runPick_153 rfl ?_
    refine pw_iconst (v := nI 0) e_Cycle_runPick_155 (by decide) ?_
    refine pw_iaddN e_Cycle_runPick_156 ?_
    refine pw_ialdN e_Cycle_runPick_157 up_same (by omega) (by decide) ?_
    refine pw_iastU e_Cycle_runPick_158 (by omega) (by decide) ?_
    refine pw_goto (tgt := 187) e_Cycle_runPick_159 (by decide) ?_
    refine pw_vret e_Cycle_runPick_187 rfl ?_
    rw [f_Cycle_runPick_143, if_neg H1] at hk
    exact hk
def f_Cycle_runPick_83 (P : Nat → Nat → Int32) (b : Nat) (c : Nat → Int32) (vg : Int32) (og : Int32) : Nat → Int32 :=
  if vg = 0 then f_Cycle_runPick_143 P b c vg og else if og = 0 then f_Cycle_runPick_143 P b c vg og else if ((P 9) b) = 0 then upd c ((b * 9) + 3) (if (c ((came P b 1) + 0)) < (c ((came P b 0) + 0)) then (c ((came P b 1) + 0)) else (c ((came P b 0) + 0))) else upd c ((b * 9) + 3) (if (c ((came P b 0) + 0)) < (c ((came P b 1) + 0)) then (c ((came P b 1) + 0)) else (c ((came P b 0) + 0)))
set_option maxRecDepth 4000 in
theorem w_Cycle_runPick_83 {g : GG} {Q : QT} {h : Hp} {kc ks : Nat} (hst : (gl g).stackTraces = false) {p s : Nat} {ad : Nat → Nat} {P : Nat → Nat → Int32} (hP : ∀ e, PlanAt g p ad P (va_up h s e)) (hw : wfP P) (b : Nat) (hb : b < 10)  (c : Nat → Int32) (vg : Int32) (og : Int32) (hk : Q (.inl none) (va_up h s (some (aI g 225 (f_Cycle_runPick_83 P b c vg og))))) : PW g M_Cycle_runPick 1 kc ks Q 83 [.ref (p), .ref (s), .int (nI (b)), .int (nI (b * 9)), .int (nI (came P b 0)), .int (nI (came P b 1)), .int (vg), .int (og)] [] (va_up h s (some (aI g 225 (c)))) := by
  have hb0 := came_lt hw b 0
  have hb1 := came_lt hw b 1
  refine pw_iload e_Cycle_runPick_83 rfl ?_
  refine pw_if_eq (tgt := 143) e_Cycle_runPick_85 (by decide) (fun (H1 : vg = 0) => ?_) (fun (H1 : ¬ vg = 0) => ?_)
  · refine w_Cycle_runPick_143 hst hP hw b hb c vg og ?_
    rw [f_Cycle_runPick_83, if_pos H1] at hk
    exact hk
  · refine pw_iload e_Cycle_runPick_88 rfl ?_
    refine pw_if_eq (tgt := 143) e_Cycle_runPick_90 (by decide) (fun (H2 : og = 0) => ?_) (fun (H2 : ¬ og = 0) => ?_)
    · refine w_Cycle_runPick_143 hst hP hw b hb c vg og ?_
      rw [f_Cycle_runPick_83, if_neg H1, if_pos H2] at hk
      exact hk
    · refine pw_aload_n e_Cycle_runPick_93 rfl ?_
      refine pw_iload_n e_Cycle_runPick_94 rfl ?_
      refine pw_iconst (v := nI 3) e_Cycle_runPick_95 (by decide) ?_
      refine pw_iaddN e_Cycle_runPick_96 ?_
      refine pw_aload_n e_Cycle_runPick_97 rfl ?_
      refine pw_getf e_Cycle_runPick_98 fl_Cycle_152 (hP _).o rfl ?_
      refine pw_iload_n e_Cycle_runPick_101 rfl ?_
      refine pw_zaldN e_Cycle_runPick_102 (hP _).a9 (by omega) (by decide) ?_
      refine pw_if_eq (tgt := 124) e_Cycle_runPick_103 (by decide) (fun (H3 : ((P 9) b) = 0) => ?_) (fun (H3 : ¬ ((P 9) b) = 0) => ?_)
      · refine pw_aload_n e_Cycle_runPick_124 rfl ?_
        refine pw_iload e_Cycle_runPick_125 rfl ?_
        refine pw_iconst (v := nI 0) e_Cycle_runPick_127 (by decide) ?_
        refine pw_iaddN e_Cycle_runPick_128 ?_
        refine pw_ialdN e_Cycle_runPick_129 up_same (by omega) (by decide) ?_
        refine pw_aload_n e_Cycle_runPick_130 rfl ?_
        refine pw_iload e_Cycle_runPick_131 rfl ?_
        refine pw_iconst (v := nI 0) e_Cycle_runPick_133 (by decide) ?_
        refine pw_iaddN e_Cycle_runPick_134 ?_
        refine pw_ialdN e_Cycle_runPick_135 up_same (by omega) (by decide) ?_
        refine pw_min e_Cycle_runPick_136 ml_Cycle_112 (by decide) (Nat.le_of_ble_eq_true rfl) ?_
        refine pw_iastU e_Cycle_runPick_139 (by omega) (by decide) ?_
        refine pw_goto (tgt := 187) e_Cycle_runPick_140 (by decide) ?_
        refine pw_vret e_Cycle_runPick_187 rfl ?_
        rw [f_Cycle_runPick_83, if_neg H1, if_neg H2, if_pos H3] at hk
        exact hk
      · refine pw_aload_n e_Cycle_runPick_106 rfl ?_
        refine pw_iload e_Cycle_runPick_107 rfl ?_
        refine pw_iconst (v := nI 0) e_Cycle_runPick_109 (by decide) ?_
        refine pw_iaddN e_Cycle_runPick_110 ?_
        refine pw_ialdN e_Cycle_runPick_111 up_same (by omega) (by decide) ?_
        refine pw_aload_n e_Cycle_runPick_112 rfl ?_
        refine pw_iload e_Cycle_runPick_113 rfl ?_
        refine pw_iconst (v := nI 0) e_Cycle_runPick_115 (by decide) ?_
        refine pw_iaddN e_Cycle_runPick_116 ?_
        refine pw_ialdN e_Cycle_runPick_117 up_same (by omega) (by decide) ?_
        refine pw_max e_Cycle_runPick_118 ml_Cycle_155 (by decide) (Nat.le_of_ble_eq_true rfl) ?_
        refine pw_goto (tgt := 139) e_Cycle_runPick_121 (by decide) ?_
        refine pw_iastU e_Cycle_runPick_139 (by omega) (by decide) ?_
        refine pw_goto (tgt := 187) e_Cycle_runPick_140 (by decide) ?_
        refine pw_vret e_Cycle_runPick_187 rfl ?_
        rw [f_Cycle_runPick_83, if_neg H1, if_neg H2, if_neg H3] at hk
        exact hk
def f_Cycle_runPick_66 (P : Nat → Nat → Int32) (b : Nat) (c : Nat → Int32) (vg : Int32) : Nat → Int32 :=
  if (c ((came P b 1) + 1)) = 1 then f_Cycle_runPick_83 P b c vg 1 else f_Cycle_runPick_83 P b c vg 0
set_option maxRecDepth 4000 in
theorem w_Cycle_runPick_66 {g : GG} {Q : QT} {h : Hp} {kc ks : Nat} (hst : (gl g).stackTraces = false) {p s : Nat} {ad : Nat → Nat} {P : Nat → Nat → Int32} (hP : ∀ e, PlanAt g p ad P (va_up h s e)) (hw : wfP P) (b : Nat) (hb : b < 10)  (c : Nat → Int32) (vg : Int32) (hk : Q (.inl none) (va_up h s (some (aI g 225 (f_Cycle_runPick_66 P b c vg))))) : PW g M_Cycle_runPick 1 kc ks Q 66 [.ref (p), .ref (s), .int (nI (b)), .int (nI (b * 9)), .int (nI (came P b 0)), .int (nI (came P b 1)), .int (vg), .retAddr 0] [] (va_up h s (some (aI g 225 (c)))) := by
  have hb0 := came_lt hw b 0
  have hb1 := came_lt hw b 1
  refine pw_aload_n e_Cycle_runPick_66 rfl ?_
  refine pw_iload e_Cycle_runPick_67 rfl ?_
  refine pw_iconst (v := nI 1) e_Cycle_runPick_69 (by decide) ?_
  refine pw_iaddN e_Cycle_runPick_70 ?_
  refine pw_ialdN e_Cycle_runPick_71 up_same (by omega) (by decide) ?_
  refine pw_iconst (v := nI 1) e_Cycle_runPick_72 (by decide) ?_
  refine pw_icmp_ne (tgt := 80) e_Cycle_runPick_73 (by decide) (fun (H1 : ¬ (c ((came P b 1) + 1)) = 1) => ?_) (fun (H1 : (c ((came P b 1) + 1)) = 1) => ?_)
  · refine pw_iconst (v := nI 0) e_Cycle_runPick_80 (by decide) ?_
    refine pw_istore (ls2 := [_, _, _, _, _, _, _, _]) e_Cycle_runPick_81 (by decide) rfl ?_
    refine w_Cycle_runPick_83 hst hP hw b hb c vg 0 ?_
    rw [f_Cycle_runPick_66, if_neg H1] at hk
    exact hk
  · refine pw_iconst (v := nI 1) e_Cycle_runPick_76 (by decide) ?_
    refine pw_goto (tgt := 81) e_Cycle_runPick_77 (by decide) ?_
    refine pw_istore (ls2 := [_, _, _, _, _, _, _, _]) e_Cycle_runPick_81 (by decide) rfl ?_
    refine w_Cycle_runPick_83 hst hP hw b hb c vg 1 ?_
    rw [f_Cycle_runPick_66, if_pos H1] at hk
    exact hk
def f_Cycle_runPick_49 (P : Nat → Nat → Int32) (b : Nat) (c : Nat → Int32) : Nat → Int32 :=
  if (c ((came P b 0) + 1)) = 1 then f_Cycle_runPick_66 P b c 1 else f_Cycle_runPick_66 P b c 0
set_option maxRecDepth 4000 in
theorem w_Cycle_runPick_49 {g : GG} {Q : QT} {h : Hp} {kc ks : Nat} (hst : (gl g).stackTraces = false) {p s : Nat} {ad : Nat → Nat} {P : Nat → Nat → Int32} (hP : ∀ e, PlanAt g p ad P (va_up h s e)) (hw : wfP P) (b : Nat) (hb : b < 10)  (c : Nat → Int32) (hk : Q (.inl none) (va_up h s (some (aI g 225 (f_Cycle_runPick_49 P b c))))) : PW g M_Cycle_runPick 1 kc ks Q 49 [.ref (p), .ref (s), .int (nI (b)), .int (nI (b * 9)), .int (nI (came P b 0)), .int (nI (came P b 1)), .retAddr 0, .retAddr 0] [] (va_up h s (some (aI g 225 (c)))) := by
  have hb0 := came_lt hw b 0
  have hb1 := came_lt hw b 1
  refine pw_aload_n e_Cycle_runPick_49 rfl ?_
  refine pw_iload e_Cycle_runPick_50 rfl ?_
  refine pw_iconst (v := nI 1) e_Cycle_runPick_52 (by decide) ?_
  refine pw_iaddN e_Cycle_runPick_53 ?_
  refine pw_ialdN e_Cycle_runPick_54 up_same (by omega) (by decide) ?_
  refine pw_iconst (v := nI 1) e_Cycle_runPick_55 (by decide) ?_
  refine pw_icmp_ne (tgt := 63) e_Cycle_runPick_56 (by decide) (fun (H1 : ¬ (c ((came P b 0) + 1)) = 1) => ?_) (fun (H1 : (c ((came P b 0) + 1)) = 1) => ?_)
  · refine pw_iconst (v := nI 0) e_Cycle_runPick_63 (by decide) ?_
    refine pw_istore (ls2 := [_, _, _, _, _, _, _, _]) e_Cycle_runPick_64 (by decide) rfl ?_
    refine w_Cycle_runPick_66 hst hP hw b hb c 0 ?_
    rw [f_Cycle_runPick_49, if_neg H1] at hk
    exact hk
  · refine pw_iconst (v := nI 1) e_Cycle_runPick_59 (by decide) ?_
    refine pw_goto (tgt := 64) e_Cycle_runPick_60 (by decide) ?_
    refine pw_istore (ls2 := [_, _, _, _, _, _, _, _]) e_Cycle_runPick_64 (by decide) rfl ?_
    refine w_Cycle_runPick_66 hst hP hw b hb c 1 ?_
    rw [f_Cycle_runPick_49, if_pos H1] at hk
    exact hk
def f_Cycle_runPick_23 (P : Nat → Nat → Int32) (b : Nat) (c : Nat → Int32) : Nat → Int32 :=
  if (c ((b * 9) + 1)) = 2 then f_Cycle_runPick_49 P b c else c
set_option maxRecDepth 4000 in
theorem w_Cycle_runPick_23 {g : GG} {Q : QT} {h : Hp} {kc ks : Nat} (hst : (gl g).stackTraces = false) {p s : Nat} {ad : Nat → Nat} {P : Nat → Nat → Int32} (hP : ∀ e, PlanAt g p ad P (va_up h s e)) (hw : wfP P) (b : Nat) (hb : b < 10)  (c : Nat → Int32) (hk : Q (.inl none) (va_up h s (some (aI g 225 (f_Cycle_runPick_23 P b c))))) : PW g M_Cycle_runPick 1 kc ks Q 23 [.ref (p), .ref (s), .int (nI (b)), .int (nI (b * 9)), .retAddr 0, .retAddr 0, .retAddr 0, .retAddr 0] [] (va_up h s (some (aI g 225 (c)))) := by
  have hb0 := came_lt hw b 0
  have hb1 := came_lt hw b 1
  refine pw_aload_n e_Cycle_runPick_23 rfl ?_
  refine pw_iload_n e_Cycle_runPick_24 rfl ?_
  refine pw_iconst (v := nI 1) e_Cycle_runPick_25 (by decide) ?_
  refine pw_iaddN e_Cycle_runPick_26 ?_
  refine pw_ialdN e_Cycle_runPick_27 up_same (by omega) (by decide) ?_
  refine pw_iconst (v := nI 2) e_Cycle_runPick_28 (by decide) ?_
  refine pw_icmp_eq (tgt := 33) e_Cycle_runPick_29 (by decide) (fun (H1 : (c ((b * 9) + 1)) = 2) => ?_) (fun (H1 : ¬ (c ((b * 9) + 1)) = 2) => ?_)
  · refine pw_aload_n e_Cycle_runPick_33 rfl ?_
    refine pw_iload_n e_Cycle_runPick_34 rfl ?_
    refine pw_iconst (v := nI 0) e_Cycle_runPick_35 (by decide) ?_
    have hb_101 := came_lt hw b 0
    refine pw_detV (As := [.int (nI (b)), .int (nI (0))]) e_Cycle_runPick_36 li_Cycle_128 rfl (hP _).o (q_came hst (hP _) hw b 0 (by omega) (by omega)) rfl (by decide) (Nat.le_of_ble_eq_true rfl) rfl ?_
    refine pw_istore (ls2 := [_, _, _, _, _, _, _, _]) e_Cycle_runPick_39 (by decide) rfl ?_
    refine pw_aload_n e_Cycle_runPick_41 rfl ?_
    refine pw_iload_n e_Cycle_runPick_42 rfl ?_
    refine pw_iconst (v := nI 1) e_Cycle_runPick_43 (by decide) ?_
    have hb_102 := came_lt hw b 1
    refine pw_detV (As := [.int (nI (b)), .int (nI (1))]) e_Cycle_runPick_44 li_Cycle_128 rfl (hP _).o (q_came hst (hP _) hw b 1 (by omega) (by omega)) rfl (by decide) (Nat.le_of_ble_eq_true rfl) rfl ?_
    refine pw_istore (ls2 := [_, _, _, _, _, _, _, _]) e_Cycle_runPick_47 (by decide) rfl ?_
    refine w_Cycle_runPick_49 hst hP hw b hb c ?_
    rw [f_Cycle_runPick_23, if_pos H1] at hk
    exact hk
  · refine pw_vret e_Cycle_runPick_32 rfl ?_
    rw [f_Cycle_runPick_23, if_neg H1] at hk
    exact hk
def f_Cycle_runPick (P : Nat → Nat → Int32) (b : Nat) (c : Nat → Int32) : Nat → Int32 :=
  if (c ((b * 9) + 1)) = 0 then f_Cycle_runPick_23 P b (upd c ((b * 9) + 5) 0) else f_Cycle_runPick_23 P b (upd c ((b * 9) + 5) 1)
set_option maxRecDepth 4000 in
theorem w_Cycle_runPick_0 {g : GG} {Q : QT} {h : Hp} {kc ks : Nat} (hst : (gl g).stackTraces = false) {p s : Nat} {ad : Nat → Nat} {P : Nat → Nat → Int32} (hP : ∀ e, PlanAt g p ad P (va_up h s e)) (hw : wfP P) (b : Nat) (hb : b < 10)  (c : Nat → Int32) (hk : Q (.inl none) (va_up h s (some (aI g 225 (f_Cycle_runPick P b c))))) : PW g M_Cycle_runPick 1 kc ks Q 0 [.ref (p), .ref (s), .int (nI (b)), .retAddr 0, .retAddr 0, .retAddr 0, .retAddr 0, .retAddr 0] [] (va_up h s (some (aI g 225 (c)))) := by
  have hb0 := came_lt hw b 0
  have hb1 := came_lt hw b 1
  refine pw_iload_n e_Cycle_runPick_0 rfl ?_
  refine pw_bipush (v := nI 9) e_Cycle_runPick_1 (by decide) ?_
  refine pw_imulN e_Cycle_runPick_3 ?_
  refine pw_istore_n (ls2 := [_, _, _, _, _, _, _, _]) e_Cycle_runPick_4 (by decide) rfl ?_
  refine pw_aload_n e_Cycle_runPick_5 rfl ?_
  refine pw_iload_n e_Cycle_runPick_6 rfl ?_
  refine pw_iconst (v := nI 5) e_Cycle_runPick_7 (by decide) ?_
  refine pw_iaddN e_Cycle_runPick_8 ?_
  refine pw_aload_n e_Cycle_runPick_9 rfl ?_
  refine pw_iload_n e_Cycle_runPick_10 rfl ?_
  refine pw_iconst (v := nI 1) e_Cycle_runPick_11 (by decide) ?_
  refine pw_iaddN e_Cycle_runPick_12 ?_
  refine pw_ialdN e_Cycle_runPick_13 up_same (by omega) (by decide) ?_
  refine pw_if_ne (tgt := 21) e_Cycle_runPick_14 (by decide) (fun (H1 : ¬ (c ((b * 9) + 1)) = 0) => ?_) (fun (H1 : (c ((b * 9) + 1)) = 0) => ?_)
  · refine pw_iconst (v := nI 1) e_Cycle_runPick_21 (by decide) ?_
    refine pw_iastU e_Cycle_runPick_22 (by omega) (by decide) ?_
    refine w_Cycle_runPick_23 hst hP hw b hb (upd c ((b * 9) + 5) 1) ?_
    rw [f_Cycle_runPick, if_neg H1] at hk
    exact hk
  · refine pw_iconst (v := nI 0) e_Cycle_runPick_17 (by decide) ?_
    refine pw_goto (tgt := 22) e_Cycle_runPick_18 (by decide) ?_
    refine pw_iastU e_Cycle_runPick_22 (by omega) (by decide) ?_
    refine w_Cycle_runPick_23 hst hP hw b hb (upd c ((b * 9) + 5) 0) ?_
    rw [f_Cycle_runPick, if_pos H1] at hk
    exact hk
theorem q_Cycle_runPick {g : GG} {h : Hp} (hst : (gl g).stackTraces = false) {p s : Nat} {ad : Nat → Nat} {P : Nat → Nat → Int32} (hP : ∀ e, PlanAt g p ad P (va_up h s e)) (hw : wfP P) (b : Nat) (hb : b < 10)  (c : Nat → Int32) (hm : h s = some (aI g 225 c)) : PM g M_Cycle_runPick 1 0 0 [.ref (p), .ref (s), .int (nI (b))] h (RetV none (va_up h s (some (aI g 225 (f_Cycle_runPick P b c))))) := by
  refine PM.of hst (by decide) rfl (fun v hv => ?_) (Nat.le_of_ble_eq_true rfl) ?_
  · simp only [List.mem_cons, List.not_mem_nil, or_false] at hv; rcases hv with rfl | rfl | rfl <;> rfl
  · have hq := w_Cycle_runPick_0 (g := g) (Q := RetV none (va_up h s (some (aI g 225 (f_Cycle_runPick P b c))))) (h := h) (kc := 0) (ks := 0) (s := s) hst hP hw b hb c ?_
    · rw [up_self hm] at hq; exact hq
    · exact ⟨rfl, rfl⟩

def f_Cycle_runPid_350 (P : Nat → Nat → Int32) (b : Nat) (c : Nat → Int32) (q : Nat) (bg : Int32) (ol : Int32) : Nat → Int32 :=
  if bg = 0 then upd c ((b * 9) + 6) ol else if (c (q + 2)) = 0 then upd c ((b * 9) + 6) ol else upd c ((b * 9) + 6) (c (q + 2))
set_option maxRecDepth 4000 in
theorem w_Cycle_runPid_350 {g : GG} {Q : QT} {h : Hp} {kc ks : Nat} (hst : (gl g).stackTraces = false) {p s : Nat} {ad : Nat → Nat} {P : Nat → Nat → Int32} (hP : ∀ e, PlanAt g p ad P (va_up h s e)) (hw : wfP P) (b : Nat) (hb : b < 10)  (c : Nat → Int32) (q : Nat) (bg : Int32) (ol : Int32) (hq : q + 4 < 215) (hk : Q (.inl none) (va_up h s (some (aI g 225 (f_Cycle_runPid_350 P b c q bg ol))))) : PW g M_Cycle_runPid 2 kc ks Q 350 [.ref (p), .ref (s), .int (nI (b)), .int (nI (b * 9)), .retAddr 0, .retAddr 0, .retAddr 0, .int (nI (q)), .int (bg), .retAddr 0, .int (ol), .retAddr 0, .retAddr 0] [] (va_up h s (some (aI g 225 (c)))) := by
  refine pw_aload_n e_Cycle_runPid_350 rfl ?_
  refine pw_iload_n e_Cycle_runPid_351 rfl ?_
  refine pw_bipush (v := nI 6) e_Cycle_runPid_352 (by decide) ?_
  refine pw_iaddN e_Cycle_runPid_354 ?_
  refine pw_iload e_Cycle_runPid_355 rfl ?_
  refine pw_if_eq (tgt := 378) e_Cycle_runPid_357 (by decide) (fun (H1 : bg = 0) => ?_) (fun (H1 : ¬ bg = 0) => ?_)
  · refine pw_iload e_Cycle_runPid_378 rfl ?_
    refine pw_iastU e_Cycle_runPid_380 (by omega) (by decide) ?_
    refine pw_vret e_Cycle_runPid_381 rfl ?_
    rw [f_Cycle_runPid_350, if_pos H1] at hk
    exact hk
  · refine pw_aload_n e_Cycle_runPid_360 rfl ?_
    refine pw_iload e_Cycle_runPid_361 rfl ?_
    refine pw_iconst (v := nI 2) e_Cycle_runPid_363 (by decide) ?_
    refine pw_iaddN e_Cycle_runPid_364 ?_
    refine pw_ialdN e_Cycle_runPid_365 up_same (by omega) (by decide) ?_
    refine pw_if_eq (tgt := 378) e_Cycle_runPid_366 (by decide) (fun (H2 : (c (q + 2)) = 0) => ?_) (fun (H2 : ¬ (c (q + 2)) = 0) => ?_)
    · refine pw_iload e_Cycle_runPid_378 rfl ?_
      refine pw_iastU e_Cycle_runPid_380 (by omega) (by decide) ?_
      refine pw_vret e_Cycle_runPid_381 rfl ?_
      rw [f_Cycle_runPid_350, if_neg H1, if_pos H2] at hk
      exact hk
    · refine pw_aload_n e_Cycle_runPid_369 rfl ?_
      refine pw_iload e_Cycle_runPid_370 rfl ?_
      refine pw_iconst (v := nI 2) e_Cycle_runPid_372 (by decide) ?_
      refine pw_iaddN e_Cycle_runPid_373 ?_
      refine pw_ialdN e_Cycle_runPid_374 up_same (by omega) (by decide) ?_
      refine pw_goto (tgt := 380) e_Cycle_runPid_375 (by decide) ?_
      refine pw_iastU e_Cycle_runPid_380 (by omega) (by decide) ?_
      refine pw_vret e_Cycle_runPid_381 rfl ?_
      rw [f_Cycle_runPid_350, if_neg H1, if_neg H2] at hk
      exact hk
def f_Cycle_runPid_320 (P : Nat → Nat → Int32) (b : Nat) (c : Nat → Int32) (q : Nat) (bg : Int32) : Nat → Int32 :=
  if (c ((b * 9) + 3)) = 1000 then f_Cycle_runPid_350 P b c q bg 2 else if (c ((b * 9) + 3)) = 0 then f_Cycle_runPid_350 P b c q bg 1 else f_Cycle_runPid_350 P b c q bg 0
set_option maxRecDepth 4000 in
theorem w_Cycle_runPid_320 {g : GG} {Q : QT} {h : Hp} {kc ks : Nat} (hst : (gl g).stackTraces = false) {p s : Nat} {ad : Nat → Nat} {P : Nat → Nat → Int32} (hP : ∀ e, PlanAt g p ad P (va_up h s e)) (hw : wfP P) (b : Nat) (hb : b < 10)  (c : Nat → Int32) (q : Nat) (bg : Int32) (hq : q + 4 < 215) (hk : Q (.inl none) (va_up h s (some (aI g 225 (f_Cycle_runPid_320 P b c q bg))))) : PW g M_Cycle_runPid 2 kc ks Q 320 [.ref (p), .ref (s), .int (nI (b)), .int (nI (b * 9)), .retAddr 0, .retAddr 0, .retAddr 0, .int (nI (q)), .int (bg), .retAddr 0, .retAddr 0, .retAddr 0, .retAddr 0] [] (va_up h s (some (aI g 225 (c)))) := by
  refine pw_aload_n e_Cycle_runPid_320 rfl ?_
  refine pw_iload_n e_Cycle_runPid_321 rfl ?_
  refine pw_iconst (v := nI 3) e_Cycle_runPid_322 (by decide) ?_
  refine pw_iaddN e_Cycle_runPid_323 ?_
  refine pw_ialdN e_Cycle_runPid_324 up_same (by omega) (by decide) ?_
  refine pw_sipush (v := nI 1000) e_Cycle_runPid_325 (by decide) ?_
  refine pw_icmp_ne (tgt := 335) e_Cycle_runPid_328 (by decide) (fun (H1 : ¬ (c ((b * 9) + 3)) = 1000) => ?_) (fun (H1 : (c ((b * 9) + 3)) = 1000) => ?_)
  · refine pw_aload_n e_Cycle_runPid_335 rfl ?_
    refine pw_iload_n e_Cycle_runPid_336 rfl ?_
    refine pw_iconst (v := nI 3) e_Cycle_runPid_337 (by decide) ?_
    refine pw_iaddN e_Cycle_runPid_338 ?_
    refine pw_ialdN e_Cycle_runPid_339 up_same (by omega) (by decide) ?_
    refine pw_if_ne (tgt := 347) e_Cycle_runPid_340 (by decide) (fun (H2 : ¬ (c ((b * 9) + 3)) = 0) => ?_) (fun (H2 : (c ((b * 9) + 3)) = 0) => ?_)
    · refine pw_iconst (v := nI 0) e_Cycle_runPid_347 (by decide) ?_
      refine pw_istore (ls2 := [_, _, _, _, _, _, _, _, _, _, _, _, _]) e_Cycle_runPid_348 (by decide) rfl ?_
      refine w_Cycle_runPid_350 hst hP hw b hb c q bg 0 (by omega) ?_
      rw [f_Cycle_runPid_320, if_neg H1, if_neg H2] at hk
      exact hk
    · refine pw_iconst (v := nI 1) e_Cycle_runPid_343 (by decide) ?_
      refine pw_goto (tgt := 348) e_Cycle_runPid_344 (by decide) ?_
      refine pw_istore (ls2 := [_, _, _, _, _, _, _, _, _, _, _, _, _]) e_Cycle_runPid_348 (by decide) rfl ?_
      refine w_Cycle_runPid_350 hst hP hw b hb c q bg 1 (by omega) ?_
      rw [f_Cycle_runPid_320, if_neg H1, if_pos H2] at hk
      exact hk
  · refine pw_iconst (v := nI 2) e_Cycle_runPid_331 (by decide) ?_
    refine pw_goto (tgt := 348) e_Cycle_runPid_332 (by decide) ?_
    refine pw_istore (ls2 := [_, _, _, _, _, _, _, _, _, _, _, _, _]) e_Cycle_runPid_348 (by decide) rfl ?_
    refine w_Cycle_runPid_350 hst hP hw b hb c q bg 2 (by omega) ?_
    rw [f_Cycle_runPid_320, if_pos H1] at hk
    exact hk
def f_Cycle_runPid_305 (P : Nat → Nat → Int32) (b : Nat) (c : Nat → Int32) (m : Int32) (q : Nat) (bg : Int32) : Nat → Int32 :=
  if m = 0 then f_Cycle_runPid_320 P b (upd c ((b * 9) + 5) 0) q bg else f_Cycle_runPid_320 P b (upd c ((b * 9) + 5) 1) q bg
set_option maxRecDepth 4000 in
theorem w_Cycle_runPid_305 {g : GG} {Q : QT} {h : Hp} {kc ks : Nat} (hst : (gl g).stackTraces = false) {p s : Nat} {ad : Nat → Nat} {P : Nat → Nat → Int32} (hP : ∀ e, PlanAt g p ad P (va_up h s e)) (hw : wfP P) (b : Nat) (hb : b < 10)  (c : Nat → Int32) (m : Int32) (q : Nat) (bg : Int32) (hq : q + 4 < 215) (hk : Q (.inl none) (va_up h s (some (aI g 225 (f_Cycle_runPid_305 P b c m q bg))))) : PW g M_Cycle_runPid 2 kc ks Q 305 [.ref (p), .ref (s), .int (nI (b)), .int (nI (b * 9)), .int (m), .retAddr 0, .retAddr 0, .int (nI (q)), .int (bg), .retAddr 0, .retAddr 0, .retAddr 0, .retAddr 0] [] (va_up h s (some (aI g 225 (c)))) := by
  refine pw_aload_n e_Cycle_runPid_305 rfl ?_
  refine pw_iload_n e_Cycle_runPid_306 rfl ?_
  refine pw_iconst (v := nI 5) e_Cycle_runPid_307 (by decide) ?_
  refine pw_iaddN e_Cycle_runPid_308 ?_
  refine pw_iload e_Cycle_runPid_309 rfl ?_
  refine pw_if_ne (tgt := 318) e_Cycle_runPid_311 (by decide) (fun (H1 : ¬ m = 0) => ?_) (fun (H1 : m = 0) => ?_)
  · refine pw_iconst (v := nI 1) e_Cycle_runPid_318 (by decide) ?_
    refine pw_iastU e_Cycle_runPid_319 (by omega) (by decide) ?_
    refine pw_fgt (ls' := [.ref (p), .ref (s), .int (nI (b)), .int (nI (b * 9)), .retAddr 0, .retAddr 0, .retAddr 0, .int (nI (q)), .int (bg), .retAddr 0, .retAddr 0, .retAddr 0, .retAddr 0]) ⟨Or.inr rfl, Or.inr rfl, Or.inr rfl, Or.inr rfl, Or.inl rfl, Or.inr rfl, Or.inr rfl, Or.inr rfl, Or.inr rfl, Or.inr rfl, Or.inr rfl, Or.inr rfl, Or.inr rfl, trivial⟩ ?_
    refine w_Cycle_runPid_320 hst hP hw b hb (upd c ((b * 9) + 5) 1) q bg (by omega) ?_
    rw [f_Cycle_runPid_305, if_neg H1] at hk
    exact hk
  · refine pw_iconst (v := nI 0) e_Cycle_runPid_314 (by decide) ?_
    refine pw_goto (tgt := 319) e_Cycle_runPid_315 (by decide) ?_
    refine pw_iastU e_Cycle_runPid_319 (by omega) (by decide) ?_
    refine pw_fgt (ls' := [.ref (p), .ref (s), .int (nI (b)), .int (nI (b * 9)), .retAddr 0, .retAddr 0, .retAddr 0, .int (nI (q)), .int (bg), .retAddr 0, .retAddr 0, .retAddr 0, .retAddr 0]) ⟨Or.inr rfl, Or.inr rfl, Or.inr rfl, Or.inr rfl, Or.inl rfl, Or.inr rfl, Or.inr rfl, Or.inr rfl, Or.inr rfl, Or.inr rfl, Or.inr rfl, Or.inr rfl, Or.inr rfl, trivial⟩ ?_
    refine w_Cycle_runPid_320 hst hP hw b hb (upd c ((b * 9) + 5) 0) q bg (by omega) ?_
    rw [f_Cycle_runPid_305, if_pos H1] at hk
    exact hk
def f_Cycle_runPid_293 (P : Nat → Nat → Int32) (b : Nat) (c : Nat → Int32) (m : Int32) (e : Int32) (q : Nat) (bg : Int32) : Nat → Int32 :=
  if m = 0 then f_Cycle_runPid_305 P b c m q bg else f_Cycle_runPid_305 P b (upd c ((b * 9) + 4) e) m q bg
set_option maxRecDepth 4000 in
theorem w_Cycle_runPid_293 {g : GG} {Q : QT} {h : Hp} {kc ks : Nat} (hst : (gl g).stackTraces = false) {p s : Nat} {ad : Nat → Nat} {P : Nat → Nat → Int32} (hP : ∀ e, PlanAt g p ad P (va_up h s e)) (hw : wfP P) (b : Nat) (hb : b < 10)  (c : Nat → Int32) (m : Int32) (e : Int32) (q : Nat) (bg : Int32) (hq : q + 4 < 215) (hk : Q (.inl none) (va_up h s (some (aI g 225 (f_Cycle_runPid_293 P b c m e q bg))))) : PW g M_Cycle_runPid 2 kc ks Q 293 [.ref (p), .ref (s), .int (nI (b)), .int (nI (b * 9)), .int (m), .int (e), .retAddr 0, .int (nI (q)), .int (bg), .retAddr 0, .retAddr 0, .retAddr 0, .retAddr 0] [] (va_up h s (some (aI g 225 (c)))) := by
  refine pw_iload e_Cycle_runPid_293 rfl ?_
  refine pw_if_eq (tgt := 305) e_Cycle_runPid_295 (by decide) (fun (H1 : m = 0) => ?_) (fun (H1 : ¬ m = 0) => ?_)
  · refine pw_fgt (ls' := [.ref (p), .ref (s), .int (nI (b)), .int (nI (b * 9)), .int (m), .retAddr 0, .retAddr 0, .int (nI (q)), .int (bg), .retAddr 0, .retAddr 0, .retAddr 0, .retAddr 0]) ⟨Or.inr rfl, Or.inr rfl, Or.inr rfl, Or.inr rfl, Or.inr rfl, Or.inl rfl, Or.inr rfl, Or.inr rfl, Or.inr rfl, Or.inr rfl, Or.inr rfl, Or.inr rfl, Or.inr rfl, trivial⟩ ?_
    refine w_Cycle_runPid_305 hst hP hw b hb c m q bg (by omega) ?_
    rw [f_Cycle_runPid_293, if_pos H1] at hk
    exact hk
  · refine pw_aload_n e_Cycle_runPid_298 rfl ?_
    refine pw_iload_n e_Cycle_runPid_299 rfl ?_
    refine pw_iconst (v := nI 4) e_Cycle_runPid_300 (by decide) ?_
    refine pw_iaddN e_Cycle_runPid_301 ?_
    refine pw_iload e_Cycle_runPid_302 rfl ?_
    refine pw_iastU e_Cycle_runPid_304 (by omega) (by decide) ?_
    refine pw_fgt (ls' := [.ref (p), .ref (s), .int (nI (b)), .int (nI (b * 9)), .int (m), .retAddr 0, .retAddr 0, .int (nI (q)), .int (bg), .retAddr 0, .retAddr 0, .retAddr 0, .retAddr 0]) ⟨Or.inr rfl, Or.inr rfl, Or.inr rfl, Or.inr rfl, Or.inr rfl, Or.inl rfl, Or.inr rfl, Or.inr rfl, Or.inr rfl, Or.inr rfl, Or.inr rfl, Or.inr rfl, Or.inr rfl, trivial⟩ ?_
    refine w_Cycle_runPid_305 hst hP hw b hb (upd c ((b * 9) + 4) e) m q bg (by omega) ?_
    rw [f_Cycle_runPid_293, if_neg H1] at hk
    exact hk
def f_Cycle_runPid_264 (P : Nat → Nat → Int32) (b : Nat) (c : Nat → Int32) (m : Int32) (e : Int32) (q : Nat) (bg : Int32) (st : Int32) (he : Int32) : Nat → Int32 :=
  if he = 0 then f_Cycle_runPid_293 P b (upd c ((b * 9) + 3) (f_Cycle_within ((c ((b * 9) + 3)) + st))) m e q bg else f_Cycle_runPid_293 P b (upd c ((b * 9) + 3) (c ((b * 9) + 3))) m e q bg
set_option maxRecDepth 4000 in
theorem w_Cycle_runPid_264 {g : GG} {Q : QT} {h : Hp} {kc ks : Nat} (hst : (gl g).stackTraces = false) {p s : Nat} {ad : Nat → Nat} {P : Nat → Nat → Int32} (hP : ∀ e, PlanAt g p ad P (va_up h s e)) (hw : wfP P) (b : Nat) (hb : b < 10)  (c : Nat → Int32) (m : Int32) (e : Int32) (q : Nat) (bg : Int32) (st : Int32) (he : Int32) (hq : q + 4 < 215) (hk : Q (.inl none) (va_up h s (some (aI g 225 (f_Cycle_runPid_264 P b c m e q bg st he))))) : PW g M_Cycle_runPid 2 kc ks Q 264 [.ref (p), .ref (s), .int (nI (b)), .int (nI (b * 9)), .int (m), .int (e), .retAddr 0, .int (nI (q)), .int (bg), .retAddr 0, .int (st), .retAddr 0, .int (he)] [] (va_up h s (some (aI g 225 (c)))) := by
  refine pw_aload_n e_Cycle_runPid_264 rfl ?_
  refine pw_iload_n e_Cycle_runPid_265 rfl ?_
  refine pw_iconst (v := nI 3) e_Cycle_runPid_266 (by decide) ?_
  refine pw_iaddN e_Cycle_runPid_267 ?_
  refine pw_iload e_Cycle_runPid_268 rfl ?_
  refine pw_if_eq (tgt := 281) e_Cycle_runPid_270 (by decide) (fun (H1 : he = 0) => ?_) (fun (H1 : ¬ he = 0) => ?_)
  · refine pw_aload_n e_Cycle_runPid_281 rfl ?_
    refine pw_iload_n e_Cycle_runPid_282 rfl ?_
    refine pw_iconst (v := nI 3) e_Cycle_runPid_283 (by decide) ?_
    refine pw_iaddN e_Cycle_runPid_284 ?_
    refine pw_ialdN e_Cycle_runPid_285 up_same (by omega) (by decide) ?_
    refine pw_iload e_Cycle_runPid_286 rfl ?_
    refine pw_iadd e_Cycle_runPid_288 ?_
    refine pw_detS (As := [.int ((c ((b * 9) + 3)) + st)]) e_Cycle_runPid_289 li_Cycle_85 (q_Cycle_within hst ((c ((b * 9) + 3)) + st)) rfl (by decide) (Nat.le_of_ble_eq_true rfl) rfl ?_
    refine pw_iastU e_Cycle_runPid_292 (by omega) (by decide) ?_
    refine pw_fgt (ls' := [.ref (p), .ref (s), .int (nI (b)), .int (nI (b * 9)), .int (m), .int (e), .retAddr 0, .int (nI (q)), .int (bg), .retAddr 0, .retAddr 0, .retAddr 0, .retAddr 0]) ⟨Or.inr rfl, Or.inr rfl, Or.inr rfl, Or.inr rfl, Or.inr rfl, Or.inr rfl, Or.inr rfl, Or.inr rfl, Or.inr rfl, Or.inr rfl, Or.inl rfl, Or.inr rfl, Or.inl rfl, trivial⟩ ?_
    refine w_Cycle_runPid_293 hst hP hw b hb (upd c ((b * 9) + 3) (f_Cycle_within ((c ((b * 9) + 3)) + st))) m e q bg (by omega) ?_
    rw [f_Cycle_runPid_264, if_pos H1] at hk
    exact hk
  · refine pw_aload_n e_Cycle_runPid_273 rfl ?_
    refine pw_iload_n e_Cycle_runPid_274 rfl ?_
    refine pw_iconst (v := nI 3) e_Cycle_runPid_275 (by decide) ?_
    refine pw_iaddN e_Cycle_runPid_276 ?_
    refine pw_ialdN e_Cycle_runPid_277 up_same (by omega) (by decide) ?_
    refine pw_goto (tgt := 292) e_Cycle_runPid_278 (by decide) ?_
    refine pw_iastU e_Cycle_runPid_292 (by omega) (by decide) ?_
    refine pw_fgt (ls' := [.ref (p), .ref (s), .int (nI (b)), .int (nI (b * 9)), .int (m), .int (e), .retAddr 0, .int (nI (q)), .int (bg), .retAddr 0, .retAddr 0, .retAddr 0, .retAddr 0]) ⟨Or.inr rfl, Or.inr rfl, Or.inr rfl, Or.inr rfl, Or.inr rfl, Or.inr rfl, Or.inr rfl, Or.inr rfl, Or.inr rfl, Or.inr rfl, Or.inl rfl, Or.inr rfl, Or.inl rfl, trivial⟩ ?_
    refine w_Cycle_runPid_293 hst hP hw b hb (upd c ((b * 9) + 3) (c ((b * 9) + 3))) m e q bg (by omega) ?_
    rw [f_Cycle_runPid_264, if_neg H1] at hk
    exact hk
def f_Cycle_runPid_235 (P : Nat → Nat → Int32) (b : Nat) (c : Nat → Int32) (m : Int32) (e : Int32) (q : Nat) (bg : Int32) (st : Int32) (li : Int32) : Nat → Int32 :=
  if st ≤ 0 then if 0 ≤ st then f_Cycle_runPid_264 P b c m e q bg st 0 else if li = 1 then f_Cycle_runPid_264 P b c m e q bg st 1 else f_Cycle_runPid_264 P b c m e q bg st 0 else if li = 2 then f_Cycle_runPid_264 P b c m e q bg st 1 else if 0 ≤ st then f_Cycle_runPid_264 P b c m e q bg st 0 else if li = 1 then f_Cycle_runPid_264 P b c m e q bg st 1 else f_Cycle_runPid_264 P b c m e q bg st 0
set_option maxRecDepth 4000 in
theorem w_Cycle_runPid_235 {g : GG} {Q : QT} {h : Hp} {kc ks : Nat} (hst : (gl g).stackTraces = false) {p s : Nat} {ad : Nat → Nat} {P : Nat → Nat → Int32} (hP : ∀ e, PlanAt g p ad P (va_up h s e)) (hw : wfP P) (b : Nat) (hb : b < 10)  (c : Nat → Int32) (m : Int32) (e : Int32) (q : Nat) (bg : Int32) (st : Int32) (li : Int32) (hq : q + 4 < 215) (hk : Q (.inl none) (va_up h s (some (aI g 225 (f_Cycle_runPid_235 P b c m e q bg st li))))) : PW g M_Cycle_runPid 2 kc ks Q 235 [.ref (p), .ref (s), .int (nI (b)), .int (nI (b * 9)), .int (m), .int (e), .retAddr 0, .int (nI (q)), .int (bg), .retAddr 0, .int (st), .int (li), .retAddr 0] [] (va_up h s (some (aI g 225 (c)))) := by
  refine pw_iload e_Cycle_runPid_235 rfl ?_
  refine pw_if_le (tgt := 246) e_Cycle_runPid_237 (by decide) (fun (H1 : st ≤ 0) => ?_) (fun (H1 : ¬ st ≤ 0) => ?_)
  · refine pw_iload e_Cycle_runPid_246 rfl ?_
    refine pw_if_ge (tgt := 261) e_Cycle_runPid_248 (by decide) (fun (H2 : 0 ≤ st) => ?_) (fun (H2 : ¬ 0 ≤ st) => ?_)
    · refine pw_iconst (v := nI 0) e_Cycle_runPid_261 (by decide) ?_
      refine pw_istore (ls2 := [_, _, _, _, _, _, _, _, _, _, _, _, _]) e_Cycle_runPid_262 (by decide) rfl ?_
      refine pw_fgt (ls' := [.ref (p), .ref (s), .int (nI (b)), .int (nI (b * 9)), .int (m), .int (e), .retAddr 0, .int (nI (q)), .int (bg), .retAddr 0, .int (st), .retAddr 0, .int (nI (0))]) ⟨Or.inr rfl, Or.inr rfl, Or.inr rfl, Or.inr rfl, Or.inr rfl, Or.inr rfl, Or.inr rfl, Or.inr rfl, Or.inr rfl, Or.inr rfl, Or.inr rfl, Or.inl rfl, Or.inr rfl, trivial⟩ ?_
      refine w_Cycle_runPid_264 hst hP hw b hb c m e q bg st 0 (by omega) ?_
      rw [f_Cycle_runPid_235, if_pos H1, if_pos H2] at hk
      exact hk
    · refine pw_iload e_Cycle_runPid_251 rfl ?_
      refine pw_iconst (v := nI 1) e_Cycle_runPid_253 (by decide) ?_
      refine pw_icmp_ne (tgt := 261) e_Cycle_runPid_254 (by decide) (fun (H3 : ¬ li = 1) => ?_) (fun (H3 : li = 1) => ?_)
      · refine pw_iconst (v := nI 0) e_Cycle_runPid_261 (by decide) ?_
        refine pw_istore (ls2 := [_, _, _, _, _, _, _, _, _, _, _, _, _]) e_Cycle_runPid_262 (by decide) rfl ?_
        refine pw_fgt (ls' := [.ref (p), .ref (s), .int (nI (b)), .int (nI (b * 9)), .int (m), .int (e), .retAddr 0, .int (nI (q)), .int (bg), .retAddr 0, .int (st), .retAddr 0, .int (nI (0))]) ⟨Or.inr rfl, Or.inr rfl, Or.inr rfl, Or.inr rfl, Or.inr rfl, Or.inr rfl, Or.inr rfl, Or.inr rfl, Or.inr rfl, Or.inr rfl, Or.inr rfl, Or.inl rfl, Or.inr rfl, trivial⟩ ?_
        refine w_Cycle_runPid_264 hst hP hw b hb c m e q bg st 0 (by omega) ?_
        rw [f_Cycle_runPid_235, if_pos H1, if_neg H2, if_neg H3] at hk
        exact hk
      · refine pw_iconst (v := nI 1) e_Cycle_runPid_257 (by decide) ?_
        refine pw_goto (tgt := 262) e_Cycle_runPid_258 (by decide) ?_
        refine pw_istore (ls2 := [_, _, _, _, _, _, _, _, _, _, _, _, _]) e_Cycle_runPid_262 (by decide) rfl ?_
        refine pw_fgt (ls' := [.ref (p), .ref (s), .int (nI (b)), .int (nI (b * 9)), .int (m), .int (e), .retAddr 0, .int (nI (q)), .int (bg), .retAddr 0, .int (st), .retAddr 0, .int (nI (1))]) ⟨Or.inr rfl, Or.inr rfl, Or.inr rfl, Or.inr rfl, Or.inr rfl, Or.inr rfl, Or.inr rfl, Or.inr rfl, Or.inr rfl, Or.inr rfl, Or.inr rfl, Or.inl rfl, Or.inr rfl, trivial⟩ ?_
        refine w_Cycle_runPid_264 hst hP hw b hb c m e q bg st 1 (by omega) ?_
        rw [f_Cycle_runPid_235, if_pos H1, if_neg H2, if_pos H3] at hk
        exact hk
  · refine pw_iload e_Cycle_runPid_240 rfl ?_
    refine pw_iconst (v := nI 2) e_Cycle_runPid_242 (by decide) ?_
    refine pw_icmp_eq (tgt := 257) e_Cycle_runPid_243 (by decide) (fun (H4 : li = 2) => ?_) (fun (H4 : ¬ li = 2) => ?_)
    · refine pw_iconst (v := nI 1) e_Cycle_runPid_257 (by decide) ?_
      refine pw_goto (tgt := 262) e_Cycle_runPid_258 (by decide) ?_
      refine pw_istore (ls2 := [_, _, _, _, _, _, _, _, _, _, _, _, _]) e_Cycle_runPid_262 (by decide) rfl ?_
      refine pw_fgt (ls' := [.ref (p), .ref (s), .int (nI (b)), .int (nI (b * 9)), .int (m), .int (e), .retAddr 0, .int (nI (q)), .int (bg), .retAddr 0, .int (st), .retAddr 0, .int (nI (1))]) ⟨Or.inr rfl, Or.inr rfl, Or.inr rfl, Or.inr rfl, Or.inr rfl, Or.inr rfl, Or.inr rfl, Or.inr rfl, Or.inr rfl, Or.inr rfl, Or.inr rfl, Or.inl rfl, Or.inr rfl, trivial⟩ ?_
      refine w_Cycle_runPid_264 hst hP hw b hb c m e q bg st 1 (by omega) ?_
      rw [f_Cycle_runPid_235, if_neg H1, if_pos H4] at hk
      exact hk
    · refine pw_iload e_Cycle_runPid_246 rfl ?_
      refine pw_if_ge (tgt := 261) e_Cycle_runPid_248 (by decide) (fun (H5 : 0 ≤ st) => ?_) (fun (H5 : ¬ 0 ≤ st) => ?_)
      · refine pw_iconst (v := nI 0) e_Cycle_runPid_261 (by decide) ?_
        refine pw_istore (ls2 := [_, _, _, _, _, _, _, _, _, _, _, _, _]) e_Cycle_runPid_262 (by decide) rfl ?_
        refine pw_fgt (ls' := [.ref (p), .ref (s), .int (nI (b)), .int (nI (b * 9)), .int (m), .int (e), .retAddr 0, .int (nI (q)), .int (bg), .retAddr 0, .int (st), .retAddr 0, .int (nI (0))]) ⟨Or.inr rfl, Or.inr rfl, Or.inr rfl, Or.inr rfl, Or.inr rfl, Or.inr rfl, Or.inr rfl, Or.inr rfl, Or.inr rfl, Or.inr rfl, Or.inr rfl, Or.inl rfl, Or.inr rfl, trivial⟩ ?_
        refine w_Cycle_runPid_264 hst hP hw b hb c m e q bg st 0 (by omega) ?_
        rw [f_Cycle_runPid_235, if_neg H1, if_neg H4, if_pos H5] at hk
        exact hk
      · refine pw_iload e_Cycle_runPid_251 rfl ?_
        refine pw_iconst (v := nI 1) e_Cycle_runPid_253 (by decide) ?_
        refine pw_icmp_ne (tgt := 261) e_Cycle_runPid_254 (by decide) (fun (H6 : ¬ li = 1) => ?_) (fun (H6 : li = 1) => ?_)
        · refine pw_iconst (v := nI 0) e_Cycle_runPid_261 (by decide) ?_
          refine pw_istore (ls2 := [_, _, _, _, _, _, _, _, _, _, _, _, _]) e_Cycle_runPid_262 (by decide) rfl ?_
          refine pw_fgt (ls' := [.ref (p), .ref (s), .int (nI (b)), .int (nI (b * 9)), .int (m), .int (e), .retAddr 0, .int (nI (q)), .int (bg), .retAddr 0, .int (st), .retAddr 0, .int (nI (0))]) ⟨Or.inr rfl, Or.inr rfl, Or.inr rfl, Or.inr rfl, Or.inr rfl, Or.inr rfl, Or.inr rfl, Or.inr rfl, Or.inr rfl, Or.inr rfl, Or.inr rfl, Or.inl rfl, Or.inr rfl, trivial⟩ ?_
          refine w_Cycle_runPid_264 hst hP hw b hb c m e q bg st 0 (by omega) ?_
          rw [f_Cycle_runPid_235, if_neg H1, if_neg H4, if_neg H5, if_neg H6] at hk
          exact hk
        · refine pw_iconst (v := nI 1) e_Cycle_runPid_257 (by decide) ?_
          refine pw_goto (tgt := 262) e_Cycle_runPid_258 (by decide) ?_
          refine pw_istore (ls2 := [_, _, _, _, _, _, _, _, _, _, _, _, _]) e_Cycle_runPid_262 (by decide) rfl ?_
          refine pw_fgt (ls' := [.ref (p), .ref (s), .int (nI (b)), .int (nI (b * 9)), .int (m), .int (e), .retAddr 0, .int (nI (q)), .int (bg), .retAddr 0, .int (st), .retAddr 0, .int (nI (1))]) ⟨Or.inr rfl, Or.inr rfl, Or.inr rfl, Or.inr rfl, Or.inr rfl, Or.inr rfl, Or.inr rfl, Or.inr rfl, Or.inr rfl, Or.inr rfl, Or.inr rfl, Or.inl rfl, Or.inr rfl, trivial⟩ ?_
          refine w_Cycle_runPid_264 hst hP hw b hb c m e q bg st 1 (by omega) ?_
          rw [f_Cycle_runPid_235, if_neg H1, if_neg H4, if_neg H5, if_pos H6] at hk
          exact hk
def f_Cycle_runPid_194 (P : Nat → Nat → Int32) (b : Nat) (c : Nat → Int32) (m : Int32) (e : Int32) (q : Nat) (bg : Int32) : Nat → Int32 :=
  f_Cycle_runPid_235 P b c m e q bg ((((c ((b * 9) + 8)) * (e - (c ((b * 9) + 4)))) / 100) + ((((P 5) b) * e) / 100)) (c (q + 2))
set_option maxRecDepth 4000 in
theorem w_Cycle_runPid_194 {g : GG} {Q : QT} {h : Hp} {kc ks : Nat} (hst : (gl g).stackTraces = false) {p s : Nat} {ad : Nat → Nat} {P : Nat → Nat → Int32} (hP : ∀ e, PlanAt g p ad P (va_up h s e)) (hw : wfP P) (b : Nat) (hb : b < 10)  (c : Nat → Int32) (m : Int32) (e : Int32) (q : Nat) (bg : Int32) (hq : q + 4 < 215) (hk : Q (.inl none) (va_up h s (some (aI g 225 (f_Cycle_runPid_194 P b c m e q bg))))) : PW g M_Cycle_runPid 2 kc ks Q 194 [.ref (p), .ref (s), .int (nI (b)), .int (nI (b * 9)), .int (m), .int (e), .retAddr 0, .int (nI (q)), .int (bg), .retAddr 0, .retAddr 0, .retAddr 0, .retAddr 0] [] (va_up h s (some (aI g 225 (c)))) := by
  refine pw_aload_n e_Cycle_runPid_194 rfl ?_
  refine pw_iload_n e_Cycle_runPid_195 rfl ?_
  refine pw_bipush (v := nI 8) e_Cycle_runPid_196 (by decide) ?_
  refine pw_iaddN e_Cycle_runPid_198 ?_
  refine pw_ialdN e_Cycle_runPid_199 up_same (by omega) (by decide) ?_
  refine pw_iload e_Cycle_runPid_200 rfl ?_
  refine pw_aload_n e_Cycle_runPid_202 rfl ?_
  refine pw_iload_n e_Cycle_runPid_203 rfl ?_
  refine pw_iconst (v := nI 4) e_Cycle_runPid_204 (by decide) ?_
  refine pw_iaddN e_Cycle_runPid_205 ?_
  refine pw_ialdN e_Cycle_runPid_206 up_same (by omega) (by decide) ?_
  refine pw_isub e_Cycle_runPid_207 ?_
  refine pw_imul e_Cycle_runPid_208 ?_
  refine pw_bipush (v := nI 100) e_Cycle_runPid_209 (by decide) ?_
  refine pw_idiv e_Cycle_runPid_211 (by decide) ?_
  refine pw_aload_n e_Cycle_runPid_212 rfl ?_
  refine pw_getf e_Cycle_runPid_213 fl_Cycle_161 (hP _).o rfl ?_
  refine pw_iload_n e_Cycle_runPid_216 rfl ?_
  refine pw_ialdN e_Cycle_runPid_217 (hP _).a5 (by omega) (by decide) ?_
  refine pw_iload e_Cycle_runPid_218 rfl ?_
  refine pw_imul e_Cycle_runPid_220 ?_
  refine pw_bipush (v := nI 100) e_Cycle_runPid_221 (by decide) ?_
  refine pw_idiv e_Cycle_runPid_223 (by decide) ?_
  refine pw_iadd e_Cycle_runPid_224 ?_
  refine pw_istore (ls2 := [_, _, _, _, _, _, _, _, _, _, _, _, _]) e_Cycle_runPid_225 (by decide) rfl ?_
  refine pw_aload_n e_Cycle_runPid_227 rfl ?_
  refine pw_iload e_Cycle_runPid_228 rfl ?_
  refine pw_iconst (v := nI 2) e_Cycle_runPid_230 (by decide) ?_
  refine pw_iaddN e_Cycle_runPid_231 ?_
  refine pw_ialdN e_Cycle_runPid_232 up_same (by omega) (by decide) ?_
  refine pw_istore (ls2 := [_, _, _, _, _, _, _, _, _, _, _, _, _]) e_Cycle_runPid_233 (by decide) rfl ?_
  refine w_Cycle_runPid_235 hst hP hw b hb c m e q bg ((((c ((b * 9) + 8)) * (e - (c ((b * 9) + 4)))) / 100) + ((((P 5) b) * e) / 100)) (c (q + 2)) (by omega) ?_
  rw [f_Cycle_runPid_194] at hk
  exact hk
def f_Cycle_runPid_184 (P : Nat → Nat → Int32) (b : Nat) (c : Nat → Int32) (m : Int32) (e : Int32) (al : Int32) (q : Nat) (bg : Int32) : Nat → Int32 :=
  if al = 0 then if bg = 0 then f_Cycle_runPid_293 P b c m e q bg else f_Cycle_runPid_194 P b c m e q bg else f_Cycle_runPid_194 P b c m e q bg
set_option maxRecDepth 4000 in
theorem w_Cycle_runPid_184 {g : GG} {Q : QT} {h : Hp} {kc ks : Nat} (hst : (gl g).stackTraces = false) {p s : Nat} {ad : Nat → Nat} {P : Nat → Nat → Int32} (hP : ∀ e, PlanAt g p ad P (va_up h s e)) (hw : wfP P) (b : Nat) (hb : b < 10)  (c : Nat → Int32) (m : Int32) (e : Int32) (al : Int32) (q : Nat) (bg : Int32) (hq : q + 4 < 215) (hk : Q (.inl none) (va_up h s (some (aI g 225 (f_Cycle_runPid_184 P b c m e al q bg))))) : PW g M_Cycle_runPid 2 kc ks Q 184 [.ref (p), .ref (s), .int (nI (b)), .int (nI (b * 9)), .int (m), .int (e), .int (al), .int (nI (q)), .int (bg), .retAddr 0, .retAddr 0, .retAddr 0, .retAddr 0] [] (va_up h s (some (aI g 225 (c)))) := by
  refine pw_iload e_Cycle_runPid_184 rfl ?_
  refine pw_if_ne (tgt := 194) e_Cycle_runPid_186 (by decide) (fun (H1 : ¬ al = 0) => ?_) (fun (H1 : al = 0) => ?_)
  · refine pw_fgt (ls' := [.ref (p), .ref (s), .int (nI (b)), .int (nI (b * 9)), .int (m), .int (e), .retAddr 0, .int (nI (q)), .int (bg), .retAddr 0, .retAddr 0, .retAddr 0, .retAddr 0]) ⟨Or.inr rfl, Or.inr rfl, Or.inr rfl, Or.inr rfl, Or.inr rfl, Or.inr rfl, Or.inl rfl, Or.inr rfl, Or.inr rfl, Or.inr rfl, Or.inr rfl, Or.inr rfl, Or.inr rfl, trivial⟩ ?_
    refine w_Cycle_runPid_194 hst hP hw b hb c m e q bg (by omega) ?_
    rw [f_Cycle_runPid_184, if_neg H1] at hk
    exact hk
  · refine pw_iload e_Cycle_runPid_189 rfl ?_
    refine pw_if_eq (tgt := 293) e_Cycle_runPid_191 (by decide) (fun (H2 : bg = 0) => ?_) (fun (H2 : ¬ bg = 0) => ?_)
    · refine pw_fgt (ls' := [.ref (p), .ref (s), .int (nI (b)), .int (nI (b * 9)), .int (m), .int (e), .retAddr 0, .int (nI (q)), .int (bg), .retAddr 0, .retAddr 0, .retAddr 0, .retAddr 0]) ⟨Or.inr rfl, Or.inr rfl, Or.inr rfl, Or.inr rfl, Or.inr rfl, Or.inr rfl, Or.inl rfl, Or.inr rfl, Or.inr rfl, Or.inr rfl, Or.inr rfl, Or.inr rfl, Or.inr rfl, trivial⟩ ?_
      refine w_Cycle_runPid_293 hst hP hw b hb c m e q bg (by omega) ?_
      rw [f_Cycle_runPid_184, if_pos H1, if_pos H2] at hk
      exact hk
    · refine pw_fgt (ls' := [.ref (p), .ref (s), .int (nI (b)), .int (nI (b * 9)), .int (m), .int (e), .retAddr 0, .int (nI (q)), .int (bg), .retAddr 0, .retAddr 0, .retAddr 0, .retAddr 0]) ⟨Or.inr rfl, Or.inr rfl, Or.inr rfl, Or.inr rfl, Or.inr rfl, Or.inr rfl, Or.inl rfl, Or.inr rfl, Or.inr rfl, Or.inr rfl, Or.inr rfl, Or.inr rfl, Or.inr rfl, trivial⟩ ?_
      refine w_Cycle_runPid_194 hst hP hw b hb c m e q bg (by omega) ?_
      rw [f_Cycle_runPid_184, if_pos H1, if_neg H2] at hk
      exact hk
def f_Cycle_runPid_153 (P : Nat → Nat → Int32) (b : Nat) (c : Nat → Int32) (m : Int32) (e : Int32) (al : Int32) (q : Nat) (bg : Int32) (fo : Int32) : Nat → Int32 :=
  if fo = 0 then if m = 2 then f_Cycle_runPid_184 P b c m e al q bg else if m = 3 then f_Cycle_runPid_184 P b c m e al q bg else f_Cycle_runPid_293 P b c m e q bg else f_Cycle_runPid_293 P b (upd c ((b * 9) + 3) (c (q + 0))) m e q bg
set_option maxRecDepth 4000 in
theorem w_Cycle_runPid_153 {g : GG} {Q : QT} {h : Hp} {kc ks : Nat} (hst : (gl g).stackTraces = false) {p s : Nat} {ad : Nat → Nat} {P : Nat → Nat → Int32} (hP : ∀ e, PlanAt g p ad P (va_up h s e)) (hw : wfP P) (b : Nat) (hb : b < 10)  (c : Nat → Int32) (m : Int32) (e : Int32) (al : Int32) (q : Nat) (bg : Int32) (fo : Int32) (hq : q + 4 < 215) (hk : Q (.inl none) (va_up h s (some (aI g 225 (f_Cycle_runPid_153 P b c m e al q bg fo))))) : PW g M_Cycle_runPid 2 kc ks Q 153 [.ref (p), .ref (s), .int (nI (b)), .int (nI (b * 9)), .int (m), .int (e), .int (al), .int (nI (q)), .int (bg), .int (fo), .retAddr 0, .retAddr 0, .retAddr 0] [] (va_up h s (some (aI g 225 (c)))) := by
  refine pw_iload e_Cycle_runPid_153 rfl ?_
  refine pw_if_eq (tgt := 172) e_Cycle_runPid_155 (by decide) (fun (H1 : fo = 0) => ?_) (fun (H1 : ¬ fo = 0) => ?_)
  · refine pw_iload e_Cycle_runPid_172 rfl ?_
    refine pw_iconst (v := nI 2) e_Cycle_runPid_174 (by decide) ?_
    refine pw_icmp_eq (tgt := 184) e_Cycle_runPid_175 (by decide) (fun (H2 : m = 2) => ?_) (fun (H2 : ¬ m = 2) => ?_)
    · refine pw_fgt (ls' := [.ref (p), .ref (s), .int (nI (b)), .int (nI (b * 9)), .int (m), .int (e), .int (al), .int (nI (q)), .int (bg), .retAddr 0, .retAddr 0, .retAddr 0, .retAddr 0]) ⟨Or.inr rfl, Or.inr rfl, Or.inr rfl, Or.inr rfl, Or.inr rfl, Or.inr rfl, Or.inr rfl, Or.inr rfl, Or.inr rfl, Or.inl rfl, Or.inr rfl, Or.inr rfl, Or.inr rfl, trivial⟩ ?_
      refine w_Cycle_runPid_184 hst hP hw b hb c m e al q bg (by omega) ?_
      rw [f_Cycle_runPid_153, if_pos H1, if_pos H2] at hk
      exact hk
    · refine pw_iload e_Cycle_runPid_178 rfl ?_
      refine pw_iconst (v := nI 3) e_Cycle_runPid_180 (by decide) ?_
      refine pw_icmp_ne (tgt := 293) e_Cycle_runPid_181 (by decide) (fun (H3 : ¬ m = 3) => ?_) (fun (H3 : m = 3) => ?_)
      · refine pw_fgt (ls' := [.ref (p), .ref (s), .int (nI (b)), .int (nI (b * 9)), .int (m), .int (e), .retAddr 0, .int (nI (q)), .int (bg), .retAddr 0, .retAddr 0, .retAddr 0, .retAddr 0]) ⟨Or.inr rfl, Or.inr rfl, Or.inr rfl, Or.inr rfl, Or.inr rfl, Or.inr rfl, Or.inl rfl, Or.inr rfl, Or.inr rfl, Or.inl rfl, Or.inr rfl, Or.inr rfl, Or.inr rfl, trivial⟩ ?_
        refine w_Cycle_runPid_293 hst hP hw b hb c m e q bg (by omega) ?_
        rw [f_Cycle_runPid_153, if_pos H1, if_neg H2, if_neg H3] at hk
        exact hk
      · refine pw_fgt (ls' := [.ref (p), .ref (s), .int (nI (b)), .int (nI (b * 9)), .int (m), .int (e), .int (al), .int (nI (q)), .int (bg), .retAddr 0, .retAddr 0, .retAddr 0, .retAddr 0]) ⟨Or.inr rfl, Or.inr rfl, Or.inr rfl, Or.inr rfl, Or.inr rfl, Or.inr rfl, Or.inr rfl, Or.inr rfl, Or.inr rfl, Or.inl rfl, Or.inr rfl, Or.inr rfl, Or.inr rfl, trivial⟩ ?_
        refine w_Cycle_runPid_184 hst hP hw b hb c m e al q bg (by omega) ?_
        rw [f_Cycle_runPid_153, if_pos H1, if_neg H2, if_pos H3] at hk
        exact hk
  · refine pw_aload_n e_Cycle_runPid_158 rfl ?_
    refine pw_iload_n e_Cycle_runPid_159 rfl ?_
    refine pw_iconst (v := nI 3) e_Cycle_runPid_160 (by decide) ?_
    refine pw_iaddN e_Cycle_runPid_161 ?_
    refine pw_aload_n e_Cycle_runPid_162 rfl ?_
    refine pw_iload e_Cycle_runPid_163 rfl ?_
    refine pw_iconst (v := nI 0) e_Cycle_runPid_165 (by decide) ?_
    refine pw_iaddN e_Cycle_runPid_166 ?_
    refine pw_ialdN e_Cycle_runPid_167 up_same (by omega) (by decide) ?_
    refine pw_iastU e_Cycle_runPid_168 (by omega) (by decide) ?_
    refine pw_goto (tgt := 293) e_Cycle_runPid_169 (by decide) ?_
    refine pw_fgt (ls' := [.ref (p), .ref (s), .int (nI (b)), .int (nI (b * 9)), .int (m), .int (e), .retAddr 0, .int (nI (q)), .int (bg), .retAddr 0, .retAddr 0, .retAddr 0, .retAddr 0]) ⟨Or.inr rfl, Or.inr rfl, Or.inr rfl, Or.inr rfl, Or.inr rfl, Or.inr rfl, Or.inl rfl, Or.inr rfl, Or.inr rfl, Or.inl rfl, Or.inr rfl, Or.inr rfl, Or.inr rfl, trivial⟩ ?_
    refine w_Cycle_runPid_293 hst hP hw b hb (upd c ((b * 9) + 3) (c (q + 0))) m e q bg (by omega) ?_
    rw [f_Cycle_runPid_153, if_neg H1] at hk
    exact hk
def f_Cycle_runPid_137 (P : Nat → Nat → Int32) (b : Nat) (c : Nat → Int32) (m : Int32) (e : Int32) (al : Int32) (q : Nat) (bg : Int32) (fo : Int32) : Nat → Int32 :=
  if fo = 0 then f_Cycle_runPid_153 P b (upd c ((b * 9) + 7) 0) m e al q bg fo else f_Cycle_runPid_153 P b (upd c ((b * 9) + 7) 1) m e al q bg fo
set_option maxRecDepth 4000 in
theorem w_Cycle_runPid_137 {g : GG} {Q : QT} {h : Hp} {kc ks : Nat} (hst : (gl g).stackTraces = false) {p s : Nat} {ad : Nat → Nat} {P : Nat → Nat → Int32} (hP : ∀ e, PlanAt g p ad P (va_up h s e)) (hw : wfP P) (b : Nat) (hb : b < 10)  (c : Nat → Int32) (m : Int32) (e : Int32) (al : Int32) (q : Nat) (bg : Int32) (fo : Int32) (hq : q + 4 < 215) (hk : Q (.inl none) (va_up h s (some (aI g 225 (f_Cycle_runPid_137 P b c m e al q bg fo))))) : PW g M_Cycle_runPid 2 kc ks Q 137 [.ref (p), .ref (s), .int (nI (b)), .int (nI (b * 9)), .int (m), .int (e), .int (al), .int (nI (q)), .int (bg), .int (fo), .retAddr 0, .retAddr 0, .retAddr 0] [] (va_up h s (some (aI g 225 (c)))) := by
  refine pw_aload_n e_Cycle_runPid_137 rfl ?_
  refine pw_iload_n e_Cycle_runPid_138 rfl ?_
  refine pw_bipush (v := nI 7) e_Cycle_runPid_139 (by decide) ?_
  refine pw_iaddN e_Cycle_runPid_141 ?_
  refine pw_iload e_Cycle_runPid_142 rfl ?_
  refine pw_if_eq (tgt := 151) e_Cycle_runPid_144 (by decide) (fun (H1 : fo = 0) => ?_) (fun (H1 : ¬ fo = 0) => ?_)
  · refine pw_iconst (v := nI 0) e_Cycle_runPid_151 (by decide) ?_
    refine pw_iastU e_Cycle_runPid_152 (by omega) (by decide) ?_
    refine w_Cycle_runPid_153 hst hP hw b hb (upd c ((b * 9) + 7) 0) m e al q bg fo (by omega) ?_
    rw [f_Cycle_runPid_137, if_pos H1] at hk
    exact hk
  · refine pw_iconst (v := nI 1) e_Cycle_runPid_147 (by decide) ?_
    refine pw_goto (tgt := 152) e_Cycle_runPid_148 (by decide) ?_
    refine pw_iastU e_Cycle_runPid_152 (by omega) (by decide) ?_
    refine w_Cycle_runPid_153 hst hP hw b hb (upd c ((b * 9) + 7) 1) m e al q bg fo (by omega) ?_
    rw [f_Cycle_runPid_137, if_neg H1] at hk
    exact hk
def f_Cycle_runPid_110 (P : Nat → Nat → Int32) (b : Nat) (c : Nat → Int32) (m : Int32) (e : Int32) (al : Int32) (q : Nat) (bg : Int32) : Nat → Int32 :=
  if bg = 0 then f_Cycle_runPid_137 P b c m e al q bg 0 else if (c (q + 3)) = 1 then if m = 0 then f_Cycle_runPid_137 P b c m e al q bg 0 else f_Cycle_runPid_137 P b c m e al q bg 1 else f_Cycle_runPid_137 P b c m e al q bg 0
set_option maxRecDepth 4000 in
theorem w_Cycle_runPid_110 {g : GG} {Q : QT} {h : Hp} {kc ks : Nat} (hst : (gl g).stackTraces = false) {p s : Nat} {ad : Nat → Nat} {P : Nat → Nat → Int32} (hP : ∀ e, PlanAt g p ad P (va_up h s e)) (hw : wfP P) (b : Nat) (hb : b < 10)  (c : Nat → Int32) (m : Int32) (e : Int32) (al : Int32) (q : Nat) (bg : Int32) (hq : q + 4 < 215) (hk : Q (.inl none) (va_up h s (some (aI g 225 (f_Cycle_runPid_110 P b c m e al q bg))))) : PW g M_Cycle_runPid 2 kc ks Q 110 [.ref (p), .ref (s), .int (nI (b)), .int (nI (b * 9)), .int (m), .int (e), .int (al), .int (nI (q)), .int (bg), .retAddr 0, .retAddr 0, .retAddr 0, .retAddr 0] [] (va_up h s (some (aI g 225 (c)))) := by
  refine pw_iload e_Cycle_runPid_110 rfl ?_
  refine pw_if_eq (tgt := 134) e_Cycle_runPid_112 (by decide) (fun (H1 : bg = 0) => ?_) (fun (H1 : ¬ bg = 0) => ?_)
  · refine pw_iconst (v := nI 0) e_Cycle_runPid_134 (by decide) ?_
    refine pw_istore (ls2 := [_, _, _, _, _, _, _, _, _, _, _, _, _]) e_Cycle_runPid_135 (by decide) rfl ?_
    refine w_Cycle_runPid_137 hst hP hw b hb c m e al q bg 0 (by omega) ?_
    rw [f_Cycle_runPid_110, if_pos H1] at hk
    exact hk
  · refine pw_aload_n e_Cycle_runPid_115 rfl ?_
    refine pw_iload e_Cycle_runPid_116 rfl ?_
    refine pw_iconst (v := nI 3) e_Cycle_runPid_118 (by decide) ?_
    refine pw_iaddN e_Cycle_runPid_119 ?_
    refine pw_ialdN e_Cycle_runPid_120 up_same (by omega) (by decide) ?_
    refine pw_iconst (v := nI 1) e_Cycle_runPid_121 (by decide) ?_
    refine pw_icmp_ne (tgt := 134) e_Cycle_runPid_122 (by decide) (fun (H2 : ¬ (c (q + 3)) = 1) => ?_) (fun (H2 : (c (q + 3)) = 1) => ?_)
    · refine pw_iconst (v := nI 0) e_Cycle_runPid_134 (by decide) ?_
      refine pw_istore (ls2 := [_, _, _, _, _, _, _, _, _, _, _, _, _]) e_Cycle_runPid_135 (by decide) rfl ?_
      refine w_Cycle_runPid_137 hst hP hw b hb c m e al q bg 0 (by omega) ?_
      rw [f_Cycle_runPid_110, if_neg H1, if_neg H2] at hk
      exact hk
    · refine pw_iload e_Cycle_runPid_125 rfl ?_
      refine pw_if_eq (tgt := 134) e_Cycle_runPid_127 (by decide) (fun (H3 : m = 0) => ?_) (fun (H3 : ¬ m = 0) => ?_)
      · refine pw_iconst (v := nI 0) e_Cycle_runPid_134 (by decide) ?_
        refine pw_istore (ls2 := [_, _, _, _, _, _, _, _, _, _, _, _, _]) e_Cycle_runPid_135 (by decide) rfl ?_
        refine w_Cycle_runPid_137 hst hP hw b hb c m e al q bg 0 (by omega) ?_
        rw [f_Cycle_runPid_110, if_neg H1, if_pos H2, if_pos H3] at hk
        exact hk
      · refine pw_iconst (v := nI 1) e_Cycle_runPid_130 (by decide) ?_
        refine pw_goto (tgt := 135) e_Cycle_runPid_131 (by decide) ?_
        refine pw_istore (ls2 := [_, _, _, _, _, _, _, _, _, _, _, _, _]) e_Cycle_runPid_135 (by decide) rfl ?_
        refine w_Cycle_runPid_137 hst hP hw b hb c m e al q bg 1 (by omega) ?_
        rw [f_Cycle_runPid_110, if_neg H1, if_pos H2, if_neg H3] at hk
        exact hk
def f_Cycle_runPid_93 (P : Nat → Nat → Int32) (b : Nat) (c : Nat → Int32) (m : Int32) (e : Int32) (al : Int32) (q : Nat) : Nat → Int32 :=
  if (c (q + 1)) = 1 then f_Cycle_runPid_110 P b c m e al q 1 else f_Cycle_runPid_110 P b c m e al q 0
set_option maxRecDepth 4000 in
theorem w_Cycle_runPid_93 {g : GG} {Q : QT} {h : Hp} {kc ks : Nat} (hst : (gl g).stackTraces = false) {p s : Nat} {ad : Nat → Nat} {P : Nat → Nat → Int32} (hP : ∀ e, PlanAt g p ad P (va_up h s e)) (hw : wfP P) (b : Nat) (hb : b < 10)  (c : Nat → Int32) (m : Int32) (e : Int32) (al : Int32) (q : Nat) (hq : q + 4 < 215) (hk : Q (.inl none) (va_up h s (some (aI g 225 (f_Cycle_runPid_93 P b c m e al q))))) : PW g M_Cycle_runPid 2 kc ks Q 93 [.ref (p), .ref (s), .int (nI (b)), .int (nI (b * 9)), .int (m), .int (e), .int (al), .int (nI (q)), .retAddr 0, .retAddr 0, .retAddr 0, .retAddr 0, .retAddr 0] [] (va_up h s (some (aI g 225 (c)))) := by
  refine pw_aload_n e_Cycle_runPid_93 rfl ?_
  refine pw_iload e_Cycle_runPid_94 rfl ?_
  refine pw_iconst (v := nI 1) e_Cycle_runPid_96 (by decide) ?_
  refine pw_iaddN e_Cycle_runPid_97 ?_
  refine pw_ialdN e_Cycle_runPid_98 up_same (by omega) (by decide) ?_
  refine pw_iconst (v := nI 1) e_Cycle_runPid_99 (by decide) ?_
  refine pw_icmp_ne (tgt := 107) e_Cycle_runPid_100 (by decide) (fun (H1 : ¬ (c (q + 1)) = 1) => ?_) (fun (H1 : (c (q + 1)) = 1) => ?_)
  · refine pw_iconst (v := nI 0) e_Cycle_runPid_107 (by decide) ?_
    refine pw_istore (ls2 := [_, _, _, _, _, _, _, _, _, _, _, _, _]) e_Cycle_runPid_108 (by decide) rfl ?_
    refine w_Cycle_runPid_110 hst hP hw b hb c m e al q 0 (by omega) ?_
    rw [f_Cycle_runPid_93, if_neg H1] at hk
    exact hk
  · refine pw_iconst (v := nI 1) e_Cycle_runPid_103 (by decide) ?_
    refine pw_goto (tgt := 108) e_Cycle_runPid_104 (by decide) ?_
    refine pw_istore (ls2 := [_, _, _, _, _, _, _, _, _, _, _, _, _]) e_Cycle_runPid_108 (by decide) rfl ?_
    refine w_Cycle_runPid_110 hst hP hw b hb c m e al q 1 (by omega) ?_
    rw [f_Cycle_runPid_93, if_pos H1] at hk
    exact hk
def f_Cycle_runPid_51 (P : Nat → Nat → Int32) (b : Nat) (c : Nat → Int32) (m : Int32) (e : Int32) : Nat → Int32 :=
  if ((P 11) b) = ((-1)) then f_Cycle_runPid_93 P b c m e 1 150 else f_Cycle_runPid_93 P b c m e 0 (155 + ((pN P 11 b) * 5))
set_option maxRecDepth 4000 in
theorem w_Cycle_runPid_51 {g : GG} {Q : QT} {h : Hp} {kc ks : Nat} (hst : (gl g).stackTraces = false) {p s : Nat} {ad : Nat → Nat} {P : Nat → Nat → Int32} (hP : ∀ e, PlanAt g p ad P (va_up h s e)) (hw : wfP P) (b : Nat) (hb : b < 10)  (c : Nat → Int32) (m : Int32) (e : Int32) (hk : Q (.inl none) (va_up h s (some (aI g 225 (f_Cycle_runPid_51 P b c m e))))) : PW g M_Cycle_runPid 2 kc ks Q 51 [.ref (p), .ref (s), .int (nI (b)), .int (nI (b * 9)), .int (m), .int (e), .retAddr 0, .retAddr 0, .retAddr 0, .retAddr 0, .retAddr 0, .retAddr 0, .retAddr 0] [] (va_up h s (some (aI g 225 (c)))) := by
  refine pw_aload_n e_Cycle_runPid_51 rfl ?_
  refine pw_getf e_Cycle_runPid_52 fl_Cycle_158 (hP _).o rfl ?_
  refine pw_iload_n e_Cycle_runPid_55 rfl ?_
  refine pw_ialdN e_Cycle_runPid_56 (hP _).a11 (by omega) (by decide) ?_
  refine pw_iconst (v := (-1)) e_Cycle_runPid_57 (by decide) ?_
  refine pw_icmp_ne (tgt := 65) e_Cycle_runPid_58 (by decide) (fun (H1 : ¬ ((P 11) b) = ((-1))) => ?_) (fun (H1 : ((P 11) b) = ((-1))) => ?_)
  · refine pw_iconst (v := nI 0) e_Cycle_runPid_65 (by decide) ?_
    refine pw_istore (ls2 := [_, _, _, _, _, _, _, _, _, _, _, _, _]) e_Cycle_runPid_66 (by decide) rfl ?_
    refine pw_iload e_Cycle_runPid_68 rfl ?_
    refine pw_if_eq (tgt := 79) e_Cycle_runPid_70 (by decide) (fun (H2 : 0 = 0) => ?_) (fun (H2 : ¬ 0 = 0) => ?_)
    · refine pw_sipush (v := nI 155) e_Cycle_runPid_79 (by decide) ?_
      refine pw_aload_n e_Cycle_runPid_82 rfl ?_
      refine pw_getf e_Cycle_runPid_83 fl_Cycle_158 (hP _).o rfl ?_
      refine pw_iload_n e_Cycle_runPid_86 rfl ?_
      refine pw_ialdN e_Cycle_runPid_87 (hP _).a11 (by omega) (by decide) ?_
      have hb9 := (hw.sfr b).resolve_left H1
      rw [hb9.1]
      replace hb9 := hb9.2
      refine pw_iconst (v := nI 5) e_Cycle_runPid_88 (by decide) ?_
      refine pw_imulN e_Cycle_runPid_89 ?_
      refine pw_iaddN e_Cycle_runPid_90 ?_
      refine pw_istore (ls2 := [_, _, _, _, _, _, _, _, _, _, _, _, _]) e_Cycle_runPid_91 (by decide) rfl ?_
      refine w_Cycle_runPid_93 hst hP hw b hb c m e 0 (155 + ((pN P 11 b) * 5)) (by omega) ?_
      rw [f_Cycle_runPid_51, if_neg H1] at hk
      exact hk
    · exact absurd H2 (by decide)
  · refine pw_iconst (v := nI 1) e_Cycle_runPid_61 (by decide) ?_
    refine pw_goto (tgt := 66) e_Cycle_runPid_62 (by decide) ?_
    refine pw_istore (ls2 := [_, _, _, _, _, _, _, _, _, _, _, _, _]) e_Cycle_runPid_66 (by decide) rfl ?_
    refine pw_iload e_Cycle_runPid_68 rfl ?_
    refine pw_if_eq (tgt := 79) e_Cycle_runPid_70 (by decide) (fun (H3 : 1 = 0) => ?_) (fun (H3 : ¬ 1 = 0) => ?_)
    · exact absurd H3 (by decide)
    · refine pw_sipush (v := nI 150) e_Cycle_runPid_73 (by decide) ?_
      refine pw_goto (tgt := 91) e_Cycle_runPid_76 (by decide) ?_
      refine pw_istore (ls2 := [_, _, _, _, _, _, _, _, _, _, _, _, _]) e_Cycle_runPid_91 (by decide) rfl ?_
      refine w_Cycle_runPid_93 hst hP hw b hb c m e 1 150 (by omega) ?_
      rw [f_Cycle_runPid_51, if_pos H1] at hk
      exact hk
def f_Cycle_runPid_33 (P : Nat → Nat → Int32) (b : Nat) (c : Nat → Int32) (m : Int32) : Nat → Int32 :=
  f_Cycle_runPid_51 P b c m ((c ((b * 9) + 2)) - (c ((came P b 0) + 0)))
set_option maxRecDepth 4000 in
theorem w_Cycle_runPid_33 {g : GG} {Q : QT} {h : Hp} {kc ks : Nat} (hst : (gl g).stackTraces = false) {p s : Nat} {ad : Nat → Nat} {P : Nat → Nat → Int32} (hP : ∀ e, PlanAt g p ad P (va_up h s e)) (hw : wfP P) (b : Nat) (hb : b < 10)  (c : Nat → Int32) (m : Int32) (hk : Q (.inl none) (va_up h s (some (aI g 225 (f_Cycle_runPid_33 P b c m))))) : PW g M_Cycle_runPid 2 kc ks Q 33 [.ref (p), .ref (s), .int (nI (b)), .int (nI (b * 9)), .int (m), .retAddr 0, .retAddr 0, .retAddr 0, .retAddr 0, .retAddr 0, .retAddr 0, .retAddr 0, .retAddr 0] [] (va_up h s (some (aI g 225 (c)))) := by
  refine pw_aload_n e_Cycle_runPid_33 rfl ?_
  refine pw_iload_n e_Cycle_runPid_34 rfl ?_
  refine pw_iconst (v := nI 2) e_Cycle_runPid_35 (by decide) ?_
  refine pw_iaddN e_Cycle_runPid_36 ?_
  refine pw_ialdN e_Cycle_runPid_37 up_same (by omega) (by decide) ?_
  refine pw_aload_n e_Cycle_runPid_38 rfl ?_
  refine pw_aload_n e_Cycle_runPid_39 rfl ?_
  refine pw_iload_n e_Cycle_runPid_40 rfl ?_
  refine pw_iconst (v := nI 0) e_Cycle_runPid_41 (by decide) ?_
  have hb_100 := came_lt hw b 0
  refine pw_detV (As := [.int (nI (b)), .int (nI (0))]) e_Cycle_runPid_42 li_Cycle_128 rfl (hP _).o (q_came hst (hP _) hw b 0 (by omega) (by omega)) rfl (by decide) (Nat.le_of_ble_eq_true rfl) rfl ?_
  refine pw_iconst (v := nI 0) e_Cycle_runPid_45 (by decide) ?_
  refine pw_iaddN e_Cycle_runPid_46 ?_
  refine pw_ialdN e_Cycle_runPid_47 up_same (by omega) (by decide) ?_
  refine pw_isub e_Cycle_runPid_48 ?_
  refine pw_istore (ls2 := [_, _, _, _, _, _, _, _, _, _, _, _, _]) e_Cycle_runPid_49 (by decide) rfl ?_
  refine w_Cycle_runPid_51 hst hP hw b hb c m ((c ((b * 9) + 2)) - (c ((came P b 0) + 0))) ?_
  rw [f_Cycle_runPid_33] at hk
  exact hk
def f_Cycle_runPid (P : Nat → Nat → Int32) (b : Nat) (c : Nat → Int32) : Nat → Int32 :=
  if (c ((b * 9) + 1)) = 3 then f_Cycle_runPid_33 P b (upd c ((b * 9) + 2) (c ((came P b 2) + 0))) (c ((b * 9) + 1)) else f_Cycle_runPid_33 P b c (c ((b * 9) + 1))
set_option maxRecDepth 4000 in
theorem w_Cycle_runPid_0 {g : GG} {Q : QT} {h : Hp} {kc ks : Nat} (hst : (gl g).stackTraces = false) {p s : Nat} {ad : Nat → Nat} {P : Nat → Nat → Int32} (hP : ∀ e, PlanAt g p ad P (va_up h s e)) (hw : wfP P) (b : Nat) (hb : b < 10)  (c : Nat → Int32) (hk : Q (.inl none) (va_up h s (some (aI g 225 (f_Cycle_runPid P b c))))) : PW g M_Cycle_runPid 2 kc ks Q 0 [.ref (p), .ref (s), .int (nI (b)), .retAddr 0, .retAddr 0, .retAddr 0, .retAddr 0, .retAddr 0, .retAddr 0, .retAddr 0, .retAddr 0, .retAddr 0, .retAddr 0] [] (va_up h s (some (aI g 225 (c)))) := by
  refine pw_iload_n e_Cycle_runPid_0 rfl ?_
  refine pw_bipush (v := nI 9) e_Cycle_runPid_1 (by decide) ?_
  refine pw_imulN e_Cycle_runPid_3 ?_
  refine pw_istore_n (ls2 := [_, _, _, _, _, _, _, _, _, _, _, _, _]) e_Cycle_runPid_4 (by decide) rfl ?_
  refine pw_aload_n e_Cycle_runPid_5 rfl ?_
  refine pw_iload_n e_Cycle_runPid_6 rfl ?_
  refine pw_iconst (v := nI 1) e_Cycle_runPid_7 (by decide) ?_
  refine pw_iaddN e_Cycle_runPid_8 ?_
  refine pw_ialdN e_Cycle_runPid_9 up_same (by omega) (by decide) ?_
  refine pw_istore (ls2 := [_, _, _, _, _, _, _, _, _, _, _, _, _]) e_Cycle_runPid_10 (by decide) rfl ?_
  refine pw_iload e_Cycle_runPid_12 rfl ?_
  refine pw_iconst (v := nI 3) e_Cycle_runPid_14 (by decide) ?_
  refine pw_icmp_ne (tgt := 33) e_Cycle_runPid_15 (by decide) (fun (H1 : ¬ (c ((b * 9) + 1)) = 3) => ?_) (fun (H1 : (c ((b * 9) + 1)) = 3) => ?_)
  · refine w_Cycle_runPid_33 hst hP hw b hb c (c ((b * 9) + 1)) ?_
    rw [f_Cycle_runPid, if_neg H1] at hk
    exact hk
  · refine pw_aload_n e_Cycle_runPid_18 rfl ?_
    refine pw_iload_n e_Cycle_runPid_19 rfl ?_
    refine pw_iconst (v := nI 2) e_Cycle_runPid_20 (by decide) ?_
    refine pw_iaddN e_Cycle_runPid_21 ?_
    refine pw_aload_n e_Cycle_runPid_22 rfl ?_
    refine pw_aload_n e_Cycle_runPid_23 rfl ?_
    refine pw_iload_n e_Cycle_runPid_24 rfl ?_
    refine pw_iconst (v := nI 2) e_Cycle_runPid_25 (by decide) ?_
    have hb_101 := came_lt hw b 2
    refine pw_detV (As := [.int (nI (b)), .int (nI (2))]) e_Cycle_runPid_26 li_Cycle_128 rfl (hP _).o (q_came hst (hP _) hw b 2 (by omega) (by omega)) rfl (by decide) (Nat.le_of_ble_eq_true rfl) rfl ?_
    refine pw_iconst (v := nI 0) e_Cycle_runPid_29 (by decide) ?_
    refine pw_iaddN e_Cycle_runPid_30 ?_
    refine pw_ialdN e_Cycle_runPid_31 up_same (by omega) (by decide) ?_
    refine pw_iastU e_Cycle_runPid_32 (by omega) (by decide) ?_
    refine w_Cycle_runPid_33 hst hP hw b hb (upd c ((b * 9) + 2) (c ((came P b 2) + 0))) (c ((b * 9) + 1)) ?_
    rw [f_Cycle_runPid, if_pos H1] at hk
    exact hk
theorem q_Cycle_runPid {g : GG} {h : Hp} (hst : (gl g).stackTraces = false) {p s : Nat} {ad : Nat → Nat} {P : Nat → Nat → Int32} (hP : ∀ e, PlanAt g p ad P (va_up h s e)) (hw : wfP P) (b : Nat) (hb : b < 10)  (c : Nat → Int32) (hm : h s = some (aI g 225 c)) : PM g M_Cycle_runPid 2 0 0 [.ref (p), .ref (s), .int (nI (b))] h (RetV none (va_up h s (some (aI g 225 (f_Cycle_runPid P b c))))) := by
  refine PM.of hst (by decide) rfl (fun v hv => ?_) (Nat.le_of_ble_eq_true rfl) ?_
  · simp only [List.mem_cons, List.not_mem_nil, or_false] at hv; rcases hv with rfl | rfl | rfl <;> rfl
  · have hq := w_Cycle_runPid_0 (g := g) (Q := RetV none (va_up h s (some (aI g 225 (f_Cycle_runPid P b c))))) (h := h) (kc := 0) (ks := 0) (s := s) hst hP hw b hb c ?_
    · rw [up_self hm] at hq; exact hq
    · exact ⟨rfl, rfl⟩

def f_Cycle_runBlock_16 (P : Nat → Nat → Int32) (b : Nat) (c : Nat → Int32) : Nat → Int32 :=
  if (pN P 0 b) = 0 then f_Cycle_runInput (b * 9) (pN P 3 b) c else if (pN P 0 b) = 1 then f_Cycle_runPid P b c else if (pN P 0 b) = 2 then f_Cycle_runOutput (b * 9) (came P b 2) ((P 6) b) c else f_Cycle_runPick P b c
set_option maxRecDepth 4000 in
theorem w_Cycle_runBlock_16 {g : GG} {Q : QT} {h : Hp} {kc ks : Nat} (hst : (gl g).stackTraces = false) {p s : Nat} {ad : Nat → Nat} {P : Nat → Nat → Int32} (hP : ∀ e, PlanAt g p ad P (va_up h s e)) (hw : wfP P) (b : Nat) (hb : b < 10) (hbb : b < pN P 30 3)  (c : Nat → Int32) (hk : Q (.inl none) (va_up h s (some (aI g 225 (f_Cycle_runBlock_16 P b c))))) : PW g M_Cycle_runBlock 3 kc ks Q 16 [.ref (p), .ref (s), .int (nI (b)), .int (nI (b * 9))] [] (va_up h s (some (aI g 225 (c)))) := by
  refine pw_aload_n e_Cycle_runBlock_16 rfl ?_
  refine pw_getf e_Cycle_runBlock_17 fl_Cycle_89 (hP _).o rfl ?_
  refine pw_iload_n e_Cycle_runBlock_20 rfl ?_
  have hb1 := hw.kind b
  refine pw_ialdC e_Cycle_runBlock_21 (hP _).a0 (by omega) (by decide) hb1.1 ?_
  replace hb1 := hb1.2
  by_cases H2 : (pN P 0 b) = 0
  · refine pw_tableIn (tgt := 48) e_Cycle_runBlock_22 (by rw [nI_toInt (by omega)]; omega) (by rw [nI_toInt (by omega)]; omega) (by rw [nI_toInt (by omega), H2]; rfl) (by decide) ?_
    refine pw_aload_n e_Cycle_runBlock_48 rfl ?_
    refine pw_iload_n e_Cycle_runBlock_49 rfl ?_
    refine pw_aload_n e_Cycle_runBlock_50 rfl ?_
    refine pw_getf e_Cycle_runBlock_51 fl_Cycle_92 (hP _).o rfl ?_
    refine pw_iload_n e_Cycle_runBlock_54 rfl ?_
    refine pw_ialdN e_Cycle_runBlock_55 (hP _).a3 (by omega) (by decide) ?_
    have hb8 := hw.port b hbb H2
    rw [hb8.1]
    replace hb8 := hb8.2
    refine pw_detS (As := [.ref (s), .int (nI (b * 9)), .int (nI (pN P 3 b))]) e_Cycle_runBlock_56 li_Cycle_121 (q_Cycle_runInput hst (b * 9) (pN P 3 b) (by omega) (by omega) c up_same) rfl (by decide) (Nat.le_of_ble_eq_true rfl) rfl ?_
    rw [up_up]
    refine pw_goto (tgt := 97) e_Cycle_runBlock_59 (by decide) ?_
    refine pw_vret e_Cycle_runBlock_97 rfl ?_
    rw [f_Cycle_runBlock_16, if_pos H2] at hk
    exact hk
  · by_cases H3 : (pN P 0 b) = 1
    · refine pw_tableIn (tgt := 62) e_Cycle_runBlock_22 (by rw [nI_toInt (by omega)]; omega) (by rw [nI_toInt (by omega)]; omega) (by rw [nI_toInt (by omega), H3]; rfl) (by decide) ?_
      refine pw_aload_n e_Cycle_runBlock_62 rfl ?_
      refine pw_aload_n e_Cycle_runBlock_63 rfl ?_
      refine pw_iload_n e_Cycle_runBlock_64 rfl ?_
      refine pw_detS (As := [.ref (p), .ref (s), .int (nI (b))]) e_Cycle_runBlock_65 li_Cycle_125 (q_Cycle_runPid hst (upP hP _) hw b (by omega) c up_same) rfl (by decide) (Nat.le_of_ble_eq_true rfl) rfl ?_
      rw [up_up]
      refine pw_goto (tgt := 97) e_Cycle_runBlock_68 (by decide) ?_
      refine pw_vret e_Cycle_runBlock_97 rfl ?_
      rw [f_Cycle_runBlock_16, if_neg H2, if_pos H3] at hk
      exact hk
    · by_cases H4 : (pN P 0 b) = 2
      · refine pw_tableIn (tgt := 71) e_Cycle_runBlock_22 (by rw [nI_toInt (by omega)]; omega) (by rw [nI_toInt (by omega)]; omega) (by rw [nI_toInt (by omega), H4]; rfl) (by decide) ?_
        refine pw_aload_n e_Cycle_runBlock_71 rfl ?_
        refine pw_iload_n e_Cycle_runBlock_72 rfl ?_
        refine pw_aload_n e_Cycle_runBlock_73 rfl ?_
        refine pw_iload_n e_Cycle_runBlock_74 rfl ?_
        refine pw_iconst (v := nI 2) e_Cycle_runBlock_75 (by decide) ?_
        have hb_104 := came_lt hw b 2
        refine pw_detV (As := [.int (nI (b)), .int (nI (2))]) e_Cycle_runBlock_76 li_Cycle_128 rfl (hP _).o (q_came hst (hP _) hw b 2 (by omega) (by omega)) rfl (by decide) (Nat.le_of_ble_eq_true rfl) rfl ?_
        refine pw_aload_n e_Cycle_runBlock_79 rfl ?_
        refine pw_getf e_Cycle_runBlock_80 fl_Cycle_131 (hP _).o rfl ?_
        refine pw_iload_n e_Cycle_runBlock_83 rfl ?_
        refine pw_ialdN e_Cycle_runBlock_84 (hP _).a6 (by omega) (by decide) ?_
        refine pw_detS (As := [.ref (s), .int (nI (b * 9)), .int (nI (came P b 2)), .int ((P 6) b)]) e_Cycle_runBlock_85 li_Cycle_134 (q_Cycle_runOutput hst (b * 9) (came P b 2) ((P 6) b) (by omega) (by omega) c up_same) rfl (by decide) (Nat.le_of_ble_eq_true rfl) rfl ?_
        rw [up_up]
        refine pw_goto (tgt := 97) e_Cycle_runBlock_88 (by decide) ?_
        refine pw_vret e_Cycle_runBlock_97 rfl ?_
        rw [f_Cycle_runBlock_16, if_neg H2, if_neg H3, if_pos H4] at hk
        exact hk
      · refine pw_tableOut (tgt := 91) e_Cycle_runBlock_22 (Or.inr (by rw [nI_toInt (by omega)]; omega)) (by decide) ?_
        refine pw_aload_n e_Cycle_runBlock_91 rfl ?_
        refine pw_aload_n e_Cycle_runBlock_92 rfl ?_
        refine pw_iload_n e_Cycle_runBlock_93 rfl ?_
        refine pw_detS (As := [.ref (p), .ref (s), .int (nI (b))]) e_Cycle_runBlock_94 li_Cycle_138 (q_Cycle_runPick hst (upP hP _) hw b (by omega) c up_same) rfl (by decide) (Nat.le_of_ble_eq_true rfl) rfl ?_
        rw [up_up]
        refine pw_vret e_Cycle_runBlock_97 rfl ?_
        rw [f_Cycle_runBlock_16, if_neg H2, if_neg H3, if_neg H4] at hk
        exact hk
def f_Cycle_runBlock (P : Nat → Nat → Int32) (b : Nat) (c : Nat → Int32) : Nat → Int32 :=
  f_Cycle_runBlock_16 P b (upd ((f_Cycle_actualOf P b c).2) ((b * 9) + 1) ((f_Cycle_actualOf P b c).1))
set_option maxRecDepth 4000 in
theorem w_Cycle_runBlock_0 {g : GG} {Q : QT} {h : Hp} {kc ks : Nat} (hst : (gl g).stackTraces = false) {p s : Nat} {ad : Nat → Nat} {P : Nat → Nat → Int32} (hP : ∀ e, PlanAt g p ad P (va_up h s e)) (hw : wfP P) (b : Nat) (hb : b < 10) (hbb : b < pN P 30 3)  (c : Nat → Int32) (hk : Q (.inl none) (va_up h s (some (aI g 225 (f_Cycle_runBlock P b c))))) : PW g M_Cycle_runBlock 3 kc ks Q 0 [.ref (p), .ref (s), .int (nI (b)), .retAddr 0] [] (va_up h s (some (aI g 225 (c)))) := by
  refine pw_iload_n e_Cycle_runBlock_0 rfl ?_
  refine pw_bipush (v := nI 9) e_Cycle_runBlock_1 (by decide) ?_
  refine pw_imulN e_Cycle_runBlock_3 ?_
  refine pw_istore_n (ls2 := [_, _, _, _]) e_Cycle_runBlock_4 (by decide) rfl ?_
  refine pw_aload_n e_Cycle_runBlock_5 rfl ?_
  refine pw_iload_n e_Cycle_runBlock_6 rfl ?_
  refine pw_iconst (v := nI 1) e_Cycle_runBlock_7 (by decide) ?_
  refine pw_iaddN e_Cycle_runBlock_8 ?_
  refine pw_aload_n e_Cycle_runBlock_9 rfl ?_
  refine pw_aload_n e_Cycle_runBlock_10 rfl ?_
  refine pw_iload_n e_Cycle_runBlock_11 rfl ?_
  refine pw_detS (As := [.ref (p), .ref (s), .int (nI (b))]) e_Cycle_runBlock_12 li_Cycle_118 (q_Cycle_actualOf hst (upP hP _) hw b (by omega) c up_same) rfl (by decide) (Nat.le_of_ble_eq_true rfl) rfl ?_
  rw [up_up]
  refine pw_iastU e_Cycle_runBlock_15 (by omega) (by decide) ?_
  refine w_Cycle_runBlock_16 hst hP hw b hb hbb (upd ((f_Cycle_actualOf P b c).2) ((b * 9) + 1) ((f_Cycle_actualOf P b c).1)) ?_
  rw [f_Cycle_runBlock] at hk
  exact hk
theorem q_Cycle_runBlock {g : GG} {h : Hp} (hst : (gl g).stackTraces = false) {p s : Nat} {ad : Nat → Nat} {P : Nat → Nat → Int32} (hP : ∀ e, PlanAt g p ad P (va_up h s e)) (hw : wfP P) (b : Nat) (hb : b < 10) (hbb : b < pN P 30 3)  (c : Nat → Int32) (hm : h s = some (aI g 225 c)) : PM g M_Cycle_runBlock 3 0 0 [.ref (p), .ref (s), .int (nI (b))] h (RetV none (va_up h s (some (aI g 225 (f_Cycle_runBlock P b c))))) := by
  refine PM.of hst (by decide) rfl (fun v hv => ?_) (Nat.le_of_ble_eq_true rfl) ?_
  · simp only [List.mem_cons, List.not_mem_nil, or_false] at hv; rcases hv with rfl | rfl | rfl <;> rfl
  · have hq := w_Cycle_runBlock_0 (g := g) (Q := RetV none (va_up h s (some (aI g 225 (f_Cycle_runBlock P b c))))) (h := h) (kc := 0) (ks := 0) (s := s) hst hP hw b hb hbb c ?_
    · rw [up_self hm] at hq; exact hq
    · exact ⟨rfl, rfl⟩

def f_Cycle_goBy_102 (P : Nat → Nat → Int32) : Nat → (Nat → Int32) → (Nat) → Nat → Int32
  | 0, c, _ => c
  | t + 1, c, l => if (pN P 31 0) ≤ l then c else if (pN P 14 l) = 2 then f_Cycle_goBy_102 P t (f_Cycle_bringBack P l c) (l + 1) else f_Cycle_goBy_102 P t c (l + 1)
set_option maxRecDepth 4000 in
theorem w_Cycle_goBy_102 {g : GG} {Q : QT} {h : Hp} {kc ks : Nat} (hst : (gl g).stackTraces = false) {p s : Nat} {ad : Nat → Nat} {P : Nat → Nat → Int32} (hP : ∀ e, PlanAt g p ad P (va_up h s e)) (hw : wfP P)  (t : Nat) : ∀ (c : Nat → Int32) (l : Nat) (hl1 : l < 13) (hlt : 12 - l < t) (hk : PW g M_Cycle_goBy 4 kc ks Q 138 [.ref (p), .ref (s), .retAddr 0, .retAddr 0, .retAddr 0, .retAddr 0] [] (va_up h s (some (aI g 225 (f_Cycle_goBy_102 P t c l))))), PW g M_Cycle_goBy 4 kc ks Q 102 [.ref (p), .ref (s), .int (nI (l)), .retAddr 0, .retAddr 0, .retAddr 0] [] (va_up h s (some (aI g 225 (c)))) := by
  induction t with
  | zero => intro c l hl1 hlt _; exact absurd hlt (Nat.not_lt_zero _)
  | succ t ih =>
    intro c l hl1 hlt hk
    have hb0 := hw.blk.2
    have hb1 := hw.lnk.2
    refine pw_iload_n e_Cycle_goBy_102 rfl ?_
    refine pw_aload_n e_Cycle_goBy_103 rfl ?_
    refine pw_getf e_Cycle_goBy_104 fl_Cycle_51 (hP _).o rfl ?_
    refine pw_getf e_Cycle_goBy_107 fl_Cycle_55 (hP _).k rfl ?_
    rw [hw.lnk.1]
    refine pw_icmp_geN (tgt := 138) e_Cycle_goBy_110 (by decide) (by omega) (by omega) (fun (H1 : (pN P 31 0) ≤ l) => ?_) (fun (H1 : l < (pN P 31 0)) => ?_)
    · refine pw_fgt (ls' := [.ref (p), .ref (s), .retAddr 0, .retAddr 0, .retAddr 0, .retAddr 0]) ⟨Or.inr rfl, Or.inr rfl, Or.inl rfl, Or.inr rfl, Or.inr rfl, Or.inr rfl, trivial⟩ ?_
      rw [f_Cycle_goBy_102, if_pos H1] at hk
      exact hk
    · refine pw_aload_n e_Cycle_goBy_113 rfl ?_
      refine pw_getf e_Cycle_goBy_114 fl_Cycle_51 (hP _).o rfl ?_
      refine pw_getf e_Cycle_goBy_117 fl_Cycle_60 (hP _).k rfl ?_
      refine pw_iload_n e_Cycle_goBy_120 rfl ?_
      have hb2 := hw.whr l
      refine pw_ialdC e_Cycle_goBy_121 (hP _).a14 (by omega) (by decide) hb2.1 ?_
      replace hb2 := hb2.2
      refine pw_iconst (v := nI 2) e_Cycle_goBy_122 (by decide) ?_
      refine pw_icmp_neN (tgt := 132) e_Cycle_goBy_123 (by decide) (by omega) (by omega) (fun (H3 : ¬ (pN P 14 l) = 2) => ?_) (fun (H3 : (pN P 14 l) = 2) => ?_)
      · refine pw_iincN (ls2 := [_, _, _, _, _, _]) e_Cycle_goBy_132 rfl (by decide) rfl ?_
        refine pw_goto (tgt := 102) e_Cycle_goBy_135 (by decide) ?_
        refine ih c (l + 1) (by omega) (by omega) ?_
        rw [f_Cycle_goBy_102, if_neg (Nat.not_le.mpr H1), if_neg H3] at hk
        exact hk
      · refine pw_aload_n e_Cycle_goBy_126 rfl ?_
        refine pw_aload_n e_Cycle_goBy_127 rfl ?_
        refine pw_iload_n e_Cycle_goBy_128 rfl ?_
        refine pw_detS (As := [.ref (p), .ref (s), .int (nI (l))]) e_Cycle_goBy_129 li_Cycle_63 (q_Cycle_bringBack hst (upP hP _) hw l (by omega) c up_same) rfl (by decide) (Nat.le_of_ble_eq_true rfl) rfl ?_
        rw [up_up]
        refine pw_iincN (ls2 := [_, _, _, _, _, _]) e_Cycle_goBy_132 rfl (by decide) rfl ?_
        refine pw_goto (tgt := 102) e_Cycle_goBy_135 (by decide) ?_
        refine ih (f_Cycle_bringBack P l c) (l + 1) (by omega) (by omega) ?_
        rw [f_Cycle_goBy_102, if_neg (Nat.not_le.mpr H1), if_pos H3] at hk
        exact hk
def f_Cycle_goBy_33 (P : Nat → Nat → Int32) : Nat → (Nat → Int32) → (Nat) → (Nat) → Nat → Int32
  | 0, c, _, _ => c
  | t + 1, c, k, w => if 3 ≤ w then c else if ((P 10) (((pN P 18 k) * 3) + w)) = ((-1)) then f_Cycle_goBy_33 P t c k (w + 1) else f_Cycle_goBy_33 P t (f_Cycle_bringLink P (pN P 10 (pN P 18 k * 3 + w)) c) k (w + 1)
set_option maxRecDepth 4000 in
theorem w_Cycle_goBy_33 {g : GG} {Q : QT} {h : Hp} {kc ks : Nat} (hst : (gl g).stackTraces = false) {p s : Nat} {ad : Nat → Nat} {P : Nat → Nat → Int32} (hP : ∀ e, PlanAt g p ad P (va_up h s e)) (hw : wfP P)  (t : Nat) : ∀ (c : Nat → Int32) (k : Nat) (w : Nat) (hk1 : k < 10) (hw1 : w < 4) (hlt : 3 - w < t) (hk : PW g M_Cycle_goBy 4 kc ks Q 71 [.ref (p), .ref (s), .int (nI (k)), .int (nI (pN P 18 k)), .retAddr 0, .retAddr 0] [] (va_up h s (some (aI g 225 (f_Cycle_goBy_33 P t c k w))))), PW g M_Cycle_goBy 4 kc ks Q 33 [.ref (p), .ref (s), .int (nI (k)), .int (nI (pN P 18 k)), .int (nI (w)), .retAddr 0] [] (va_up h s (some (aI g 225 (c)))) := by
  induction t with
  | zero => intro c k w hk1 hw1 hlt _; exact absurd hlt (Nat.not_lt_zero _)
  | succ t ih =>
    intro c k w hk1 hw1 hlt hk
    have hbo := (hw.ord k).2
    have hb0 := hw.blk.2
    have hb1 := hw.lnk.2
    refine pw_iload e_Cycle_goBy_33 rfl ?_
    refine pw_iconst (v := nI 3) e_Cycle_goBy_35 (by decide) ?_
    refine pw_icmp_geN (tgt := 71) e_Cycle_goBy_36 (by decide) (by omega) (by omega) (fun (H1 : 3 ≤ w) => ?_) (fun (H1 : w < 3) => ?_)
    · refine pw_fgt (ls' := [.ref (p), .ref (s), .int (nI (k)), .int (nI (pN P 18 k)), .retAddr 0, .retAddr 0]) ⟨Or.inr rfl, Or.inr rfl, Or.inr rfl, Or.inr rfl, Or.inl rfl, Or.inr rfl, trivial⟩ ?_
      rw [f_Cycle_goBy_33, if_pos H1] at hk
      exact hk
    · refine pw_aload_n e_Cycle_goBy_39 rfl ?_
      refine pw_getf e_Cycle_goBy_40 fl_Cycle_34 (hP _).o rfl ?_
      refine pw_iload_n e_Cycle_goBy_43 rfl ?_
      refine pw_iconst (v := nI 3) e_Cycle_goBy_44 (by decide) ?_
      refine pw_imulN e_Cycle_goBy_45 ?_
      refine pw_iload e_Cycle_goBy_46 rfl ?_
      refine pw_iaddN e_Cycle_goBy_48 ?_
      refine pw_ialdN e_Cycle_goBy_49 (hP _).a10 (by omega) (by decide) ?_
      refine pw_istore (ls2 := [_, _, _, _, _, _]) e_Cycle_goBy_50 (by decide) rfl ?_
      refine pw_iload e_Cycle_goBy_52 rfl ?_
      refine pw_iconst (v := (-1)) e_Cycle_goBy_54 (by decide) ?_
      refine pw_icmp_eq (tgt := 65) e_Cycle_goBy_55 (by decide) (fun (H2 : ((P 10) (((pN P 18 k) * 3) + w)) = ((-1))) => ?_) (fun (H2 : ¬ ((P 10) (((pN P 18 k) * 3) + w)) = ((-1))) => ?_)
      · refine pw_iincN (ls2 := [_, _, _, _, _, _]) e_Cycle_goBy_65 rfl (by decide) rfl ?_
        refine pw_goto (tgt := 33) e_Cycle_goBy_68 (by decide) ?_
        refine pw_fgt (ls' := [.ref (p), .ref (s), .int (nI (k)), .int (nI (pN P 18 k)), .int (nI (w + 1)), .retAddr 0]) ⟨Or.inr rfl, Or.inr rfl, Or.inr rfl, Or.inr rfl, Or.inr rfl, Or.inl rfl, trivial⟩ ?_
        refine ih c k (w + 1) (by omega) (by omega) (by omega) ?_
        rw [f_Cycle_goBy_33, if_neg (Nat.not_le.mpr H1), if_pos H2] at hk
        exact hk
      · have hb9 := (hw.into (pN P 18 k * 3 + w)).resolve_left H2
        rw [hb9.1]
        replace hb9 := hb9.2
        refine pw_aload_n e_Cycle_goBy_58 rfl ?_
        refine pw_aload_n e_Cycle_goBy_59 rfl ?_
        refine pw_iload e_Cycle_goBy_60 rfl ?_
        refine pw_detS (As := [.ref (p), .ref (s), .int (nI (pN P 10 (pN P 18 k * 3 + w)))]) e_Cycle_goBy_62 li_Cycle_37 (q_Cycle_bringLink hst (upP hP _) hw (pN P 10 (pN P 18 k * 3 + w)) (by omega) c up_same) rfl (by decide) (Nat.le_of_ble_eq_true rfl) rfl ?_
        rw [up_up]
        refine pw_iincN (ls2 := [_, _, _, _, _, _]) e_Cycle_goBy_65 rfl (by decide) rfl ?_
        refine pw_goto (tgt := 33) e_Cycle_goBy_68 (by decide) ?_
        refine pw_fgt (ls' := [.ref (p), .ref (s), .int (nI (k)), .int (nI (pN P 18 k)), .int (nI (w + 1)), .retAddr 0]) ⟨Or.inr rfl, Or.inr rfl, Or.inr rfl, Or.inr rfl, Or.inr rfl, Or.inl rfl, trivial⟩ ?_
        refine ih (f_Cycle_bringLink P (pN P 10 (pN P 18 k * 3 + w)) c) k (w + 1) (by omega) (by omega) (by omega) ?_
        rw [f_Cycle_goBy_33, if_neg (Nat.not_le.mpr H1), if_neg H2] at hk
        exact hk
def f_Cycle_goBy_12 (P : Nat → Nat → Int32) : Nat → (Nat → Int32) → (Nat) → Nat → Int32
  | 0, c, _ => c
  | t + 1, c, k => if (pN P 30 3) ≤ k then c else if (f_Bus_hasBit ((f_Cycle_goBy_33 P 4 c k 0) 220) (nI (pN P 1 (pN P 18 k)))) = 0 then f_Cycle_goBy_12 P t (f_Cycle_goBy_33 P 4 c k 0) (k + 1) else f_Cycle_goBy_12 P t (f_Cycle_runBlock P (pN P 18 k) (f_Cycle_goBy_33 P 4 c k 0)) (k + 1)
set_option maxRecDepth 4000 in
theorem w_Cycle_goBy_12 {g : GG} {Q : QT} {h : Hp} {kc ks : Nat} (hst : (gl g).stackTraces = false) {p s : Nat} {ad : Nat → Nat} {P : Nat → Nat → Int32} (hP : ∀ e, PlanAt g p ad P (va_up h s e)) (hw : wfP P)  (t : Nat) : ∀ (c : Nat → Int32) (k : Nat) (hk1 : k < 11) (hlt : 10 - k < t) (hk : PW g M_Cycle_goBy 4 kc ks Q 100 [.ref (p), .ref (s), .retAddr 0, .retAddr 0, .retAddr 0, .retAddr 0] [] (va_up h s (some (aI g 225 (f_Cycle_goBy_12 P t c k))))), PW g M_Cycle_goBy 4 kc ks Q 12 [.ref (p), .ref (s), .int (nI (k)), .retAddr 0, .retAddr 0, .retAddr 0] [] (va_up h s (some (aI g 225 (c)))) := by
  induction t with
  | zero => intro c k hk1 hlt _; exact absurd hlt (Nat.not_lt_zero _)
  | succ t ih =>
    intro c k hk1 hlt hk
    have hb0 := hw.blk.2
    have hb1 := hw.lnk.2
    refine pw_iload_n e_Cycle_goBy_12 rfl ?_
    refine pw_aload_n e_Cycle_goBy_13 rfl ?_
    refine pw_getf e_Cycle_goBy_14 fl_Cycle_18 (hP _).o rfl ?_
    rw [hw.blk.1]
    refine pw_icmp_geN (tgt := 100) e_Cycle_goBy_17 (by decide) (by omega) (by omega) (fun (H1 : (pN P 30 3) ≤ k) => ?_) (fun (H1 : k < (pN P 30 3)) => ?_)
    · refine pw_fgt (ls' := [.ref (p), .ref (s), .retAddr 0, .retAddr 0, .retAddr 0, .retAddr 0]) ⟨Or.inr rfl, Or.inr rfl, Or.inl rfl, Or.inr rfl, Or.inr rfl, Or.inr rfl, trivial⟩ ?_
      rw [f_Cycle_goBy_12, if_pos H1] at hk
      exact hk
    · refine pw_aload_n e_Cycle_goBy_20 rfl ?_
      refine pw_getf e_Cycle_goBy_21 fl_Cycle_24 (hP _).o rfl ?_
      refine pw_getf e_Cycle_goBy_24 fl_Cycle_28 (hP _).y rfl ?_
      refine pw_iload_n e_Cycle_goBy_27 rfl ?_
      have hb2 := hw.ord k
      refine pw_ialdC e_Cycle_goBy_28 (hP _).a18 (by omega) (by decide) hb2.1 ?_
      replace hb2 := hb2.2
      refine pw_istore_n (ls2 := [_, _, _, _, _, _]) e_Cycle_goBy_29 (by decide) rfl ?_
      refine pw_iconst (v := nI 0) e_Cycle_goBy_30 (by decide) ?_
      refine pw_istore (ls2 := [_, _, _, _, _, _]) e_Cycle_goBy_31 (by decide) rfl ?_
      refine w_Cycle_goBy_33 hst hP hw 4 c k 0 (by omega) (by omega) (by omega) ?_
      refine pw_aload_n e_Cycle_goBy_71 rfl ?_
      refine pw_sipush (v := nI 220) e_Cycle_goBy_72 (by decide) ?_
      refine pw_ialdN e_Cycle_goBy_75 up_same (by omega) (by decide) ?_
      refine pw_aload_n e_Cycle_goBy_76 rfl ?_
      refine pw_getf e_Cycle_goBy_77 fl_Cycle_41 (hP _).o rfl ?_
      refine pw_iload_n e_Cycle_goBy_80 rfl ?_
      have hb3 := hw.dev (pN P 18 k)
      refine pw_ialdC e_Cycle_goBy_81 (hP _).a1 (by omega) (by decide) hb3.1 ?_
      replace hb3 := hb3.2
      refine pw_detSN (As := [.int ((f_Cycle_goBy_33 P 4 c k 0) 220), .int (nI (pN P 1 (pN P 18 k)))]) e_Cycle_goBy_82 li_Cycle_44 (q_Bus_hasBit hst ((f_Cycle_goBy_33 P 4 c k 0) 220) (nI (pN P 1 (pN P 18 k)))) rfl (by decide) (Nat.le_of_ble_eq_true rfl) rfl ?_
      refine pw_if_eq (tgt := 94) e_Cycle_goBy_85 (by decide) (fun (H4 : (f_Bus_hasBit ((f_Cycle_goBy_33 P 4 c k 0) 220) (nI (pN P 1 (pN P 18 k)))) = 0) => ?_) (fun (H4 : ¬ (f_Bus_hasBit ((f_Cycle_goBy_33 P 4 c k 0) 220) (nI (pN P 1 (pN P 18 k)))) = 0) => ?_)
      · refine pw_iincN (ls2 := [_, _, _, _, _, _]) e_Cycle_goBy_94 rfl (by decide) rfl ?_
        refine pw_goto (tgt := 12) e_Cycle_goBy_97 (by decide) ?_
        refine pw_fgt (ls' := [.ref (p), .ref (s), .int (nI (k + 1)), .retAddr 0, .retAddr 0, .retAddr 0]) ⟨Or.inr rfl, Or.inr rfl, Or.inr rfl, Or.inl rfl, Or.inr rfl, Or.inr rfl, trivial⟩ ?_
        refine ih (f_Cycle_goBy_33 P 4 c k 0) (k + 1) (by omega) (by omega) ?_
        rw [f_Cycle_goBy_12, if_neg (Nat.not_le.mpr H1), if_pos H4] at hk
        exact hk
      · refine pw_aload_n e_Cycle_goBy_88 rfl ?_
        refine pw_aload_n e_Cycle_goBy_89 rfl ?_
        refine pw_iload_n e_Cycle_goBy_90 rfl ?_
        refine pw_detS (As := [.ref (p), .ref (s), .int (nI (pN P 18 k))]) e_Cycle_goBy_91 li_Cycle_48 (q_Cycle_runBlock hst (upP hP _) hw (pN P 18 k) (by omega) (hw.ordB (by omega)) (f_Cycle_goBy_33 P 4 c k 0) up_same) rfl (by decide) (Nat.le_of_ble_eq_true rfl) rfl ?_
        rw [up_up]
        refine pw_iincN (ls2 := [_, _, _, _, _, _]) e_Cycle_goBy_94 rfl (by decide) rfl ?_
        refine pw_goto (tgt := 12) e_Cycle_goBy_97 (by decide) ?_
        refine pw_fgt (ls' := [.ref (p), .ref (s), .int (nI (k + 1)), .retAddr 0, .retAddr 0, .retAddr 0]) ⟨Or.inr rfl, Or.inr rfl, Or.inr rfl, Or.inl rfl, Or.inr rfl, Or.inr rfl, trivial⟩ ?_
        refine ih (f_Cycle_runBlock P (pN P 18 k) (f_Cycle_goBy_33 P 4 c k 0)) (k + 1) (by omega) (by omega) ?_
        rw [f_Cycle_goBy_12, if_neg (Nat.not_le.mpr H1), if_neg H4] at hk
        exact hk
def f_Cycle_goBy (P : Nat → Nat → Int32) (c : Nat → Int32) : Nat → Int32 :=
  upd (f_Cycle_goBy_102 P 13 (f_Cycle_goBy_12 P 11 (f_Cycle_seekScheduler P (f_Cycle_moveSensors P c)) 0) 0) 223 (((f_Cycle_goBy_102 P 13 (f_Cycle_goBy_12 P 11 (f_Cycle_seekScheduler P (f_Cycle_moveSensors P c)) 0) 0) 223) + 1)
set_option maxRecDepth 4000 in
theorem w_Cycle_goBy_0 {g : GG} {Q : QT} {h : Hp} {kc ks : Nat} (hst : (gl g).stackTraces = false) {p s : Nat} {ad : Nat → Nat} {P : Nat → Nat → Int32} (hP : ∀ e, PlanAt g p ad P (va_up h s e)) (hw : wfP P)  (c : Nat → Int32) (hk : Q (.inl none) (va_up h s (some (aI g 225 (f_Cycle_goBy P c))))) : PW g M_Cycle_goBy 4 kc ks Q 0 [.ref (p), .ref (s), .retAddr 0, .retAddr 0, .retAddr 0, .retAddr 0] [] (va_up h s (some (aI g 225 (c)))) := by
  have hb0 := hw.blk.2
  have hb1 := hw.lnk.2
  refine pw_aload_n e_Cycle_goBy_0 rfl ?_
  refine pw_aload_n e_Cycle_goBy_1 rfl ?_
  refine pw_detS (As := [.ref (p), .ref (s)]) e_Cycle_goBy_2 li_Cycle_9 (q_Cycle_moveSensors hst (upP hP _) hw c up_same) rfl (by decide) (Nat.le_of_ble_eq_true rfl) rfl ?_
  rw [up_up]
  refine pw_aload_n e_Cycle_goBy_5 rfl ?_
  refine pw_aload_n e_Cycle_goBy_6 rfl ?_
  refine pw_detS (As := [.ref (p), .ref (s)]) e_Cycle_goBy_7 li_Cycle_15 (q_Cycle_seekScheduler hst (upP hP _) hw (f_Cycle_moveSensors P c) up_same) rfl (by decide) (Nat.le_of_ble_eq_true rfl) rfl ?_
  rw [up_up]
  refine pw_iconst (v := nI 0) e_Cycle_goBy_10 (by decide) ?_
  refine pw_istore_n (ls2 := [_, _, _, _, _, _]) e_Cycle_goBy_11 (by decide) rfl ?_
  refine w_Cycle_goBy_12 hst hP hw 11 (f_Cycle_seekScheduler P (f_Cycle_moveSensors P c)) 0 (by omega) (by omega) ?_
  refine pw_iconst (v := nI 0) e_Cycle_goBy_100 (by decide) ?_
  refine pw_istore_n (ls2 := [_, _, _, _, _, _]) e_Cycle_goBy_101 (by decide) rfl ?_
  refine w_Cycle_goBy_102 hst hP hw 13 (f_Cycle_goBy_12 P 11 (f_Cycle_seekScheduler P (f_Cycle_moveSensors P c)) 0) 0 (by omega) (by omega) ?_
  refine pw_aload_n e_Cycle_goBy_138 rfl ?_
  refine pw_sipush (v := nI 223) e_Cycle_goBy_139 (by decide) ?_
  refine pw_dup2 e_Cycle_goBy_142 rfl rfl ?_
  refine pw_ialdN e_Cycle_goBy_143 up_same (by omega) (by decide) ?_
  refine pw_iconst (v := nI 1) e_Cycle_goBy_144 (by decide) ?_
  refine pw_iadd e_Cycle_goBy_145 ?_
  refine pw_iastU e_Cycle_goBy_146 (by omega) (by decide) ?_
  refine pw_vret e_Cycle_goBy_147 rfl ?_
  rw [f_Cycle_goBy] at hk
  exact hk
theorem q_Cycle_goBy {g : GG} {h : Hp} (hst : (gl g).stackTraces = false) {p s : Nat} {ad : Nat → Nat} {P : Nat → Nat → Int32} (hP : ∀ e, PlanAt g p ad P (va_up h s e)) (hw : wfP P)  (c : Nat → Int32) (hm : h s = some (aI g 225 c)) : PM g M_Cycle_goBy 4 0 0 [.ref (p), .ref (s)] h (RetV none (va_up h s (some (aI g 225 (f_Cycle_goBy P c))))) := by
  refine PM.of hst (by decide) rfl (fun v hv => ?_) (Nat.le_of_ble_eq_true rfl) ?_
  · simp only [List.mem_cons, List.not_mem_nil, or_false] at hv; rcases hv with rfl | rfl <;> rfl
  · have hq := w_Cycle_goBy_0 (g := g) (Q := RetV none (va_up h s (some (aI g 225 (f_Cycle_goBy P c))))) (h := h) (kc := 0) (ks := 0) (s := s) hst hP hw c ?_
    · rw [up_self hm] at hq; exact hq
    · exact ⟨rfl, rfl⟩

