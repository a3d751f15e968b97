/-! the reference as a whole: its plain calls (written by wip/whole/c_mod3.py) -/
def moL (g : GG) (A : Nat → Nat) : GL := [(A 100, 100, fun f => .inr (11, [.ref (A 0), .ref (A 1), .ref (A 2), .ref (A 3), .ref (A 4), .ref (A 5), .ref (A 6), .ref (A 7), .ref (A 8), .ref (A 9), .ref (A 10), .ref (A 11), .ref (A 12), .ref (A 13), .ref (A 14), .ref (A 15), .ref (A 16), .ref (A 17), .int (f 18), .int (f 19), .int (f 20), .int (f 21), .int (f 22), .int (f 23), .int (f 24), .int (f 25), .int (f 26), .int (f 27), .int (f 28), .int (f 29), .int (f 30), .ref (A 31), .int (f 32), .int (f 33), .ref (A 34), .ref (A 35), .ref (A 36), .ref (A 37), .ref (A 38), .ref (A 39), .ref (A 40), .ref (A 41), .int (f 42), .int (f 43), .int (f 44), .int (f 45), .int (f 46), .int (f 47), .int (f 48), .int (f 49), .int (f 50), .int (f 51), .int (f 52), .ref (A 53), .ref (A 54), .ref (A 55), .ref (A 56), .ref (A 57), .ref (A 58), .ref (A 59), .ref (A 60), .ref (A 61), .ref (A 62), .ref (A 63), .ref (A 64), .ref (A 65), .int (f 66), .int (f 67), .int (f 68), .int (f 69), .int (f 70), .int (f 71), .int (f 72), .ref (A 73), .ref (A 74), .int (f 75)])), (A 0, 0, aI g 18060), (A 1, 1, aI g 10), (A 2, 2, aI g 10), (A 3, 3, aI g 10), (A 4, 4, aI g 10), (A 5, 5, aI g 10), (A 6, 6, aI g 10), (A 7, 7, aI g 10), (A 8, 8, aI g 12), (A 9, 9, aI g 12), (A 10, 10, aI g 12), (A 11, 11, aI g 4), (A 12, 12, aI g 4), (A 13, 13, aI g 4), (A 14, 14, aI g 12), (A 15, 15, aI g 12), (A 16, 16, aI g 12), (A 17, 17, aI g 6), (A 31, 31, aI g 900), (A 34, 34, aI g 10), (A 35, 35, aI g 10), (A 36, 36, aI g 10), (A 37, 37, aI g 12), (A 38, 38, aI g 12), (A 39, 39, aI g 5), (A 40, 40, aZ g 10), (A 41, 41, aZ g 1000), (A 53, 53, aI g 10), (A 54, 54, aI g 10), (A 55, 55, aI g 10), (A 56, 56, aI g 10), (A 57, 57, aI g 10), (A 58, 58, aI g 10), (A 59, 59, aI g 10), (A 60, 60, aI g 12), (A 61, 61, aI g 12), (A 62, 62, aI g 12), (A 63, 63, aI g 4), (A 64, 64, aI g 4), (A 65, 65, aI g 4), (A 73, 73, aI g 10), (A 74, 74, aI g 10)]
set_option maxRecDepth 4000 in
theorem mo_x (g : GG) (A : Nat → Nat) : (gX (moL g A)).Nodup := by show List.Nodup [100, 0, 1, 2, 3, 4, 5, 6, 7, 8, 9, 10, 11, 12, 13, 14, 15, 16, 17, 31, 34, 35, 36, 37, 38, 39, 40, 41, 53, 54, 55, 56, 57, 58, 59, 60, 61, 62, 63, 64, 65, 73, 74]; decide
section
variable {g : GG} {h : Hp} {A : Nat → Nat} {Z : Nat → Nat → Int32}
set_option maxRecDepth 4000 in
theorem mo_pl (hnd : (gK (moL g A)).Nodup) : ModAt g A Z (ov h (gO (moL g A) Z)) :=
  ⟨gO_get hnd (i := 0) rfl, gO_get hnd (i := 2) rfl, gO_get hnd (i := 3) rfl, gO_get hnd (i := 4) rfl, gO_get hnd (i := 5) rfl, gO_get hnd (i := 6) rfl, gO_get hnd (i := 7) rfl, gO_get hnd (i := 8) rfl, gO_get hnd (i := 9) rfl, gO_get hnd (i := 10) rfl, gO_get hnd (i := 11) rfl, gO_get hnd (i := 12) rfl, gO_get hnd (i := 13) rfl, gO_get hnd (i := 14) rfl, gO_get hnd (i := 15) rfl, gO_get hnd (i := 16) rfl, gO_get hnd (i := 17) rfl, gO_get hnd (i := 18) rfl, gO_get hnd (i := 19) rfl, gO_get hnd (i := 20) rfl, gO_get hnd (i := 21) rfl, gO_get hnd (i := 22) rfl, gO_get hnd (i := 23) rfl, gO_get hnd (i := 24) rfl, gO_get hnd (i := 25) rfl, gO_get hnd (i := 26) rfl, gO_get hnd (i := 27) rfl, gO_get hnd (i := 28) rfl, gO_get hnd (i := 29) rfl, gO_get hnd (i := 30) rfl, gO_get hnd (i := 31) rfl, gO_get hnd (i := 32) rfl, gO_get hnd (i := 33) rfl, gO_get hnd (i := 34) rfl, gO_get hnd (i := 35) rfl, gO_get hnd (i := 36) rfl, gO_get hnd (i := 37) rfl, gO_get hnd (i := 38) rfl, gO_get hnd (i := 39) rfl, gO_get hnd (i := 40) rfl, gO_get hnd (i := 41) rfl, gO_get hnd (i := 42) rfl⟩
set_option maxRecDepth 4000 in
theorem mo_at (hnd : (gK (moL g A)).Nodup) : ∀ e, ModAt g A Z (va_up (ov h (gO (moL g A) Z)) (A 0) e) := fun e =>
  ⟨bs_ne hnd (i := 0) (j := 1) rfl rfl (by decide) e, bs_ne hnd (i := 2) (j := 1) rfl rfl (by decide) e, bs_ne hnd (i := 3) (j := 1) rfl rfl (by decide) e, bs_ne hnd (i := 4) (j := 1) rfl rfl (by decide) e, bs_ne hnd (i := 5) (j := 1) rfl rfl (by decide) e, bs_ne hnd (i := 6) (j := 1) rfl rfl (by decide) e, bs_ne hnd (i := 7) (j := 1) rfl rfl (by decide) e, bs_ne hnd (i := 8) (j := 1) rfl rfl (by decide) e, bs_ne hnd (i := 9) (j := 1) rfl rfl (by decide) e, bs_ne hnd (i := 10) (j := 1) rfl rfl (by decide) e, bs_ne hnd (i := 11) (j := 1) rfl rfl (by decide) e, bs_ne hnd (i := 12) (j := 1) rfl rfl (by decide) e, bs_ne hnd (i := 13) (j := 1) rfl rfl (by decide) e, bs_ne hnd (i := 14) (j := 1) rfl rfl (by decide) e, bs_ne hnd (i := 15) (j := 1) rfl rfl (by decide) e, bs_ne hnd (i := 16) (j := 1) rfl rfl (by decide) e, bs_ne hnd (i := 17) (j := 1) rfl rfl (by decide) e, bs_ne hnd (i := 18) (j := 1) rfl rfl (by decide) e, bs_ne hnd (i := 19) (j := 1) rfl rfl (by decide) e, bs_ne hnd (i := 20) (j := 1) rfl rfl (by decide) e, bs_ne hnd (i := 21) (j := 1) rfl rfl (by decide) e, bs_ne hnd (i := 22) (j := 1) rfl rfl (by decide) e, bs_ne hnd (i := 23) (j := 1) rfl rfl (by decide) e, bs_ne hnd (i := 24) (j := 1) rfl rfl (by decide) e, bs_ne hnd (i := 25) (j := 1) rfl rfl (by decide) e, bs_ne hnd (i := 26) (j := 1) rfl rfl (by decide) e, bs_ne hnd (i := 27) (j := 1) rfl rfl (by decide) e, bs_ne hnd (i := 28) (j := 1) rfl rfl (by decide) e, bs_ne hnd (i := 29) (j := 1) rfl rfl (by decide) e, bs_ne hnd (i := 30) (j := 1) rfl rfl (by decide) e, bs_ne hnd (i := 31) (j := 1) rfl rfl (by decide) e, bs_ne hnd (i := 32) (j := 1) rfl rfl (by decide) e, bs_ne hnd (i := 33) (j := 1) rfl rfl (by decide) e, bs_ne hnd (i := 34) (j := 1) rfl rfl (by decide) e, bs_ne hnd (i := 35) (j := 1) rfl rfl (by decide) e, bs_ne hnd (i := 36) (j := 1) rfl rfl (by decide) e, bs_ne hnd (i := 37) (j := 1) rfl rfl (by decide) e, bs_ne hnd (i := 38) (j := 1) rfl rfl (by decide) e, bs_ne hnd (i := 39) (j := 1) rfl rfl (by decide) e, bs_ne hnd (i := 40) (j := 1) rfl rfl (by decide) e, bs_ne hnd (i := 41) (j := 1) rfl rfl (by decide) e, bs_ne hnd (i := 42) (j := 1) rfl rfl (by decide) e⟩
end
theorem wfM.of {P Q : Nat → Nat → Int32} (h : wfM P) (e1 : Q 1 = P 1) (e3 : Q 3 = P 3) (e8 : Q 8 = P 8) (e9 : Q 9 = P 9) (e10 : Q 10 = P 10) (e34 : Q 34 = P 34) (e4 : Q 4 = P 4) (e11 : Q 11 = P 11) (e13 : Q 13 = P 13) (h19 : Q 100 19 = P 100 19) (h20 : Q 100 20 = P 100 20) (h21 : Q 100 21 = P 100 21) : wfM Q := by
  unfold wfM isN pN at *
  rw [e1, e3, e8, e9, e10, e34, e4, e11, e13, h19, h20, h21]
  exact h
def f_Mod_thrown  (Z : Nat → Nat → Int32) : Int32 :=
  Z 100 18
set_option maxRecDepth 4000 in
theorem w_Mod_thrown_0 {g : GG} {Q : QT} {h : Hp} {kc ks : Nat} (hst : (gl g).stackTraces = false) {A : Nat → Nat} (hnd : (gK (moL g A)).Nodup)  (Z : Nat → Nat → Int32) (hk : Q (.inl (some (.int (f_Mod_thrown  Z)))) (ov h (gO (moL g A) Z))) : PW g M_Mod_thrown 0 kc ks Q 0 [.ref (A 100)] [] (ov h (gO (moL g A) Z)) := by
  refine pw_aload_n e_Mod_thrown_0 rfl ?_
  refine pw_getf e_Mod_thrown_1 fl_Mod_159 (gO_get hnd (i := 0) rfl) rfl ?_
  refine pw_iret e_Mod_thrown_4 rfl rfl ?_
  rw [f_Mod_thrown] at hk
  exact hk
theorem q_Mod_thrown {g : GG} {h : Hp} (hst : (gl g).stackTraces = false) {A : Nat → Nat} (hnd : (gK (moL g A)).Nodup)  (Z : Nat → Nat → Int32) (hm : ∀ q ∈ gO (moL g A) Z, h q.1 = some q.2) : PM g M_Mod_thrown 0 0 0 [.ref (A 100)] h (RetV (some (.int (f_Mod_thrown  Z))) h) := by
  refine PM.of hst (by decide) rfl (fun v hv => ?_) (Nat.le_of_ble_eq_true rfl) ?_
  · simp only [List.mem_cons, List.not_mem_nil, or_false] at hv; rcases hv with rfl <;> rfl
  · have hq := w_Mod_thrown_0 (g := g) (Q := RetV (some (.int (f_Mod_thrown  Z))) h) (h := h) (kc := 0) (ks := 0) hst hnd Z ?_
    · rw [ov_self hm] at hq; exact hq
    · exact ⟨rfl, ov_self hm⟩

def f_Mod_fault  (Z : Nat → Nat → Int32) : Int32 × (Nat → Nat → Int32) :=
  ((u2 Z 100 18 0) 100 33, u2 Z 100 18 0)
set_option maxRecDepth 4000 in
theorem w_Mod_fault_0 {g : GG} {Q : QT} {h : Hp} {kc ks : Nat} (hst : (gl g).stackTraces = false) {A : Nat → Nat} (hnd : (gK (moL g A)).Nodup)  (Z : Nat → Nat → Int32) (hk : Q (.inl (some (.int (f_Mod_fault  Z).1))) (ov h (gO (moL g A) ((f_Mod_fault  Z).2)))) : PW g M_Mod_fault 0 kc ks Q 0 [.ref (A 100)] [] (ov h (gO (moL g A) Z)) := by
  refine pw_aload_n e_Mod_fault_0 rfl ?_
  refine pw_iconst (v := nI 0) e_Mod_fault_1 (by decide) ?_
  refine pw_putGi (i := 0) (ps := 18) (x := 0) e_Mod_fault_2 fp_Mod_159 hnd (mo_x _ _) rfl (Nat.le_of_ble_eq_true rfl) rfl rfl (fun _ _ => rfl) ?_
  refine pw_aload_n e_Mod_fault_5 rfl ?_
  refine pw_getf e_Mod_fault_6 fl_Mod_77 (gO_get hnd (i := 0) rfl) rfl ?_
  refine pw_iret e_Mod_fault_9 rfl rfl ?_
  rw [f_Mod_fault] at hk
  exact hk
theorem q_Mod_fault {g : GG} {h : Hp} (hst : (gl g).stackTraces = false) {A : Nat → Nat} (hnd : (gK (moL g A)).Nodup)  (Z : Nat → Nat → Int32) (hm : ∀ q ∈ gO (moL g A) Z, h q.1 = some q.2) : PM g M_Mod_fault 0 0 0 [.ref (A 100)] h (RetV (some (.int (f_Mod_fault  Z).1)) (ov h (gO (moL g A) ((f_Mod_fault  Z).2)))) := by
  refine PM.of hst (by decide) rfl (fun v hv => ?_) (Nat.le_of_ble_eq_true rfl) ?_
  · simp only [List.mem_cons, List.not_mem_nil, or_false] at hv; rcases hv with rfl <;> rfl
  · have hq := w_Mod_fault_0 (g := g) (Q := RetV (some (.int (f_Mod_fault  Z).1)) (ov h (gO (moL g A) ((f_Mod_fault  Z).2)))) (h := h) (kc := 0) (ks := 0) hst hnd Z ?_
    · rw [ov_self hm] at hq; exact hq
    · exact ⟨rfl, rfl⟩

def f_Mod_forget  (Z : Nat → Nat → Int32) : (Nat → Nat → Int32) :=
  u2 (u2 Z 100 18 0) 100 26 0
set_option maxRecDepth 4000 in
theorem w_Mod_forget_0 {g : GG} {Q : QT} {h : Hp} {kc ks : Nat} (hst : (gl g).stackTraces = false) {A : Nat → Nat} (hnd : (gK (moL g A)).Nodup)  (Z : Nat → Nat → Int32) (hk : Q (.inl none) (ov h (gO (moL g A) (f_Mod_forget  Z)))) : PW g M_Mod_forget 0 kc ks Q 0 [.ref (A 100)] [] (ov h (gO (moL g A) Z)) := by
  refine pw_aload_n e_Mod_forget_0 rfl ?_
  refine pw_iconst (v := nI 0) e_Mod_forget_1 (by decide) ?_
  refine pw_putGi (i := 0) (ps := 18) (x := 0) e_Mod_forget_2 fp_Mod_159 hnd (mo_x _ _) rfl (Nat.le_of_ble_eq_true rfl) rfl rfl (fun _ _ => rfl) ?_
  refine pw_aload_n e_Mod_forget_5 rfl ?_
  refine pw_iconst (v := nI 0) e_Mod_forget_6 (by decide) ?_
  refine pw_putGi (i := 0) (ps := 26) (x := 0) e_Mod_forget_7 fp_Mod_388 hnd (mo_x _ _) rfl (Nat.le_of_ble_eq_true rfl) rfl rfl (fun _ _ => rfl) ?_
  refine pw_vret e_Mod_forget_10 rfl ?_
  rw [f_Mod_forget] at hk
  exact hk
theorem q_Mod_forget {g : GG} {h : Hp} (hst : (gl g).stackTraces = false) {A : Nat → Nat} (hnd : (gK (moL g A)).Nodup)  (Z : Nat → Nat → Int32) (hm : ∀ q ∈ gO (moL g A) Z, h q.1 = some q.2) : PM g M_Mod_forget 0 0 0 [.ref (A 100)] h (RetV none (ov h (gO (moL g A) (f_Mod_forget  Z)))) := by
  refine PM.of hst (by decide) rfl (fun v hv => ?_) (Nat.le_of_ble_eq_true rfl) ?_
  · simp only [List.mem_cons, List.not_mem_nil, or_false] at hv; rcases hv with rfl <;> rfl
  · have hq := w_Mod_forget_0 (g := g) (Q := RetV none (ov h (gO (moL g A) (f_Mod_forget  Z)))) (h := h) (kc := 0) (ks := 0) hst hnd Z ?_
    · rw [ov_self hm] at hq; exact hq
    · exact ⟨rfl, rfl⟩

def f_Mod_right (x : Int32) (y : Int32) (Z : Nat → Nat → Int32) : Int32 × (Nat → Nat → Int32) :=
  if (Z 100 18) = 0 then if x = 0 then if ((u2 Z 100 18 y) 100 18) = 0 then (1, u2 Z 100 18 y) else (0, u2 Z 100 18 y) else if (Z 100 18) = 0 then (1, Z) else (0, Z) else if (Z 100 18) = 0 then (1, Z) else (0, Z)
set_option maxRecDepth 4000 in
theorem w_Mod_right_0 {g : GG} {Q : QT} {h : Hp} {kc ks : Nat} (hst : (gl g).stackTraces = false) {A : Nat → Nat} (hnd : (gK (moL g A)).Nodup) (x : Int32) (y : Int32)  (Z : Nat → Nat → Int32) (hk : Q (.inl (some (.int (f_Mod_right x y Z).1))) (ov h (gO (moL g A) ((f_Mod_right x y Z).2)))) : PW g M_Mod_right 0 kc ks Q 0 [.ref (A 100), .int (x), .int (y)] [] (ov h (gO (moL g A) Z)) := by
  refine pw_aload_n e_Mod_right_0 rfl ?_
  refine pw_getf e_Mod_right_1 fl_Mod_159 (gO_get hnd (i := 0) rfl) rfl ?_
  refine pw_if_ne (tgt := 16) e_Mod_right_4 (by decide) (fun (H1 : ¬ (Z 100 18) = 0) => ?_) (fun (H1 : (Z 100 18) = 0) => ?_)
  · refine pw_aload_n e_Mod_right_16 rfl ?_
    refine pw_getf e_Mod_right_17 fl_Mod_159 (gO_get hnd (i := 0) rfl) rfl ?_
    refine pw_if_ne (tgt := 27) e_Mod_right_20 (by decide) (fun (H2 : ¬ (Z 100 18) = 0) => ?_) (fun (H2 : (Z 100 18) = 0) => ?_)
    · refine pw_iconst (v := nI 0) e_Mod_right_27 (by decide) ?_
      refine pw_iret e_Mod_right_28 rfl (by decide) ?_
      rw [f_Mod_right, if_neg H1, if_neg H2] at hk
      exact hk
    · refine pw_iconst (v := nI 1) e_Mod_right_23 (by decide) ?_
      refine pw_goto (tgt := 28) e_Mod_right_24 (by decide) ?_
      refine pw_iret e_Mod_right_28 rfl (by decide) ?_
      rw [f_Mod_right, if_neg H1, if_pos H2] at hk
      exact hk
  · refine pw_iload_n e_Mod_right_7 rfl ?_
    refine pw_if_ne (tgt := 16) e_Mod_right_8 (by decide) (fun (H3 : ¬ x = 0) => ?_) (fun (H3 : x = 0) => ?_)
    · refine pw_aload_n e_Mod_right_16 rfl ?_
      refine pw_getf e_Mod_right_17 fl_Mod_159 (gO_get hnd (i := 0) rfl) rfl ?_
      refine pw_if_ne (tgt := 27) e_Mod_right_20 (by decide) (fun (H4 : ¬ (Z 100 18) = 0) => ?_) (fun (H4 : (Z 100 18) = 0) => ?_)
      · refine pw_iconst (v := nI 0) e_Mod_right_27 (by decide) ?_
        refine pw_iret e_Mod_right_28 rfl (by decide) ?_
        rw [f_Mod_right, if_pos H1, if_neg H3, if_neg H4] at hk
        exact hk
      · refine pw_iconst (v := nI 1) e_Mod_right_23 (by decide) ?_
        refine pw_goto (tgt := 28) e_Mod_right_24 (by decide) ?_
        refine pw_iret e_Mod_right_28 rfl (by decide) ?_
        rw [f_Mod_right, if_pos H1, if_neg H3, if_pos H4] at hk
        exact hk
    · refine pw_aload_n e_Mod_right_11 rfl ?_
      refine pw_iload_n e_Mod_right_12 rfl ?_
      refine pw_putGi (i := 0) (ps := 18) (x := y) e_Mod_right_13 fp_Mod_159 hnd (mo_x _ _) rfl (Nat.le_of_ble_eq_true rfl) rfl rfl (fun _ _ => rfl) ?_
      refine pw_aload_n e_Mod_right_16 rfl ?_
      refine pw_getf e_Mod_right_17 fl_Mod_159 (gO_get hnd (i := 0) rfl) rfl ?_
      refine pw_if_ne (tgt := 27) e_Mod_right_20 (by decide) (fun (H5 : ¬ ((u2 Z 100 18 y) 100 18) = 0) => ?_) (fun (H5 : ((u2 Z 100 18 y) 100 18) = 0) => ?_)
      · refine pw_iconst (v := nI 0) e_Mod_right_27 (by decide) ?_
        refine pw_iret e_Mod_right_28 rfl (by decide) ?_
        rw [f_Mod_right, if_pos H1, if_pos H3, if_neg H5] at hk
        exact hk
      · refine pw_iconst (v := nI 1) e_Mod_right_23 (by decide) ?_
        refine pw_goto (tgt := 28) e_Mod_right_24 (by decide) ?_
        refine pw_iret e_Mod_right_28 rfl (by decide) ?_
        rw [f_Mod_right, if_pos H1, if_pos H3, if_pos H5] at hk
        exact hk
theorem q_Mod_right {g : GG} {h : Hp} (hst : (gl g).stackTraces = false) {A : Nat → Nat} (hnd : (gK (moL g A)).Nodup) (x : Int32) (y : Int32)  (Z : Nat → Nat → Int32) (hm : ∀ q ∈ gO (moL g A) Z, h q.1 = some q.2) : PM g M_Mod_right 0 0 0 [.ref (A 100), .int (x), .int (y)] h (RetV (some (.int (f_Mod_right x y Z).1)) (ov h (gO (moL g A) ((f_Mod_right x y Z).2)))) := by
  refine PM.of hst (by decide) rfl (fun v hv => ?_) (Nat.le_of_ble_eq_true rfl) ?_
  · simp only [List.mem_cons, List.not_mem_nil, or_false] at hv; rcases hv with rfl | rfl | rfl <;> rfl
  · have hq := w_Mod_right_0 (g := g) (Q := RetV (some (.int (f_Mod_right x y Z).1)) (ov h (gO (moL g A) ((f_Mod_right x y Z).2)))) (h := h) (kc := 0) (ks := 0) hst hnd x y Z ?_
    · rw [ov_self hm] at hq; exact hq
    · exact ⟨rfl, rfl⟩

theorem rt_keep {x y : Int32} {Z : Nat → Nat → Int32} {k : Nat} (hk : k ≠ 100) : (f_Mod_right x y Z).2 k = Z k := by
  rw [f_Mod_right]
  repeat' split
  all_goals first | rfl | (show u2 Z 100 18 y k = Z k; unfold u2; rw [up_ne hk rfl])
theorem rt_100 {x y : Int32} {Z : Nat → Nat → Int32} {i : Nat} (hi : i ≠ 18) : (f_Mod_right x y Z).2 100 i = Z 100 i := by
  rw [f_Mod_right]
  repeat' split
  all_goals first | rfl | (show u2 Z 100 18 y 100 i = Z 100 i; exact u2_i hi rfl)
theorem rt_nar (x y : Int32) (Z : Nat → Nat → Int32) : narrow .boolean (.int (f_Mod_right x y Z).1) = .int (f_Mod_right x y Z).1 := by
  have h : (f_Mod_right x y Z).1 = 0 ∨ (f_Mod_right x y Z).1 = 1 := by
    rw [f_Mod_right]
    repeat' split
    all_goals first | exact Or.inl rfl | exact Or.inr rfl
  rcases h with e | e <;> rw [e] <;> decide
theorem z_right {x y : Int32} {Z : Nat → Nat → Int32} (h : wfM Z) : wfM (f_Mod_right x y Z).2 :=
  h.of (rt_keep (by decide)) (rt_keep (by decide)) (rt_keep (by decide)) (rt_keep (by decide)) (rt_keep (by decide)) (rt_keep (by decide)) (rt_keep (by decide)) (rt_keep (by decide)) (rt_keep (by decide)) (rt_100 (by decide)) (rt_100 (by decide)) (rt_100 (by decide))
theorem rt_of {x y : Int32} {Z : Nat → Nat → Int32} (hy : y ≠ 0) (H : ¬ (f_Mod_right x y Z).1 = 0) : x ≠ 0 ∧ Z 100 18 = 0 := by
  rw [f_Mod_right] at H
  by_cases h0 : Z 100 18 = 0
  · rw [if_pos h0] at H
    by_cases h1 : x = 0
    · rw [if_pos h1] at H
      have e : (u2 Z 100 18 y) 100 18 = y := u2_s
      rw [e, if_neg hy] at H
      exact absurd rfl H
    · exact ⟨h1, h0⟩
  · rw [if_neg h0, if_neg h0] at H
    exact absurd rfl H
def f_Mod_isBlock (x : Int32) (Z : Nat → Nat → Int32) : Int32 × (Nat → Nat → Int32) :=
  ((f_Mod_right (f_Mod_within x (nI 0) ((nI (pN Z 100 20)) - 1)) (nI 1) Z).1, (f_Mod_right (f_Mod_within x (nI 0) ((nI (pN Z 100 20)) - 1)) (nI 1) Z).2)
set_option maxRecDepth 4000 in
theorem w_Mod_isBlock_0 {g : GG} {Q : QT} {h : Hp} {kc ks : Nat} (hst : (gl g).stackTraces = false) {A : Nat → Nat} (hnd : (gK (moL g A)).Nodup) (x : Int32)  (Z : Nat → Nat → Int32) (hw : wfM Z) (hk : Q (.inl (some (.int (f_Mod_isBlock x Z).1))) (ov h (gO (moL g A) ((f_Mod_isBlock x Z).2)))) : PW g M_Mod_isBlock 1 kc ks Q 0 [.ref (A 100), .int (x)] [] (ov h (gO (moL g A) Z)) := by
  have hz0 := hw.blk.2
  have hz1 := hw.lnk.2
  have hz2 := hw.dvs.2
  refine pw_aload_n e_Mod_isBlock_0 rfl ?_
  refine pw_iload_n e_Mod_isBlock_1 rfl ?_
  refine pw_iconst (v := nI 0) e_Mod_isBlock_2 (by decide) ?_
  refine pw_aload_n e_Mod_isBlock_3 rfl ?_
  refine pw_getf e_Mod_isBlock_4 fl_Mod_183 (gO_get hnd (i := 0) rfl) rfl ?_
  rw [show Z 100 20 = nI (pN Z 100 20) from hw.blk.1]
  refine pw_iconst (v := nI 1) e_Mod_isBlock_7 (by decide) ?_
  refine pw_isub e_Mod_isBlock_8 ?_
  refine pw_detS (As := [.int (x), .int (nI (0)), .int ((nI (pN Z 100 20)) - 1)]) e_Mod_isBlock_9 li_Mod_312 (q_Mod_within hst x (nI 0) ((nI (pN Z 100 20)) - 1)) rfl (by decide) (Nat.le_of_ble_eq_true rfl) rfl ?_
  refine pw_iconst (v := nI 1) e_Mod_isBlock_12 (by decide) ?_
  refine pw_detV (As := [.int (f_Mod_within x (nI 0) ((nI (pN Z 100 20)) - 1)), .int (nI (1))]) e_Mod_isBlock_13 li_Mod_372 rfl (gO_get hnd (i := 0) rfl) (q_Mod_right hst hnd (f_Mod_within x (nI 0) ((nI (pN Z 100 20)) - 1)) (nI 1) Z (gO_in hnd (fun _ z => z))) rfl (by decide) (Nat.le_of_ble_eq_true rfl) rfl ?_
  refine pw_sameG hnd ?_
  refine pw_iret e_Mod_isBlock_16 rfl (rt_nar _ _ _) ?_
  rw [f_Mod_isBlock] at hk
  exact hk
theorem q_Mod_isBlock {g : GG} {h : Hp} (hst : (gl g).stackTraces = false) {A : Nat → Nat} (hnd : (gK (moL g A)).Nodup) (x : Int32)  (Z : Nat → Nat → Int32) (hm : ∀ q ∈ gO (moL g A) Z, h q.1 = some q.2) (hw : wfM Z) : PM g M_Mod_isBlock 1 0 0 [.ref (A 100), .int (x)] h (RetV (some (.int (f_Mod_isBlock x Z).1)) (ov h (gO (moL g A) ((f_Mod_isBlock x Z).2)))) := by
  refine PM.of hst (by decide) rfl (fun v hv => ?_) (Nat.le_of_ble_eq_true rfl) ?_
  · simp only [List.mem_cons, List.not_mem_nil, or_false] at hv; rcases hv with rfl | rfl <;> rfl
  · have hq := w_Mod_isBlock_0 (g := g) (Q := RetV (some (.int (f_Mod_isBlock x Z).1)) (ov h (gO (moL g A) ((f_Mod_isBlock x Z).2)))) (h := h) (kc := 0) (ks := 0) hst hnd x Z hw ?_
    · rw [ov_self hm] at hq; exact hq
    · exact ⟨rfl, rfl⟩

theorem z_isBlock {x : Int32} {Z : Nat → Nat → Int32} (h : wfM Z) : wfM (f_Mod_isBlock x Z).2 := z_right h
theorem ib_of {x : Int32} {Z : Nat → Nat → Int32} (hw : wfM Z) (H : ¬ (f_Mod_isBlock x Z).1 = 0) : (x = nI x.toNatClampNeg ∧ x.toNatClampNeg < pN Z 100 20) ∧ Z 100 18 = 0 := by
  have hz := hw.blk.2
  have q := rt_of (by decide) H
  exact ⟨wi_of (by omega) q.1, q.2⟩
