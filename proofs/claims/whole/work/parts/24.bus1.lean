/-! the object itself (written by wip/whole/c_bus.py) -/
def f_Bus_isBlock (P : Nat → Nat → Int32) (x : Int32) : Int32 :=
  if x < 0 then 0 else if (nI (pN P 30 3)) ≤ x then 0 else 1
set_option maxRecDepth 4000 in
theorem w_Bus_isBlock_0 {g : GG} {Q : QT} {h : Hp} {kc ks : Nat} (hst : (gl g).stackTraces = false) {A : Nat → Nat} {P : Nat → Nat → Int32} (f : Nat → Int32) (hx : h (A 507) = some (.inr (10, [.ref (A 506), .int (f 1), .int (f 2), .ref (A 30), .ref (A 140), .ref (A 300), .ref (A 400), .int (f 7), .ref (A 500), .ref (A 502), .ref (A 227), .ref (A 504), .ref (A 505)]))) (hP : PlanAt g (A 30) A P h) (hw : wfP P) (x : Int32)  (hk : Q (.inl (some (.int (f_Bus_isBlock P x)))) h) : PW g M_Bus_isBlock 0 kc ks Q 0 [.ref (A 507), .int (x)] [] h := by
  have hz0 := hw.blk.2
  have hz1 := hw.lnk.2
  have hz2 := hw.dvs.2
  refine pw_iload_n e_Bus_isBlock_0 rfl ?_
  refine pw_if_lt (tgt := 19) e_Bus_isBlock_1 (by decide) (fun (H1 : x < 0) => ?_) (fun (H1 : ¬ x < 0) => ?_)
  · refine pw_iconst (v := nI 0) e_Bus_isBlock_19 (by decide) ?_
    refine pw_iret e_Bus_isBlock_20 rfl (by decide) ?_
    rw [f_Bus_isBlock, if_pos H1] at hk
    exact hk
  · refine pw_iload_n e_Bus_isBlock_4 rfl ?_
    refine pw_aload_n e_Bus_isBlock_5 rfl ?_
    refine pw_getf e_Bus_isBlock_6 fl_Bus_23 hx rfl ?_
    refine pw_getf e_Bus_isBlock_9 fl_Bus_133 hP.1 rfl ?_
    rw [hw.blk.1]
    refine pw_icmp_ge (tgt := 19) e_Bus_isBlock_12 (by decide) (fun (H2 : (nI (pN P 30 3)) ≤ x) => ?_) (fun (H2 : ¬ (nI (pN P 30 3)) ≤ x) => ?_)
    · refine pw_iconst (v := nI 0) e_Bus_isBlock_19 (by decide) ?_
      refine pw_iret e_Bus_isBlock_20 rfl (by decide) ?_
      rw [f_Bus_isBlock, if_neg H1, if_pos H2] at hk
      exact hk
    · refine pw_iconst (v := nI 1) e_Bus_isBlock_15 (by decide) ?_
      refine pw_goto (tgt := 20) e_Bus_isBlock_16 (by decide) ?_
      refine pw_iret e_Bus_isBlock_20 rfl (by decide) ?_
      rw [f_Bus_isBlock, if_neg H1, if_neg H2] at hk
      exact hk
theorem q_Bus_isBlock {g : GG} {h : Hp} (hst : (gl g).stackTraces = false) {A : Nat → Nat} {P : Nat → Nat → Int32} (f : Nat → Int32) (hx : h (A 507) = some (.inr (10, [.ref (A 506), .int (f 1), .int (f 2), .ref (A 30), .ref (A 140), .ref (A 300), .ref (A 400), .int (f 7), .ref (A 500), .ref (A 502), .ref (A 227), .ref (A 504), .ref (A 505)]))) (hP : PlanAt g (A 30) A P h) (hw : wfP P) (x : Int32)  : PM g M_Bus_isBlock 0 0 0 [.ref (A 507), .int (x)] h (RetV (some (.int (f_Bus_isBlock P x))) h) := by
  refine PM.of hst (by decide) rfl (fun v hv => ?_) (Nat.le_of_ble_eq_true rfl) ?_
  · simp only [List.mem_cons, List.not_mem_nil, or_false] at hv; rcases hv with rfl | rfl <;> rfl
  · have hq := w_Bus_isBlock_0 (g := g) (Q := RetV (some (.int (f_Bus_isBlock P x))) h) (h := h) (kc := 0) (ks := 0) hst f hx hP hw x ?_
    · exact hq
    · exact ⟨rfl, rfl⟩

def f_Bus_isDevice (P : Nat → Nat → Int32) (x : Int32) : Int32 :=
  if x < 0 then 0 else if (nI (pN P 30 0)) ≤ x then 0 else 1
set_option maxRecDepth 4000 in
theorem w_Bus_isDevice_0 {g : GG} {Q : QT} {h : Hp} {kc ks : Nat} (hst : (gl g).stackTraces = false) {A : Nat → Nat} {P : Nat → Nat → Int32} (f : Nat → Int32) (hx : h (A 507) = some (.inr (10, [.ref (A 506), .int (f 1), .int (f 2), .ref (A 30), .ref (A 140), .ref (A 300), .ref (A 400), .int (f 7), .ref (A 500), .ref (A 502), .ref (A 227), .ref (A 504), .ref (A 505)]))) (hP : PlanAt g (A 30) A P h) (hw : wfP P) (x : Int32)  (hk : Q (.inl (some (.int (f_Bus_isDevice P x)))) h) : PW g M_Bus_isDevice 0 kc ks Q 0 [.ref (A 507), .int (x)] [] h := by
  have hz0 := hw.blk.2
  have hz1 := hw.lnk.2
  have hz2 := hw.dvs.2
  refine pw_iload_n e_Bus_isDevice_0 rfl ?_
  refine pw_if_lt (tgt := 19) e_Bus_isDevice_1 (by decide) (fun (H1 : x < 0) => ?_) (fun (H1 : ¬ x < 0) => ?_)
  · refine pw_iconst (v := nI 0) e_Bus_isDevice_19 (by decide) ?_
    refine pw_iret e_Bus_isDevice_20 rfl (by decide) ?_
    rw [f_Bus_isDevice, if_pos H1] at hk
    exact hk
  · refine pw_iload_n e_Bus_isDevice_4 rfl ?_
    refine pw_aload_n e_Bus_isDevice_5 rfl ?_
    refine pw_getf e_Bus_isDevice_6 fl_Bus_23 hx rfl ?_
    refine pw_getf e_Bus_isDevice_9 fl_Bus_130 hP.1 rfl ?_
    rw [hw.dvs.1]
    refine pw_icmp_ge (tgt := 19) e_Bus_isDevice_12 (by decide) (fun (H2 : (nI (pN P 30 0)) ≤ x) => ?_) (fun (H2 : ¬ (nI (pN P 30 0)) ≤ x) => ?_)
    · refine pw_iconst (v := nI 0) e_Bus_isDevice_19 (by decide) ?_
      refine pw_iret e_Bus_isDevice_20 rfl (by decide) ?_
      rw [f_Bus_isDevice, if_neg H1, if_pos H2] at hk
      exact hk
    · refine pw_iconst (v := nI 1) e_Bus_isDevice_15 (by decide) ?_
      refine pw_goto (tgt := 20) e_Bus_isDevice_16 (by decide) ?_
      refine pw_iret e_Bus_isDevice_20 rfl (by decide) ?_
      rw [f_Bus_isDevice, if_neg H1, if_neg H2] at hk
      exact hk
theorem q_Bus_isDevice {g : GG} {h : Hp} (hst : (gl g).stackTraces = false) {A : Nat → Nat} {P : Nat → Nat → Int32} (f : Nat → Int32) (hx : h (A 507) = some (.inr (10, [.ref (A 506), .int (f 1), .int (f 2), .ref (A 30), .ref (A 140), .ref (A 300), .ref (A 400), .int (f 7), .ref (A 500), .ref (A 502), .ref (A 227), .ref (A 504), .ref (A 505)]))) (hP : PlanAt g (A 30) A P h) (hw : wfP P) (x : Int32)  : PM g M_Bus_isDevice 0 0 0 [.ref (A 507), .int (x)] h (RetV (some (.int (f_Bus_isDevice P x))) h) := by
  refine PM.of hst (by decide) rfl (fun v hv => ?_) (Nat.le_of_ble_eq_true rfl) ?_
  · simp only [List.mem_cons, List.not_mem_nil, or_false] at hv; rcases hv with rfl | rfl <;> rfl
  · have hq := w_Bus_isDevice_0 (g := g) (Q := RetV (some (.int (f_Bus_isDevice P x))) h) (h := h) (kc := 0) (ks := 0) hst f hx hP hw x ?_
    · exact hq
    · exact ⟨rfl, rfl⟩

theorem blk_of {P : Nat → Nat → Int32} {x : Int32} (hw : wfP P) (H : ¬ f_Bus_isBlock P x = 0) : x = nI x.toNatClampNeg ∧ x.toNatClampNeg < pN P 30 3 := by
  have hz := hw.blk.2
  rw [f_Bus_isBlock] at H
  by_cases h0 : x < 0
  · rw [if_pos h0] at H; exact absurd rfl H
  · rw [if_neg h0] at H
    by_cases h1 : nI (pN P 30 3) ≤ x
    · rw [if_pos h1] at H; exact absurd rfl H
    · exact toN (by omega) h0 (Int32.not_le.mp h1)
theorem dev_of {P : Nat → Nat → Int32} {x : Int32} (hw : wfP P) (H : ¬ f_Bus_isDevice P x = 0) : x = nI x.toNatClampNeg ∧ x.toNatClampNeg < pN P 30 0 := by
  have hz := hw.dvs.2
  rw [f_Bus_isDevice] at H
  by_cases h0 : x < 0
  · rw [if_pos h0] at H; exact absurd rfl H
  · rw [if_neg h0] at H
    by_cases h1 : nI (pN P 30 0) ≤ x
    · rw [if_pos h1] at H; exact absurd rfl H
    · exact toN (by omega) h0 (Int32.not_le.mp h1)
theorem q_Bus_needBlock {g : GG} {h : Hp} (hst : (gl g).stackTraces = false) {A : Nat → Nat} {P : Nat → Nat → Int32} (f : Nat → Int32) (hx : h (A 507) = some (.inr (10, [.ref (A 506), .int (f 1), .int (f 2), .ref (A 30), .ref (A 140), .ref (A 300), .ref (A 400), .int (f 7), .ref (A 500), .ref (A 502), .ref (A 227), .ref (A 504), .ref (A 505)]))) (hP : PlanAt g (A 30) A P h) (hw : wfP P) (x : Int32) : PM g M_Bus_needBlock 7 1 6 [.ref (A 507), .int x] h (BrX (¬ f_Bus_isBlock P x = 0) "java/util/NoSuchElementException" h) := by
  refine PM.of hst (by decide) rfl (fun v hv => ?_) (Nat.le_of_ble_eq_true rfl) ?_
  · simp only [List.mem_cons, List.not_mem_nil, or_false] at hv; rcases hv with rfl | rfl <;> rfl
  refine pw_aload_n e_Bus_needBlock_0 rfl ?_
  refine pw_iload_n e_Bus_needBlock_1 rfl ?_
  refine pw_detV (As := [.int x]) e_Bus_needBlock_2 li_Bus_207 rfl hx (q_Bus_isBlock hst f hx hP hw x) rfl (by decide) (Nat.le_of_ble_eq_true rfl) rfl ?_
  refine pw_if_ne (tgt := 16) e_Bus_needBlock_5 (by decide) (fun H => ?_) (fun H => ?_)
  · exact pw_vret e_Bus_needBlock_16 rfl ⟨rfl, Or.inl ⟨H, rfl⟩⟩
  · exact pw_nse (kc := 0) (ks := 0) rfl e_Bus_needBlock_8 e_Bus_needBlock_11 e_Bus_needBlock_12 e_Bus_needBlock_15 rfl (by decide) (Nat.le_of_ble_eq_true rfl) ⟨rfl, Or.inr ⟨fun q => q H, rfl⟩⟩
theorem q_Bus_needWithin {g : GG} {h : Hp} (hst : (gl g).stackTraces = false) (x lo hi : Int32) : PM g M_Bus_needWithin 6 1 6 [.int x, .int lo, .int hi] h (BrX (¬ x < lo ∧ x ≤ hi) "java/lang/IllegalArgumentException" h) := by
  refine PM.of hst (by decide) rfl (fun v hv => ?_) (Nat.le_of_ble_eq_true rfl) ?_
  · simp only [List.mem_cons, List.not_mem_nil, or_false] at hv; rcases hv with rfl | rfl | rfl <;> rfl
  refine pw_iload_n e_Bus_needWithin_0 rfl ?_
  refine pw_iload_n e_Bus_needWithin_1 rfl ?_
  refine pw_icmp_lt (tgt := 10) e_Bus_needWithin_2 (by decide) (fun H => ?_) (fun H => ?_)
  · exact pw_iae (kc := 0) (ks := 0) rfl e_Bus_needWithin_10 e_Bus_needWithin_13 e_Bus_needWithin_14 e_Bus_needWithin_17 rfl (by decide) (Nat.le_of_ble_eq_true rfl) ⟨rfl, Or.inr ⟨fun q => q.1 H, rfl⟩⟩
  refine pw_iload_n e_Bus_needWithin_5 rfl ?_
  refine pw_iload_n e_Bus_needWithin_6 rfl ?_
  refine pw_icmp_le (tgt := 18) e_Bus_needWithin_7 (by decide) (fun H2 => ?_) (fun H2 => ?_)
  · exact pw_vret e_Bus_needWithin_18 rfl ⟨rfl, Or.inl ⟨⟨H, H2⟩, rfl⟩⟩
  · exact pw_iae (kc := 0) (ks := 0) rfl e_Bus_needWithin_10 e_Bus_needWithin_13 e_Bus_needWithin_14 e_Bus_needWithin_17 rfl (by decide) (Nat.le_of_ble_eq_true rfl) ⟨rfl, Or.inr ⟨fun q => H2 q.2, rfl⟩⟩
theorem win_of {x : Int32} {n : Nat} (hn : n + 1 < 2 ^ 31) (H : ¬ x < nI 0 ∧ x ≤ nI n) : x = nI x.toNatClampNeg ∧ x.toNatClampNeg < n + 1 := by
  refine toN hn H.1 ?_
  have b := i_le.mp H.2
  rw [i_lt, nI_toInt hn]
  rw [nI_toInt (by omega)] at b
  omega
theorem win_of1 {x : Int32} {n : Nat} (hn : n + 1 < 2 ^ 31) (H : ¬ x < nI 1 ∧ x ≤ nI n) : x = nI x.toNatClampNeg ∧ x.toNatClampNeg < n + 1 := by
  refine win_of hn ⟨fun q => H.1 ?_, H.2⟩
  have z0 : (nI 0).toInt = 0 := by decide
  have z1 : (nI 1).toInt = 1 := by decide
  rw [i_lt] at q ⊢
  rw [z0] at q
  rw [z1]
  omega
def f_Bus_thenCell (x : Int32) : Int32 :=
  if x = nI 0 then 3 else if x = nI 1 then 1 else if x = nI 2 then 2 else if x = nI 3 then 5 else if x = nI 4 then 6 else if x = nI 5 then 0 else (-1)
set_option maxRecDepth 4000 in
theorem w_Bus_thenCell_0 {g : GG} {Q : QT} {h : Hp} {kc ks : Nat} (hst : (gl g).stackTraces = false) (x : Int32)  (hk : Q (.inl (some (.int (f_Bus_thenCell x)))) h) : PW g M_Bus_thenCell 0 kc ks Q 0 [.int (x)] [] h := by
  refine pw_iload_n e_Bus_thenCell_0 rfl ?_
  by_cases H1 : x = nI 0
  · refine pw_tableIn (tgt := 40) e_Bus_thenCell_1 (by rw [H1]; decide) (by rw [H1]; decide) (by rw [H1]; rfl) (by decide) ?_
    refine pw_iconst (v := nI 3) e_Bus_thenCell_40 (by decide) ?_
    refine pw_iret e_Bus_thenCell_41 rfl rfl ?_
    rw [f_Bus_thenCell, if_pos H1] at hk
    exact hk
  · by_cases H2 : x = nI 1
    · refine pw_tableIn (tgt := 42) e_Bus_thenCell_1 (by rw [H2]; decide) (by rw [H2]; decide) (by rw [H2]; rfl) (by decide) ?_
      refine pw_iconst (v := nI 1) e_Bus_thenCell_42 (by decide) ?_
      refine pw_iret e_Bus_thenCell_43 rfl rfl ?_
      rw [f_Bus_thenCell, if_neg H1, if_pos H2] at hk
      exact hk
    · by_cases H3 : x = nI 2
      · refine pw_tableIn (tgt := 44) e_Bus_thenCell_1 (by rw [H3]; decide) (by rw [H3]; decide) (by rw [H3]; rfl) (by decide) ?_
        refine pw_iconst (v := nI 2) e_Bus_thenCell_44 (by decide) ?_
        refine pw_iret e_Bus_thenCell_45 rfl rfl ?_
        rw [f_Bus_thenCell, if_neg H1, if_neg H2, if_pos H3] at hk
        exact hk
      · by_cases H4 : x = nI 3
        · refine pw_tableIn (tgt := 46) e_Bus_thenCell_1 (by rw [H4]; decide) (by rw [H4]; decide) (by rw [H4]; rfl) (by decide) ?_
          refine pw_iconst (v := nI 5) e_Bus_thenCell_46 (by decide) ?_
          refine pw_iret e_Bus_thenCell_47 rfl rfl ?_
          rw [f_Bus_thenCell, if_neg H1, if_neg H2, if_neg H3, if_pos H4] at hk
          exact hk
        · by_cases H5 : x = nI 4
          · refine pw_tableIn (tgt := 48) e_Bus_thenCell_1 (by rw [H5]; decide) (by rw [H5]; decide) (by rw [H5]; rfl) (by decide) ?_
            refine pw_bipush (v := nI 6) e_Bus_thenCell_48 (by decide) ?_
            refine pw_iret e_Bus_thenCell_50 rfl rfl ?_
            rw [f_Bus_thenCell, if_neg H1, if_neg H2, if_neg H3, if_neg H4, if_pos H5] at hk
            exact hk
          · by_cases H6 : x = nI 5
            · refine pw_tableIn (tgt := 51) e_Bus_thenCell_1 (by rw [H6]; decide) (by rw [H6]; decide) (by rw [H6]; rfl) (by decide) ?_
              refine pw_iconst (v := nI 0) e_Bus_thenCell_51 (by decide) ?_
              refine pw_iret e_Bus_thenCell_52 rfl rfl ?_
              rw [f_Bus_thenCell, if_neg H1, if_neg H2, if_neg H3, if_neg H4, if_neg H5, if_pos H6] at hk
              exact hk
            · refine pw_tableOut (tgt := 53) e_Bus_thenCell_1 (tb_out (n := 6) (by decide) (fun k hk => by rcases (by omega : k = 0 ∨ k = 1 ∨ k = 2 ∨ k = 3 ∨ k = 4 ∨ k = 5) with rfl | rfl | rfl | rfl | rfl | rfl <;> assumption)) (by decide) ?_
              refine pw_iconst (v := (-1)) e_Bus_thenCell_53 (by decide) ?_
              refine pw_iret e_Bus_thenCell_54 rfl rfl ?_
              rw [f_Bus_thenCell, if_neg H1, if_neg H2, if_neg H3, if_neg H4, if_neg H5, if_neg H6] at hk
              exact hk
theorem q_Bus_thenCell {g : GG} {h : Hp} (hst : (gl g).stackTraces = false) (x : Int32)  : PM g M_Bus_thenCell 0 0 0 [.int (x)] h (RetV (some (.int (f_Bus_thenCell x))) h) := by
  refine PM.of hst (by decide) rfl (fun v hv => ?_) (Nat.le_of_ble_eq_true rfl) ?_
  · simp only [List.mem_cons, List.not_mem_nil, or_false] at hv; rcases hv with rfl <;> rfl
  · have hq := w_Bus_thenCell_0 (g := g) (Q := RetV (some (.int (f_Bus_thenCell x))) h) (h := h) (kc := 0) (ks := 0) hst x ?_
    · exact hq
    · exact ⟨rfl, rfl⟩

def f_Bus_passCycles_2 (P : Nat → Nat → Int32) (n : Nat) : Nat → (Nat → Int32) → (Nat) → Nat → Int32
  | 0, c, _ => c
  | t + 1, c, k => if n ≤ k then c else f_Bus_passCycles_2 P n t (f_Cycle_goBy P c) (k + 1)
set_option maxRecDepth 4000 in
theorem w_Bus_passCycles_2 {g : GG} {Q : QT} {h : Hp} {kc ks : Nat} (hst : (gl g).stackTraces = false) {A : Nat → Nat} {P : Nat → Nat → Int32} {f : Nat → Int32} {o s : Nat} (hx : ∀ e, va_up h s e (A 507) = some (.inr (10, [.ref (A 506), .int (f 1), .int (f 2), .ref (A 30), .ref (A 140), .ref (A 300), .ref (A 400), .int (f 7), .ref (A 500), .ref (A 502), .ref (A 227), .ref (A 504), .ref (A 505)]))) (ho : ∀ e, va_up h s e o = some (.inr (8, [.ref s]))) (hP : ∀ e, PlanAt g (A 30) A P (va_up h s e)) (hw : wfP P) (n : Nat) (hn : n < 61)  (t : Nat) : ∀ (c : Nat → Int32) (k : Nat) (hk9 : k ≤ n) (hlt : n - k < t) (hk : PW g M_Bus_passCycles 5 kc ks Q 24 [.ref (A 507), .ref (o), .int (nI (n)), .retAddr 0] [] (va_up h s (some (aI g 225 (f_Bus_passCycles_2 P n t c k))))), PW g M_Bus_passCycles 5 kc ks Q 2 [.ref (A 507), .ref (o), .int (nI (n)), .int (nI (k))] [] (va_up h s (some (aI g 225 (c)))) := by
  induction t with
  | zero => intro c k hk9 hlt _; exact absurd hlt (Nat.not_lt_zero _)
  | succ t ih =>
    intro c k hk9 hlt hk
    refine pw_iload_n e_Bus_passCycles_2 rfl ?_
    refine pw_iload_n e_Bus_passCycles_3 rfl ?_
    refine pw_icmp_geN (tgt := 24) e_Bus_passCycles_4 (by decide) (by omega) (by omega) (fun (H1 : n ≤ k) => ?_) (fun (H1 : k < n) => ?_)
    · refine pw_fgt (ls' := [.ref (A 507), .ref (o), .int (nI (n)), .retAddr 0]) ⟨Or.inr rfl, Or.inr rfl, Or.inr rfl, Or.inl rfl, trivial⟩ ?_
      rw [f_Bus_passCycles_2, if_pos H1] at hk
      exact hk
    · refine pw_aload_n e_Bus_passCycles_7 rfl ?_
      refine pw_getf e_Bus_passCycles_8 fl_Bus_23 (hx _) rfl ?_
      refine pw_aload_n e_Bus_passCycles_11 rfl ?_
      refine pw_getf e_Bus_passCycles_12 fl_Bus_127 (ho _) rfl ?_
      refine pw_detS (As := [.ref (A 30), .ref (s)]) e_Bus_passCycles_15 li_Bus_269 (q_Cycle_goBy hst (fun e => by rw [up_up]; exact hP e) hw c up_same) rfl (by decide) (Nat.le_of_ble_eq_true rfl) rfl ?_
      rw [up_up]
      refine pw_iincN (ls2 := [_, _, _, _]) e_Bus_passCycles_18 rfl (by decide) rfl ?_
      refine pw_goto (tgt := 2) e_Bus_passCycles_21 (by decide) ?_
      refine ih (f_Cycle_goBy P c) (k + 1) (by omega) (by omega) ?_
      rw [f_Bus_passCycles_2, if_neg (Nat.not_le.mpr H1)] at hk
      exact hk
def f_Bus_passCycles (P : Nat → Nat → Int32) (n : Nat) (c : Nat → Int32) : Nat → Int32 :=
  f_Bus_passCycles_2 P n 61 c 0
set_option maxRecDepth 4000 in
theorem w_Bus_passCycles_0 {g : GG} {Q : QT} {h : Hp} {kc ks : Nat} (hst : (gl g).stackTraces = false) {A : Nat → Nat} {P : Nat → Nat → Int32} {f : Nat → Int32} {o s : Nat} (hx : ∀ e, va_up h s e (A 507) = some (.inr (10, [.ref (A 506), .int (f 1), .int (f 2), .ref (A 30), .ref (A 140), .ref (A 300), .ref (A 400), .int (f 7), .ref (A 500), .ref (A 502), .ref (A 227), .ref (A 504), .ref (A 505)]))) (ho : ∀ e, va_up h s e o = some (.inr (8, [.ref s]))) (hP : ∀ e, PlanAt g (A 30) A P (va_up h s e)) (hw : wfP P) (n : Nat) (hn : n < 61)  (c : Nat → Int32) (hk : Q (.inl none) (va_up h s (some (aI g 225 (f_Bus_passCycles P n c))))) : PW g M_Bus_passCycles 5 kc ks Q 0 [.ref (A 507), .ref (o), .int (nI (n)), .retAddr 0] [] (va_up h s (some (aI g 225 (c)))) := by
  refine pw_iconst (v := nI 0) e_Bus_passCycles_0 (by decide) ?_
  refine pw_istore_n (ls2 := [_, _, _, _]) e_Bus_passCycles_1 (by decide) rfl ?_
  refine w_Bus_passCycles_2 hst hx ho hP hw n hn 61 c 0 (by omega) (by omega) ?_
  refine pw_vret e_Bus_passCycles_24 rfl ?_
  rw [f_Bus_passCycles] at hk
  exact hk
theorem q_Bus_passCycles {g : GG} {h : Hp} (hst : (gl g).stackTraces = false) {A : Nat → Nat} {P : Nat → Nat → Int32} {f : Nat → Int32} {o s : Nat} (hx : ∀ e, va_up h s e (A 507) = some (.inr (10, [.ref (A 506), .int (f 1), .int (f 2), .ref (A 30), .ref (A 140), .ref (A 300), .ref (A 400), .int (f 7), .ref (A 500), .ref (A 502), .ref (A 227), .ref (A 504), .ref (A 505)]))) (ho : ∀ e, va_up h s e o = some (.inr (8, [.ref s]))) (hP : ∀ e, PlanAt g (A 30) A P (va_up h s e)) (hw : wfP P) (n : Nat) (hn : n < 61)  (c : Nat → Int32) (hm : h s = some (aI g 225 c)) : PM g M_Bus_passCycles 5 0 0 [.ref (A 507), .ref (o), .int (nI (n))] h (RetV none (va_up h s (some (aI g 225 (f_Bus_passCycles P n c))))) := by
  refine PM.of hst (by decide) rfl (fun v hv => ?_) (Nat.le_of_ble_eq_true rfl) ?_
  · simp only [List.mem_cons, List.not_mem_nil, or_false] at hv; rcases hv with rfl | rfl | rfl <;> rfl
  · have hq := w_Bus_passCycles_0 (g := g) (Q := RetV none (va_up h s (some (aI g 225 (f_Bus_passCycles P n c))))) (h := h) (kc := 0) (ks := 0) (s := s) hst hx ho hP hw n hn c ?_
    · rw [up_self hm] at hq; exact hq
    · exact ⟨rfl, rfl⟩

def f_Bus_refuseAct (P : Nat → Nat → Int32) (Z : Nat → Nat → Int32) : Int32 × (Nat → Nat → Int32) :=
  ((-1), u2 Z 305 1 (((Z 305) 1) + 1))
set_option maxRecDepth 4000 in
theorem w_Bus_refuseAct_0 {g : GG} {Q : QT} {h : Hp} {kc ks : Nat} (hst : (gl g).stackTraces = false) {A : Nat → Nat} {S : SA} {P Y : Nat → Nat → Int32} (hnd : (gK (bsL g A S P Y)).Nodup) (hw : wfP P)  (Z : Nat → Nat → Int32) (hk : Q (.inl (some (.int (f_Bus_refuseAct P Z).1))) (ov h (gO (bsL g A S P Y) ((f_Bus_refuseAct P Z).2)))) : PW g M_Bus_refuseAct 0 kc ks Q 0 [.ref (A 507)] [] (ov h (gO (bsL g A S P Y) Z)) := by
  have hz0 := hw.blk.2
  have hz1 := hw.lnk.2
  have hz2 := hw.dvs.2
  refine pw_aload_n e_Bus_refuseAct_0 rfl ?_
  refine pw_getf e_Bus_refuseAct_1 fl_Bus_37 (gO_get hnd (i := 29) rfl) rfl ?_
  refine pw_getf e_Bus_refuseAct_4 fl_Bus_97 (gO_get hnd (i := 31) rfl) rfl ?_
  refine pw_iconst (v := nI 1) e_Bus_refuseAct_7 (by decide) ?_
  refine pw_dup2 e_Bus_refuseAct_8 rfl rfl ?_
  refine pw_ialdN e_Bus_refuseAct_9 (gO_get hnd (i := 40) rfl) (by omega) (by decide) ?_
  refine pw_iconst (v := nI 1) e_Bus_refuseAct_10 (by decide) ?_
  refine pw_iadd e_Bus_refuseAct_11 ?_
  refine pw_iastG (i := 40) e_Bus_refuseAct_12 hnd (bs_x _ _ _ _ _) rfl (by omega) (by decide) ?_
  refine pw_iconst (v := (-1)) e_Bus_refuseAct_13 (by decide) ?_
  refine pw_iret e_Bus_refuseAct_14 rfl rfl ?_
  rw [f_Bus_refuseAct] at hk
  exact hk
theorem q_Bus_refuseAct {g : GG} {h : Hp} (hst : (gl g).stackTraces = false) {A : Nat → Nat} {S : SA} {P Y : Nat → Nat → Int32} (hnd : (gK (bsL g A S P Y)).Nodup) (hw : wfP P)  (Z : Nat → Nat → Int32) (hm : ∀ q ∈ gO (bsL g A S P Y) Z, h q.1 = some q.2) : PM g M_Bus_refuseAct 0 0 0 [.ref (A 507)] h (RetV (some (.int (f_Bus_refuseAct P Z).1)) (ov h (gO (bsL g A S P Y) ((f_Bus_refuseAct P Z).2)))) := by
  refine PM.of hst (by decide) rfl (fun v hv => ?_) (Nat.le_of_ble_eq_true rfl) ?_
  · simp only [List.mem_cons, List.not_mem_nil, or_false] at hv; rcases hv with rfl <;> rfl
  · have hq := w_Bus_refuseAct_0 (g := g) (Q := RetV (some (.int (f_Bus_refuseAct P Z).1)) (ov h (gO (bsL g A S P Y) ((f_Bus_refuseAct P Z).2)))) (h := h) (kc := 0) (ks := 0) hst hnd hw Z ?_
    · rw [ov_self hm] at hq; exact hq
    · exact ⟨rfl, rfl⟩

def f_Bus_fault (P : Nat → Nat → Int32) (Z : Nat → Nat → Int32) : Int32 :=
  Z 507 2
set_option maxRecDepth 4000 in
theorem w_Bus_fault_0 {g : GG} {Q : QT} {h : Hp} {kc ks : Nat} (hst : (gl g).stackTraces = false) {A : Nat → Nat} {S : SA} {P Y : Nat → Nat → Int32} (hnd : (gK (bsL g A S P Y)).Nodup) (hw : wfP P)  (Z : Nat → Nat → Int32) (hk : Q (.inl (some (.int (f_Bus_fault P Z)))) (ov h (gO (bsL g A S P Y) Z))) : PW g M_Bus_fault 0 kc ks Q 0 [.ref (A 507)] [] (ov h (gO (bsL g A S P Y) Z)) := by
  have hz0 := hw.blk.2
  have hz1 := hw.lnk.2
  have hz2 := hw.dvs.2
  refine pw_aload_n e_Bus_fault_0 rfl ?_
  refine pw_getf e_Bus_fault_1 fl_Bus_17 (gO_get hnd (i := 29) rfl) rfl ?_
  refine pw_iret e_Bus_fault_4 rfl rfl ?_
  rw [f_Bus_fault] at hk
  exact hk
theorem q_Bus_fault {g : GG} {h : Hp} (hst : (gl g).stackTraces = false) {A : Nat → Nat} {S : SA} {P Y : Nat → Nat → Int32} (hnd : (gK (bsL g A S P Y)).Nodup) (hw : wfP P)  (Z : Nat → Nat → Int32) (hm : ∀ q ∈ gO (bsL g A S P Y) Z, h q.1 = some q.2) : PM g M_Bus_fault 0 0 0 [.ref (A 507)] h (RetV (some (.int (f_Bus_fault P Z))) h) := by
  refine PM.of hst (by decide) rfl (fun v hv => ?_) (Nat.le_of_ble_eq_true rfl) ?_
  · simp only [List.mem_cons, List.not_mem_nil, or_false] at hv; rcases hv with rfl <;> rfl
  · have hq := w_Bus_fault_0 (g := g) (Q := RetV (some (.int (f_Bus_fault P Z))) h) (h := h) (kc := 0) (ks := 0) hst hnd hw Z ?_
    · rw [ov_self hm] at hq; exact hq
    · exact ⟨rfl, ov_self hm⟩

def f_Bus_count (P : Nat → Nat → Int32) (x : Int32) (Z : Nat → Nat → Int32) : Int32 ⊕ String :=
  if x = nI 0 then .inl (nI (pN P 30 0)) else if x = nI 1 then .inl (nI (pN P 30 3)) else if x = nI 2 then .inl (nI (pN P 31 0)) else if x = nI 3 then .inl ((Z 302) 223) else if x = nI 4 then .inl ((Z 302) 221) else if x = nI 5 then .inl ((Z 302) 222) else if x = nI 6 then .inl ((Z 302) 220) else if x = nI 7 then .inl (P 32 0) else if x = nI 8 then .inl (P 32 1) else if x = nI 9 then .inl ((Z 302) 219) else if x = nI 10 then .inl (Z 303 0) else if x = nI 11 then .inl (Z 310 0) else if x = nI 12 then .inl (Z 507 1) else if x = nI 13 then .inl ((Z 305) 0) else if x = nI 14 then .inl ((Z 305) 1) else if x = nI 15 then .inl ((Z 305) 2) else .inr "java/util/NoSuchElementException"
set_option maxRecDepth 4000 in
theorem w_Bus_count_0 {g : GG} {Q : QT} {h : Hp} (hst : (gl g).stackTraces = false) {A : Nat → Nat} {S : SA} {P Y : Nat → Nat → Int32} (hnd : (gK (bsL g A S P Y)).Nodup) (hw : wfP P) (x : Int32)  (Z : Nat → Nat → Int32) (hk : Q (outX (f_Bus_count P x Z)) (ov h (gO (bsL g A S P Y) Z))) : PW g M_Bus_count 6 1 6 Q 0 [.ref (A 507), .int (x), .retAddr 0] [] (ov h (gO (bsL g A S P Y) Z)) := by
  have hz0 := hw.blk.2
  have hz1 := hw.lnk.2
  have hz2 := hw.dvs.2
  refine pw_aload_n e_Bus_count_0 rfl ?_
  refine pw_getf e_Bus_count_1 fl_Bus_37 (gO_get hnd (i := 29) rfl) rfl ?_
  refine pw_getf e_Bus_count_4 fl_Bus_76 (gO_get hnd (i := 31) rfl) rfl ?_
  refine pw_getf e_Bus_count_7 fl_Bus_127 (gO_get hnd (i := 32) rfl) rfl ?_
  refine pw_astore_n (ls2 := [_, _, _]) e_Bus_count_10 (by decide) rfl ?_
  refine pw_iload_n e_Bus_count_11 rfl ?_
  by_cases H1 : x = nI 0
  · refine pw_tableIn (tgt := 92) e_Bus_count_12 (by rw [H1]; decide) (by rw [H1]; decide) (by rw [H1]; rfl) (by decide) ?_
    refine pw_aload_n e_Bus_count_92 rfl ?_
    refine pw_getf e_Bus_count_93 fl_Bus_23 (gO_get hnd (i := 29) rfl) rfl ?_
    refine pw_getf e_Bus_count_96 fl_Bus_130 (gO_get hnd (i := 0) rfl) rfl ?_
    rw [hw.dvs.1]
    refine pw_iret e_Bus_count_99 rfl rfl ?_
    rw [f_Bus_count, if_pos H1] at hk
    exact hk
  · by_cases H2 : x = nI 1
    · refine pw_tableIn (tgt := 100) e_Bus_count_12 (by rw [H2]; decide) (by rw [H2]; decide) (by rw [H2]; rfl) (by decide) ?_
      refine pw_aload_n e_Bus_count_100 rfl ?_
      refine pw_getf e_Bus_count_101 fl_Bus_23 (gO_get hnd (i := 29) rfl) rfl ?_
      refine pw_getf e_Bus_count_104 fl_Bus_133 (gO_get hnd (i := 0) rfl) rfl ?_
      rw [hw.blk.1]
      refine pw_iret e_Bus_count_107 rfl rfl ?_
      rw [f_Bus_count, if_neg H1, if_pos H2] at hk
      exact hk
    · by_cases H3 : x = nI 2
      · refine pw_tableIn (tgt := 108) e_Bus_count_12 (by rw [H3]; decide) (by rw [H3]; decide) (by rw [H3]; rfl) (by decide) ?_
        refine pw_aload_n e_Bus_count_108 rfl ?_
        refine pw_getf e_Bus_count_109 fl_Bus_23 (gO_get hnd (i := 29) rfl) rfl ?_
        refine pw_getf e_Bus_count_112 fl_Bus_136 (gO_get hnd (i := 0) rfl) rfl ?_
        refine pw_getf e_Bus_count_115 fl_Bus_140 (gO_get hnd (i := 1) rfl) rfl ?_
        rw [hw.lnk.1]
        refine pw_iret e_Bus_count_118 rfl rfl ?_
        rw [f_Bus_count, if_neg H1, if_neg H2, if_pos H3] at hk
        exact hk
      · by_cases H4 : x = nI 3
        · refine pw_tableIn (tgt := 119) e_Bus_count_12 (by rw [H4]; decide) (by rw [H4]; decide) (by rw [H4]; rfl) (by decide) ?_
          refine pw_aload_n e_Bus_count_119 rfl ?_
          refine pw_sipush (v := nI 223) e_Bus_count_120 (by decide) ?_
          refine pw_ialdN e_Bus_count_123 (gO_get hnd (i := 33) rfl) (by omega) (by decide) ?_
          refine pw_iret e_Bus_count_124 rfl rfl ?_
          rw [f_Bus_count, if_neg H1, if_neg H2, if_neg H3, if_pos H4] at hk
          exact hk
        · by_cases H5 : x = nI 4
          · refine pw_tableIn (tgt := 125) e_Bus_count_12 (by rw [H5]; decide) (by rw [H5]; decide) (by rw [H5]; rfl) (by decide) ?_
            refine pw_aload_n e_Bus_count_125 rfl ?_
            refine pw_sipush (v := nI 221) e_Bus_count_126 (by decide) ?_
            refine pw_ialdN e_Bus_count_129 (gO_get hnd (i := 33) rfl) (by omega) (by decide) ?_
            refine pw_iret e_Bus_count_130 rfl rfl ?_
            rw [f_Bus_count, if_neg H1, if_neg H2, if_neg H3, if_neg H4, if_pos H5] at hk
            exact hk
          · by_cases H6 : x = nI 5
            · refine pw_tableIn (tgt := 131) e_Bus_count_12 (by rw [H6]; decide) (by rw [H6]; decide) (by rw [H6]; rfl) (by decide) ?_
              refine pw_aload_n e_Bus_count_131 rfl ?_
              refine pw_sipush (v := nI 222) e_Bus_count_132 (by decide) ?_
              refine pw_ialdN e_Bus_count_135 (gO_get hnd (i := 33) rfl) (by omega) (by decide) ?_
              refine pw_iret e_Bus_count_136 rfl rfl ?_
              rw [f_Bus_count, if_neg H1, if_neg H2, if_neg H3, if_neg H4, if_neg H5, if_pos H6] at hk
              exact hk
            · by_cases H7 : x = nI 6
              · refine pw_tableIn (tgt := 137) e_Bus_count_12 (by rw [H7]; decide) (by rw [H7]; decide) (by rw [H7]; rfl) (by decide) ?_
                refine pw_aload_n e_Bus_count_137 rfl ?_
                refine pw_sipush (v := nI 220) e_Bus_count_138 (by decide) ?_
                refine pw_ialdN e_Bus_count_141 (gO_get hnd (i := 33) rfl) (by omega) (by decide) ?_
                refine pw_iret e_Bus_count_142 rfl rfl ?_
                rw [f_Bus_count, if_neg H1, if_neg H2, if_neg H3, if_neg H4, if_neg H5, if_neg H6, if_pos H7] at hk
                exact hk
              · by_cases H8 : x = nI 7
                · refine pw_tableIn (tgt := 143) e_Bus_count_12 (by rw [H8]; decide) (by rw [H8]; decide) (by rw [H8]; rfl) (by decide) ?_
                  refine pw_aload_n e_Bus_count_143 rfl ?_
                  refine pw_getf e_Bus_count_144 fl_Bus_23 (gO_get hnd (i := 29) rfl) rfl ?_
                  refine pw_getf e_Bus_count_147 fl_Bus_104 (gO_get hnd (i := 0) rfl) rfl ?_
                  refine pw_getf e_Bus_count_150 fl_Bus_145 (gO_get hnd (i := 3) rfl) rfl ?_
                  refine pw_iret e_Bus_count_153 rfl rfl ?_
                  rw [f_Bus_count, if_neg H1, if_neg H2, if_neg H3, if_neg H4, if_neg H5, if_neg H6, if_neg H7, if_pos H8] at hk
                  exact hk
                · by_cases H9 : x = nI 8
                  · refine pw_tableIn (tgt := 154) e_Bus_count_12 (by rw [H9]; decide) (by rw [H9]; decide) (by rw [H9]; rfl) (by decide) ?_
                    refine pw_aload_n e_Bus_count_154 rfl ?_
                    refine pw_getf e_Bus_count_155 fl_Bus_23 (gO_get hnd (i := 29) rfl) rfl ?_
                    refine pw_getf e_Bus_count_158 fl_Bus_104 (gO_get hnd (i := 0) rfl) rfl ?_
                    refine pw_getf e_Bus_count_161 fl_Bus_148 (gO_get hnd (i := 3) rfl) rfl ?_
                    refine pw_iret e_Bus_count_164 rfl rfl ?_
                    rw [f_Bus_count, if_neg H1, if_neg H2, if_neg H3, if_neg H4, if_neg H5, if_neg H6, if_neg H7, if_neg H8, if_pos H9] at hk
                    exact hk
                  · by_cases H10 : x = nI 9
                    · refine pw_tableIn (tgt := 165) e_Bus_count_12 (by rw [H10]; decide) (by rw [H10]; decide) (by rw [H10]; rfl) (by decide) ?_
                      refine pw_aload_n e_Bus_count_165 rfl ?_
                      refine pw_sipush (v := nI 219) e_Bus_count_166 (by decide) ?_
                      refine pw_ialdN e_Bus_count_169 (gO_get hnd (i := 33) rfl) (by omega) (by decide) ?_
                      refine pw_iret e_Bus_count_170 rfl rfl ?_
                      rw [f_Bus_count, if_neg H1, if_neg H2, if_neg H3, if_neg H4, if_neg H5, if_neg H6, if_neg H7, if_neg H8, if_neg H9, if_pos H10] at hk
                      exact hk
                    · by_cases H11 : x = nI 10
                      · refine pw_tableIn (tgt := 171) e_Bus_count_12 (by rw [H11]; decide) (by rw [H11]; decide) (by rw [H11]; rfl) (by decide) ?_
                        refine pw_aload_n e_Bus_count_171 rfl ?_
                        refine pw_getf e_Bus_count_172 fl_Bus_37 (gO_get hnd (i := 29) rfl) rfl ?_
                        refine pw_getf e_Bus_count_175 fl_Bus_111 (gO_get hnd (i := 31) rfl) rfl ?_
                        refine pw_getf e_Bus_count_178 fl_Bus_151 (gO_get hnd (i := 34) rfl) rfl ?_
                        refine pw_iret e_Bus_count_181 rfl rfl ?_
                        rw [f_Bus_count, if_neg H1, if_neg H2, if_neg H3, if_neg H4, if_neg H5, if_neg H6, if_neg H7, if_neg H8, if_neg H9, if_neg H10, if_pos H11] at hk
                        exact hk
                      · by_cases H12 : x = nI 11
                        · refine pw_tableIn (tgt := 182) e_Bus_count_12 (by rw [H12]; decide) (by rw [H12]; decide) (by rw [H12]; rfl) (by decide) ?_
                          refine pw_aload_n e_Bus_count_182 rfl ?_
                          refine pw_getf e_Bus_count_183 fl_Bus_37 (gO_get hnd (i := 29) rfl) rfl ?_
                          refine pw_getf e_Bus_count_186 fl_Bus_120 (gO_get hnd (i := 31) rfl) rfl ?_
                          refine pw_getf e_Bus_count_189 fl_Bus_152 (gO_get hnd (i := 36) rfl) rfl ?_
                          refine pw_iret e_Bus_count_192 rfl rfl ?_
                          rw [f_Bus_count, if_neg H1, if_neg H2, if_neg H3, if_neg H4, if_neg H5, if_neg H6, if_neg H7, if_neg H8, if_neg H9, if_neg H10, if_neg H11, if_pos H12] at hk
                          exact hk
                        · by_cases H13 : x = nI 12
                          · refine pw_tableIn (tgt := 193) e_Bus_count_12 (by rw [H13]; decide) (by rw [H13]; decide) (by rw [H13]; rfl) (by decide) ?_
                            refine pw_aload_n e_Bus_count_193 rfl ?_
                            refine pw_getf e_Bus_count_194 fl_Bus_13 (gO_get hnd (i := 29) rfl) rfl ?_
                            refine pw_iret e_Bus_count_197 rfl rfl ?_
                            rw [f_Bus_count, if_neg H1, if_neg H2, if_neg H3, if_neg H4, if_neg H5, if_neg H6, if_neg H7, if_neg H8, if_neg H9, if_neg H10, if_neg H11, if_neg H12, if_pos H13] at hk
                            exact hk
                          · by_cases H14 : x = nI 13
                            · refine pw_tableIn (tgt := 198) e_Bus_count_12 (by rw [H14]; decide) (by rw [H14]; decide) (by rw [H14]; rfl) (by decide) ?_
                              refine pw_aload_n e_Bus_count_198 rfl ?_
                              refine pw_getf e_Bus_count_199 fl_Bus_37 (gO_get hnd (i := 29) rfl) rfl ?_
                              refine pw_getf e_Bus_count_202 fl_Bus_97 (gO_get hnd (i := 31) rfl) rfl ?_
                              refine pw_iconst (v := nI 0) e_Bus_count_205 (by decide) ?_
                              refine pw_ialdN e_Bus_count_206 (gO_get hnd (i := 40) rfl) (by omega) (by decide) ?_
                              refine pw_iret e_Bus_count_207 rfl rfl ?_
                              rw [f_Bus_count, if_neg H1, if_neg H2, if_neg H3, if_neg H4, if_neg H5, if_neg H6, if_neg H7, if_neg H8, if_neg H9, if_neg H10, if_neg H11, if_neg H12, if_neg H13, if_pos H14] at hk
                              exact hk
                            · by_cases H15 : x = nI 14
                              · refine pw_tableIn (tgt := 208) e_Bus_count_12 (by rw [H15]; decide) (by rw [H15]; decide) (by rw [H15]; rfl) (by decide) ?_
                                refine pw_aload_n e_Bus_count_208 rfl ?_
                                refine pw_getf e_Bus_count_209 fl_Bus_37 (gO_get hnd (i := 29) rfl) rfl ?_
                                refine pw_getf e_Bus_count_212 fl_Bus_97 (gO_get hnd (i := 31) rfl) rfl ?_
                                refine pw_iconst (v := nI 1) e_Bus_count_215 (by decide) ?_
                                refine pw_ialdN e_Bus_count_216 (gO_get hnd (i := 40) rfl) (by omega) (by decide) ?_
                                refine pw_iret e_Bus_count_217 rfl rfl ?_
                                rw [f_Bus_count, if_neg H1, if_neg H2, if_neg H3, if_neg H4, if_neg H5, if_neg H6, if_neg H7, if_neg H8, if_neg H9, if_neg H10, if_neg H11, if_neg H12, if_neg H13, if_neg H14, if_pos H15] at hk
                                exact hk
                              · by_cases H16 : x = nI 15
                                · refine pw_tableIn (tgt := 218) e_Bus_count_12 (by rw [H16]; decide) (by rw [H16]; decide) (by rw [H16]; rfl) (by decide) ?_
                                  refine pw_aload_n e_Bus_count_218 rfl ?_
                                  refine pw_getf e_Bus_count_219 fl_Bus_37 (gO_get hnd (i := 29) rfl) rfl ?_
                                  refine pw_getf e_Bus_count_222 fl_Bus_97 (gO_get hnd (i := 31) rfl) rfl ?_
                                  refine pw_iconst (v := nI 2) e_Bus_count_225 (by decide) ?_
                                  refine pw_ialdN e_Bus_count_226 (gO_get hnd (i := 40) rfl) (by omega) (by decide) ?_
                                  refine pw_iret e_Bus_count_227 rfl rfl ?_
                                  rw [f_Bus_count, if_neg H1, if_neg H2, if_neg H3, if_neg H4, if_neg H5, if_neg H6, if_neg H7, if_neg H8, if_neg H9, if_neg H10, if_neg H11, if_neg H12, if_neg H13, if_neg H14, if_neg H15, if_pos H16] at hk
                                  exact hk
                                · refine pw_tableOut (tgt := 228) e_Bus_count_12 (tb_out (n := 16) (by decide) (fun k hk => by rcases (by omega : k = 0 ∨ k = 1 ∨ k = 2 ∨ k = 3 ∨ k = 4 ∨ k = 5 ∨ k = 6 ∨ k = 7 ∨ k = 8 ∨ k = 9 ∨ k = 10 ∨ k = 11 ∨ k = 12 ∨ k = 13 ∨ k = 14 ∨ k = 15) with rfl | rfl | rfl | rfl | rfl | rfl | rfl | rfl | rfl | rfl | rfl | rfl | rfl | rfl | rfl | rfl <;> assumption)) (by decide) ?_
                                  refine pw_nse (kc := 0) (ks := 0) rfl e_Bus_count_228 e_Bus_count_231 e_Bus_count_232 e_Bus_count_235 rfl (by decide) (Nat.le_of_ble_eq_true rfl) ?_
                                  rw [f_Bus_count, if_neg H1, if_neg H2, if_neg H3, if_neg H4, if_neg H5, if_neg H6, if_neg H7, if_neg H8, if_neg H9, if_neg H10, if_neg H11, if_neg H12, if_neg H13, if_neg H14, if_neg H15, if_neg H16] at hk
                                  exact hk
theorem q_Bus_count {g : GG} {h : Hp} (hst : (gl g).stackTraces = false) {A : Nat → Nat} {S : SA} {P Y : Nat → Nat → Int32} (hnd : (gK (bsL g A S P Y)).Nodup) (hw : wfP P) (x : Int32)  (Z : Nat → Nat → Int32) (hm : ∀ q ∈ gO (bsL g A S P Y) Z, h q.1 = some q.2) : PM g M_Bus_count 6 1 6 [.ref (A 507), .int (x)] h (RetX (f_Bus_count P x Z) h) := by
  refine PM.of hst (by decide) rfl (fun v hv => ?_) (Nat.le_of_ble_eq_true rfl) ?_
  · simp only [List.mem_cons, List.not_mem_nil, or_false] at hv; rcases hv with rfl | rfl <;> rfl
  · have hq := w_Bus_count_0 (g := g) (Q := RetX (f_Bus_count P x Z) h) (h := h) hst hnd hw x Z ?_
    · rw [ov_self hm] at hq; exact hq
    · exact ⟨rfl, ov_self hm⟩

def f_Bus_block_5 (P : Nat → Nat → Int32) (x y : Int32) (Z : Nat → Nat → Int32) (b : Nat) : Int32 ⊕ String :=
  if y = nI 0 then .inl ((P 0) b) else if y = nI 1 then .inl ((P 1) b) else if y = nI 2 then .inl ((P 2) b) else if y = nI 3 then .inl ((P 20) b) else if y = nI 4 then .inl ((P 21) b) else if y = nI 5 then .inl ((Z 302) ((b * 9) + 0)) else if y = nI 6 then .inl ((Z 302) ((b * 9) + 1)) else if y = nI 7 then .inl ((Z 302) ((b * 9) + 2)) else if y = nI 8 then .inl ((Z 302) ((b * 9) + 3)) else if y = nI 9 then .inl ((Z 302) ((b * 9) + 4)) else if y = nI 10 then .inl ((Z 302) ((b * 9) + 5)) else if y = nI 11 then .inl ((Z 302) ((b * 9) + 6)) else if y = nI 12 then .inl ((Z 302) ((b * 9) + 7)) else if y = nI 13 then .inl ((P 19) b) else .inr "java/util/NoSuchElementException"
set_option maxRecDepth 4000 in
theorem w_Bus_block_5 {g : GG} {Q : QT} {h : Hp} (hst : (gl g).stackTraces = false) {A : Nat → Nat} {S : SA} {P Y : Nat → Nat → Int32} (hnd : (gK (bsL g A S P Y)).Nodup) (hw : wfP P) (x y : Int32)  (Z : Nat → Nat → Int32) (b : Nat) (hb : b < pN P 30 3) (hk : Q (outX (f_Bus_block_5 P x y Z b)) (ov h (gO (bsL g A S P Y) Z))) : PW g M_Bus_block 8 1 6 Q 5 [.ref (A 507), .int (nI (b)), .int (y), .retAddr 0, .retAddr 0] [] (ov h (gO (bsL g A S P Y) Z)) := by
  have hz0 := hw.blk.2
  have hz1 := hw.lnk.2
  have hz2 := hw.dvs.2
  refine pw_aload_n e_Bus_block_5 rfl ?_
  refine pw_getf e_Bus_block_6 fl_Bus_37 (gO_get hnd (i := 29) rfl) rfl ?_
  refine pw_getf e_Bus_block_9 fl_Bus_76 (gO_get hnd (i := 31) rfl) rfl ?_
  refine pw_getf e_Bus_block_12 fl_Bus_127 (gO_get hnd (i := 32) rfl) rfl ?_
  refine pw_astore_n (ls2 := [_, _, _, _, _]) e_Bus_block_15 (by decide) rfl ?_
  refine pw_iload_n e_Bus_block_16 rfl ?_
  refine pw_bipush (v := nI 9) e_Bus_block_17 (by decide) ?_
  refine pw_imulN e_Bus_block_19 ?_
  refine pw_istore (ls2 := [_, _, _, _, _]) e_Bus_block_20 (by decide) rfl ?_
  refine pw_iload_n e_Bus_block_22 rfl ?_
  by_cases H1 : y = nI 0
  · refine pw_tableIn (tgt := 92) e_Bus_block_23 (by rw [H1]; decide) (by rw [H1]; decide) (by rw [H1]; rfl) (by decide) ?_
    refine pw_aload_n e_Bus_block_92 rfl ?_
    refine pw_getf e_Bus_block_93 fl_Bus_23 (gO_get hnd (i := 29) rfl) rfl ?_
    refine pw_getf e_Bus_block_96 fl_Bus_159 (gO_get hnd (i := 0) rfl) rfl ?_
    refine pw_iload_n e_Bus_block_99 rfl ?_
    refine pw_ialdN e_Bus_block_100 (bs_pl hnd).a0 (by omega) (by decide) ?_
    refine pw_iret e_Bus_block_101 rfl rfl ?_
    rw [f_Bus_block_5, if_pos H1] at hk
    exact hk
  · by_cases H2 : y = nI 1
    · refine pw_tableIn (tgt := 102) e_Bus_block_23 (by rw [H2]; decide) (by rw [H2]; decide) (by rw [H2]; rfl) (by decide) ?_
      refine pw_aload_n e_Bus_block_102 rfl ?_
      refine pw_getf e_Bus_block_103 fl_Bus_23 (gO_get hnd (i := 29) rfl) rfl ?_
      refine pw_getf e_Bus_block_106 fl_Bus_162 (gO_get hnd (i := 0) rfl) rfl ?_
      refine pw_iload_n e_Bus_block_109 rfl ?_
      refine pw_ialdN e_Bus_block_110 (bs_pl hnd).a1 (by omega) (by decide) ?_
      refine pw_iret e_Bus_block_111 rfl rfl ?_
      rw [f_Bus_block_5, if_neg H1, if_pos H2] at hk
      exact hk
    · by_cases H3 : y = nI 2
      · refine pw_tableIn (tgt := 112) e_Bus_block_23 (by rw [H3]; decide) (by rw [H3]; decide) (by rw [H3]; rfl) (by decide) ?_
        refine pw_aload_n e_Bus_block_112 rfl ?_
        refine pw_getf e_Bus_block_113 fl_Bus_23 (gO_get hnd (i := 29) rfl) rfl ?_
        refine pw_getf e_Bus_block_116 fl_Bus_165 (gO_get hnd (i := 0) rfl) rfl ?_
        refine pw_iload_n e_Bus_block_119 rfl ?_
        refine pw_ialdN e_Bus_block_120 (bs_pl hnd).a2 (by omega) (by decide) ?_
        refine pw_iret e_Bus_block_121 rfl rfl ?_
        rw [f_Bus_block_5, if_neg H1, if_neg H2, if_pos H3] at hk
        exact hk
      · by_cases H4 : y = nI 3
        · refine pw_tableIn (tgt := 122) e_Bus_block_23 (by rw [H4]; decide) (by rw [H4]; decide) (by rw [H4]; rfl) (by decide) ?_
          refine pw_aload_n e_Bus_block_122 rfl ?_
          refine pw_getf e_Bus_block_123 fl_Bus_23 (gO_get hnd (i := 29) rfl) rfl ?_
          refine pw_getf e_Bus_block_126 fl_Bus_104 (gO_get hnd (i := 0) rfl) rfl ?_
          refine pw_getf e_Bus_block_129 fl_Bus_168 (gO_get hnd (i := 3) rfl) rfl ?_
          refine pw_iload_n e_Bus_block_132 rfl ?_
          refine pw_ialdN e_Bus_block_133 (bs_pl hnd).a20 (by omega) (by decide) ?_
          refine pw_iret e_Bus_block_134 rfl rfl ?_
          rw [f_Bus_block_5, if_neg H1, if_neg H2, if_neg H3, if_pos H4] at hk
          exact hk
        · by_cases H5 : y = nI 4
          · refine pw_tableIn (tgt := 135) e_Bus_block_23 (by rw [H5]; decide) (by rw [H5]; decide) (by rw [H5]; rfl) (by decide) ?_
            refine pw_aload_n e_Bus_block_135 rfl ?_
            refine pw_getf e_Bus_block_136 fl_Bus_23 (gO_get hnd (i := 29) rfl) rfl ?_
            refine pw_getf e_Bus_block_139 fl_Bus_104 (gO_get hnd (i := 0) rfl) rfl ?_
            refine pw_getf e_Bus_block_142 fl_Bus_171 (gO_get hnd (i := 3) rfl) rfl ?_
            refine pw_iload_n e_Bus_block_145 rfl ?_
            refine pw_ialdN e_Bus_block_146 (bs_pl hnd).a21 (by omega) (by decide) ?_
            refine pw_iret e_Bus_block_147 rfl rfl ?_
            rw [f_Bus_block_5, if_neg H1, if_neg H2, if_neg H3, if_neg H4, if_pos H5] at hk
            exact hk
          · by_cases H6 : y = nI 5
            · refine pw_tableIn (tgt := 148) e_Bus_block_23 (by rw [H6]; decide) (by rw [H6]; decide) (by rw [H6]; rfl) (by decide) ?_
              refine pw_aload_n e_Bus_block_148 rfl ?_
              refine pw_iload e_Bus_block_149 rfl ?_
              refine pw_iconst (v := nI 0) e_Bus_block_151 (by decide) ?_
              refine pw_iaddN e_Bus_block_152 ?_
              refine pw_ialdN e_Bus_block_153 (gO_get hnd (i := 33) rfl) (by omega) (by decide) ?_
              refine pw_iret e_Bus_block_154 rfl rfl ?_
              rw [f_Bus_block_5, if_neg H1, if_neg H2, if_neg H3, if_neg H4, if_neg H5, if_pos H6] at hk
              exact hk
            · by_cases H7 : y = nI 6
              · refine pw_tableIn (tgt := 155) e_Bus_block_23 (by rw [H7]; decide) (by rw [H7]; decide) (by rw [H7]; rfl) (by decide) ?_
                refine pw_aload_n e_Bus_block_155 rfl ?_
                refine pw_iload e_Bus_block_156 rfl ?_
                refine pw_iconst (v := nI 1) e_Bus_block_158 (by decide) ?_
                refine pw_iaddN e_Bus_block_159 ?_
                refine pw_ialdN e_Bus_block_160 (gO_get hnd (i := 33) rfl) (by omega) (by decide) ?_
                refine pw_iret e_Bus_block_161 rfl rfl ?_
                rw [f_Bus_block_5, if_neg H1, if_neg H2, if_neg H3, if_neg H4, if_neg H5, if_neg H6, if_pos H7] at hk
                exact hk
              · by_cases H8 : y = nI 7
                · refine pw_tableIn (tgt := 162) e_Bus_block_23 (by rw [H8]; decide) (by rw [H8]; decide) (by rw [H8]; rfl) (by decide) ?_
                  refine pw_aload_n e_Bus_block_162 rfl ?_
                  refine pw_iload e_Bus_block_163 rfl ?_
                  refine pw_iconst (v := nI 2) e_Bus_block_165 (by decide) ?_
                  refine pw_iaddN e_Bus_block_166 ?_
                  refine pw_ialdN e_Bus_block_167 (gO_get hnd (i := 33) rfl) (by omega) (by decide) ?_
                  refine pw_iret e_Bus_block_168 rfl rfl ?_
                  rw [f_Bus_block_5, if_neg H1, if_neg H2, if_neg H3, if_neg H4, if_neg H5, if_neg H6, if_neg H7, if_pos H8] at hk
                  exact hk
                · by_cases H9 : y = nI 8
                  · refine pw_tableIn (tgt := 169) e_Bus_block_23 (by rw [H9]; decide) (by rw [H9]; decide) (by rw [H9]; rfl) (by decide) ?_
                    refine pw_aload_n e_Bus_block_169 rfl ?_
                    refine pw_iload e_Bus_block_170 rfl ?_
                    refine pw_iconst (v := nI 3) e_Bus_block_172 (by decide) ?_
                    refine pw_iaddN e_Bus_block_173 ?_
                    refine pw_ialdN e_Bus_block_174 (gO_get hnd (i := 33) rfl) (by omega) (by decide) ?_
                    refine pw_iret e_Bus_block_175 rfl rfl ?_
                    rw [f_Bus_block_5, if_neg H1, if_neg H2, if_neg H3, if_neg H4, if_neg H5, if_neg H6, if_neg H7, if_neg H8, if_pos H9] at hk
                    exact hk
                  · by_cases H10 : y = nI 9
                    · refine pw_tableIn (tgt := 176) e_Bus_block_23 (by rw [H10]; decide) (by rw [H10]; decide) (by rw [H10]; rfl) (by decide) ?_
                      refine pw_aload_n e_Bus_block_176 rfl ?_
                      refine pw_iload e_Bus_block_177 rfl ?_
                      refine pw_iconst (v := nI 4) e_Bus_block_179 (by decide) ?_
                      refine pw_iaddN e_Bus_block_180 ?_
                      refine pw_ialdN e_Bus_block_181 (gO_get hnd (i := 33) rfl) (by omega) (by decide) ?_
                      refine pw_iret e_Bus_block_182 rfl rfl ?_
                      rw [f_Bus_block_5, if_neg H1, if_neg H2, if_neg H3, if_neg H4, if_neg H5, if_neg H6, if_neg H7, if_neg H8, if_neg H9, if_pos H10] at hk
                      exact hk
                    · by_cases H11 : y = nI 10
                      · refine pw_tableIn (tgt := 183) e_Bus_block_23 (by rw [H11]; decide) (by rw [H11]; decide) (by rw [H11]; rfl) (by decide) ?_
                        refine pw_aload_n e_Bus_block_183 rfl ?_
                        refine pw_iload e_Bus_block_184 rfl ?_
                        refine pw_iconst (v := nI 5) e_Bus_block_186 (by decide) ?_
                        refine pw_iaddN e_Bus_block_187 ?_
                        refine pw_ialdN e_Bus_block_188 (gO_get hnd (i := 33) rfl) (by omega) (by decide) ?_
                        refine pw_iret e_Bus_block_189 rfl rfl ?_
                        rw [f_Bus_block_5, if_neg H1, if_neg H2, if_neg H3, if_neg H4, if_neg H5, if_neg H6, if_neg H7, if_neg H8, if_neg H9, if_neg H10, if_pos H11] at hk
                        exact hk
                      · by_cases H12 : y = nI 11
                        · refine pw_tableIn (tgt := 190) e_Bus_block_23 (by rw [H12]; decide) (by rw [H12]; decide) (by rw [H12]; rfl) (by decide) ?_
                          refine pw_aload_n e_Bus_block_190 rfl ?_
                          refine pw_iload e_Bus_block_191 rfl ?_
                          refine pw_bipush (v := nI 6) e_Bus_block_193 (by decide) ?_
                          refine pw_iaddN e_Bus_block_195 ?_
                          refine pw_ialdN e_Bus_block_196 (gO_get hnd (i := 33) rfl) (by omega) (by decide) ?_
                          refine pw_iret e_Bus_block_197 rfl rfl ?_
                          rw [f_Bus_block_5, if_neg H1, if_neg H2, if_neg H3, if_neg H4, if_neg H5, if_neg H6, if_neg H7, if_neg H8, if_neg H9, if_neg H10, if_neg H11, if_pos H12] at hk
                          exact hk
                        · by_cases H13 : y = nI 12
                          · refine pw_tableIn (tgt := 198) e_Bus_block_23 (by rw [H13]; decide) (by rw [H13]; decide) (by rw [H13]; rfl) (by decide) ?_
                            refine pw_aload_n e_Bus_block_198 rfl ?_
                            refine pw_iload e_Bus_block_199 rfl ?_
                            refine pw_bipush (v := nI 7) e_Bus_block_201 (by decide) ?_
                            refine pw_iaddN e_Bus_block_203 ?_
                            refine pw_ialdN e_Bus_block_204 (gO_get hnd (i := 33) rfl) (by omega) (by decide) ?_
                            refine pw_iret e_Bus_block_205 rfl rfl ?_
                            rw [f_Bus_block_5, if_neg H1, if_neg H2, if_neg H3, if_neg H4, if_neg H5, if_neg H6, if_neg H7, if_neg H8, if_neg H9, if_neg H10, if_neg H11, if_neg H12, if_pos H13] at hk
                            exact hk
                          · by_cases H14 : y = nI 13
                            · refine pw_tableIn (tgt := 206) e_Bus_block_23 (by rw [H14]; decide) (by rw [H14]; decide) (by rw [H14]; rfl) (by decide) ?_
                              refine pw_aload_n e_Bus_block_206 rfl ?_
                              refine pw_getf e_Bus_block_207 fl_Bus_23 (gO_get hnd (i := 29) rfl) rfl ?_
                              refine pw_getf e_Bus_block_210 fl_Bus_104 (gO_get hnd (i := 0) rfl) rfl ?_
                              refine pw_getf e_Bus_block_213 fl_Bus_174 (gO_get hnd (i := 3) rfl) rfl ?_
                              refine pw_iload_n e_Bus_block_216 rfl ?_
                              refine pw_ialdN e_Bus_block_217 (bs_pl hnd).a19 (by omega) (by decide) ?_
                              refine pw_iret e_Bus_block_218 rfl rfl ?_
                              rw [f_Bus_block_5, if_neg H1, if_neg H2, if_neg H3, if_neg H4, if_neg H5, if_neg H6, if_neg H7, if_neg H8, if_neg H9, if_neg H10, if_neg H11, if_neg H12, if_neg H13, if_pos H14] at hk
                              exact hk
                            · refine pw_tableOut (tgt := 219) e_Bus_block_23 (tb_out (n := 14) (by decide) (fun k hk => by rcases (by omega : k = 0 ∨ k = 1 ∨ k = 2 ∨ k = 3 ∨ k = 4 ∨ k = 5 ∨ k = 6 ∨ k = 7 ∨ k = 8 ∨ k = 9 ∨ k = 10 ∨ k = 11 ∨ k = 12 ∨ k = 13) with rfl | rfl | rfl | rfl | rfl | rfl | rfl | rfl | rfl | rfl | rfl | rfl | rfl | rfl <;> assumption)) (by decide) ?_
                              refine pw_nse (kc := 0) (ks := 0) rfl e_Bus_block_219 e_Bus_block_222 e_Bus_block_223 e_Bus_block_226 rfl (by decide) (Nat.le_of_ble_eq_true rfl) ?_
                              rw [f_Bus_block_5, if_neg H1, if_neg H2, if_neg H3, if_neg H4, if_neg H5, if_neg H6, if_neg H7, if_neg H8, if_neg H9, if_neg H10, if_neg H11, if_neg H12, if_neg H13, if_neg H14] at hk
                              exact hk
def f_Bus_block (P : Nat → Nat → Int32) (x y : Int32) (Z : Nat → Nat → Int32) : Int32 ⊕ String :=
  if ¬ f_Bus_isBlock P x = 0 then f_Bus_block_5 P x y Z x.toNatClampNeg else .inr "java/util/NoSuchElementException"
set_option maxRecDepth 4000 in
theorem w_Bus_block_0 {g : GG} {Q : QT} {h : Hp} (hst : (gl g).stackTraces = false) {A : Nat → Nat} {S : SA} {P Y : Nat → Nat → Int32} (hnd : (gK (bsL g A S P Y)).Nodup) (hw : wfP P) (x y : Int32)  (Z : Nat → Nat → Int32) (hk : Q (outX (f_Bus_block P x y Z)) (ov h (gO (bsL g A S P Y) Z))) : PW g M_Bus_block 8 2 12 Q 0 [.ref (A 507), .int (x), .int (y), .retAddr 0, .retAddr 0] [] (ov h (gO (bsL g A S P Y) Z)) := by
  have hz0 := hw.blk.2
  have hz1 := hw.lnk.2
  have hz2 := hw.dvs.2
  refine pw_aload_n e_Bus_block_0 rfl ?_
  refine pw_iload_n e_Bus_block_1 rfl ?_
  refine pw_brV (kc := 1) (ks := 6) (As := [.int (x)]) e_Bus_block_2 li_Bus_156 rfl (gO_get hnd (i := 29) rfl) (q_Bus_needBlock hst (Z 507) (gO_get hnd (i := 29) rfl) (bs_pl hnd) hw x) rfl (by decide) (Nat.le_of_ble_eq_true rfl) rfl rfl (fun (H1 : ¬ f_Bus_isBlock P x = 0) => ?_) (fun (H1 : ¬ (¬ f_Bus_isBlock P x = 0)) => ?_)
  · refine pw_eqls (ls' := [.ref (A 507), .int (nI (x.toNatClampNeg)), .int (y), .retAddr 0, .retAddr 0]) (by rw [← (show x = nI (x.toNatClampNeg) from (blk_of hw H1).1)]) ?_
    refine w_Bus_block_5 hst hnd hw x y Z x.toNatClampNeg (blk_of hw H1).2 ?_
    rw [f_Bus_block, if_pos H1] at hk
    exact hk
  · rw [f_Bus_block, if_neg H1] at hk
    exact hk
theorem q_Bus_block {g : GG} {h : Hp} (hst : (gl g).stackTraces = false) {A : Nat → Nat} {S : SA} {P Y : Nat → Nat → Int32} (hnd : (gK (bsL g A S P Y)).Nodup) (hw : wfP P) (x y : Int32)  (Z : Nat → Nat → Int32) (hm : ∀ q ∈ gO (bsL g A S P Y) Z, h q.1 = some q.2) : PM g M_Bus_block 8 2 12 [.ref (A 507), .int (x), .int (y)] h (RetX (f_Bus_block P x y Z) h) := by
  refine PM.of hst (by decide) rfl (fun v hv => ?_) (Nat.le_of_ble_eq_true rfl) ?_
  · simp only [List.mem_cons, List.not_mem_nil, or_false] at hv; rcases hv with rfl | rfl | rfl <;> rfl
  · have hq := w_Bus_block_0 (g := g) (Q := RetX (f_Bus_block P x y Z) h) (h := h) hst hnd hw x y Z ?_
    · rw [ov_self hm] at hq; exact hq
    · exact ⟨rfl, ov_self hm⟩

def f_Bus_link_26 (P : Nat → Nat → Int32) (x y : Int32) (Z : Nat → Nat → Int32) (l : Nat) : Int32 ⊕ String :=
  if y = nI 0 then .inl ((P 12) l) else if y = nI 1 then .inl ((P 13) l) else if y = nI 2 then .inl ((P 14) l) else if y = nI 3 then .inl ((P 22) l) else if y = nI 4 then .inl ((Z 302) (((90 + (l * 5)) + 4) - 4)) else if y = nI 5 then .inl ((Z 302) (((90 + (l * 5)) + 5) - 4)) else if y = nI 6 then .inl ((Z 302) (((90 + (l * 5)) + 6) - 4)) else if y = nI 7 then .inl ((Z 302) (((90 + (l * 5)) + 7) - 4)) else if y = nI 8 then .inl ((Z 302) (((90 + (l * 5)) + 8) - 4)) else if y = nI 9 then .inl ((P 23) l) else if y = nI 10 then if ((P 14) l) = 2 then .inl ((Z 302) (((155 + (l * 5)) + 10) - 10)) else .inl ((-1)) else if y = nI 11 then if ((P 14) l) = 2 then .inl ((Z 302) (((155 + (l * 5)) + 11) - 10)) else .inl ((-1)) else if y = nI 12 then if ((P 14) l) = 2 then .inl ((Z 302) (((155 + (l * 5)) + 12) - 10)) else .inl ((-1)) else if y = nI 13 then if ((P 14) l) = 2 then .inl ((Z 302) (((155 + (l * 5)) + 13) - 10)) else .inl ((-1)) else if y = nI 14 then if ((P 14) l) = 2 then .inl ((Z 302) (((155 + (l * 5)) + 14) - 10)) else .inl ((-1)) else .inr "java/util/NoSuchElementException"
set_option maxRecDepth 4000 in
theorem w_Bus_link_26 {g : GG} {Q : QT} {h : Hp} (hst : (gl g).stackTraces = false) {A : Nat → Nat} {S : SA} {P Y : Nat → Nat → Int32} (hnd : (gK (bsL g A S P Y)).Nodup) (hw : wfP P) (x y : Int32)  (Z : Nat → Nat → Int32) (l : Nat) (hl : l < pN P 31 0) (hk : Q (outX (f_Bus_link_26 P x y Z l)) (ov h (gO (bsL g A S P Y) Z))) : PW g M_Bus_link 6 1 6 Q 26 [.ref (A 507), .int (nI (l)), .int (y)] [] (ov h (gO (bsL g A S P Y) Z)) := by
  have hz0 := hw.blk.2
  have hz1 := hw.lnk.2
  have hz2 := hw.dvs.2
  refine pw_iload_n e_Bus_link_26 rfl ?_
  by_cases H1 : y = nI 0
  · subst H1
    refine pw_tableIn (tgt := 100) e_Bus_link_27 (by decide) (by decide) (by rfl) (by decide) ?_
    refine pw_aload_n e_Bus_link_100 rfl ?_
    refine pw_getf e_Bus_link_101 fl_Bus_23 (gO_get hnd (i := 29) rfl) rfl ?_
    refine pw_getf e_Bus_link_104 fl_Bus_136 (gO_get hnd (i := 0) rfl) rfl ?_
    refine pw_getf e_Bus_link_107 fl_Bus_177 (gO_get hnd (i := 1) rfl) rfl ?_
    refine pw_iload_n e_Bus_link_110 rfl ?_
    refine pw_ialdN e_Bus_link_111 (bs_pl hnd).a12 (by omega) (by decide) ?_
    refine pw_iret e_Bus_link_112 rfl rfl ?_
    rw [f_Bus_link_26, if_pos rfl] at hk
    exact hk
  · by_cases H2 : y = nI 1
    · subst H2
      refine pw_tableIn (tgt := 113) e_Bus_link_27 (by decide) (by decide) (by rfl) (by decide) ?_
      refine pw_aload_n e_Bus_link_113 rfl ?_
      refine pw_getf e_Bus_link_114 fl_Bus_23 (gO_get hnd (i := 29) rfl) rfl ?_
      refine pw_getf e_Bus_link_117 fl_Bus_136 (gO_get hnd (i := 0) rfl) rfl ?_
      refine pw_getf e_Bus_link_120 fl_Bus_180 (gO_get hnd (i := 1) rfl) rfl ?_
      refine pw_iload_n e_Bus_link_123 rfl ?_
      refine pw_ialdN e_Bus_link_124 (bs_pl hnd).a13 (by omega) (by decide) ?_
      refine pw_iret e_Bus_link_125 rfl rfl ?_
      rw [f_Bus_link_26, if_neg H1, if_pos rfl] at hk
      exact hk
    · by_cases H3 : y = nI 2
      · subst H3
        refine pw_tableIn (tgt := 126) e_Bus_link_27 (by decide) (by decide) (by rfl) (by decide) ?_
        refine pw_aload_n e_Bus_link_126 rfl ?_
        refine pw_getf e_Bus_link_127 fl_Bus_23 (gO_get hnd (i := 29) rfl) rfl ?_
        refine pw_getf e_Bus_link_130 fl_Bus_136 (gO_get hnd (i := 0) rfl) rfl ?_
        refine pw_getf e_Bus_link_133 fl_Bus_183 (gO_get hnd (i := 1) rfl) rfl ?_
        refine pw_iload_n e_Bus_link_136 rfl ?_
        refine pw_ialdN e_Bus_link_137 (bs_pl hnd).a14 (by omega) (by decide) ?_
        refine pw_iret e_Bus_link_138 rfl rfl ?_
        rw [f_Bus_link_26, if_neg H1, if_neg H2, if_pos rfl] at hk
        exact hk
      · by_cases H4 : y = nI 3
        · subst H4
          refine pw_tableIn (tgt := 139) e_Bus_link_27 (by decide) (by decide) (by rfl) (by decide) ?_
          refine pw_aload_n e_Bus_link_139 rfl ?_
          refine pw_getf e_Bus_link_140 fl_Bus_23 (gO_get hnd (i := 29) rfl) rfl ?_
          refine pw_getf e_Bus_link_143 fl_Bus_104 (gO_get hnd (i := 0) rfl) rfl ?_
          refine pw_getf e_Bus_link_146 fl_Bus_186 (gO_get hnd (i := 3) rfl) rfl ?_
          refine pw_iload_n e_Bus_link_149 rfl ?_
          refine pw_ialdN e_Bus_link_150 (bs_pl hnd).a22 (by omega) (by decide) ?_
          refine pw_iret e_Bus_link_151 rfl rfl ?_
          rw [f_Bus_link_26, if_neg H1, if_neg H2, if_neg H3, if_pos rfl] at hk
          exact hk
        · by_cases H5 : y = nI 4
          · subst H5
            refine pw_tableIn (tgt := 152) e_Bus_link_27 (by decide) (by decide) (by rfl) (by decide) ?_
            refine pw_aload_n e_Bus_link_152 rfl ?_
            refine pw_getf e_Bus_link_153 fl_Bus_37 (gO_get hnd (i := 29) rfl) rfl ?_
            refine pw_getf e_Bus_link_156 fl_Bus_76 (gO_get hnd (i := 31) rfl) rfl ?_
            refine pw_getf e_Bus_link_159 fl_Bus_127 (gO_get hnd (i := 32) rfl) rfl ?_
            refine pw_bipush (v := nI 90) e_Bus_link_162 (by decide) ?_
            refine pw_iload_n e_Bus_link_164 rfl ?_
            refine pw_iconst (v := nI 5) e_Bus_link_165 (by decide) ?_
            refine pw_imulN e_Bus_link_166 ?_
            refine pw_iaddN e_Bus_link_167 ?_
            refine pw_iload_n e_Bus_link_168 rfl ?_
            refine pw_iaddN e_Bus_link_169 ?_
            refine pw_iconst (v := nI 4) e_Bus_link_170 (by decide) ?_
            refine pw_isubN (by omega) e_Bus_link_171 ?_
            refine pw_ialdN e_Bus_link_172 (gO_get hnd (i := 33) rfl) (by omega) (by decide) ?_
            refine pw_iret e_Bus_link_173 rfl rfl ?_
            rw [f_Bus_link_26, if_neg H1, if_neg H2, if_neg H3, if_neg H4, if_pos rfl] at hk
            exact hk
          · by_cases H6 : y = nI 5
            · subst H6
              refine pw_tableIn (tgt := 152) e_Bus_link_27 (by decide) (by decide) (by rfl) (by decide) ?_
              refine pw_aload_n e_Bus_link_152 rfl ?_
              refine pw_getf e_Bus_link_153 fl_Bus_37 (gO_get hnd (i := 29) rfl) rfl ?_
              refine pw_getf e_Bus_link_156 fl_Bus_76 (gO_get hnd (i := 31) rfl) rfl ?_
              refine pw_getf e_Bus_link_159 fl_Bus_127 (gO_get hnd (i := 32) rfl) rfl ?_
              refine pw_bipush (v := nI 90) e_Bus_link_162 (by decide) ?_
              refine pw_iload_n e_Bus_link_164 rfl ?_
              refine pw_iconst (v := nI 5) e_Bus_link_165 (by decide) ?_
              refine pw_imulN e_Bus_link_166 ?_
              refine pw_iaddN e_Bus_link_167 ?_
              refine pw_iload_n e_Bus_link_168 rfl ?_
              refine pw_iaddN e_Bus_link_169 ?_
              refine pw_iconst (v := nI 4) e_Bus_link_170 (by decide) ?_
              refine pw_isubN (by omega) e_Bus_link_171 ?_
              refine pw_ialdN e_Bus_link_172 (gO_get hnd (i := 33) rfl) (by omega) (by decide) ?_
              refine pw_iret e_Bus_link_173 rfl rfl ?_
              rw [f_Bus_link_26, if_neg H1, if_neg H2, if_neg H3, if_neg H4, if_neg H5, if_pos rfl] at hk
              exact hk
            · by_cases H7 : y = nI 6
              · subst H7
                refine pw_tableIn (tgt := 152) e_Bus_link_27 (by decide) (by decide) (by rfl) (by decide) ?_
                refine pw_aload_n e_Bus_link_152 rfl ?_
                refine pw_getf e_Bus_link_153 fl_Bus_37 (gO_get hnd (i := 29) rfl) rfl ?_
                refine pw_getf e_Bus_link_156 fl_Bus_76 (gO_get hnd (i := 31) rfl) rfl ?_
                refine pw_getf e_Bus_link_159 fl_Bus_127 (gO_get hnd (i := 32) rfl) rfl ?_
                refine pw_bipush (v := nI 90) e_Bus_link_162 (by decide) ?_
                refine pw_iload_n e_Bus_link_164 rfl ?_
                refine pw_iconst (v := nI 5) e_Bus_link_165 (by decide) ?_
                refine pw_imulN e_Bus_link_166 ?_
                refine pw_iaddN e_Bus_link_167 ?_
                refine pw_iload_n e_Bus_link_168 rfl ?_
                refine pw_iaddN e_Bus_link_169 ?_
                refine pw_iconst (v := nI 4) e_Bus_link_170 (by decide) ?_
                refine pw_isubN (by omega) e_Bus_link_171 ?_
                refine pw_ialdN e_Bus_link_172 (gO_get hnd (i := 33) rfl) (by omega) (by decide) ?_
                refine pw_iret e_Bus_link_173 rfl rfl ?_
                rw [f_Bus_link_26, if_neg H1, if_neg H2, if_neg H3, if_neg H4, if_neg H5, if_neg H6, if_pos rfl] at hk
                exact hk
              · by_cases H8 : y = nI 7
                · subst H8
                  refine pw_tableIn (tgt := 152) e_Bus_link_27 (by decide) (by decide) (by rfl) (by decide) ?_
                  refine pw_aload_n e_Bus_link_152 rfl ?_
                  refine pw_getf e_Bus_link_153 fl_Bus_37 (gO_get hnd (i := 29) rfl) rfl ?_
                  refine pw_getf e_Bus_link_156 fl_Bus_76 (gO_get hnd (i := 31) rfl) rfl ?_
                  refine pw_getf e_Bus_link_159 fl_Bus_127 (gO_get hnd (i := 32) rfl) rfl ?_
                  refine pw_bipush (v := nI 90) e_Bus_link_162 (by decide) ?_
                  refine pw_iload_n e_Bus_link_164 rfl ?_
                  refine pw_iconst (v := nI 5) e_Bus_link_165 (by decide) ?_
                  refine pw_imulN e_Bus_link_166 ?_
                  refine pw_iaddN e_Bus_link_167 ?_
                  refine pw_iload_n e_Bus_link_168 rfl ?_
                  refine pw_iaddN e_Bus_link_169 ?_
                  refine pw_iconst (v := nI 4) e_Bus_link_170 (by decide) ?_
                  refine pw_isubN (by omega) e_Bus_link_171 ?_
                  refine pw_ialdN e_Bus_link_172 (gO_get hnd (i := 33) rfl) (by omega) (by decide) ?_
                  refine pw_iret e_Bus_link_173 rfl rfl ?_
                  rw [f_Bus_link_26, if_neg H1, if_neg H2, if_neg H3, if_neg H4, if_neg H5, if_neg H6, if_neg H7, if_pos rfl] at hk
                  exact hk
                · by_cases H9 : y = nI 8
                  · subst H9
                    refine pw_tableIn (tgt := 152) e_Bus_link_27 (by decide) (by decide) (by rfl) (by decide) ?_
                    refine pw_aload_n e_Bus_link_152 rfl ?_
                    refine pw_getf e_Bus_link_153 fl_Bus_37 (gO_get hnd (i := 29) rfl) rfl ?_
                    refine pw_getf e_Bus_link_156 fl_Bus_76 (gO_get hnd (i := 31) rfl) rfl ?_
                    refine pw_getf e_Bus_link_159 fl_Bus_127 (gO_get hnd (i := 32) rfl) rfl ?_
                    refine pw_bipush (v := nI 90) e_Bus_link_162 (by decide) ?_
                    refine pw_iload_n e_Bus_link_164 rfl ?_
                    refine pw_iconst (v := nI 5) e_Bus_link_165 (by decide) ?_
                    refine pw_imulN e_Bus_link_166 ?_
                    refine pw_iaddN e_Bus_link_167 ?_
                    refine pw_iload_n e_Bus_link_168 rfl ?_
                    refine pw_iaddN e_Bus_link_169 ?_
                    refine pw_iconst (v := nI 4) e_Bus_link_170 (by decide) ?_
                    refine pw_isubN (by omega) e_Bus_link_171 ?_
                    refine pw_ialdN e_Bus_link_172 (gO_get hnd (i := 33) rfl) (by omega) (by decide) ?_
                    refine pw_iret e_Bus_link_173 rfl rfl ?_
                    rw [f_Bus_link_26, if_neg H1, if_neg H2, if_neg H3, if_neg H4, if_neg H5, if_neg H6, if_neg H7, if_neg H8, if_pos rfl] at hk
                    exact hk
                  · by_cases H10 : y = nI 9
                    · subst H10
                      refine pw_tableIn (tgt := 174) e_Bus_link_27 (by decide) (by decide) (by rfl) (by decide) ?_
                      refine pw_aload_n e_Bus_link_174 rfl ?_
                      refine pw_getf e_Bus_link_175 fl_Bus_23 (gO_get hnd (i := 29) rfl) rfl ?_
                      refine pw_getf e_Bus_link_178 fl_Bus_104 (gO_get hnd (i := 0) rfl) rfl ?_
                      refine pw_getf e_Bus_link_181 fl_Bus_189 (gO_get hnd (i := 3) rfl) rfl ?_
                      refine pw_iload_n e_Bus_link_184 rfl ?_
                      refine pw_ialdN e_Bus_link_185 (bs_pl hnd).a23 (by omega) (by decide) ?_
                      refine pw_iret e_Bus_link_186 rfl rfl ?_
                      rw [f_Bus_link_26, if_neg H1, if_neg H2, if_neg H3, if_neg H4, if_neg H5, if_neg H6, if_neg H7, if_neg H8, if_neg H9, if_pos rfl] at hk
                      exact hk
                    · by_cases H11 : y = nI 10
                      · subst H11
                        refine pw_tableIn (tgt := 187) e_Bus_link_27 (by decide) (by decide) (by rfl) (by decide) ?_
                        refine pw_aload_n e_Bus_link_187 rfl ?_
                        refine pw_getf e_Bus_link_188 fl_Bus_23 (gO_get hnd (i := 29) rfl) rfl ?_
                        refine pw_getf e_Bus_link_191 fl_Bus_136 (gO_get hnd (i := 0) rfl) rfl ?_
                        refine pw_getf e_Bus_link_194 fl_Bus_183 (gO_get hnd (i := 1) rfl) rfl ?_
                        refine pw_iload_n e_Bus_link_197 rfl ?_
                        refine pw_ialdN e_Bus_link_198 (bs_pl hnd).a14 (by omega) (by decide) ?_
                        refine pw_iconst (v := nI 2) e_Bus_link_199 (by decide) ?_
                        refine pw_icmp_ne (tgt := 229) e_Bus_link_200 (by decide) (fun (H16 : ¬ ((P 14) l) = 2) => ?_) (fun (H16 : ((P 14) l) = 2) => ?_)
                        · refine pw_iconst (v := (-1)) e_Bus_link_229 (by decide) ?_
                          refine pw_iret e_Bus_link_230 rfl rfl ?_
                          rw [f_Bus_link_26, if_neg H1, if_neg H2, if_neg H3, if_neg H4, if_neg H5, if_neg H6, if_neg H7, if_neg H8, if_neg H9, if_neg H10, if_pos rfl, if_neg H16] at hk
                          exact hk
                        · refine pw_aload_n e_Bus_link_203 rfl ?_
                          refine pw_getf e_Bus_link_204 fl_Bus_37 (gO_get hnd (i := 29) rfl) rfl ?_
                          refine pw_getf e_Bus_link_207 fl_Bus_76 (gO_get hnd (i := 31) rfl) rfl ?_
                          refine pw_getf e_Bus_link_210 fl_Bus_127 (gO_get hnd (i := 32) rfl) rfl ?_
                          refine pw_sipush (v := nI 155) e_Bus_link_213 (by decide) ?_
                          refine pw_iload_n e_Bus_link_216 rfl ?_
                          refine pw_iconst (v := nI 5) e_Bus_link_217 (by decide) ?_
                          refine pw_imulN e_Bus_link_218 ?_
                          refine pw_iaddN e_Bus_link_219 ?_
                          refine pw_iload_n e_Bus_link_220 rfl ?_
                          refine pw_iaddN e_Bus_link_221 ?_
                          refine pw_bipush (v := nI 10) e_Bus_link_222 (by decide) ?_
                          refine pw_isubN (by omega) e_Bus_link_224 ?_
                          refine pw_ialdN e_Bus_link_225 (gO_get hnd (i := 33) rfl) (by omega) (by decide) ?_
                          refine pw_goto (tgt := 230) e_Bus_link_226 (by decide) ?_
                          refine pw_iret e_Bus_link_230 rfl rfl ?_
                          rw [f_Bus_link_26, if_neg H1, if_neg H2, if_neg H3, if_neg H4, if_neg H5, if_neg H6, if_neg H7, if_neg H8, if_neg H9, if_neg H10, if_pos rfl, if_pos H16] at hk
                          exact hk
                      · by_cases H12 : y = nI 11
                        · subst H12
                          refine pw_tableIn (tgt := 187) e_Bus_link_27 (by decide) (by decide) (by rfl) (by decide) ?_
                          refine pw_aload_n e_Bus_link_187 rfl ?_
                          refine pw_getf e_Bus_link_188 fl_Bus_23 (gO_get hnd (i := 29) rfl) rfl ?_
                          refine pw_getf e_Bus_link_191 fl_Bus_136 (gO_get hnd (i := 0) rfl) rfl ?_
                          refine pw_getf e_Bus_link_194 fl_Bus_183 (gO_get hnd (i := 1) rfl) rfl ?_
                          refine pw_iload_n e_Bus_link_197 rfl ?_
                          refine pw_ialdN e_Bus_link_198 (bs_pl hnd).a14 (by omega) (by decide) ?_
                          refine pw_iconst (v := nI 2) e_Bus_link_199 (by decide) ?_
                          refine pw_icmp_ne (tgt := 229) e_Bus_link_200 (by decide) (fun (H17 : ¬ ((P 14) l) = 2) => ?_) (fun (H17 : ((P 14) l) = 2) => ?_)
                          · refine pw_iconst (v := (-1)) e_Bus_link_229 (by decide) ?_
                            refine pw_iret e_Bus_link_230 rfl rfl ?_
                            rw [f_Bus_link_26, if_neg H1, if_neg H2, if_neg H3, if_neg H4, if_neg H5, if_neg H6, if_neg H7, if_neg H8, if_neg H9, if_neg H10, if_neg H11, if_pos rfl, if_neg H17] at hk
                            exact hk
                          · refine pw_aload_n e_Bus_link_203 rfl ?_
                            refine pw_getf e_Bus_link_204 fl_Bus_37 (gO_get hnd (i := 29) rfl) rfl ?_
                            refine pw_getf e_Bus_link_207 fl_Bus_76 (gO_get hnd (i := 31) rfl) rfl ?_
                            refine pw_getf e_Bus_link_210 fl_Bus_127 (gO_get hnd (i := 32) rfl) rfl ?_
                            refine pw_sipush (v := nI 155) e_Bus_link_213 (by decide) ?_
                            refine pw_iload_n e_Bus_link_216 rfl ?_
                            refine pw_iconst (v := nI 5) e_Bus_link_217 (by decide) ?_
                            refine pw_imulN e_Bus_link_218 ?_
                            refine pw_iaddN e_Bus_link_219 ?_
                            refine pw_iload_n e_Bus_link_220 rfl ?_
                            refine pw_iaddN e_Bus_link_221 ?_
                            refine pw_bipush (v := nI 10) e_Bus_link_222 (by decide) ?_
                            refine pw_isubN (by omega) e_Bus_link_224 ?_
                            refine pw_ialdN e_Bus_link_225 (gO_get hnd (i := 33) rfl) (by omega) (by decide) ?_
                            refine pw_goto (tgt := 230) e_Bus_link_226 (by decide) ?_
                            refine pw_iret e_Bus_link_230 rfl rfl ?_
                            rw [f_Bus_link_26, if_neg H1, if_neg H2, if_neg H3, if_neg H4, if_neg H5, if_neg H6, if_neg H7, if_neg H8, if_neg H9, if_neg H10, if_neg H11, if_pos rfl, if_pos H17] at hk
                            exact hk
                        · by_cases H13 : y = nI 12
                          · subst H13
                            refine pw_tableIn (tgt := 187) e_Bus_link_27 (by decide) (by decide) (by rfl) (by decide) ?_
                            refine pw_aload_n e_Bus_link_187 rfl ?_
                            refine pw_getf e_Bus_link_188 fl_Bus_23 (gO_get hnd (i := 29) rfl) rfl ?_
                            refine pw_getf e_Bus_link_191 fl_Bus_136 (gO_get hnd (i := 0) rfl) rfl ?_
                            refine pw_getf e_Bus_link_194 fl_Bus_183 (gO_get hnd (i := 1) rfl) rfl ?_
                            refine pw_iload_n e_Bus_link_197 rfl ?_
                            refine pw_ialdN e_Bus_link_198 (bs_pl hnd).a14 (by omega) (by decide) ?_
                            refine pw_iconst (v := nI 2) e_Bus_link_199 (by decide) ?_
                            refine pw_icmp_ne (tgt := 229) e_Bus_link_200 (by decide) (fun (H18 : ¬ ((P 14) l) = 2) => ?_) (fun (H18 : ((P 14) l) = 2) => ?_)
                            · refine pw_iconst (v := (-1)) e_Bus_link_229 (by decide) ?_
                              refine pw_iret e_Bus_link_230 rfl rfl ?_
                              rw [f_Bus_link_26, if_neg H1, if_neg H2, if_neg H3, if_neg H4, if_neg H5, if_neg H6, if_neg H7, if_neg H8, if_neg H9, if_neg H10, if_neg H11, if_neg H12, if_pos rfl, if_neg H18] at hk
                              exact hk
                            · refine pw_aload_n e_Bus_link_203 rfl ?_
                              refine pw_getf e_Bus_link_204 fl_Bus_37 (gO_get hnd (i := 29) rfl) rfl ?_
                              refine pw_getf e_Bus_link_207 fl_Bus_76 (gO_get hnd (i := 31) rfl) rfl ?_
                              refine pw_getf e_Bus_link_210 fl_Bus_127 (gO_get hnd (i := 32) rfl) rfl ?_
                              refine pw_sipush (v := nI 155) e_Bus_link_213 (by decide) ?_
                              refine pw_iload_n e_Bus_link_216 rfl ?_
                              refine pw_iconst (v := nI 5) e_Bus_link_217 (by decide) ?_
                              refine pw_imulN e_Bus_link_218 ?_
                              refine pw_iaddN e_Bus_link_219 ?_
                              refine pw_iload_n e_Bus_link_220 rfl ?_
                              refine pw_iaddN e_Bus_link_221 ?_
                              refine pw_bipush (v := nI 10) e_Bus_link_222 (by decide) ?_
                              refine pw_isubN (by omega) e_Bus_link_224 ?_
                              refine pw_ialdN e_Bus_link_225 (gO_get hnd (i := 33) rfl) (by omega) (by decide) ?_
                              refine pw_goto (tgt := 230) e_Bus_link_226 (by decide) ?_
                              refine pw_iret e_Bus_link_230 rfl rfl ?_
                              rw [f_Bus_link_26, if_neg H1, if_neg H2, if_neg H3, if_neg H4, if_neg H5, if_neg H6, if_neg H7, if_neg H8, if_neg H9, if_neg H10, if_neg H11, if_neg H12, if_pos rfl, if_pos H18] at hk
                              exact hk
                          · by_cases H14 : y = nI 13
                            · subst H14
                              refine pw_tableIn (tgt := 187) e_Bus_link_27 (by decide) (by decide) (by rfl) (by decide) ?_
                              refine pw_aload_n e_Bus_link_187 rfl ?_
                              refine pw_getf e_Bus_link_188 fl_Bus_23 (gO_get hnd (i := 29) rfl) rfl ?_
                              refine pw_getf e_Bus_link_191 fl_Bus_136 (gO_get hnd (i := 0) rfl) rfl ?_
                              refine pw_getf e_Bus_link_194 fl_Bus_183 (gO_get hnd (i := 1) rfl) rfl ?_
                              refine pw_iload_n e_Bus_link_197 rfl ?_
                              refine pw_ialdN e_Bus_link_198 (bs_pl hnd).a14 (by omega) (by decide) ?_
                              refine pw_iconst (v := nI 2) e_Bus_link_199 (by decide) ?_
                              refine pw_icmp_ne (tgt := 229) e_Bus_link_200 (by decide) (fun (H19 : ¬ ((P 14) l) = 2) => ?_) (fun (H19 : ((P 14) l) = 2) => ?_)
                              · refine pw_iconst (v := (-1)) e_Bus_link_229 (by decide) ?_
                                refine pw_iret e_Bus_link_230 rfl rfl ?_
                                rw [f_Bus_link_26, if_neg H1, if_neg H2, if_neg H3, if_neg H4, if_neg H5, if_neg H6, if_neg H7, if_neg H8, if_neg H9, if_neg H10, if_neg H11, if_neg H12, if_neg H13, if_pos rfl, if_neg H19] at hk
                                exact hk
                              · refine pw_aload_n e_Bus_link_203 rfl ?_
                                refine pw_getf e_Bus_link_204 fl_Bus_37 (gO_get hnd (i := 29) rfl) rfl ?_
                                refine pw_getf e_Bus_link_207 fl_Bus_76 (gO_get hnd (i := 31) rfl) rfl ?_
                                refine pw_getf e_Bus_link_210 fl_Bus_127 (gO_get hnd (i := 32) rfl) rfl ?_
                                refine pw_sipush (v := nI 155) e_Bus_link_213 (by decide) ?_
                                refine pw_iload_n e_Bus_link_216 rfl ?_
                                refine pw_iconst (v := nI 5) e_Bus_link_217 (by decide) ?_
                                refine pw_imulN e_Bus_link_218 ?_
                                refine pw_iaddN e_Bus_link_219 ?_
                                refine pw_iload_n e_Bus_link_220 rfl ?_
                                refine pw_iaddN e_Bus_link_221 ?_
                                refine pw_bipush (v := nI 10) e_Bus_link_222 (by decide) ?_
                                refine pw_isubN (by omega) e_Bus_link_224 ?_
                                refine pw_ialdN e_Bus_link_225 (gO_get hnd (i := 33) rfl) (by omega) (by decide) ?_
                                refine pw_goto (tgt := 230) e_Bus_link_226 (by decide) ?_
                                refine pw_iret e_Bus_link_230 rfl rfl ?_
                                rw [f_Bus_link_26, if_neg H1, if_neg H2, if_neg H3, if_neg H4, if_neg H5, if_neg H6, if_neg H7, if_neg H8, if_neg H9, if_neg H10, if_neg H11, if_neg H12, if_neg H13, if_pos rfl, if_pos H19] at hk
                                exact hk
                            · by_cases H15 : y = nI 14
                              · subst H15
                                refine pw_tableIn (tgt := 187) e_Bus_link_27 (by decide) (by decide) (by rfl) (by decide) ?_
                                refine pw_aload_n e_Bus_link_187 rfl ?_
                                refine pw_getf e_Bus_link_188 fl_Bus_23 (gO_get hnd (i := 29) rfl) rfl ?_
                                refine pw_getf e_Bus_link_191 fl_Bus_136 (gO_get hnd (i := 0) rfl) rfl ?_
                                refine pw_getf e_Bus_link_194 fl_Bus_183 (gO_get hnd (i := 1) rfl) rfl ?_
                                refine pw_iload_n e_Bus_link_197 rfl ?_
                                refine pw_ialdN e_Bus_link_198 (bs_pl hnd).a14 (by omega) (by decide) ?_
                                refine pw_iconst (v := nI 2) e_Bus_link_199 (by decide) ?_
                                refine pw_icmp_ne (tgt := 229) e_Bus_link_200 (by decide) (fun (H20 : ¬ ((P 14) l) = 2) => ?_) (fun (H20 : ((P 14) l) = 2) => ?_)
                                · refine pw_iconst (v := (-1)) e_Bus_link_229 (by decide) ?_
                                  refine pw_iret e_Bus_link_230 rfl rfl ?_
                                  rw [f_Bus_link_26, if_neg H1, if_neg H2, if_neg H3, if_neg H4, if_neg H5, if_neg H6, if_neg H7, if_neg H8, if_neg H9, if_neg H10, if_neg H11, if_neg H12, if_neg H13, if_neg H14, if_pos rfl, if_neg H20] at hk
                                  exact hk
                                · refine pw_aload_n e_Bus_link_203 rfl ?_
                                  refine pw_getf e_Bus_link_204 fl_Bus_37 (gO_get hnd (i := 29) rfl) rfl ?_
                                  refine pw_getf e_Bus_link_207 fl_Bus_76 (gO_get hnd (i := 31) rfl) rfl ?_
                                  refine pw_getf e_Bus_link_210 fl_Bus_127 (gO_get hnd (i := 32) rfl) rfl ?_
                                  refine pw_sipush (v := nI 155) e_Bus_link_213 (by decide) ?_
                                  refine pw_iload_n e_Bus_link_216 rfl ?_
                                  refine pw_iconst (v := nI 5) e_Bus_link_217 (by decide) ?_
                                  refine pw_imulN e_Bus_link_218 ?_
                                  refine pw_iaddN e_Bus_link_219 ?_
                                  refine pw_iload_n e_Bus_link_220 rfl ?_
                                  refine pw_iaddN e_Bus_link_221 ?_
                                  refine pw_bipush (v := nI 10) e_Bus_link_222 (by decide) ?_
                                  refine pw_isubN (by omega) e_Bus_link_224 ?_
                                  refine pw_ialdN e_Bus_link_225 (gO_get hnd (i := 33) rfl) (by omega) (by decide) ?_
                                  refine pw_goto (tgt := 230) e_Bus_link_226 (by decide) ?_
                                  refine pw_iret e_Bus_link_230 rfl rfl ?_
                                  rw [f_Bus_link_26, if_neg H1, if_neg H2, if_neg H3, if_neg H4, if_neg H5, if_neg H6, if_neg H7, if_neg H8, if_neg H9, if_neg H10, if_neg H11, if_neg H12, if_neg H13, if_neg H14, if_pos rfl, if_pos H20] at hk
                                  exact hk
                              · refine pw_tableOut (tgt := 231) e_Bus_link_27 (tb_out (n := 15) (by decide) (fun k hk => by rcases (by omega : k = 0 ∨ k = 1 ∨ k = 2 ∨ k = 3 ∨ k = 4 ∨ k = 5 ∨ k = 6 ∨ k = 7 ∨ k = 8 ∨ k = 9 ∨ k = 10 ∨ k = 11 ∨ k = 12 ∨ k = 13 ∨ k = 14) with rfl | rfl | rfl | rfl | rfl | rfl | rfl | rfl | rfl | rfl | rfl | rfl | rfl | rfl | rfl <;> assumption)) (by decide) ?_
                                refine pw_nse (kc := 0) (ks := 0) rfl e_Bus_link_231 e_Bus_link_234 e_Bus_link_235 e_Bus_link_238 rfl (by decide) (Nat.le_of_ble_eq_true rfl) ?_
                                rw [f_Bus_link_26, if_neg H1, if_neg H2, if_neg H3, if_neg H4, if_neg H5, if_neg H6, if_neg H7, if_neg H8, if_neg H9, if_neg H10, if_neg H11, if_neg H12, if_neg H13, if_neg H14, if_neg H15] at hk
                                exact hk
def f_Bus_link (P : Nat → Nat → Int32) (x y : Int32) (Z : Nat → Nat → Int32) : Int32 ⊕ String :=
  if x < 0 then .inr "java/util/NoSuchElementException" else if x < (nI (pN P 31 0)) then f_Bus_link_26 P x y Z x.toNatClampNeg else .inr "java/util/NoSuchElementException"
set_option maxRecDepth 4000 in
theorem w_Bus_link_0 {g : GG} {Q : QT} {h : Hp} (hst : (gl g).stackTraces = false) {A : Nat → Nat} {S : SA} {P Y : Nat → Nat → Int32} (hnd : (gK (bsL g A S P Y)).Nodup) (hw : wfP P) (x y : Int32)  (Z : Nat → Nat → Int32) (hk : Q (outX (f_Bus_link P x y Z)) (ov h (gO (bsL g A S P Y) Z))) : PW g M_Bus_link 6 1 6 Q 0 [.ref (A 507), .int (x), .int (y)] [] (ov h (gO (bsL g A S P Y) Z)) := by
  have hz0 := hw.blk.2
  have hz1 := hw.lnk.2
  have hz2 := hw.dvs.2
  refine pw_iload_n e_Bus_link_0 rfl ?_
  refine pw_if_lt (tgt := 18) e_Bus_link_1 (by decide) (fun (H1 : x < 0) => ?_) (fun (H1 : ¬ x < 0) => ?_)
  · refine pw_nse (kc := 0) (ks := 0) rfl e_Bus_link_18 e_Bus_link_21 e_Bus_link_22 e_Bus_link_25 rfl (by decide) (Nat.le_of_ble_eq_true rfl) ?_
    rw [f_Bus_link, if_pos H1] at hk
    exact hk
  · refine pw_iload_n e_Bus_link_4 rfl ?_
    refine pw_aload_n e_Bus_link_5 rfl ?_
    refine pw_getf e_Bus_link_6 fl_Bus_23 (gO_get hnd (i := 29) rfl) rfl ?_
    refine pw_getf e_Bus_link_9 fl_Bus_136 (gO_get hnd (i := 0) rfl) rfl ?_
    refine pw_getf e_Bus_link_12 fl_Bus_140 (gO_get hnd (i := 1) rfl) rfl ?_
    rw [hw.lnk.1]
    refine pw_icmp_lt (tgt := 26) e_Bus_link_15 (by decide) (fun (H2 : x < (nI (pN P 31 0))) => ?_) (fun (H2 : ¬ x < (nI (pN P 31 0))) => ?_)
    · refine pw_eqls (ls' := [.ref (A 507), .int (nI (x.toNatClampNeg)), .int (y)]) (by rw [← (show x = nI (x.toNatClampNeg) from (toN (by omega) H1 H2).1)]) ?_
      refine w_Bus_link_26 hst hnd hw x y Z x.toNatClampNeg (toN (by omega) H1 H2).2 ?_
      rw [f_Bus_link, if_neg H1, if_pos H2] at hk
      exact hk
    · refine pw_nse (kc := 0) (ks := 0) rfl e_Bus_link_18 e_Bus_link_21 e_Bus_link_22 e_Bus_link_25 rfl (by decide) (Nat.le_of_ble_eq_true rfl) ?_
      rw [f_Bus_link, if_neg H1, if_neg H2] at hk
      exact hk
theorem q_Bus_link {g : GG} {h : Hp} (hst : (gl g).stackTraces = false) {A : Nat → Nat} {S : SA} {P Y : Nat → Nat → Int32} (hnd : (gK (bsL g A S P Y)).Nodup) (hw : wfP P) (x y : Int32)  (Z : Nat → Nat → Int32) (hm : ∀ q ∈ gO (bsL g A S P Y) Z, h q.1 = some q.2) : PM g M_Bus_link 6 1 6 [.ref (A 507), .int (x), .int (y)] h (RetX (f_Bus_link P x y Z) h) := by
  refine PM.of hst (by decide) rfl (fun v hv => ?_) (Nat.le_of_ble_eq_true rfl) ?_
  · simp only [List.mem_cons, List.not_mem_nil, or_false] at hv; rcases hv with rfl | rfl | rfl <;> rfl
  · have hq := w_Bus_link_0 (g := g) (Q := RetX (f_Bus_link P x y Z) h) (h := h) hst hnd hw x y Z ?_
    · rw [ov_self hm] at hq; exact hq
    · exact ⟨rfl, ov_self hm⟩

def f_Bus_plant_17 (P : Nat → Nat → Int32) (x y : Int32) (Z : Nat → Nat → Int32) (l : Nat) : Int32 ⊕ String :=
  if y = nI 0 then .inl ((Z 302) (215 + l)) else if y = nI 1 then .inl ((P 15) l) else if y = nI 2 then .inl (f_Cycle_outOf P (Z 302) (nI (l))) else .inr "java/util/NoSuchElementException"
set_option maxRecDepth 4000 in
theorem w_Bus_plant_17 {g : GG} {Q : QT} {h : Hp} (hst : (gl g).stackTraces = false) {A : Nat → Nat} {S : SA} {P Y : Nat → Nat → Int32} (hnd : (gK (bsL g A S P Y)).Nodup) (hw : wfP P) (x y : Int32)  (Z : Nat → Nat → Int32) (l : Nat) (hl : l < 4) (hk : Q (outX (f_Bus_plant_17 P x y Z l)) (ov h (gO (bsL g A S P Y) Z))) : PW g M_Bus_plant 6 1 6 Q 17 [.ref (A 507), .int (nI (l)), .int (y)] [] (ov h (gO (bsL g A S P Y) Z)) := by
  have hz0 := hw.blk.2
  have hz1 := hw.lnk.2
  have hz2 := hw.dvs.2
  refine pw_iload_n e_Bus_plant_17 rfl ?_
  by_cases H1 : y = nI 0
  · refine pw_tableIn (tgt := 44) e_Bus_plant_18 (by rw [H1]; decide) (by rw [H1]; decide) (by rw [H1]; rfl) (by decide) ?_
    refine pw_aload_n e_Bus_plant_44 rfl ?_
    refine pw_getf e_Bus_plant_45 fl_Bus_37 (gO_get hnd (i := 29) rfl) rfl ?_
    refine pw_getf e_Bus_plant_48 fl_Bus_76 (gO_get hnd (i := 31) rfl) rfl ?_
    refine pw_getf e_Bus_plant_51 fl_Bus_127 (gO_get hnd (i := 32) rfl) rfl ?_
    refine pw_sipush (v := nI 215) e_Bus_plant_54 (by decide) ?_
    refine pw_iload_n e_Bus_plant_57 rfl ?_
    refine pw_iaddN e_Bus_plant_58 ?_
    refine pw_ialdN e_Bus_plant_59 (gO_get hnd (i := 33) rfl) (by omega) (by decide) ?_
    refine pw_iret e_Bus_plant_60 rfl rfl ?_
    rw [f_Bus_plant_17, if_pos H1] at hk
    exact hk
  · by_cases H2 : y = nI 1
    · refine pw_tableIn (tgt := 61) e_Bus_plant_18 (by rw [H2]; decide) (by rw [H2]; decide) (by rw [H2]; rfl) (by decide) ?_
      refine pw_aload_n e_Bus_plant_61 rfl ?_
      refine pw_getf e_Bus_plant_62 fl_Bus_23 (gO_get hnd (i := 29) rfl) rfl ?_
      refine pw_getf e_Bus_plant_65 fl_Bus_192 (gO_get hnd (i := 0) rfl) rfl ?_
      refine pw_getf e_Bus_plant_68 fl_Bus_196 (gO_get hnd (i := 2) rfl) rfl ?_
      refine pw_iload_n e_Bus_plant_71 rfl ?_
      refine pw_ialdN e_Bus_plant_72 (bs_pl hnd).a15 (by omega) (by decide) ?_
      refine pw_iret e_Bus_plant_73 rfl rfl ?_
      rw [f_Bus_plant_17, if_neg H1, if_pos H2] at hk
      exact hk
    · by_cases H3 : y = nI 2
      · refine pw_tableIn (tgt := 74) e_Bus_plant_18 (by rw [H3]; decide) (by rw [H3]; decide) (by rw [H3]; rfl) (by decide) ?_
        refine pw_aload_n e_Bus_plant_74 rfl ?_
        refine pw_getf e_Bus_plant_75 fl_Bus_23 (gO_get hnd (i := 29) rfl) rfl ?_
        refine pw_aload_n e_Bus_plant_78 rfl ?_
        refine pw_getf e_Bus_plant_79 fl_Bus_37 (gO_get hnd (i := 29) rfl) rfl ?_
        refine pw_getf e_Bus_plant_82 fl_Bus_76 (gO_get hnd (i := 31) rfl) rfl ?_
        refine pw_getf e_Bus_plant_85 fl_Bus_127 (gO_get hnd (i := 32) rfl) rfl ?_
        refine pw_iload_n e_Bus_plant_88 rfl ?_
        refine pw_detS (As := [.ref (A 30), .ref (A 302), .int (nI (l))]) e_Bus_plant_89 li_Bus_201 (q_Cycle_outOf hst (bs_pl hnd) hw (Z 302) (nI (l)) (gO_get hnd (i := 33) rfl)) rfl (by decide) (Nat.le_of_ble_eq_true rfl) rfl ?_
        refine pw_iret e_Bus_plant_92 rfl rfl ?_
        rw [f_Bus_plant_17, if_neg H1, if_neg H2, if_pos H3] at hk
        exact hk
      · refine pw_tableOut (tgt := 93) e_Bus_plant_18 (tb_out (n := 3) (by decide) (fun k hk => by rcases (by omega : k = 0 ∨ k = 1 ∨ k = 2) with rfl | rfl | rfl <;> assumption)) (by decide) ?_
        refine pw_nse (kc := 0) (ks := 0) rfl e_Bus_plant_93 e_Bus_plant_96 e_Bus_plant_97 e_Bus_plant_100 rfl (by decide) (Nat.le_of_ble_eq_true rfl) ?_
        rw [f_Bus_plant_17, if_neg H1, if_neg H2, if_neg H3] at hk
        exact hk
def f_Bus_plant (P : Nat → Nat → Int32) (x y : Int32) (Z : Nat → Nat → Int32) : Int32 ⊕ String :=
  if x < 0 then .inr "java/util/NoSuchElementException" else if x < 4 then f_Bus_plant_17 P x y Z x.toNatClampNeg else .inr "java/util/NoSuchElementException"
set_option maxRecDepth 4000 in
theorem w_Bus_plant_0 {g : GG} {Q : QT} {h : Hp} (hst : (gl g).stackTraces = false) {A : Nat → Nat} {S : SA} {P Y : Nat → Nat → Int32} (hnd : (gK (bsL g A S P Y)).Nodup) (hw : wfP P) (x y : Int32)  (Z : Nat → Nat → Int32) (hk : Q (outX (f_Bus_plant P x y Z)) (ov h (gO (bsL g A S P Y) Z))) : PW g M_Bus_plant 6 1 6 Q 0 [.ref (A 507), .int (x), .int (y)] [] (ov h (gO (bsL g A S P Y) Z)) := by
  have hz0 := hw.blk.2
  have hz1 := hw.lnk.2
  have hz2 := hw.dvs.2
  refine pw_iload_n e_Bus_plant_0 rfl ?_
  refine pw_if_lt (tgt := 9) e_Bus_plant_1 (by decide) (fun (H1 : x < 0) => ?_) (fun (H1 : ¬ x < 0) => ?_)
  · refine pw_nse (kc := 0) (ks := 0) rfl e_Bus_plant_9 e_Bus_plant_12 e_Bus_plant_13 e_Bus_plant_16 rfl (by decide) (Nat.le_of_ble_eq_true rfl) ?_
    rw [f_Bus_plant, if_pos H1] at hk
    exact hk
  · refine pw_iload_n e_Bus_plant_4 rfl ?_
    refine pw_iconst (v := nI 4) e_Bus_plant_5 (by decide) ?_
    refine pw_icmp_lt (tgt := 17) e_Bus_plant_6 (by decide) (fun (H2 : x < 4) => ?_) (fun (H2 : ¬ x < 4) => ?_)
    · refine pw_eqls (ls' := [.ref (A 507), .int (nI (x.toNatClampNeg)), .int (y)]) (by rw [← (show x = nI (x.toNatClampNeg) from (toN (n := 4) (by omega) H1 H2).1)]) ?_
      refine w_Bus_plant_17 hst hnd hw x y Z x.toNatClampNeg (toN (n := 4) (by omega) H1 H2).2 ?_
      rw [f_Bus_plant, if_neg H1, if_pos H2] at hk
      exact hk
    · refine pw_nse (kc := 0) (ks := 0) rfl e_Bus_plant_9 e_Bus_plant_12 e_Bus_plant_13 e_Bus_plant_16 rfl (by decide) (Nat.le_of_ble_eq_true rfl) ?_
      rw [f_Bus_plant, if_neg H1, if_neg H2] at hk
      exact hk
theorem q_Bus_plant {g : GG} {h : Hp} (hst : (gl g).stackTraces = false) {A : Nat → Nat} {S : SA} {P Y : Nat → Nat → Int32} (hnd : (gK (bsL g A S P Y)).Nodup) (hw : wfP P) (x y : Int32)  (Z : Nat → Nat → Int32) (hm : ∀ q ∈ gO (bsL g A S P Y) Z, h q.1 = some q.2) : PM g M_Bus_plant 6 1 6 [.ref (A 507), .int (x), .int (y)] h (RetX (f_Bus_plant P x y Z) h) := by
  refine PM.of hst (by decide) rfl (fun v hv => ?_) (Nat.le_of_ble_eq_true rfl) ?_
  · simp only [List.mem_cons, List.not_mem_nil, or_false] at hv; rcases hv with rfl | rfl | rfl <;> rfl
  · have hq := w_Bus_plant_0 (g := g) (Q := RetX (f_Bus_plant P x y Z) h) (h := h) hst hnd hw x y Z ?_
    · rw [ov_self hm] at hq; exact hq
    · exact ⟨rfl, ov_self hm⟩

