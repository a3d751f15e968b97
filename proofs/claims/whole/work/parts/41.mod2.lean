/-! the reference: a cycle, and what else is done to a row (written by wip/whole/c_mod2.py) -/
theorem shm : ∀ j : Fin 32, (nI j.val &&& 31).toBitVec.smod 32#32 = BitVec.ofNat 32 j.val := by decide +kernel
theorem sh_bit (x : Int32) (j : Nat) (hj : j < 32) : (x >>> (nI j &&& 31)) &&& 1 = if x.toBitVec.getLsbD j then 1 else 0 := by
  apply Int32.toBitVec_inj.mp
  rw [Int32.toBitVec_and, Int32.toBitVec_shiftRight]
  have e := shm ⟨j, hj⟩
  rw [show (32 : BitVec 32) = 32#32 from rfl, e]
  show x.toBitVec.sshiftRight (BitVec.ofNat 32 j).toNat &&& 1#32 = _
  apply BitVec.eq_of_getLsbD_eq
  intro i hi
  have e2 : (BitVec.ofNat 32 j).toNat = j := by simp; omega
  rw [BitVec.getLsbD_and, BitVec.getLsbD_one, BitVec.getLsbD_sshiftRight, e2]
  by_cases h0 : i = 0
  · subst h0
    cases h : x.toBitVec.getLsbD j <;> simp [h, hj]
  · cases h : x.toBitVec.getLsbD j <;> simp [h0]
theorem bit_ex (x : Int32) (h : x ≠ 0) : ∃ j, 0 ≤ j ∧ j < 32 ∧ (x >>> (nI j &&& 31)) &&& 1 ≠ 0 := by
  apply Classical.byContradiction
  intro hn
  apply h
  apply Int32.toBitVec_inj.mp
  apply BitVec.eq_of_getLsbD_eq
  intro i hi
  have : ¬ ((x >>> (nI i &&& 31)) &&& 1 ≠ 0) := fun q => hn ⟨i, Nat.zero_le _, hi, q⟩
  rw [sh_bit x i hi] at this
  cases q : x.toBitVec.getLsbD i
  · simp
  · rw [q] at this; exact absurd (by decide) this
def hasB (x : Int32) (k : Nat) : Prop := ∃ j, k ≤ j ∧ j < 32 ∧ (x >>> (nI j &&& 31)) &&& 1 ≠ 0
theorem lw_st {x : Int32} {k : Nat} (h : hasB x k) (H : (x >>> ((nI k) &&& 31)) &&& 1 = 0) : hasB x (k + 1) ∧ k + 1 < 32 := by
  obtain ⟨j, h1, h2, h3⟩ := h
  have : j ≠ k := fun e => h3 (by rw [e]; exact H)
  exact ⟨⟨j, by omega, h2, h3⟩, by omega⟩
def f_Mod_lowest_8 (x : Int32) : Nat → (Nat) → Int32
  | 0, _ => 0
  | t + 1, k => if ((x >>> ((nI (k)) &&& 31)) &&& 1) = 0 then f_Mod_lowest_8 x t (k + 1) else nI (k)
set_option maxRecDepth 4000 in
theorem w_Mod_lowest_8 {g : GG} {Q : QT} {h : Hp} {kc ks : Nat} (hst : (gl g).stackTraces = false) (x : Int32)  (t : Nat) : ∀ (k : Nat) (hk3 : k < 32) (hx : hasB x k) (hlt : 32 - k < t) (hk : Q (.inl (some (.int (f_Mod_lowest_8 x t k)))) h), PW g M_Mod_lowest 0 kc ks Q 8 [.int (x), .int (nI (k))] [] h := by
  induction t with
  | zero => intro k hk3 hx hlt _; exact absurd hlt (Nat.not_lt_zero _)
  | succ t ih =>
    intro k hk3 hx hlt hk
    refine pw_iload_n e_Mod_lowest_8 rfl ?_
    refine pw_iload_n e_Mod_lowest_9 rfl ?_
    refine pw_ishr e_Mod_lowest_10 ?_
    refine pw_iconst (v := nI 1) e_Mod_lowest_11 (by decide) ?_
    refine pw_iand e_Mod_lowest_12 ?_
    refine pw_if_ne (tgt := 22) e_Mod_lowest_13 (by decide) (fun (H1 : ¬ ((x >>> ((nI (k)) &&& 31)) &&& 1) = 0) => ?_) (fun (H1 : ((x >>> ((nI (k)) &&& 31)) &&& 1) = 0) => ?_)
    · refine pw_iload_n e_Mod_lowest_22 rfl ?_
      refine pw_iret e_Mod_lowest_23 rfl rfl ?_
      rw [f_Mod_lowest_8, if_neg H1] at hk
      exact hk
    · refine pw_iincN (ls2 := [_, _]) e_Mod_lowest_16 rfl (by decide) rfl ?_
      refine pw_goto (tgt := 8) e_Mod_lowest_19 (by decide) ?_
      refine ih (k + 1) (lw_st hx H1).2 (lw_st hx H1).1 (by omega) ?_
      rw [f_Mod_lowest_8, if_pos H1] at hk
      exact hk
def f_Mod_lowest (x : Int32) : Int32 :=
  if x = 0 then (-1) else f_Mod_lowest_8 x 33 0
set_option maxRecDepth 4000 in
theorem w_Mod_lowest_0 {g : GG} {Q : QT} {h : Hp} {kc ks : Nat} (hst : (gl g).stackTraces = false) (x : Int32)  (hk : Q (.inl (some (.int (f_Mod_lowest x)))) h) : PW g M_Mod_lowest 0 kc ks Q 0 [.int (x), .retAddr 0] [] h := by
  refine pw_iload_n e_Mod_lowest_0 rfl ?_
  refine pw_if_ne (tgt := 6) e_Mod_lowest_1 (by decide) (fun (H1 : ¬ x = 0) => ?_) (fun (H1 : x = 0) => ?_)
  · refine pw_iconst (v := nI 0) e_Mod_lowest_6 (by decide) ?_
    refine pw_istore_n (ls2 := [_, _]) e_Mod_lowest_7 (by decide) rfl ?_
    refine w_Mod_lowest_8 hst x 33 0 (by decide) (bit_ex x H1) (by omega) ?_
    rw [f_Mod_lowest, if_neg H1] at hk
    exact hk
  · refine pw_iconst (v := (-1)) e_Mod_lowest_4 (by decide) ?_
    refine pw_iret e_Mod_lowest_5 rfl rfl ?_
    rw [f_Mod_lowest, if_pos H1] at hk
    exact hk
theorem q_Mod_lowest {g : GG} {h : Hp} (hst : (gl g).stackTraces = false) (x : Int32)  : PM g M_Mod_lowest 0 0 0 [.int (x)] h (RetV (some (.int (f_Mod_lowest x))) h) := by
  refine PM.of hst (by decide) rfl (fun v hv => ?_) (Nat.le_of_ble_eq_true rfl) ?_
  · simp only [List.mem_cons, List.not_mem_nil, or_false] at hv; rcases hv with rfl <;> rfl
  · have hq := w_Mod_lowest_0 (g := g) (Q := RetV (some (.int (f_Mod_lowest x))) h) (h := h) (kc := 0) (ks := 0) hst x ?_
    · exact hq
    · exact ⟨rfl, rfl⟩

def f_Mod_schedules_43 (P : Nat → Nat → Int32) (b : Nat) (c : Nat → Int32) : Nat → Int32 :=
  if ((upd c (b + 206) (f_Mod_lowest (c (b + 205)))) (b + 206)) = ((-1)) then upd c (b + 206) (f_Mod_lowest (c (b + 205))) else upd (upd c (b + 206) (f_Mod_lowest (c (b + 205)))) (b + 209) (((upd c (b + 206) (f_Mod_lowest (c (b + 205)))) (b + 209)) + 1)
set_option maxRecDepth 4000 in
theorem w_Mod_schedules_43 {g : GG} {Q : QT} {h : Hp} {kc ks : Nat} (hst : (gl g).stackTraces = false) {A : Nat → Nat} {P : Nat → Nat → Int32} (hP : ∀ e, ModAt g A P (va_up h (A 0) e)) (hw : wfM P) (b : Nat) (hb : b + 600 ≤ 18060)  (c : Nat → Int32) (hk : Q (.inl none) (va_up h (A 0) (some (aI g 18060 (f_Mod_schedules_43 P b c))))) : PW g M_Mod_schedules 1 kc ks Q 43 [.ref (A 100), .int (nI (b))] [] (va_up h (A 0) (some (aI g 18060 (c)))) := by
  have hz0 := hw.blk.2
  have hz1 := hw.lnk.2
  have hz2 := hw.dvs.2
  refine pw_aload_n e_Mod_schedules_43 rfl ?_
  refine pw_getf e_Mod_schedules_44 fl_Mod_9 (hP _).o rfl ?_
  refine pw_iload_n e_Mod_schedules_47 rfl ?_
  refine pw_sipush (v := nI 206) e_Mod_schedules_48 (by decide) ?_
  refine pw_iaddN e_Mod_schedules_51 ?_
  refine pw_aload_n e_Mod_schedules_52 rfl ?_
  refine pw_getf e_Mod_schedules_53 fl_Mod_9 (hP _).o rfl ?_
  refine pw_iload_n e_Mod_schedules_56 rfl ?_
  refine pw_sipush (v := nI 205) e_Mod_schedules_57 (by decide) ?_
  refine pw_iaddN e_Mod_schedules_60 ?_
  refine pw_ialdN e_Mod_schedules_61 up_same (by omega) (by decide) ?_
  refine pw_detS (As := [.int (c (b + 205))]) e_Mod_schedules_62 li_Mod_252 (q_Mod_lowest hst (c (b + 205))) rfl (by decide) (Nat.le_of_ble_eq_true rfl) rfl ?_
  refine pw_iastU e_Mod_schedules_65 (by omega) (by decide) ?_
  refine pw_aload_n e_Mod_schedules_66 rfl ?_
  refine pw_getf e_Mod_schedules_67 fl_Mod_9 (hP _).o rfl ?_
  refine pw_iload_n e_Mod_schedules_70 rfl ?_
  refine pw_sipush (v := nI 206) e_Mod_schedules_71 (by decide) ?_
  refine pw_iaddN e_Mod_schedules_74 ?_
  refine pw_ialdN e_Mod_schedules_75 up_same (by omega) (by decide) ?_
  refine pw_iconst (v := (-1)) e_Mod_schedules_76 (by decide) ?_
  refine pw_icmp_eq (tgt := 94) e_Mod_schedules_77 (by decide) (fun (H1 : ((upd c (b + 206) (f_Mod_lowest (c (b + 205)))) (b + 206)) = ((-1))) => ?_) (fun (H1 : ¬ ((upd c (b + 206) (f_Mod_lowest (c (b + 205)))) (b + 206)) = ((-1))) => ?_)
  · refine pw_vret e_Mod_schedules_94 rfl ?_
    rw [f_Mod_schedules_43, if_pos H1] at hk
    exact hk
  · refine pw_aload_n e_Mod_schedules_80 rfl ?_
    refine pw_getf e_Mod_schedules_81 fl_Mod_9 (hP _).o rfl ?_
    refine pw_iload_n e_Mod_schedules_84 rfl ?_
    refine pw_sipush (v := nI 209) e_Mod_schedules_85 (by decide) ?_
    refine pw_iaddN e_Mod_schedules_88 ?_
    refine pw_dup2 e_Mod_schedules_89 rfl rfl ?_
    refine pw_ialdN e_Mod_schedules_90 up_same (by omega) (by decide) ?_
    refine pw_iconst (v := nI 1) e_Mod_schedules_91 (by decide) ?_
    refine pw_iadd e_Mod_schedules_92 ?_
    refine pw_iastU e_Mod_schedules_93 (by omega) (by decide) ?_
    refine pw_vret e_Mod_schedules_94 rfl ?_
    rw [f_Mod_schedules_43, if_neg H1] at hk
    exact hk
def f_Mod_schedules (P : Nat → Nat → Int32) (b : Nat) (c : Nat → Int32) : Nat → Int32 :=
  if (c (b + 206)) = ((-1)) then if (c (b + 207)) ≤ 0 then f_Mod_schedules_43 P b c else upd c (b + 207) ((c (b + 207)) - 1) else c
set_option maxRecDepth 4000 in
theorem w_Mod_schedules_0 {g : GG} {Q : QT} {h : Hp} {kc ks : Nat} (hst : (gl g).stackTraces = false) {A : Nat → Nat} {P : Nat → Nat → Int32} (hP : ∀ e, ModAt g A P (va_up h (A 0) e)) (hw : wfM P) (b : Nat) (hb : b + 600 ≤ 18060)  (c : Nat → Int32) (hk : Q (.inl none) (va_up h (A 0) (some (aI g 18060 (f_Mod_schedules P b c))))) : PW g M_Mod_schedules 1 kc ks Q 0 [.ref (A 100), .int (nI (b))] [] (va_up h (A 0) (some (aI g 18060 (c)))) := by
  have hz0 := hw.blk.2
  have hz1 := hw.lnk.2
  have hz2 := hw.dvs.2
  refine pw_aload_n e_Mod_schedules_0 rfl ?_
  refine pw_getf e_Mod_schedules_1 fl_Mod_9 (hP _).o rfl ?_
  refine pw_iload_n e_Mod_schedules_4 rfl ?_
  refine pw_sipush (v := nI 206) e_Mod_schedules_5 (by decide) ?_
  refine pw_iaddN e_Mod_schedules_8 ?_
  refine pw_ialdN e_Mod_schedules_9 up_same (by omega) (by decide) ?_
  refine pw_iconst (v := (-1)) e_Mod_schedules_10 (by decide) ?_
  refine pw_icmp_eq (tgt := 15) e_Mod_schedules_11 (by decide) (fun (H1 : (c (b + 206)) = ((-1))) => ?_) (fun (H1 : ¬ (c (b + 206)) = ((-1))) => ?_)
  · refine pw_aload_n e_Mod_schedules_15 rfl ?_
    refine pw_getf e_Mod_schedules_16 fl_Mod_9 (hP _).o rfl ?_
    refine pw_iload_n e_Mod_schedules_19 rfl ?_
    refine pw_sipush (v := nI 207) e_Mod_schedules_20 (by decide) ?_
    refine pw_iaddN e_Mod_schedules_23 ?_
    refine pw_ialdN e_Mod_schedules_24 up_same (by omega) (by decide) ?_
    refine pw_if_le (tgt := 43) e_Mod_schedules_25 (by decide) (fun (H2 : (c (b + 207)) ≤ 0) => ?_) (fun (H2 : ¬ (c (b + 207)) ≤ 0) => ?_)
    · refine w_Mod_schedules_43 hst hP hw b hb c ?_
      rw [f_Mod_schedules, if_pos H1, if_pos H2] at hk
      exact hk
    · refine pw_aload_n e_Mod_schedules_28 rfl ?_
      refine pw_getf e_Mod_schedules_29 fl_Mod_9 (hP _).o rfl ?_
      refine pw_iload_n e_Mod_schedules_32 rfl ?_
      refine pw_sipush (v := nI 207) e_Mod_schedules_33 (by decide) ?_
      refine pw_iaddN e_Mod_schedules_36 ?_
      refine pw_dup2 e_Mod_schedules_37 rfl rfl ?_
      refine pw_ialdN e_Mod_schedules_38 up_same (by omega) (by decide) ?_
      refine pw_iconst (v := nI 1) e_Mod_schedules_39 (by decide) ?_
      refine pw_isub e_Mod_schedules_40 ?_
      refine pw_iastU e_Mod_schedules_41 (by omega) (by decide) ?_
      refine pw_vret e_Mod_schedules_42 rfl ?_
      rw [f_Mod_schedules, if_pos H1, if_neg H2] at hk
      exact hk
  · refine pw_vret e_Mod_schedules_14 rfl ?_
    rw [f_Mod_schedules, if_neg H1] at hk
    exact hk
theorem q_Mod_schedules {g : GG} {h : Hp} (hst : (gl g).stackTraces = false) {A : Nat → Nat} {P : Nat → Nat → Int32} (hP : ∀ e, ModAt g A P (va_up h (A 0) e)) (hw : wfM P) (b : Nat) (hb : b + 600 ≤ 18060)  (c : Nat → Int32) (hm : h (A 0) = some (aI g 18060 c)) : PM g M_Mod_schedules 1 0 0 [.ref (A 100), .int (nI (b))] h (RetV none (va_up h (A 0) (some (aI g 18060 (f_Mod_schedules P b c))))) := by
  refine PM.of hst (by decide) rfl (fun v hv => ?_) (Nat.le_of_ble_eq_true rfl) ?_
  · simp only [List.mem_cons, List.not_mem_nil, or_false] at hv; rcases hv with rfl | rfl <;> rfl
  · have hq := w_Mod_schedules_0 (g := g) (Q := RetV none (va_up h (A 0) (some (aI g 18060 (f_Mod_schedules P b c))))) (h := h) (kc := 0) (ks := 0) hst hP hw b hb c ?_
    · rw [up_self hm] at hq; exact hq
    · exact ⟨rfl, rfl⟩

def f_Mod_cycle_182 (P : Nat → Nat → Int32) (b : Nat) : Nat → (Nat → Int32) → (Nat) → Nat → Int32
  | 0, c, _ => c
  | t + 1, c, l => if (pN P 100 21) ≤ l then c else if (pN P 10 l) = 2 then f_Mod_cycle_182 P b t (f_Mod_comesBack P b l c) (l + 1) else f_Mod_cycle_182 P b t c (l + 1)
set_option maxRecDepth 4000 in
theorem w_Mod_cycle_182 {g : GG} {Q : QT} {h : Hp} {kc ks : Nat} (hst : (gl g).stackTraces = false) {A : Nat → Nat} {P : Nat → Nat → Int32} (hP : ∀ e, ModAt g A P (va_up h (A 0) e)) (hw : wfM P) (b : Nat) (hb : b + 600 ≤ 18060)  (t : Nat) : ∀ (c : Nat → Int32) (l : Nat) (hl9 : l < 13) (hlt : 12 - l < t) (hk : PW g M_Mod_cycle 5 kc ks Q 212 [.ref (A 100), .int (nI (b)), .retAddr 0, .retAddr 0] [] (va_up h (A 0) (some (aI g 18060 (f_Mod_cycle_182 P b t c l))))), PW g M_Mod_cycle 5 kc ks Q 182 [.ref (A 100), .int (nI (b)), .int (nI (l)), .retAddr 0] [] (va_up h (A 0) (some (aI g 18060 (c)))) := by
  induction t with
  | zero => intro c l hl9 hlt _; exact absurd hlt (Nat.not_lt_zero _)
  | succ t ih =>
    intro c l hl9 hlt hk
    have hz0 := hw.blk.2
    have hz1 := hw.lnk.2
    have hz2 := hw.dvs.2
    refine pw_iload_n e_Mod_cycle_182 rfl ?_
    refine pw_aload_n e_Mod_cycle_183 rfl ?_
    refine pw_getf e_Mod_cycle_184 fl_Mod_162 (hP _).o rfl ?_
    rw [hw.lnk.1]
    refine pw_icmp_geN (tgt := 212) e_Mod_cycle_187 (by decide) (by omega) (by omega) (fun (H1 : (pN P 100 21) ≤ l) => ?_) (fun (H1 : l < (pN P 100 21)) => ?_)
    · refine pw_fgt (ls' := [.ref (A 100), .int (nI (b)), .retAddr 0, .retAddr 0]) ⟨Or.inr rfl, Or.inr rfl, Or.inl rfl, Or.inr rfl, trivial⟩ ?_
      rw [f_Mod_cycle_182, if_pos H1] at hk
      exact hk
    · refine pw_aload_n e_Mod_cycle_190 rfl ?_
      refine pw_getf e_Mod_cycle_191 fl_Mod_40 (hP _).o rfl ?_
      refine pw_iload_n e_Mod_cycle_194 rfl ?_
      have hb2 := hw.whr l
      refine pw_ialdC e_Mod_cycle_195 (hP _).a10 (by omega) (by decide) hb2.1 ?_
      replace hb2 := hb2.2
      refine pw_iconst (v := nI 2) e_Mod_cycle_196 (by decide) ?_
      refine pw_icmp_neN (tgt := 206) e_Mod_cycle_197 (by decide) (by omega) (by omega) (fun (H3 : ¬ (pN P 10 l) = 2) => ?_) (fun (H3 : (pN P 10 l) = 2) => ?_)
      · refine pw_iincN (ls2 := [_, _, _, _]) e_Mod_cycle_206 rfl (by decide) rfl ?_
        refine pw_goto (tgt := 182) e_Mod_cycle_209 (by decide) ?_
        refine ih c (l + 1) (by omega) (by omega) ?_
        rw [f_Mod_cycle_182, if_neg (Nat.not_le.mpr H1), if_neg H3] at hk
        exact hk
      · refine pw_aload_n e_Mod_cycle_200 rfl ?_
        refine pw_iload_n e_Mod_cycle_201 rfl ?_
        refine pw_iload_n e_Mod_cycle_202 rfl ?_
        refine pw_detV (As := [.int (nI (b)), .int (nI (l))]) e_Mod_cycle_203 li_Mod_267 rfl (hP _).o (q_Mod_comesBack hst (fun e => by rw [up_up]; exact hP e) hw b l (by omega) (by omega) c up_same) rfl (by decide) (Nat.le_of_ble_eq_true rfl) rfl ?_
        rw [up_up]
        refine pw_iincN (ls2 := [_, _, _, _]) e_Mod_cycle_206 rfl (by decide) rfl ?_
        refine pw_goto (tgt := 182) e_Mod_cycle_209 (by decide) ?_
        refine ih (f_Mod_comesBack P b l c) (l + 1) (by omega) (by omega) ?_
        rw [f_Mod_cycle_182, if_neg (Nat.not_le.mpr H1), if_pos H3] at hk
        exact hk
def f_Mod_cycle_109 (P : Nat → Nat → Int32) (b : Nat) : Nat → (Nat → Int32) → (Nat) → (Nat) → Nat → Int32
  | 0, c, _, _ => c
  | t + 1, c, i, l => if (pN P 100 21) ≤ l then c else if (pN P 9 l) = (pN P 34 i) then f_Mod_cycle_109 P b t (f_Mod_comes P b l c) i (l + 1) else f_Mod_cycle_109 P b t c i (l + 1)
set_option maxRecDepth 4000 in
theorem w_Mod_cycle_109 {g : GG} {Q : QT} {h : Hp} {kc ks : Nat} (hst : (gl g).stackTraces = false) {A : Nat → Nat} {P : Nat → Nat → Int32} (hP : ∀ e, ModAt g A P (va_up h (A 0) e)) (hw : wfM P) (b : Nat) (hb : b + 600 ≤ 18060)  (t : Nat) : ∀ (c : Nat → Int32) (i : Nat) (l : Nat) (hi9 : i < 10) (hl9 : l < 13) (hlt : 12 - l < t) (hk : PW g M_Mod_cycle 5 kc ks Q 144 [.ref (A 100), .int (nI (b)), .int (nI (i)), .retAddr 0] [] (va_up h (A 0) (some (aI g 18060 (f_Mod_cycle_109 P b t c i l))))), PW g M_Mod_cycle 5 kc ks Q 109 [.ref (A 100), .int (nI (b)), .int (nI (i)), .int (nI (l))] [] (va_up h (A 0) (some (aI g 18060 (c)))) := by
  induction t with
  | zero => intro c i l hi9 hl9 hlt _; exact absurd hlt (Nat.not_lt_zero _)
  | succ t ih =>
    intro c i l hi9 hl9 hlt hk
    have hz0 := hw.blk.2
    have hz1 := hw.lnk.2
    have hz2 := hw.dvs.2
    refine pw_iload_n e_Mod_cycle_109 rfl ?_
    refine pw_aload_n e_Mod_cycle_110 rfl ?_
    refine pw_getf e_Mod_cycle_111 fl_Mod_162 (hP _).o rfl ?_
    rw [hw.lnk.1]
    refine pw_icmp_geN (tgt := 144) e_Mod_cycle_114 (by decide) (by omega) (by omega) (fun (H1 : (pN P 100 21) ≤ l) => ?_) (fun (H1 : l < (pN P 100 21)) => ?_)
    · refine pw_fgt (ls' := [.ref (A 100), .int (nI (b)), .int (nI (i)), .retAddr 0]) ⟨Or.inr rfl, Or.inr rfl, Or.inr rfl, Or.inl rfl, trivial⟩ ?_
      rw [f_Mod_cycle_109, if_pos H1] at hk
      exact hk
    · refine pw_aload_n e_Mod_cycle_117 rfl ?_
      refine pw_getf e_Mod_cycle_118 fl_Mod_37 (hP _).o rfl ?_
      refine pw_iload_n e_Mod_cycle_121 rfl ?_
      have hb2 := hw.to l
      refine pw_ialdC e_Mod_cycle_122 (hP _).a9 (by omega) (by decide) hb2.1 ?_
      replace hb2 := hb2.2
      refine pw_aload_n e_Mod_cycle_123 rfl ?_
      refine pw_getf e_Mod_cycle_124 fl_Mod_80 (hP _).o rfl ?_
      refine pw_iload_n e_Mod_cycle_127 rfl ?_
      have hb3 := hw.tak i
      refine pw_ialdC e_Mod_cycle_128 (hP _).a34 (by omega) (by decide) hb3.1 ?_
      replace hb3 := hb3.2
      refine pw_icmp_neN (tgt := 138) e_Mod_cycle_129 (by decide) (by omega) (by omega) (fun (H4 : ¬ (pN P 9 l) = (pN P 34 i)) => ?_) (fun (H4 : (pN P 9 l) = (pN P 34 i)) => ?_)
      · refine pw_iincN (ls2 := [_, _, _, _]) e_Mod_cycle_138 rfl (by decide) rfl ?_
        refine pw_goto (tgt := 109) e_Mod_cycle_141 (by decide) ?_
        refine ih c i (l + 1) (by omega) (by omega) (by omega) ?_
        rw [f_Mod_cycle_109, if_neg (Nat.not_le.mpr H1), if_neg H4] at hk
        exact hk
      · refine pw_aload_n e_Mod_cycle_132 rfl ?_
        refine pw_iload_n e_Mod_cycle_133 rfl ?_
        refine pw_iload_n e_Mod_cycle_134 rfl ?_
        refine pw_detV (As := [.int (nI (b)), .int (nI (l))]) e_Mod_cycle_135 li_Mod_261 rfl (hP _).o (q_Mod_comes hst (fun e => by rw [up_up]; exact hP e) hw b l (by omega) (by omega) c up_same) rfl (by decide) (Nat.le_of_ble_eq_true rfl) rfl ?_
        rw [up_up]
        refine pw_iincN (ls2 := [_, _, _, _]) e_Mod_cycle_138 rfl (by decide) rfl ?_
        refine pw_goto (tgt := 109) e_Mod_cycle_141 (by decide) ?_
        refine ih (f_Mod_comes P b l c) i (l + 1) (by omega) (by omega) (by omega) ?_
        rw [f_Mod_cycle_109, if_neg (Nat.not_le.mpr H1), if_pos H4] at hk
        exact hk
def f_Mod_cycle_99 (P : Nat → Nat → Int32) (b : Nat) : Nat → (Nat → Int32) → (Nat) → Nat → Int32
  | 0, c, _ => c
  | t + 1, c, i => if (pN P 100 20) ≤ i then c else if (f_Mod_isOn P b (pN P 1 (pN P 34 i)) (f_Mod_cycle_109 P b 13 c i 0)) = 0 then f_Mod_cycle_99 P b t (f_Mod_cycle_109 P b 13 c i 0) (i + 1) else f_Mod_cycle_99 P b t (f_Mod_runs P b (pN P 34 i) (f_Mod_cycle_109 P b 13 c i 0)) (i + 1)
set_option maxRecDepth 4000 in
theorem w_Mod_cycle_99 {g : GG} {Q : QT} {h : Hp} {kc ks : Nat} (hst : (gl g).stackTraces = false) {A : Nat → Nat} {P : Nat → Nat → Int32} (hP : ∀ e, ModAt g A P (va_up h (A 0) e)) (hw : wfM P) (b : Nat) (hb : b + 600 ≤ 18060)  (t : Nat) : ∀ (c : Nat → Int32) (i : Nat) (hi9 : i < 11) (hlt : 10 - i < t) (hk : PW g M_Mod_cycle 5 kc ks Q 180 [.ref (A 100), .int (nI (b)), .retAddr 0, .retAddr 0] [] (va_up h (A 0) (some (aI g 18060 (f_Mod_cycle_99 P b t c i))))), PW g M_Mod_cycle 5 kc ks Q 99 [.ref (A 100), .int (nI (b)), .int (nI (i)), .retAddr 0] [] (va_up h (A 0) (some (aI g 18060 (c)))) := by
  induction t with
  | zero => intro c i hi9 hlt _; exact absurd hlt (Nat.not_lt_zero _)
  | succ t ih =>
    intro c i hi9 hlt hk
    have hz0 := hw.blk.2
    have hz1 := hw.lnk.2
    have hz2 := hw.dvs.2
    refine pw_iload_n e_Mod_cycle_99 rfl ?_
    refine pw_aload_n e_Mod_cycle_100 rfl ?_
    refine pw_getf e_Mod_cycle_101 fl_Mod_183 (hP _).o rfl ?_
    rw [hw.blk.1]
    refine pw_icmp_geN (tgt := 180) e_Mod_cycle_104 (by decide) (by omega) (by omega) (fun (H1 : (pN P 100 20) ≤ i) => ?_) (fun (H1 : i < (pN P 100 20)) => ?_)
    · refine pw_fgt (ls' := [.ref (A 100), .int (nI (b)), .retAddr 0, .retAddr 0]) ⟨Or.inr rfl, Or.inr rfl, Or.inl rfl, Or.inr rfl, trivial⟩ ?_
      rw [f_Mod_cycle_99, if_pos H1] at hk
      exact hk
    · refine pw_iconst (v := nI 0) e_Mod_cycle_107 (by decide) ?_
      refine pw_istore_n (ls2 := [_, _, _, _]) e_Mod_cycle_108 (by decide) rfl ?_
      refine w_Mod_cycle_109 hst hP hw b hb 13 c i 0 (by omega) (by omega) (by omega) ?_
      refine pw_aload_n e_Mod_cycle_144 rfl ?_
      refine pw_iload_n e_Mod_cycle_145 rfl ?_
      refine pw_aload_n e_Mod_cycle_146 rfl ?_
      refine pw_getf e_Mod_cycle_147 fl_Mod_13 (hP _).o rfl ?_
      refine pw_aload_n e_Mod_cycle_150 rfl ?_
      refine pw_getf e_Mod_cycle_151 fl_Mod_80 (hP _).o rfl ?_
      refine pw_iload_n e_Mod_cycle_154 rfl ?_
      have hb2 := hw.tak i
      refine pw_ialdC e_Mod_cycle_155 (hP _).a34 (by omega) (by decide) hb2.1 ?_
      replace hb2 := hb2.2
      have hb3 := hw.dev (pN P 34 i)
      refine pw_ialdC e_Mod_cycle_156 (hP _).a1 (by omega) (by decide) hb3.1 ?_
      replace hb3 := hb3.2
      refine pw_detV (As := [.int (nI (b)), .int (nI (pN P 1 (pN P 34 i)))]) e_Mod_cycle_157 li_Mod_205 rfl (hP _).o (q_Mod_isOn hst (fun e => by rw [up_up]; exact hP e) hw b (pN P 1 (pN P 34 i)) (by omega) (f_Mod_cycle_109 P b 13 c i 0) up_same) rfl (by decide) (Nat.le_of_ble_eq_true rfl) rfl ?_
      refine pw_if_eq (tgt := 174) e_Mod_cycle_160 (by decide) (fun (H4 : (f_Mod_isOn P b (pN P 1 (pN P 34 i)) (f_Mod_cycle_109 P b 13 c i 0)) = 0) => ?_) (fun (H4 : ¬ (f_Mod_isOn P b (pN P 1 (pN P 34 i)) (f_Mod_cycle_109 P b 13 c i 0)) = 0) => ?_)
      · refine pw_iincN (ls2 := [_, _, _, _]) e_Mod_cycle_174 rfl (by decide) rfl ?_
        refine pw_goto (tgt := 99) e_Mod_cycle_177 (by decide) ?_
        refine ih (f_Mod_cycle_109 P b 13 c i 0) (i + 1) (by omega) (by omega) ?_
        rw [f_Mod_cycle_99, if_neg (Nat.not_le.mpr H1), if_pos H4] at hk
        exact hk
      · refine pw_aload_n e_Mod_cycle_163 rfl ?_
        refine pw_iload_n e_Mod_cycle_164 rfl ?_
        refine pw_aload_n e_Mod_cycle_165 rfl ?_
        refine pw_getf e_Mod_cycle_166 fl_Mod_80 (hP _).o rfl ?_
        refine pw_iload_n e_Mod_cycle_169 rfl ?_
        have hb5 := hw.tak i
        refine pw_ialdC e_Mod_cycle_170 (hP _).a34 (by omega) (by decide) hb5.1 ?_
        replace hb5 := hb5.2
        refine pw_detV (As := [.int (nI (b)), .int (nI (pN P 34 i))]) e_Mod_cycle_171 li_Mod_264 rfl (hP _).o (q_Mod_runs hst (fun e => by rw [up_up]; exact hP e) hw b (pN P 34 i) (by omega) (by omega) (f_Mod_cycle_109 P b 13 c i 0) up_same) rfl (by decide) (Nat.le_of_ble_eq_true rfl) rfl ?_
        rw [up_up]
        refine pw_iincN (ls2 := [_, _, _, _]) e_Mod_cycle_174 rfl (by decide) rfl ?_
        refine pw_goto (tgt := 99) e_Mod_cycle_177 (by decide) ?_
        refine ih (f_Mod_runs P b (pN P 34 i) (f_Mod_cycle_109 P b 13 c i 0)) (i + 1) (by omega) (by omega) ?_
        rw [f_Mod_cycle_99, if_neg (Nat.not_le.mpr H1), if_neg H4] at hk
        exact hk
def f_Mod_cycle_2 (P : Nat → Nat → Int32) (b : Nat) : Nat → (Nat → Int32) → (Nat) → Nat → Int32
  | 0, c, _ => c
  | t + 1, c, s => if 4 ≤ s then c else if ((P 11) s) = ((-1)) then f_Mod_cycle_2 P b t c (s + 1) else f_Mod_cycle_2 P b t (upd c ((b + 200) + s) (f_Mod_put ((c ((b + 200) + s)) + (((((f_Mod_actuated P b ((P 11) s) c) * ((P 12) s)) / 100) - (c ((b + 200) + s))) / ((P 13) s))))) (s + 1)
set_option maxRecDepth 4000 in
theorem w_Mod_cycle_2 {g : GG} {Q : QT} {h : Hp} {kc ks : Nat} (hst : (gl g).stackTraces = false) {A : Nat → Nat} {P : Nat → Nat → Int32} (hP : ∀ e, ModAt g A P (va_up h (A 0) e)) (hw : wfM P) (b : Nat) (hb : b + 600 ≤ 18060)  (t : Nat) : ∀ (c : Nat → Int32) (s : Nat) (hs9 : s < 5) (hlt : 4 - s < t) (hk : PW g M_Mod_cycle 5 kc ks Q 92 [.ref (A 100), .int (nI (b)), .retAddr 0, .retAddr 0] [] (va_up h (A 0) (some (aI g 18060 (f_Mod_cycle_2 P b t c s))))), PW g M_Mod_cycle 5 kc ks Q 2 [.ref (A 100), .int (nI (b)), .int (nI (s)), .retAddr 0] [] (va_up h (A 0) (some (aI g 18060 (c)))) := by
  induction t with
  | zero => intro c s hs9 hlt _; exact absurd hlt (Nat.not_lt_zero _)
  | succ t ih =>
    intro c s hs9 hlt hk
    have hz0 := hw.blk.2
    have hz1 := hw.lnk.2
    have hz2 := hw.dvs.2
    refine pw_iload_n e_Mod_cycle_2 rfl ?_
    refine pw_iconst (v := nI 4) e_Mod_cycle_3 (by decide) ?_
    refine pw_icmp_geN (tgt := 92) e_Mod_cycle_4 (by decide) (by omega) (by omega) (fun (H1 : 4 ≤ s) => ?_) (fun (H1 : s < 4) => ?_)
    · refine pw_fgt (ls' := [.ref (A 100), .int (nI (b)), .retAddr 0, .retAddr 0]) ⟨Or.inr rfl, Or.inr rfl, Or.inl rfl, Or.inr rfl, trivial⟩ ?_
      rw [f_Mod_cycle_2, if_pos H1] at hk
      exact hk
    · refine pw_aload_n e_Mod_cycle_7 rfl ?_
      refine pw_getf e_Mod_cycle_8 fl_Mod_43 (hP _).o rfl ?_
      refine pw_iload_n e_Mod_cycle_11 rfl ?_
      refine pw_ialdN e_Mod_cycle_12 (hP _).a11 (by omega) (by decide) ?_
      refine pw_iconst (v := (-1)) e_Mod_cycle_13 (by decide) ?_
      refine pw_icmp_eq (tgt := 86) e_Mod_cycle_14 (by decide) (fun (H2 : ((P 11) s) = ((-1))) => ?_) (fun (H2 : ¬ ((P 11) s) = ((-1))) => ?_)
      · refine pw_iincN (ls2 := [_, _, _, _]) e_Mod_cycle_86 rfl (by decide) rfl ?_
        refine pw_goto (tgt := 2) e_Mod_cycle_89 (by decide) ?_
        refine ih c (s + 1) (by omega) (by omega) ?_
        rw [f_Mod_cycle_2, if_neg (Nat.not_le.mpr H1), if_pos H2] at hk
        exact hk
      · refine pw_aload_n e_Mod_cycle_17 rfl ?_
        refine pw_getf e_Mod_cycle_18 fl_Mod_9 (hP _).o rfl ?_
        refine pw_iload_n e_Mod_cycle_21 rfl ?_
        refine pw_sipush (v := nI 200) e_Mod_cycle_22 (by decide) ?_
        refine pw_iaddN e_Mod_cycle_25 ?_
        refine pw_iload_n e_Mod_cycle_26 rfl ?_
        refine pw_iaddN e_Mod_cycle_27 ?_
        refine pw_aload_n e_Mod_cycle_28 rfl ?_
        refine pw_getf e_Mod_cycle_29 fl_Mod_9 (hP _).o rfl ?_
        refine pw_iload_n e_Mod_cycle_32 rfl ?_
        refine pw_sipush (v := nI 200) e_Mod_cycle_33 (by decide) ?_
        refine pw_iaddN e_Mod_cycle_36 ?_
        refine pw_iload_n e_Mod_cycle_37 rfl ?_
        refine pw_iaddN e_Mod_cycle_38 ?_
        refine pw_ialdN e_Mod_cycle_39 up_same (by omega) (by decide) ?_
        refine pw_aload_n e_Mod_cycle_40 rfl ?_
        refine pw_iload_n e_Mod_cycle_41 rfl ?_
        refine pw_aload_n e_Mod_cycle_42 rfl ?_
        refine pw_getf e_Mod_cycle_43 fl_Mod_43 (hP _).o rfl ?_
        refine pw_iload_n e_Mod_cycle_46 rfl ?_
        refine pw_ialdN e_Mod_cycle_47 (hP _).a11 (by omega) (by decide) ?_
        refine pw_detV (As := [.int (nI (b)), .int ((P 11) s)]) e_Mod_cycle_48 li_Mod_255 rfl (hP _).o (q_Mod_actuated hst (fun e => by rw [up_up]; exact hP e) hw b ((P 11) s) (by omega) c up_same) rfl (by decide) (Nat.le_of_ble_eq_true rfl) rfl ?_
        refine pw_aload_n e_Mod_cycle_51 rfl ?_
        refine pw_getf e_Mod_cycle_52 fl_Mod_46 (hP _).o rfl ?_
        refine pw_iload_n e_Mod_cycle_55 rfl ?_
        refine pw_ialdN e_Mod_cycle_56 (hP _).a12 (by omega) (by decide) ?_
        refine pw_imul e_Mod_cycle_57 ?_
        refine pw_bipush (v := nI 100) e_Mod_cycle_58 (by decide) ?_
        refine pw_idiv e_Mod_cycle_60 (by decide) ?_
        refine pw_aload_n e_Mod_cycle_61 rfl ?_
        refine pw_getf e_Mod_cycle_62 fl_Mod_9 (hP _).o rfl ?_
        refine pw_iload_n e_Mod_cycle_65 rfl ?_
        refine pw_sipush (v := nI 200) e_Mod_cycle_66 (by decide) ?_
        refine pw_iaddN e_Mod_cycle_69 ?_
        refine pw_iload_n e_Mod_cycle_70 rfl ?_
        refine pw_iaddN e_Mod_cycle_71 ?_
        refine pw_ialdN e_Mod_cycle_72 up_same (by omega) (by decide) ?_
        refine pw_isub e_Mod_cycle_73 ?_
        refine pw_aload_n e_Mod_cycle_74 rfl ?_
        refine pw_getf e_Mod_cycle_75 fl_Mod_49 (hP _).o rfl ?_
        refine pw_iload_n e_Mod_cycle_78 rfl ?_
        refine pw_ialdN e_Mod_cycle_79 (hP _).a13 (by omega) (by decide) ?_
        refine pw_idiv e_Mod_cycle_80 (hw.lag s (by omega) (by assumption)) ?_
        refine pw_iadd e_Mod_cycle_81 ?_
        refine pw_detS (As := [.int ((c ((b + 200) + s)) + (((((f_Mod_actuated P b ((P 11) s) c) * ((P 12) s)) / 100) - (c ((b + 200) + s))) / ((P 13) s)))]) e_Mod_cycle_82 li_Mod_231 (q_Mod_put hst ((c ((b + 200) + s)) + (((((f_Mod_actuated P b ((P 11) s) c) * ((P 12) s)) / 100) - (c ((b + 200) + s))) / ((P 13) s)))) rfl (by decide) (Nat.le_of_ble_eq_true rfl) rfl ?_
        refine pw_iastU e_Mod_cycle_85 (by omega) (by decide) ?_
        refine pw_iincN (ls2 := [_, _, _, _]) e_Mod_cycle_86 rfl (by decide) rfl ?_
        refine pw_goto (tgt := 2) e_Mod_cycle_89 (by decide) ?_
        refine ih (upd c ((b + 200) + s) (f_Mod_put ((c ((b + 200) + s)) + (((((f_Mod_actuated P b ((P 11) s) c) * ((P 12) s)) / 100) - (c ((b + 200) + s))) / ((P 13) s))))) (s + 1) (by omega) (by omega) ?_
        rw [f_Mod_cycle_2, if_neg (Nat.not_le.mpr H1), if_neg H2] at hk
        exact hk
def f_Mod_cycle (P : Nat → Nat → Int32) (b : Nat) (c : Nat → Int32) : Nat → Int32 :=
  upd (f_Mod_cycle_182 P b 13 (f_Mod_cycle_99 P b 11 (f_Mod_schedules P b (f_Mod_cycle_2 P b 5 c 0)) 0) 0) (b + 208) (((f_Mod_cycle_182 P b 13 (f_Mod_cycle_99 P b 11 (f_Mod_schedules P b (f_Mod_cycle_2 P b 5 c 0)) 0) 0) (b + 208)) + 1)
set_option maxRecDepth 4000 in
theorem w_Mod_cycle_0 {g : GG} {Q : QT} {h : Hp} {kc ks : Nat} (hst : (gl g).stackTraces = false) {A : Nat → Nat} {P : Nat → Nat → Int32} (hP : ∀ e, ModAt g A P (va_up h (A 0) e)) (hw : wfM P) (b : Nat) (hb : b + 600 ≤ 18060)  (c : Nat → Int32) (hk : Q (.inl none) (va_up h (A 0) (some (aI g 18060 (f_Mod_cycle P b c))))) : PW g M_Mod_cycle 5 kc ks Q 0 [.ref (A 100), .int (nI (b)), .retAddr 0, .retAddr 0] [] (va_up h (A 0) (some (aI g 18060 (c)))) := by
  have hz0 := hw.blk.2
  have hz1 := hw.lnk.2
  have hz2 := hw.dvs.2
  refine pw_iconst (v := nI 0) e_Mod_cycle_0 (by decide) ?_
  refine pw_istore_n (ls2 := [_, _, _, _]) e_Mod_cycle_1 (by decide) rfl ?_
  refine w_Mod_cycle_2 hst hP hw b hb 5 c 0 (by omega) (by omega) ?_
  refine pw_aload_n e_Mod_cycle_92 rfl ?_
  refine pw_iload_n e_Mod_cycle_93 rfl ?_
  refine pw_detV (As := [.int (nI (b))]) e_Mod_cycle_94 li_Mod_258 rfl (hP _).o (q_Mod_schedules hst (fun e => by rw [up_up]; exact hP e) hw b (by omega) (f_Mod_cycle_2 P b 5 c 0) up_same) rfl (by decide) (Nat.le_of_ble_eq_true rfl) rfl ?_
  rw [up_up]
  refine pw_iconst (v := nI 0) e_Mod_cycle_97 (by decide) ?_
  refine pw_istore_n (ls2 := [_, _, _, _]) e_Mod_cycle_98 (by decide) rfl ?_
  refine w_Mod_cycle_99 hst hP hw b hb 11 (f_Mod_schedules P b (f_Mod_cycle_2 P b 5 c 0)) 0 (by omega) (by omega) ?_
  refine pw_iconst (v := nI 0) e_Mod_cycle_180 (by decide) ?_
  refine pw_istore_n (ls2 := [_, _, _, _]) e_Mod_cycle_181 (by decide) rfl ?_
  refine w_Mod_cycle_182 hst hP hw b hb 13 (f_Mod_cycle_99 P b 11 (f_Mod_schedules P b (f_Mod_cycle_2 P b 5 c 0)) 0) 0 (by omega) (by omega) ?_
  refine pw_aload_n e_Mod_cycle_212 rfl ?_
  refine pw_getf e_Mod_cycle_213 fl_Mod_9 (hP _).o rfl ?_
  refine pw_iload_n e_Mod_cycle_216 rfl ?_
  refine pw_sipush (v := nI 208) e_Mod_cycle_217 (by decide) ?_
  refine pw_iaddN e_Mod_cycle_220 ?_
  refine pw_dup2 e_Mod_cycle_221 rfl rfl ?_
  refine pw_ialdN e_Mod_cycle_222 up_same (by omega) (by decide) ?_
  refine pw_iconst (v := nI 1) e_Mod_cycle_223 (by decide) ?_
  refine pw_iadd e_Mod_cycle_224 ?_
  refine pw_iastU e_Mod_cycle_225 (by omega) (by decide) ?_
  refine pw_vret e_Mod_cycle_226 rfl ?_
  rw [f_Mod_cycle] at hk
  exact hk
theorem q_Mod_cycle {g : GG} {h : Hp} (hst : (gl g).stackTraces = false) {A : Nat → Nat} {P : Nat → Nat → Int32} (hP : ∀ e, ModAt g A P (va_up h (A 0) e)) (hw : wfM P) (b : Nat) (hb : b + 600 ≤ 18060)  (c : Nat → Int32) (hm : h (A 0) = some (aI g 18060 c)) : PM g M_Mod_cycle 5 0 0 [.ref (A 100), .int (nI (b))] h (RetV none (va_up h (A 0) (some (aI g 18060 (f_Mod_cycle P b c))))) := by
  refine PM.of hst (by decide) rfl (fun v hv => ?_) (Nat.le_of_ble_eq_true rfl) ?_
  · simp only [List.mem_cons, List.not_mem_nil, or_false] at hv; rcases hv with rfl | rfl <;> rfl
  · have hq := w_Mod_cycle_0 (g := g) (Q := RetV none (va_up h (A 0) (some (aI g 18060 (f_Mod_cycle P b c))))) (h := h) (kc := 0) (ks := 0) hst hP hw b hb c ?_
    · rw [up_self hm] at hq; exact hq
    · exact ⟨rfl, rfl⟩

def f_Mod_goes_2 (P : Nat → Nat → Int32) (b : Nat) (n : Nat) : Nat → (Nat → Int32) → (Nat) → Nat → Int32
  | 0, c, _ => c
  | t + 1, c, k => if n ≤ k then c else f_Mod_goes_2 P b n t (f_Mod_cycle P b c) (k + 1)
set_option maxRecDepth 4000 in
theorem w_Mod_goes_2 {g : GG} {Q : QT} {h : Hp} {kc ks : Nat} (hst : (gl g).stackTraces = false) {A : Nat → Nat} {P : Nat → Nat → Int32} (hP : ∀ e, ModAt g A P (va_up h (A 0) e)) (hw : wfM P) (b : Nat) (n : Nat) (hb : b + 600 ≤ 18060) (hn : n < 61)  (t : Nat) : ∀ (c : Nat → Int32) (k : Nat) (hk9 : k ≤ n) (hlt : n - k < t) (hk : PW g M_Mod_goes 6 kc ks Q 18 [.ref (A 100), .int (nI (b)), .int (nI (n)), .retAddr 0] [] (va_up h (A 0) (some (aI g 18060 (f_Mod_goes_2 P b n t c k))))), PW g M_Mod_goes 6 kc ks Q 2 [.ref (A 100), .int (nI (b)), .int (nI (n)), .int (nI (k))] [] (va_up h (A 0) (some (aI g 18060 (c)))) := by
  induction t with
  | zero => intro c k hk9 hlt _; exact absurd hlt (Nat.not_lt_zero _)
  | succ t ih =>
    intro c k hk9 hlt hk
    have hz0 := hw.blk.2
    have hz1 := hw.lnk.2
    have hz2 := hw.dvs.2
    refine pw_iload_n e_Mod_goes_2 rfl ?_
    refine pw_iload_n e_Mod_goes_3 rfl ?_
    refine pw_icmp_geN (tgt := 18) e_Mod_goes_4 (by decide) (by omega) (by omega) (fun (H1 : n ≤ k) => ?_) (fun (H1 : k < n) => ?_)
    · refine pw_fgt (ls' := [.ref (A 100), .int (nI (b)), .int (nI (n)), .retAddr 0]) ⟨Or.inr rfl, Or.inr rfl, Or.inr rfl, Or.inl rfl, trivial⟩ ?_
      rw [f_Mod_goes_2, if_pos H1] at hk
      exact hk
    · refine pw_aload_n e_Mod_goes_7 rfl ?_
      refine pw_iload_n e_Mod_goes_8 rfl ?_
      refine pw_detV (As := [.int (nI (b))]) e_Mod_goes_9 li_Mod_270 rfl (hP _).o (q_Mod_cycle hst (fun e => by rw [up_up]; exact hP e) hw b (by omega) c up_same) rfl (by decide) (Nat.le_of_ble_eq_true rfl) rfl ?_
      rw [up_up]
      refine pw_iincN (ls2 := [_, _, _, _]) e_Mod_goes_12 rfl (by decide) rfl ?_
      refine pw_goto (tgt := 2) e_Mod_goes_15 (by decide) ?_
      refine ih (f_Mod_cycle P b c) (k + 1) (by omega) (by omega) ?_
      rw [f_Mod_goes_2, if_neg (Nat.not_le.mpr H1)] at hk
      exact hk
def f_Mod_goes (P : Nat → Nat → Int32) (b : Nat) (n : Nat) (c : Nat → Int32) : Nat → Int32 :=
  f_Mod_goes_2 P b n 61 c 0
set_option maxRecDepth 4000 in
theorem w_Mod_goes_0 {g : GG} {Q : QT} {h : Hp} {kc ks : Nat} (hst : (gl g).stackTraces = false) {A : Nat → Nat} {P : Nat → Nat → Int32} (hP : ∀ e, ModAt g A P (va_up h (A 0) e)) (hw : wfM P) (b : Nat) (n : Nat) (hb : b + 600 ≤ 18060) (hn : n < 61)  (c : Nat → Int32) (hk : Q (.inl none) (va_up h (A 0) (some (aI g 18060 (f_Mod_goes P b n c))))) : PW g M_Mod_goes 6 kc ks Q 0 [.ref (A 100), .int (nI (b)), .int (nI (n)), .retAddr 0] [] (va_up h (A 0) (some (aI g 18060 (c)))) := by
  have hz0 := hw.blk.2
  have hz1 := hw.lnk.2
  have hz2 := hw.dvs.2
  refine pw_iconst (v := nI 0) e_Mod_goes_0 (by decide) ?_
  refine pw_istore_n (ls2 := [_, _, _, _]) e_Mod_goes_1 (by decide) rfl ?_
  refine w_Mod_goes_2 hst hP hw b n hb hn 61 c 0 (by omega) (by omega) ?_
  refine pw_vret e_Mod_goes_18 rfl ?_
  rw [f_Mod_goes] at hk
  exact hk
theorem q_Mod_goes {g : GG} {h : Hp} (hst : (gl g).stackTraces = false) {A : Nat → Nat} {P : Nat → Nat → Int32} (hP : ∀ e, ModAt g A P (va_up h (A 0) e)) (hw : wfM P) (b : Nat) (n : Nat) (hb : b + 600 ≤ 18060) (hn : n < 61)  (c : Nat → Int32) (hm : h (A 0) = some (aI g 18060 c)) : PM g M_Mod_goes 6 0 0 [.ref (A 100), .int (nI (b)), .int (nI (n))] h (RetV none (va_up h (A 0) (some (aI g 18060 (f_Mod_goes P b n c))))) := by
  refine PM.of hst (by decide) rfl (fun v hv => ?_) (Nat.le_of_ble_eq_true rfl) ?_
  · simp only [List.mem_cons, List.not_mem_nil, or_false] at hv; rcases hv with rfl | rfl | rfl <;> rfl
  · have hq := w_Mod_goes_0 (g := g) (Q := RetV none (va_up h (A 0) (some (aI g 18060 (f_Mod_goes P b n c))))) (h := h) (kc := 0) (ks := 0) hst hP hw b n hb hn c ?_
    · rw [up_self hm] at hq; exact hq
    · exact ⟨rfl, rfl⟩

def f_Mod_copies_3 (P : Nat → Nat → Int32) (a : Nat) (b : Nat) (n : Nat) : Nat → (Nat → Int32) → (Nat) → Nat → Int32
  | 0, c, _ => c
  | t + 1, c, k => if n ≤ k then c else f_Mod_copies_3 P a b n t (upd c (b + k) (c (a + k))) (k + 1)
set_option maxRecDepth 4000 in
theorem w_Mod_copies_3 {g : GG} {Q : QT} {h : Hp} {kc ks : Nat} (hst : (gl g).stackTraces = false) {A : Nat → Nat} {P : Nat → Nat → Int32} (hP : ∀ e, ModAt g A P (va_up h (A 0) e)) (hw : wfM P) (a : Nat) (b : Nat) (n : Nat) (ha : a + n ≤ 18060) (hb : b + n ≤ 18060)  (t : Nat) : ∀ (c : Nat → Int32) (k : Nat) (hk9 : k ≤ n) (hlt : n - k < t) (hk : PW g M_Mod_copies 0 kc ks Q 33 [.ref (A 100), .int (nI (a)), .int (nI (b)), .int (nI (n)), .retAddr 0] [] (va_up h (A 0) (some (aI g 18060 (f_Mod_copies_3 P a b n t c k))))), PW g M_Mod_copies 0 kc ks Q 3 [.ref (A 100), .int (nI (a)), .int (nI (b)), .int (nI (n)), .int (nI (k))] [] (va_up h (A 0) (some (aI g 18060 (c)))) := by
  induction t with
  | zero => intro c k hk9 hlt _; exact absurd hlt (Nat.not_lt_zero _)
  | succ t ih =>
    intro c k hk9 hlt hk
    have hz0 := hw.blk.2
    have hz1 := hw.lnk.2
    have hz2 := hw.dvs.2
    refine pw_iload e_Mod_copies_3 rfl ?_
    refine pw_iload_n e_Mod_copies_5 rfl ?_
    refine pw_icmp_geN (tgt := 33) e_Mod_copies_6 (by decide) (by omega) (by omega) (fun (H1 : n ≤ k) => ?_) (fun (H1 : k < n) => ?_)
    · refine pw_fgt (ls' := [.ref (A 100), .int (nI (a)), .int (nI (b)), .int (nI (n)), .retAddr 0]) ⟨Or.inr rfl, Or.inr rfl, Or.inr rfl, Or.inr rfl, Or.inl rfl, trivial⟩ ?_
      rw [f_Mod_copies_3, if_pos H1] at hk
      exact hk
    · refine pw_aload_n e_Mod_copies_9 rfl ?_
      refine pw_getf e_Mod_copies_10 fl_Mod_9 (hP _).o rfl ?_
      refine pw_iload_n e_Mod_copies_13 rfl ?_
      refine pw_iload e_Mod_copies_14 rfl ?_
      refine pw_iaddN e_Mod_copies_16 ?_
      refine pw_aload_n e_Mod_copies_17 rfl ?_
      refine pw_getf e_Mod_copies_18 fl_Mod_9 (hP _).o rfl ?_
      refine pw_iload_n e_Mod_copies_21 rfl ?_
      refine pw_iload e_Mod_copies_22 rfl ?_
      refine pw_iaddN e_Mod_copies_24 ?_
      refine pw_ialdN e_Mod_copies_25 up_same (by omega) (by decide) ?_
      refine pw_iastU e_Mod_copies_26 (by omega) (by decide) ?_
      refine pw_iincN (ls2 := [_, _, _, _, _]) e_Mod_copies_27 rfl (by decide) rfl ?_
      refine pw_goto (tgt := 3) e_Mod_copies_30 (by decide) ?_
      refine ih (upd c (b + k) (c (a + k))) (k + 1) (by omega) (by omega) ?_
      rw [f_Mod_copies_3, if_neg (Nat.not_le.mpr H1)] at hk
      exact hk
def f_Mod_copies (P : Nat → Nat → Int32) (a : Nat) (b : Nat) (n : Nat) (c : Nat → Int32) : Nat → Int32 :=
  f_Mod_copies_3 P a b n (n + 1) c 0
set_option maxRecDepth 4000 in
theorem w_Mod_copies_0 {g : GG} {Q : QT} {h : Hp} {kc ks : Nat} (hst : (gl g).stackTraces = false) {A : Nat → Nat} {P : Nat → Nat → Int32} (hP : ∀ e, ModAt g A P (va_up h (A 0) e)) (hw : wfM P) (a : Nat) (b : Nat) (n : Nat) (ha : a + n ≤ 18060) (hb : b + n ≤ 18060)  (c : Nat → Int32) (hk : Q (.inl none) (va_up h (A 0) (some (aI g 18060 (f_Mod_copies P a b n c))))) : PW g M_Mod_copies 0 kc ks Q 0 [.ref (A 100), .int (nI (a)), .int (nI (b)), .int (nI (n)), .retAddr 0] [] (va_up h (A 0) (some (aI g 18060 (c)))) := by
  have hz0 := hw.blk.2
  have hz1 := hw.lnk.2
  have hz2 := hw.dvs.2
  refine pw_iconst (v := nI 0) e_Mod_copies_0 (by decide) ?_
  refine pw_istore (ls2 := [_, _, _, _, _]) e_Mod_copies_1 (by decide) rfl ?_
  refine w_Mod_copies_3 hst hP hw a b n ha hb (n + 1) c 0 (by omega) (by omega) ?_
  refine pw_vret e_Mod_copies_33 rfl ?_
  rw [f_Mod_copies] at hk
  exact hk
theorem q_Mod_copies {g : GG} {h : Hp} (hst : (gl g).stackTraces = false) {A : Nat → Nat} {P : Nat → Nat → Int32} (hP : ∀ e, ModAt g A P (va_up h (A 0) e)) (hw : wfM P) (a : Nat) (b : Nat) (n : Nat) (ha : a + n ≤ 18060) (hb : b + n ≤ 18060)  (c : Nat → Int32) (hm : h (A 0) = some (aI g 18060 c)) : PM g M_Mod_copies 0 0 0 [.ref (A 100), .int (nI (a)), .int (nI (b)), .int (nI (n))] h (RetV none (va_up h (A 0) (some (aI g 18060 (f_Mod_copies P a b n c))))) := by
  refine PM.of hst (by decide) rfl (fun v hv => ?_) (Nat.le_of_ble_eq_true rfl) ?_
  · simp only [List.mem_cons, List.not_mem_nil, or_false] at hv; rcases hv with rfl | rfl | rfl | rfl <;> rfl
  · have hq := w_Mod_copies_0 (g := g) (Q := RetV none (va_up h (A 0) (some (aI g 18060 (f_Mod_copies P a b n c))))) (h := h) (kc := 0) (ks := 0) hst hP hw a b n ha hb c ?_
    · rw [up_self hm] at hq; exact hq
    · exact ⟨rfl, rfl⟩

def f_Mod_tries (P : Nat → Nat → Int32)  (c : Nat → Int32) : Nat → Int32 :=
  f_Mod_copies P 0 210 210 c
set_option maxRecDepth 4000 in
theorem w_Mod_tries_0 {g : GG} {Q : QT} {h : Hp} {kc ks : Nat} (hst : (gl g).stackTraces = false) {A : Nat → Nat} {P : Nat → Nat → Int32} (hP : ∀ e, ModAt g A P (va_up h (A 0) e)) (hw : wfM P)   (c : Nat → Int32) (hk : Q (.inl none) (va_up h (A 0) (some (aI g 18060 (f_Mod_tries P  c))))) : PW g M_Mod_tries 1 kc ks Q 0 [.ref (A 100)] [] (va_up h (A 0) (some (aI g 18060 (c)))) := by
  have hz0 := hw.blk.2
  have hz1 := hw.lnk.2
  have hz2 := hw.dvs.2
  refine pw_aload_n e_Mod_tries_0 rfl ?_
  refine pw_iconst (v := nI 0) e_Mod_tries_1 (by decide) ?_
  refine pw_sipush (v := nI 210) e_Mod_tries_2 (by decide) ?_
  refine pw_sipush (v := nI 210) e_Mod_tries_5 (by decide) ?_
  refine pw_detV (As := [.int (nI (0)), .int (nI (210)), .int (nI (210))]) e_Mod_tries_8 li_Mod_406 rfl (hP _).o (q_Mod_copies hst (fun e => by rw [up_up]; exact hP e) hw 0 210 210 (by omega) (by omega) c up_same) rfl (by decide) (Nat.le_of_ble_eq_true rfl) rfl ?_
  rw [up_up]
  refine pw_vret e_Mod_tries_11 rfl ?_
  rw [f_Mod_tries] at hk
  exact hk
theorem q_Mod_tries {g : GG} {h : Hp} (hst : (gl g).stackTraces = false) {A : Nat → Nat} {P : Nat → Nat → Int32} (hP : ∀ e, ModAt g A P (va_up h (A 0) e)) (hw : wfM P)   (c : Nat → Int32) (hm : h (A 0) = some (aI g 18060 c)) : PM g M_Mod_tries 1 0 0 [.ref (A 100)] h (RetV none (va_up h (A 0) (some (aI g 18060 (f_Mod_tries P  c))))) := by
  refine PM.of hst (by decide) rfl (fun v hv => ?_) (Nat.le_of_ble_eq_true rfl) ?_
  · simp only [List.mem_cons, List.not_mem_nil, or_false] at hv; rcases hv with rfl <;> rfl
  · have hq := w_Mod_tries_0 (g := g) (Q := RetV none (va_up h (A 0) (some (aI g 18060 (f_Mod_tries P  c))))) (h := h) (kc := 0) (ks := 0) hst hP hw  c ?_
    · rw [up_self hm] at hq; exact hq
    · exact ⟨rfl, rfl⟩

def f_Mod_powers (P : Nat → Nat → Int32) (b : Nat) (x : Int32) (y : Int32) (c : Nat → Int32) : Nat → Int32 :=
  if y = 0 then if ((upd c (b + 205) ((c (b + 205)) &&& (((1 : Int32) <<< (x &&& 31)) ^^^ ((-1))))) (b + 206)) = x then upd (upd (upd c (b + 205) ((c (b + 205)) &&& (((1 : Int32) <<< (x &&& 31)) ^^^ ((-1))))) (b + 206) ((-1))) (b + 207) (P 100 23) else upd c (b + 205) ((c (b + 205)) &&& (((1 : Int32) <<< (x &&& 31)) ^^^ ((-1)))) else upd c (b + 205) ((c (b + 205)) ||| ((1 : Int32) <<< (x &&& 31)))
set_option maxRecDepth 4000 in
theorem w_Mod_powers_0 {g : GG} {Q : QT} {h : Hp} {kc ks : Nat} (hst : (gl g).stackTraces = false) {A : Nat → Nat} {P : Nat → Nat → Int32} (hP : ∀ e, ModAt g A P (va_up h (A 0) e)) (hw : wfM P) (b : Nat) (x : Int32) (y : Int32) (hb : b + 600 ≤ 18060)  (c : Nat → Int32) (hk : Q (.inl none) (va_up h (A 0) (some (aI g 18060 (f_Mod_powers P b x y c))))) : PW g M_Mod_powers 0 kc ks Q 0 [.ref (A 100), .int (nI (b)), .int (x), .int (y)] [] (va_up h (A 0) (some (aI g 18060 (c)))) := by
  have hz0 := hw.blk.2
  have hz1 := hw.lnk.2
  have hz2 := hw.dvs.2
  refine pw_iload_n e_Mod_powers_0 rfl ?_
  refine pw_if_eq (tgt := 21) e_Mod_powers_1 (by decide) (fun (H1 : y = 0) => ?_) (fun (H1 : ¬ y = 0) => ?_)
  · refine pw_aload_n e_Mod_powers_21 rfl ?_
    refine pw_getf e_Mod_powers_22 fl_Mod_9 (hP _).o rfl ?_
    refine pw_iload_n e_Mod_powers_25 rfl ?_
    refine pw_sipush (v := nI 205) e_Mod_powers_26 (by decide) ?_
    refine pw_iaddN e_Mod_powers_29 ?_
    refine pw_dup2 e_Mod_powers_30 rfl rfl ?_
    refine pw_ialdN e_Mod_powers_31 up_same (by omega) (by decide) ?_
    refine pw_iconst (v := nI 1) e_Mod_powers_32 (by decide) ?_
    refine pw_iload_n e_Mod_powers_33 rfl ?_
    refine pw_ishl e_Mod_powers_34 ?_
    refine pw_iconst (v := (-1)) e_Mod_powers_35 (by decide) ?_
    refine pw_ixor e_Mod_powers_36 ?_
    refine pw_iand e_Mod_powers_37 ?_
    refine pw_iastU e_Mod_powers_38 (by omega) (by decide) ?_
    refine pw_aload_n e_Mod_powers_39 rfl ?_
    refine pw_getf e_Mod_powers_40 fl_Mod_9 (hP _).o rfl ?_
    refine pw_iload_n e_Mod_powers_43 rfl ?_
    refine pw_sipush (v := nI 206) e_Mod_powers_44 (by decide) ?_
    refine pw_iaddN e_Mod_powers_47 ?_
    refine pw_ialdN e_Mod_powers_48 up_same (by omega) (by decide) ?_
    refine pw_iload_n e_Mod_powers_49 rfl ?_
    refine pw_icmp_eq (tgt := 54) e_Mod_powers_50 (by decide) (fun (H2 : ((upd c (b + 205) ((c (b + 205)) &&& (((1 : Int32) <<< (x &&& 31)) ^^^ ((-1))))) (b + 206)) = x) => ?_) (fun (H2 : ¬ ((upd c (b + 205) ((c (b + 205)) &&& (((1 : Int32) <<< (x &&& 31)) ^^^ ((-1))))) (b + 206)) = x) => ?_)
    · refine pw_aload_n e_Mod_powers_54 rfl ?_
      refine pw_getf e_Mod_powers_55 fl_Mod_9 (hP _).o rfl ?_
      refine pw_iload_n e_Mod_powers_58 rfl ?_
      refine pw_sipush (v := nI 206) e_Mod_powers_59 (by decide) ?_
      refine pw_iaddN e_Mod_powers_62 ?_
      refine pw_iconst (v := (-1)) e_Mod_powers_63 (by decide) ?_
      refine pw_iastU e_Mod_powers_64 (by omega) (by decide) ?_
      refine pw_aload_n e_Mod_powers_65 rfl ?_
      refine pw_getf e_Mod_powers_66 fl_Mod_9 (hP _).o rfl ?_
      refine pw_iload_n e_Mod_powers_69 rfl ?_
      refine pw_sipush (v := nI 207) e_Mod_powers_70 (by decide) ?_
      refine pw_iaddN e_Mod_powers_73 ?_
      refine pw_aload_n e_Mod_powers_74 rfl ?_
      refine pw_getf e_Mod_powers_75 fl_Mod_71 (hP _).o rfl ?_
      refine pw_iastU e_Mod_powers_78 (by omega) (by decide) ?_
      refine pw_vret e_Mod_powers_79 rfl ?_
      rw [f_Mod_powers, if_pos H1, if_pos H2] at hk
      exact hk
    · refine pw_vret e_Mod_powers_53 rfl ?_
      rw [f_Mod_powers, if_pos H1, if_neg H2] at hk
      exact hk
  · refine pw_aload_n e_Mod_powers_4 rfl ?_
    refine pw_getf e_Mod_powers_5 fl_Mod_9 (hP _).o rfl ?_
    refine pw_iload_n e_Mod_powers_8 rfl ?_
    refine pw_sipush (v := nI 205) e_Mod_powers_9 (by decide) ?_
    refine pw_iaddN e_Mod_powers_12 ?_
    refine pw_dup2 e_Mod_powers_13 rfl rfl ?_
    refine pw_ialdN e_Mod_powers_14 up_same (by omega) (by decide) ?_
    refine pw_iconst (v := nI 1) e_Mod_powers_15 (by decide) ?_
    refine pw_iload_n e_Mod_powers_16 rfl ?_
    refine pw_ishl e_Mod_powers_17 ?_
    refine pw_ior e_Mod_powers_18 ?_
    refine pw_iastU e_Mod_powers_19 (by omega) (by decide) ?_
    refine pw_vret e_Mod_powers_20 rfl ?_
    rw [f_Mod_powers, if_neg H1] at hk
    exact hk
theorem q_Mod_powers {g : GG} {h : Hp} (hst : (gl g).stackTraces = false) {A : Nat → Nat} {P : Nat → Nat → Int32} (hP : ∀ e, ModAt g A P (va_up h (A 0) e)) (hw : wfM P) (b : Nat) (x : Int32) (y : Int32) (hb : b + 600 ≤ 18060)  (c : Nat → Int32) (hm : h (A 0) = some (aI g 18060 c)) : PM g M_Mod_powers 0 0 0 [.ref (A 100), .int (nI (b)), .int (x), .int (y)] h (RetV none (va_up h (A 0) (some (aI g 18060 (f_Mod_powers P b x y c))))) := by
  refine PM.of hst (by decide) rfl (fun v hv => ?_) (Nat.le_of_ble_eq_true rfl) ?_
  · simp only [List.mem_cons, List.not_mem_nil, or_false] at hv; rcases hv with rfl | rfl | rfl | rfl <;> rfl
  · have hq := w_Mod_powers_0 (g := g) (Q := RetV none (va_up h (A 0) (some (aI g 18060 (f_Mod_powers P b x y c))))) (h := h) (kc := 0) (ks := 0) hst hP hw b x y hb c ?_
    · rw [up_self hm] at hq; exact hq
    · exact ⟨rfl, rfl⟩

theorem wi_of {x : Int32} {n : Nat} (hn : n < 2 ^ 30) (H : ¬ f_Mod_within x (nI 0) ((nI n) - 1) = 0) : x = nI x.toNatClampNeg ∧ x.toNatClampNeg < n := by
  have z : (nI 0).toInt = 0 := by decide
  rw [f_Mod_within] at H
  by_cases h0 : x < nI 0
  · rw [if_pos h0] at H; exact absurd rfl H
  · rw [if_neg h0] at H
    by_cases h1 : nI n - 1 < x
    · rw [if_pos h1] at H; exact absurd rfl H
    · refine toN (by omega) h0 ?_
      rw [i_lt] at h0 h1 ⊢
      have e : (nI n - 1).toInt = (n : Int) - 1 := by
        rw [Int32.toInt_sub, nI_toInt (by omega), show (1 : Int32).toInt = 1 by decide]
        exact Int.bmod_eq_of_le (by omega) (by omega)
      rw [e] at h1
      rw [nI_toInt (by omega)]
      omega
def f_Mod_canTarget_49 (P : Nat → Nat → Int32) (b : Nat) (x : Int32) (y : Int32) (c : Nat → Int32) (k : Nat) : Int32 :=
  if (c ((b + 8 * k) + 0)) = y then 0 else 1
set_option maxRecDepth 4000 in
theorem w_Mod_canTarget_49 {g : GG} {Q : QT} {h : Hp} {kc ks : Nat} (hst : (gl g).stackTraces = false) {A : Nat → Nat} {P : Nat → Nat → Int32} (hP : ∀ e, ModAt g A P (va_up h (A 0) e)) (hw : wfM P) (b : Nat) (x : Int32) (y : Int32) (hb : b + 600 ≤ 18060)  (c : Nat → Int32) (k : Nat) (hkk : k < pN P 100 20) (hk : Q (.inl (some (.int (f_Mod_canTarget_49 P b x y c k)))) (va_up h (A 0) (some (aI g 18060 (c))))) : PW g M_Mod_canTarget 1 kc ks Q 49 [.ref (A 100), .int (nI (b)), .int (nI (k)), .int (y)] [] (va_up h (A 0) (some (aI g 18060 (c)))) := by
  have hz0 := hw.blk.2
  have hz1 := hw.lnk.2
  have hz2 := hw.dvs.2
  refine pw_aload_n e_Mod_canTarget_49 rfl ?_
  refine pw_getf e_Mod_canTarget_50 fl_Mod_9 (hP _).o rfl ?_
  refine pw_iload_n e_Mod_canTarget_53 rfl ?_
  refine pw_iload_n e_Mod_canTarget_54 rfl ?_
  refine pw_detS (As := [.int (nI (b)), .int (nI (k))]) e_Mod_canTarget_55 li_Mod_193 (q_at hst b k) rfl (by decide) (Nat.le_of_ble_eq_true rfl) rfl ?_
  refine pw_iconst (v := nI 0) e_Mod_canTarget_58 (by decide) ?_
  refine pw_iaddN e_Mod_canTarget_59 ?_
  refine pw_ialdN e_Mod_canTarget_60 up_same (by omega) (by decide) ?_
  refine pw_iload_n e_Mod_canTarget_61 rfl ?_
  refine pw_icmp_eq (tgt := 69) e_Mod_canTarget_62 (by decide) (fun (H1 : (c ((b + 8 * k) + 0)) = y) => ?_) (fun (H1 : ¬ (c ((b + 8 * k) + 0)) = y) => ?_)
  · refine pw_iconst (v := nI 0) e_Mod_canTarget_69 (by decide) ?_
    refine pw_iret e_Mod_canTarget_70 rfl (by decide) ?_
    rw [f_Mod_canTarget_49, if_pos H1] at hk
    exact hk
  · refine pw_iconst (v := nI 1) e_Mod_canTarget_65 (by decide) ?_
    refine pw_goto (tgt := 70) e_Mod_canTarget_66 (by decide) ?_
    refine pw_iret e_Mod_canTarget_70 rfl (by decide) ?_
    rw [f_Mod_canTarget_49, if_neg H1] at hk
    exact hk
def f_Mod_canTarget_14 (P : Nat → Nat → Int32) (b : Nat) (x : Int32) (y : Int32) (c : Nat → Int32) (k : Nat) : Int32 :=
  if (pN P 3 k) = 1 then if (f_Mod_within y (nI 0) (nI 3)) = 0 then 0 else f_Mod_canTarget_49 P b x y c k else if (pN P 3 k) = 2 then if (f_Mod_within y (nI 0) (nI 3)) = 0 then 0 else f_Mod_canTarget_49 P b x y c k else if (f_Mod_within y (nI 0) (nI 2)) = 0 then 0 else f_Mod_canTarget_49 P b x y c k
set_option maxRecDepth 4000 in
theorem w_Mod_canTarget_14 {g : GG} {Q : QT} {h : Hp} {kc ks : Nat} (hst : (gl g).stackTraces = false) {A : Nat → Nat} {P : Nat → Nat → Int32} (hP : ∀ e, ModAt g A P (va_up h (A 0) e)) (hw : wfM P) (b : Nat) (x : Int32) (y : Int32) (hb : b + 600 ≤ 18060)  (c : Nat → Int32) (k : Nat) (hkk : k < pN P 100 20) (hk : Q (.inl (some (.int (f_Mod_canTarget_14 P b x y c k)))) (va_up h (A 0) (some (aI g 18060 (c))))) : PW g M_Mod_canTarget 1 kc ks Q 14 [.ref (A 100), .int (nI (b)), .int (nI (k)), .int (y)] [] (va_up h (A 0) (some (aI g 18060 (c)))) := by
  have hz0 := hw.blk.2
  have hz1 := hw.lnk.2
  have hz2 := hw.dvs.2
  refine pw_iload_n e_Mod_canTarget_14 rfl ?_
  refine pw_iconst (v := nI 0) e_Mod_canTarget_15 (by decide) ?_
  refine pw_aload_n e_Mod_canTarget_16 rfl ?_
  refine pw_getf e_Mod_canTarget_17 fl_Mod_19 (hP _).o rfl ?_
  refine pw_iload_n e_Mod_canTarget_20 rfl ?_
  have hb1 := hw.kind k
  refine pw_ialdC e_Mod_canTarget_21 (hP _).a3 (by omega) (by decide) hb1.1 ?_
  replace hb1 := hb1.2
  refine pw_iconst (v := nI 1) e_Mod_canTarget_22 (by decide) ?_
  refine pw_icmp_eqN (tgt := 36) e_Mod_canTarget_23 (by decide) (by omega) (by omega) (fun (H2 : (pN P 3 k) = 1) => ?_) (fun (H2 : ¬ (pN P 3 k) = 1) => ?_)
  · refine pw_iconst (v := nI 3) e_Mod_canTarget_36 (by decide) ?_
    refine pw_goto (tgt := 41) e_Mod_canTarget_37 (by decide) ?_
    refine pw_detS (As := [.int (y), .int (nI (0)), .int (nI (3))]) e_Mod_canTarget_41 li_Mod_312 (q_Mod_within hst y (nI 0) (nI 3)) rfl (by decide) (Nat.le_of_ble_eq_true rfl) rfl ?_
    refine pw_if_ne (tgt := 49) e_Mod_canTarget_44 (by decide) (fun (H3 : ¬ (f_Mod_within y (nI 0) (nI 3)) = 0) => ?_) (fun (H3 : (f_Mod_within y (nI 0) (nI 3)) = 0) => ?_)
    · refine w_Mod_canTarget_49 hst hP hw b x y hb c k hkk ?_
      rw [f_Mod_canTarget_14, if_pos H2, if_neg H3] at hk
      exact hk
    · refine pw_iconst (v := nI 0) e_Mod_canTarget_47 (by decide) ?_
      refine pw_iret e_Mod_canTarget_48 rfl (by decide) ?_
      rw [f_Mod_canTarget_14, if_pos H2, if_pos H3] at hk
      exact hk
  · refine pw_aload_n e_Mod_canTarget_26 rfl ?_
    refine pw_getf e_Mod_canTarget_27 fl_Mod_19 (hP _).o rfl ?_
    refine pw_iload_n e_Mod_canTarget_30 rfl ?_
    have hb4 := hw.kind k
    refine pw_ialdC e_Mod_canTarget_31 (hP _).a3 (by omega) (by decide) hb4.1 ?_
    replace hb4 := hb4.2
    refine pw_iconst (v := nI 2) e_Mod_canTarget_32 (by decide) ?_
    refine pw_icmp_neN (tgt := 40) e_Mod_canTarget_33 (by decide) (by omega) (by omega) (fun (H5 : ¬ (pN P 3 k) = 2) => ?_) (fun (H5 : (pN P 3 k) = 2) => ?_)
    · refine pw_iconst (v := nI 2) e_Mod_canTarget_40 (by decide) ?_
      refine pw_detS (As := [.int (y), .int (nI (0)), .int (nI (2))]) e_Mod_canTarget_41 li_Mod_312 (q_Mod_within hst y (nI 0) (nI 2)) rfl (by decide) (Nat.le_of_ble_eq_true rfl) rfl ?_
      refine pw_if_ne (tgt := 49) e_Mod_canTarget_44 (by decide) (fun (H6 : ¬ (f_Mod_within y (nI 0) (nI 2)) = 0) => ?_) (fun (H6 : (f_Mod_within y (nI 0) (nI 2)) = 0) => ?_)
      · refine w_Mod_canTarget_49 hst hP hw b x y hb c k hkk ?_
        rw [f_Mod_canTarget_14, if_neg H2, if_neg H5, if_neg H6] at hk
        exact hk
      · refine pw_iconst (v := nI 0) e_Mod_canTarget_47 (by decide) ?_
        refine pw_iret e_Mod_canTarget_48 rfl (by decide) ?_
        rw [f_Mod_canTarget_14, if_neg H2, if_neg H5, if_pos H6] at hk
        exact hk
    · refine pw_iconst (v := nI 3) e_Mod_canTarget_36 (by decide) ?_
      refine pw_goto (tgt := 41) e_Mod_canTarget_37 (by decide) ?_
      refine pw_detS (As := [.int (y), .int (nI (0)), .int (nI (3))]) e_Mod_canTarget_41 li_Mod_312 (q_Mod_within hst y (nI 0) (nI 3)) rfl (by decide) (Nat.le_of_ble_eq_true rfl) rfl ?_
      refine pw_if_ne (tgt := 49) e_Mod_canTarget_44 (by decide) (fun (H7 : ¬ (f_Mod_within y (nI 0) (nI 3)) = 0) => ?_) (fun (H7 : (f_Mod_within y (nI 0) (nI 3)) = 0) => ?_)
      · refine w_Mod_canTarget_49 hst hP hw b x y hb c k hkk ?_
        rw [f_Mod_canTarget_14, if_neg H2, if_pos H5, if_neg H7] at hk
        exact hk
      · refine pw_iconst (v := nI 0) e_Mod_canTarget_47 (by decide) ?_
        refine pw_iret e_Mod_canTarget_48 rfl (by decide) ?_
        rw [f_Mod_canTarget_14, if_neg H2, if_pos H5, if_pos H7] at hk
        exact hk
def f_Mod_canTarget (P : Nat → Nat → Int32) (b : Nat) (x : Int32) (y : Int32) (c : Nat → Int32) : Int32 :=
  if (f_Mod_within x (nI 0) ((nI (pN P 100 20)) - 1)) = 0 then 0 else f_Mod_canTarget_14 P b x y c x.toNatClampNeg
set_option maxRecDepth 4000 in
theorem w_Mod_canTarget_0 {g : GG} {Q : QT} {h : Hp} {kc ks : Nat} (hst : (gl g).stackTraces = false) {A : Nat → Nat} {P : Nat → Nat → Int32} (hP : ∀ e, ModAt g A P (va_up h (A 0) e)) (hw : wfM P) (b : Nat) (x : Int32) (y : Int32) (hb : b + 600 ≤ 18060)  (c : Nat → Int32) (hk : Q (.inl (some (.int (f_Mod_canTarget P b x y c)))) (va_up h (A 0) (some (aI g 18060 (c))))) : PW g M_Mod_canTarget 1 kc ks Q 0 [.ref (A 100), .int (nI (b)), .int (x), .int (y)] [] (va_up h (A 0) (some (aI g 18060 (c)))) := by
  have hz0 := hw.blk.2
  have hz1 := hw.lnk.2
  have hz2 := hw.dvs.2
  refine pw_iload_n e_Mod_canTarget_0 rfl ?_
  refine pw_iconst (v := nI 0) e_Mod_canTarget_1 (by decide) ?_
  refine pw_aload_n e_Mod_canTarget_2 rfl ?_
  refine pw_getf e_Mod_canTarget_3 fl_Mod_183 (hP _).o rfl ?_
  rw [hw.blk.1]
  refine pw_iconst (v := nI 1) e_Mod_canTarget_6 (by decide) ?_
  refine pw_isub e_Mod_canTarget_7 ?_
  refine pw_detS (As := [.int (x), .int (nI (0)), .int ((nI (pN P 100 20)) - 1)]) e_Mod_canTarget_8 li_Mod_312 (q_Mod_within hst x (nI 0) ((nI (pN P 100 20)) - 1)) rfl (by decide) (Nat.le_of_ble_eq_true rfl) rfl ?_
  refine pw_if_eq (tgt := 47) e_Mod_canTarget_11 (by decide) (fun (H1 : (f_Mod_within x (nI 0) ((nI (pN P 100 20)) - 1)) = 0) => ?_) (fun (H1 : ¬ (f_Mod_within x (nI 0) ((nI (pN P 100 20)) - 1)) = 0) => ?_)
  · refine pw_iconst (v := nI 0) e_Mod_canTarget_47 (by decide) ?_
    refine pw_iret e_Mod_canTarget_48 rfl (by decide) ?_
    rw [f_Mod_canTarget, if_pos H1] at hk
    exact hk
  · refine pw_eqls (ls' := [.ref (A 100), .int (nI (b)), .int (nI (x.toNatClampNeg)), .int (y)]) (by rw [← (show x = nI (x.toNatClampNeg) from (wi_of (by omega) H1).1)]) ?_
    refine w_Mod_canTarget_14 hst hP hw b x y hb c x.toNatClampNeg (wi_of (by omega) H1).2 ?_
    rw [f_Mod_canTarget, if_neg H1] at hk
    exact hk
theorem q_Mod_canTarget {g : GG} {h : Hp} (hst : (gl g).stackTraces = false) {A : Nat → Nat} {P : Nat → Nat → Int32} (hP : ∀ e, ModAt g A P (va_up h (A 0) e)) (hw : wfM P) (b : Nat) (x : Int32) (y : Int32) (hb : b + 600 ≤ 18060)  (c : Nat → Int32) (hm : h (A 0) = some (aI g 18060 c)) : PM g M_Mod_canTarget 1 0 0 [.ref (A 100), .int (nI (b)), .int (x), .int (y)] h (RetV (some (.int (f_Mod_canTarget P b x y c))) h) := by
  refine PM.of hst (by decide) rfl (fun v hv => ?_) (Nat.le_of_ble_eq_true rfl) ?_
  · simp only [List.mem_cons, List.not_mem_nil, or_false] at hv; rcases hv with rfl | rfl | rfl | rfl <;> rfl
  · have hq := w_Mod_canTarget_0 (g := g) (Q := RetV (some (.int (f_Mod_canTarget P b x y c))) h) (h := h) (kc := 0) (ks := 0) hst hP hw b x y hb c ?_
    · rw [up_self hm] at hq; exact hq
    · exact ⟨rfl, up_self hm⟩

def f_Mod_byHand_16 (P : Nat → Nat → Int32) (b : Nat) (x : Int32) (c : Nat → Int32) (k : Nat) : Int32 :=
  if (c ((b + 8 * k) + 1)) = 1 then 3 else if (c ((b + 8 * k) + 1)) = 2 then if (pN P 3 k) = 1 then 2 else if (pN P 3 k) = 2 then 2 else (-1) else (-1)
set_option maxRecDepth 4000 in
theorem w_Mod_byHand_16 {g : GG} {Q : QT} {h : Hp} {kc ks : Nat} (hst : (gl g).stackTraces = false) {A : Nat → Nat} {P : Nat → Nat → Int32} (hP : ∀ e, ModAt g A P (va_up h (A 0) e)) (hw : wfM P) (b : Nat) (x : Int32) (hb : b + 600 ≤ 18060)  (c : Nat → Int32) (k : Nat) (hkk : k < pN P 100 20) (hk : Q (.inl (some (.int (f_Mod_byHand_16 P b x c k)))) (va_up h (A 0) (some (aI g 18060 (c))))) : PW g M_Mod_byHand 1 kc ks Q 16 [.ref (A 100), .int (nI (b)), .int (nI (k)), .retAddr 0] [] (va_up h (A 0) (some (aI g 18060 (c)))) := by
  have hz0 := hw.blk.2
  have hz1 := hw.lnk.2
  have hz2 := hw.dvs.2
  refine pw_aload_n e_Mod_byHand_16 rfl ?_
  refine pw_getf e_Mod_byHand_17 fl_Mod_9 (hP _).o rfl ?_
  refine pw_iload_n e_Mod_byHand_20 rfl ?_
  refine pw_iload_n e_Mod_byHand_21 rfl ?_
  refine pw_detS (As := [.int (nI (b)), .int (nI (k))]) e_Mod_byHand_22 li_Mod_193 (q_at hst b k) rfl (by decide) (Nat.le_of_ble_eq_true rfl) rfl ?_
  refine pw_iconst (v := nI 1) e_Mod_byHand_25 (by decide) ?_
  refine pw_iaddN e_Mod_byHand_26 ?_
  refine pw_ialdN e_Mod_byHand_27 up_same (by omega) (by decide) ?_
  refine pw_istore_n (ls2 := [_, _, _, _]) e_Mod_byHand_28 (by decide) rfl ?_
  refine pw_iload_n e_Mod_byHand_29 rfl ?_
  refine pw_iconst (v := nI 1) e_Mod_byHand_30 (by decide) ?_
  refine pw_icmp_ne (tgt := 36) e_Mod_byHand_31 (by decide) (fun (H1 : ¬ (c ((b + 8 * k) + 1)) = 1) => ?_) (fun (H1 : (c ((b + 8 * k) + 1)) = 1) => ?_)
  · refine pw_iload_n e_Mod_byHand_36 rfl ?_
    refine pw_iconst (v := nI 2) e_Mod_byHand_37 (by decide) ?_
    refine pw_icmp_ne (tgt := 65) e_Mod_byHand_38 (by decide) (fun (H2 : ¬ (c ((b + 8 * k) + 1)) = 2) => ?_) (fun (H2 : (c ((b + 8 * k) + 1)) = 2) => ?_)
    · refine pw_iconst (v := (-1)) e_Mod_byHand_65 (by decide) ?_
      refine pw_iret e_Mod_byHand_66 rfl rfl ?_
      rw [f_Mod_byHand_16, if_neg H1, if_neg H2] at hk
      exact hk
    · refine pw_aload_n e_Mod_byHand_41 rfl ?_
      refine pw_getf e_Mod_byHand_42 fl_Mod_19 (hP _).o rfl ?_
      refine pw_iload_n e_Mod_byHand_45 rfl ?_
      have hb3 := hw.kind k
      refine pw_ialdC e_Mod_byHand_46 (hP _).a3 (by omega) (by decide) hb3.1 ?_
      replace hb3 := hb3.2
      refine pw_iconst (v := nI 1) e_Mod_byHand_47 (by decide) ?_
      refine pw_icmp_eqN (tgt := 61) e_Mod_byHand_48 (by decide) (by omega) (by omega) (fun (H4 : (pN P 3 k) = 1) => ?_) (fun (H4 : ¬ (pN P 3 k) = 1) => ?_)
      · refine pw_iconst (v := nI 2) e_Mod_byHand_61 (by decide) ?_
        refine pw_goto (tgt := 66) e_Mod_byHand_62 (by decide) ?_
        refine pw_iret e_Mod_byHand_66 rfl rfl ?_
        rw [f_Mod_byHand_16, if_neg H1, if_pos H2, if_pos H4] at hk
        exact hk
      · refine pw_aload_n e_Mod_byHand_51 rfl ?_
        refine pw_getf e_Mod_byHand_52 fl_Mod_19 (hP _).o rfl ?_
        refine pw_iload_n e_Mod_byHand_55 rfl ?_
        have hb5 := hw.kind k
        refine pw_ialdC e_Mod_byHand_56 (hP _).a3 (by omega) (by decide) hb5.1 ?_
        replace hb5 := hb5.2
        refine pw_iconst (v := nI 2) e_Mod_byHand_57 (by decide) ?_
        refine pw_icmp_neN (tgt := 65) e_Mod_byHand_58 (by decide) (by omega) (by omega) (fun (H6 : ¬ (pN P 3 k) = 2) => ?_) (fun (H6 : (pN P 3 k) = 2) => ?_)
        · refine pw_iconst (v := (-1)) e_Mod_byHand_65 (by decide) ?_
          refine pw_iret e_Mod_byHand_66 rfl rfl ?_
          rw [f_Mod_byHand_16, if_neg H1, if_pos H2, if_neg H4, if_neg H6] at hk
          exact hk
        · refine pw_iconst (v := nI 2) e_Mod_byHand_61 (by decide) ?_
          refine pw_goto (tgt := 66) e_Mod_byHand_62 (by decide) ?_
          refine pw_iret e_Mod_byHand_66 rfl rfl ?_
          rw [f_Mod_byHand_16, if_neg H1, if_pos H2, if_neg H4, if_pos H6] at hk
          exact hk
  · refine pw_iconst (v := nI 3) e_Mod_byHand_34 (by decide) ?_
    refine pw_iret e_Mod_byHand_35 rfl rfl ?_
    rw [f_Mod_byHand_16, if_pos H1] at hk
    exact hk
def f_Mod_byHand (P : Nat → Nat → Int32) (b : Nat) (x : Int32) (c : Nat → Int32) : Int32 :=
  if (f_Mod_within x (nI 0) ((nI (pN P 100 20)) - 1)) = 0 then (-1) else f_Mod_byHand_16 P b x c x.toNatClampNeg
set_option maxRecDepth 4000 in
theorem w_Mod_byHand_0 {g : GG} {Q : QT} {h : Hp} {kc ks : Nat} (hst : (gl g).stackTraces = false) {A : Nat → Nat} {P : Nat → Nat → Int32} (hP : ∀ e, ModAt g A P (va_up h (A 0) e)) (hw : wfM P) (b : Nat) (x : Int32) (hb : b + 600 ≤ 18060)  (c : Nat → Int32) (hk : Q (.inl (some (.int (f_Mod_byHand P b x c)))) (va_up h (A 0) (some (aI g 18060 (c))))) : PW g M_Mod_byHand 1 kc ks Q 0 [.ref (A 100), .int (nI (b)), .int (x), .retAddr 0] [] (va_up h (A 0) (some (aI g 18060 (c)))) := by
  have hz0 := hw.blk.2
  have hz1 := hw.lnk.2
  have hz2 := hw.dvs.2
  refine pw_iload_n e_Mod_byHand_0 rfl ?_
  refine pw_iconst (v := nI 0) e_Mod_byHand_1 (by decide) ?_
  refine pw_aload_n e_Mod_byHand_2 rfl ?_
  refine pw_getf e_Mod_byHand_3 fl_Mod_183 (hP _).o rfl ?_
  rw [hw.blk.1]
  refine pw_iconst (v := nI 1) e_Mod_byHand_6 (by decide) ?_
  refine pw_isub e_Mod_byHand_7 ?_
  refine pw_detS (As := [.int (x), .int (nI (0)), .int ((nI (pN P 100 20)) - 1)]) e_Mod_byHand_8 li_Mod_312 (q_Mod_within hst x (nI 0) ((nI (pN P 100 20)) - 1)) rfl (by decide) (Nat.le_of_ble_eq_true rfl) rfl ?_
  refine pw_if_ne (tgt := 16) e_Mod_byHand_11 (by decide) (fun (H1 : ¬ (f_Mod_within x (nI 0) ((nI (pN P 100 20)) - 1)) = 0) => ?_) (fun (H1 : (f_Mod_within x (nI 0) ((nI (pN P 100 20)) - 1)) = 0) => ?_)
  · refine pw_eqls (ls' := [.ref (A 100), .int (nI (b)), .int (nI (x.toNatClampNeg)), .retAddr 0]) (by rw [← (show x = nI (x.toNatClampNeg) from (wi_of (by omega) H1).1)]) ?_
    refine w_Mod_byHand_16 hst hP hw b x hb c x.toNatClampNeg (wi_of (by omega) H1).2 ?_
    rw [f_Mod_byHand, if_neg H1] at hk
    exact hk
  · refine pw_iconst (v := (-1)) e_Mod_byHand_14 (by decide) ?_
    refine pw_iret e_Mod_byHand_15 rfl rfl ?_
    rw [f_Mod_byHand, if_pos H1] at hk
    exact hk
theorem q_Mod_byHand {g : GG} {h : Hp} (hst : (gl g).stackTraces = false) {A : Nat → Nat} {P : Nat → Nat → Int32} (hP : ∀ e, ModAt g A P (va_up h (A 0) e)) (hw : wfM P) (b : Nat) (x : Int32) (hb : b + 600 ≤ 18060)  (c : Nat → Int32) (hm : h (A 0) = some (aI g 18060 c)) : PM g M_Mod_byHand 1 0 0 [.ref (A 100), .int (nI (b)), .int (x)] h (RetV (some (.int (f_Mod_byHand P b x c))) h) := by
  refine PM.of hst (by decide) rfl (fun v hv => ?_) (Nat.le_of_ble_eq_true rfl) ?_
  · simp only [List.mem_cons, List.not_mem_nil, or_false] at hv; rcases hv with rfl | rfl | rfl <;> rfl
  · have hq := w_Mod_byHand_0 (g := g) (Q := RetV (some (.int (f_Mod_byHand P b x c))) h) (h := h) (kc := 0) (ks := 0) hst hP hw b x hb c ?_
    · rw [up_self hm] at hq; exact hq
    · exact ⟨rfl, up_self hm⟩

