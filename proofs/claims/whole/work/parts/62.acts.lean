/-! the object: acts (written by wip/whole/c_acts.py) -/
def f_Bus_putCell_7 (P : Nat → Nat → Int32) (k : Nat) (v : Int32) (Z : Nat → Nat → Int32) : Int32 × (Nat → Nat → Int32) :=
  ((Z 302) k, u2 Z 302 k v)
set_option maxRecDepth 4000 in
theorem w_Bus_putCell_7 {g : GG} {Q : QT} {h : Hp} {kc ks : Nat} (hst : (gl g).stackTraces = false) {A : Nat → Nat} {S : SA} {P Y : Nat → Nat → Int32} (hnd : (gK (bsL g A S P Y)).Nodup) (hw : wfP P) (k : Nat) (v : Int32) (hk5 : k < 225)  (Z : Nat → Nat → Int32) (hk : Q (.inl (some (.int (f_Bus_putCell_7 P k v Z).1))) (ov h (gO (bsL g A S P Y) ((f_Bus_putCell_7 P k v Z).2)))) : PW g M_Bus_putCell 5 kc ks Q 7 [.ref (A 507), .int (nI (k)), .int (v), .retAddr 0] [] (ov h (gO (bsL g A S P Y) Z)) := by
  have hz0 := hw.blk.2
  have hz1 := hw.lnk.2
  have hz2 := hw.dvs.2
  refine pw_aload_n e_Bus_putCell_7 rfl ?_
  refine pw_getf e_Bus_putCell_8 fl_Bus_37 (gO_get hnd (i := 29) rfl) rfl ?_
  refine pw_getf e_Bus_putCell_11 fl_Bus_76 (gO_get hnd (i := 31) rfl) rfl ?_
  refine pw_getf e_Bus_putCell_14 fl_Bus_127 (gO_get hnd (i := 32) rfl) rfl ?_
  refine pw_iload_n e_Bus_putCell_17 rfl ?_
  refine pw_ialdN e_Bus_putCell_18 (gO_get hnd (i := 33) rfl) (by omega) (by decide) ?_
  refine pw_istore_n (ls2 := [_, _, _, _]) e_Bus_putCell_19 (by decide) rfl ?_
  refine pw_aload_n e_Bus_putCell_20 rfl ?_
  refine pw_getf e_Bus_putCell_21 fl_Bus_37 (gO_get hnd (i := 29) rfl) rfl ?_
  refine pw_getf e_Bus_putCell_24 fl_Bus_76 (gO_get hnd (i := 31) rfl) rfl ?_
  refine pw_getf e_Bus_putCell_27 fl_Bus_127 (gO_get hnd (i := 32) rfl) rfl ?_
  refine pw_iload_n e_Bus_putCell_30 rfl ?_
  refine pw_iload_n e_Bus_putCell_31 rfl ?_
  refine pw_iastG (i := 33) e_Bus_putCell_32 hnd (bs_x _ _ _ _ _) rfl (by omega) (by decide) ?_
  refine pw_iload_n e_Bus_putCell_33 rfl ?_
  refine pw_iret e_Bus_putCell_34 rfl rfl ?_
  rw [f_Bus_putCell_7] at hk
  exact hk

def f_Bus_power_35 (P : Nat → Nat → Int32) (x y : Int32) (Z : Nat → Nat → Int32) : Int32 × (Nat → Nat → Int32) :=
  (((va_up Z 302 (f_State_switchDevice x y (P 30 2) (Z 302))) 302) 220, va_up Z 302 (f_State_switchDevice x y (P 30 2) (Z 302)))
set_option maxRecDepth 4000 in
theorem w_Bus_power_35 {g : GG} {Q : QT} {h : Hp} {kc ks : Nat} (hst : (gl g).stackTraces = false) {A : Nat → Nat} {S : SA} {P Y : Nat → Nat → Int32} (hnd : (gK (bsL g A S P Y)).Nodup) (hw : wfP P) (x y : Int32)  (Z : Nat → Nat → Int32) (hk : Q (.inl (some (.int (f_Bus_power_35 P x y Z).1))) (ov h (gO (bsL g A S P Y) ((f_Bus_power_35 P x y Z).2)))) : PW g M_Bus_power 5 kc ks Q 35 [.ref (A 507), .int (x), .int (y)] [] (ov h (gO (bsL g A S P Y) Z)) := by
  have hz0 := hw.blk.2
  have hz1 := hw.lnk.2
  have hz2 := hw.dvs.2
  refine pw_aload_n e_Bus_power_35 rfl ?_
  refine pw_getf e_Bus_power_36 fl_Bus_37 (gO_get hnd (i := 29) rfl) rfl ?_
  refine pw_getf e_Bus_power_39 fl_Bus_76 (gO_get hnd (i := 31) rfl) rfl ?_
  refine pw_iload_n e_Bus_power_42 rfl ?_
  refine pw_iload_n e_Bus_power_43 rfl ?_
  refine pw_aload_n e_Bus_power_44 rfl ?_
  refine pw_getf e_Bus_power_45 fl_Bus_23 (gO_get hnd (i := 29) rfl) rfl ?_
  refine pw_getf e_Bus_power_48 fl_Bus_236 (gO_get hnd (i := 0) rfl) rfl ?_
  refine pw_detV (As := [.int (x), .int (y), .int (P 30 2)]) e_Bus_power_51 li_Bus_239 rfl (gO_get hnd (i := 32) rfl) (q_State_switchDevice hst (bs_ne hnd (i := 32) (j := 33) rfl rfl (by decide)) x y (P 30 2) (Z 302) (gO_get hnd (i := 33) rfl)) rfl (by decide) (Nat.le_of_ble_eq_true rfl) rfl ?_
  refine pw_upG (i := 33) hnd (bs_x _ _ _ _ _) rfl rfl ?_
  refine pw_aload_n e_Bus_power_54 rfl ?_
  refine pw_getf e_Bus_power_55 fl_Bus_37 (gO_get hnd (i := 29) rfl) rfl ?_
  refine pw_getf e_Bus_power_58 fl_Bus_76 (gO_get hnd (i := 31) rfl) rfl ?_
  refine pw_getf e_Bus_power_61 fl_Bus_127 (gO_get hnd (i := 32) rfl) rfl ?_
  refine pw_sipush (v := nI 220) e_Bus_power_64 (by decide) ?_
  refine pw_ialdN e_Bus_power_67 (gO_get hnd (i := 33) rfl) (by omega) (by decide) ?_
  refine pw_iret e_Bus_power_68 rfl rfl ?_
  rw [f_Bus_power_35] at hk
  exact hk

def f_Bus_broken_36 (P : Nat → Nat → Int32) (x y : Int32) (Z : Nat → Nat → Int32) : Int32 × (Nat → Nat → Int32) :=
  (((va_up Z 302 (f_State_turnSensor x (Z 302))) 302) 219, va_up Z 302 (f_State_turnSensor x (Z 302)))
set_option maxRecDepth 4000 in
theorem w_Bus_broken_36 {g : GG} {Q : QT} {h : Hp} {kc ks : Nat} (hst : (gl g).stackTraces = false) {A : Nat → Nat} {S : SA} {P Y : Nat → Nat → Int32} (hnd : (gK (bsL g A S P Y)).Nodup) (hw : wfP P) (x y : Int32)  (Z : Nat → Nat → Int32) (hk : Q (.inl (some (.int (f_Bus_broken_36 P x y Z).1))) (ov h (gO (bsL g A S P Y) ((f_Bus_broken_36 P x y Z).2)))) : PW g M_Bus_broken 5 kc ks Q 36 [.ref (A 507), .int (x), .int (y)] [] (ov h (gO (bsL g A S P Y) Z)) := by
  have hz0 := hw.blk.2
  have hz1 := hw.lnk.2
  have hz2 := hw.dvs.2
  refine pw_aload_n e_Bus_broken_36 rfl ?_
  refine pw_getf e_Bus_broken_37 fl_Bus_37 (gO_get hnd (i := 29) rfl) rfl ?_
  refine pw_getf e_Bus_broken_40 fl_Bus_76 (gO_get hnd (i := 31) rfl) rfl ?_
  refine pw_iload_n e_Bus_broken_43 rfl ?_
  refine pw_detV (As := [.int (x)]) e_Bus_broken_44 li_Bus_246 rfl (gO_get hnd (i := 32) rfl) (q_State_turnSensor hst (bs_ne hnd (i := 32) (j := 33) rfl rfl (by decide)) x (Z 302) (gO_get hnd (i := 33) rfl)) rfl (by decide) (Nat.le_of_ble_eq_true rfl) rfl ?_
  refine pw_upG (i := 33) hnd (bs_x _ _ _ _ _) rfl rfl ?_
  refine pw_aload_n e_Bus_broken_47 rfl ?_
  refine pw_getf e_Bus_broken_48 fl_Bus_37 (gO_get hnd (i := 29) rfl) rfl ?_
  refine pw_getf e_Bus_broken_51 fl_Bus_76 (gO_get hnd (i := 31) rfl) rfl ?_
  refine pw_getf e_Bus_broken_54 fl_Bus_127 (gO_get hnd (i := 32) rfl) rfl ?_
  refine pw_sipush (v := nI 219) e_Bus_broken_57 (by decide) ?_
  refine pw_ialdN e_Bus_broken_60 (gO_get hnd (i := 33) rfl) (by omega) (by decide) ?_
  refine pw_iret e_Bus_broken_61 rfl rfl ?_
  rw [f_Bus_broken_36] at hk
  exact hk

def f_Bus_cycles_45 (P : Nat → Nat → Int32) (n : Nat) (Z : Nat → Nat → Int32) : Int32 × (Nat → Nat → Int32) :=
  (((va_up Z 302 (f_Bus_passCycles P n (Z 302))) 302) 223, va_up Z 302 (f_Bus_passCycles P n (Z 302)))
set_option maxRecDepth 4000 in
theorem w_Bus_cycles_45 {g : GG} {Q : QT} {h : Hp} {kc ks : Nat} (hst : (gl g).stackTraces = false) {A : Nat → Nat} {S : SA} {P Y : Nat → Nat → Int32} (hnd : (gK (bsL g A S P Y)).Nodup) (hw : wfP P) (n : Nat) (hn : n < 61)  (Z : Nat → Nat → Int32) (hk : Q (.inl (some (.int (f_Bus_cycles_45 P n Z).1))) (ov h (gO (bsL g A S P Y) ((f_Bus_cycles_45 P n Z).2)))) : PW g M_Bus_cycles 6 kc ks Q 45 [.ref (A 507), .int (nI (n))] [] (ov h (gO (bsL g A S P Y) Z)) := by
  have hz0 := hw.blk.2
  have hz1 := hw.lnk.2
  have hz2 := hw.dvs.2
  refine pw_aload_n e_Bus_cycles_45 rfl ?_
  refine pw_aload_n e_Bus_cycles_46 rfl ?_
  refine pw_getf e_Bus_cycles_47 fl_Bus_37 (gO_get hnd (i := 29) rfl) rfl ?_
  refine pw_getf e_Bus_cycles_50 fl_Bus_76 (gO_get hnd (i := 31) rfl) rfl ?_
  refine pw_iload_n e_Bus_cycles_53 rfl ?_
  refine pw_detV (As := [.ref (A 301), .int (nI (n))]) e_Bus_cycles_54 li_Bus_249 rfl (gO_get hnd (i := 29) rfl) (q_Bus_passCycles hst (bs_ne hnd (i := 29) (j := 33) rfl rfl (by decide)) (bs_ne hnd (i := 32) (j := 33) rfl rfl (by decide)) (bs_planU hnd (j := 33) rfl (by decide)) hw n (by omega) (Z 302) (gO_get hnd (i := 33) rfl)) rfl (by decide) (Nat.le_of_ble_eq_true rfl) rfl ?_
  refine pw_upG (i := 33) hnd (bs_x _ _ _ _ _) rfl rfl ?_
  refine pw_aload_n e_Bus_cycles_57 rfl ?_
  refine pw_getf e_Bus_cycles_58 fl_Bus_37 (gO_get hnd (i := 29) rfl) rfl ?_
  refine pw_getf e_Bus_cycles_61 fl_Bus_76 (gO_get hnd (i := 31) rfl) rfl ?_
  refine pw_getf e_Bus_cycles_64 fl_Bus_127 (gO_get hnd (i := 32) rfl) rfl ?_
  refine pw_sipush (v := nI 223) e_Bus_cycles_67 (by decide) ?_
  refine pw_ialdN e_Bus_cycles_70 (gO_get hnd (i := 33) rfl) (by omega) (by decide) ?_
  refine pw_iret e_Bus_cycles_71 rfl rfl ?_
  rw [f_Bus_cycles_45] at hk
  exact hk

/-- what is owed of an act: its answer, the world behind it -/
def AQ (g : GG) (A : Nat → Nat) (S : SA) (P Y : Nat → Nat → Int32) (hb : Hp) (Z0 : Nat → Nat → Int32) (Q : QT) (F : Int32 × (Nat → Nat → Int32)) : Prop := ∀ (S' : SA) (h' : Hp), Wld g A S' P Y F.2 h' → CFr A S hb S' h' → (HiL Z0 S → HiL F.2 S') ∧ S' 1 = S 1 → Q (.inl (some (.int F.1))) h'
def ActQ (g : GG) (A : Nat → Nat) (S : SA) (P Y : Nat → Nat → Int32) (hb : Hp) (Z0 : Nat → Nat → Int32) (F : Int32 × (Nat → Nat → Int32)) : QT := fun o h' => ∃ S' : SA, o = .inl (some (.int F.1)) ∧ Wld g A S' P Y F.2 h' ∧ CFr A S hb S' h' ∧ (HiL Z0 S → HiL F.2 S') ∧ S' 1 = S 1
section
variable {g : GG} {A : Nat → Nat} {S : SA} {P Y Z Z' : Nat → Nat → Int32} {h hb : Hp} {Q : QT} {r : Int32}
theorem Wld.put2 (hnd : (gK (bsL g A S P Y)).Nodup) (hW : Wld g A S P Y Z (ov h (gO (bsL g A S P Y) Z))) (hZ : ∀ k, 1000 ≤ k → Z' k = Z k) : Wld g A S P Y Z' (ov h (gO (bsL g A S P Y) Z')) ∧ CFr A S (ov h (gO (bsL g A S P Y) Z)) S (ov h (gO (bsL g A S P Y) Z')) := by
  have q := hW.put hnd hZ
  rw [ov_same hnd (gO_fst _ Z) (gO_fst _ Z')] at q
  exact q
theorem AQ.ret (hnd : (gK (bsL g A S P Y)).Nodup) (hW : Wld g A S P Y Z (ov h (gO (bsL g A S P Y) Z))) (hk : AQ g A S P Y (ov h (gO (bsL g A S P Y) Z)) Z Q (r, Z')) (hZ : ∀ k, k = 303 ∨ 1000 ≤ k → Z' k = Z k) : Q (.inl (some (.int r))) (ov h (gO (bsL g A S P Y) Z')) :=
  hk S _ (hW.put2 hnd (fun k q => hZ k (Or.inr q))).1 (hW.put2 hnd (fun k q => hZ k (Or.inr q))).2 ⟨fun hL => hL.cg (hZ 303 (Or.inl rfl)), rfl⟩
theorem AQ.kept {S1 : SA} {h1 : Hp} {Z1 : Nat → Nat → Int32} {F : Int32 × (Nat → Nat → Int32)} (hnd : (gK (bsL g A S1 P Y)).Nodup) (W1 : Wld g A S1 P Y Z1 h1) (F1 : CFr A S hb S1 h1) (hk : AQ g A S P Y hb Z Q F) (hL1 : (HiL Z S → HiL Z1 S1) ∧ S1 1 = S 1) (hZ : ∀ k, k = 303 ∨ 1000 ≤ k → F.2 k = Z1 k) : Q (.inl (some (.int F.1))) (ov h1 (gO (bsL g A S1 P Y) F.2)) :=
  hk S1 _ (W1.put hnd (fun k q => hZ k (Or.inr q))).1 (F1.trans (W1.put hnd (fun k q => hZ k (Or.inr q))).2) ⟨fun hL => (hL1.1 hL).cg (hZ 303 (Or.inl rfl)), hL1.2⟩
end
theorem hc_of {P : Nat → Nat → Int32} {c : Nat → Int32} {b : Nat} (hb : b < 10) (H : ¬ f_State_handCell P c b = -1) : f_State_handCell P c b = nI (f_State_handCell P c b).toNatClampNeg ∧ (f_State_handCell P c b).toNatClampNeg < 225 := by
  have key : f_State_handCell P c b = -1 ∨ f_State_handCell P c b = nI (b * 9 + 3) ∨ f_State_handCell P c b = nI (b * 9 + 2) := by
    rw [f_State_handCell]
    repeat' split
    all_goals first | exact Or.inl rfl | exact Or.inr (Or.inl rfl) | exact Or.inr (Or.inr rfl)
  rcases key with e | e | e
  · exact absurd e H
  · rw [e, nI_clamp (by omega)]; exact ⟨rfl, by omega⟩
  · rw [e, nI_clamp (by omega)]; exact ⟨rfl, by omega⟩
theorem cy_of {x : Int32} (h0 : ¬ x < 1) (h1 : ¬ 30 < x) : x = nI x.toNatClampNeg ∧ 1 ≤ x.toNatClampNeg ∧ x.toNatClampNeg < 31 := by
  rw [i_lt, show (1 : Int32).toInt = 1 by decide] at h0
  rw [i_lt, show (30 : Int32).toInt = 30 by decide] at h1
  have e : x.toNatClampNeg = x.toInt.toNat := rfl
  have e2 : x = nI x.toInt.toNat := by
    apply Int32.toInt_inj.mp
    rw [nI_toInt (by omega)]; omega
  rw [e]
  exact ⟨e2, by omega, by omega⟩
def f_Bus_putCell (P : Nat → Nat → Int32) (k : Nat) (v : Int32) (Z : Nat → Nat → Int32) : Int32 × (Nat → Nat → Int32) := f_Bus_putCell_7 P k v (kpZ Z)
theorem w_Bus_putCell_0 {g : GG} {Q : QT} {h : Hp} (hst : (gl g).stackTraces = false) {A : Nat → Nat} {S : SA} {P Y : Nat → Nat → Int32} (hnd : (gK (bsL g A S P Y)).Nodup) (hw : wfP P) (k : Nat) (v : Int32) (hk5 : k < 225) (Z : Nat → Nat → Int32) (hW : Wld g A S P Y Z (ov h (gO (bsL g A S P Y) Z))) (hH : HiI Z 303) (hk : AQ g A S P Y (ov h (gO (bsL g A S P Y) Z)) Z Q (f_Bus_putCell P k v Z)) : PW g M_Bus_putCell 5 2 226 Q 0 [.ref (A 507), .int (nI k), .int v, .retAddr 0] [] (ov h (gO (bsL g A S P Y) Z)) := by
  refine pw_aload_n e_Bus_putCell_0 rfl ?_
  refine pw_getf e_Bus_putCell_1 fl_Bus_37 (gO_get hnd (i := 29) rfl) rfl ?_
  refine pw_callV (kc := 0) (ks := 0) (As := []) e_Bus_putCell_4 li_Bus_227 rfl (gO_get hnd (i := 31) rfl) (q_keepActW hst hnd hW hH) rfl (by decide) (Nat.le_of_ble_eq_true rfl) (fun E h' q => absurd q.1 (by simp)) (fun v h1 hq1 => ?_)
  obtain ⟨hv, s1, W1, F1, L1⟩ := hq1
  cases hv
  have hnd1 : (gK (bsL g A (sS S s1) P Y)).Nodup := hnd
  show PW g M_Bus_putCell 5 0 0 Q 7 [.ref (A 507), .int (nI k), .int v, .retAddr 0] [] h1
  rw [← ov_self W1.1]
  refine w_Bus_putCell_7 (S := sS S s1) hst hnd1 hw k v hk5 (kpZ Z) ?_
  rw [f_Bus_putCell] at hk
  refine hk.kept hnd1 W1 F1 ⟨L1, rfl⟩ (fun k hk => ?_)
  rw [f_Bus_putCell_7]
  first | exact u2_k (by omega) | exact up_ne (by omega) rfl
theorem q_Bus_putCell {g : GG} {h : Hp} (hst : (gl g).stackTraces = false) {A : Nat → Nat} {S : SA} {P Y : Nat → Nat → Int32} (hnd : (gK (bsL g A S P Y)).Nodup) (hw : wfP P) (k : Nat) (v : Int32) (hk5 : k < 225) (Z : Nat → Nat → Int32) (hW : Wld g A S P Y Z h) (hH : HiI Z 303) : PM g M_Bus_putCell 5 2 226 [.ref (A 507), .int (nI k), .int v] h (ActQ g A S P Y h Z (f_Bus_putCell P k v Z)) := by
  refine PM.of hst (by decide) rfl (fun v hv => ?_) (Nat.le_of_ble_eq_true rfl) ?_
  · simp only [List.mem_cons, List.not_mem_nil, or_false] at hv; rcases hv with rfl | rfl | rfl <;> rfl
  · have e := ov_self hW.1
    have hq := w_Bus_putCell_0 (g := g) (Q := ActQ g A S P Y h Z (f_Bus_putCell P k v Z)) (h := h) hst hnd hw k v hk5 Z (by rw [e]; exact hW) hH (fun S' h' W F L => ⟨S', rfl, W, by rw [e] at F; exact F, L.1, L.2⟩)
    rw [e] at hq; exact hq
def f_Bus_power_28 (P : Nat → Nat → Int32) (x y : Int32) (Z : Nat → Nat → Int32) : Int32 × (Nat → Nat → Int32) := f_Bus_power_35 P x y (kpZ Z)
theorem w_Bus_power_28 {g : GG} {Q : QT} {h : Hp} (hst : (gl g).stackTraces = false) {A : Nat → Nat} {S : SA} {P Y : Nat → Nat → Int32} (hnd : (gK (bsL g A S P Y)).Nodup) (hw : wfP P) (x y : Int32) (Z : Nat → Nat → Int32) (hW : Wld g A S P Y Z (ov h (gO (bsL g A S P Y) Z))) (hH : HiI Z 303) (hk : AQ g A S P Y (ov h (gO (bsL g A S P Y) Z)) Z Q (f_Bus_power_28 P x y Z)) : PW g M_Bus_power 5 2 226 Q 28 [.ref (A 507), .int x, .int y] [] (ov h (gO (bsL g A S P Y) Z)) := by
  refine pw_aload_n e_Bus_power_28 rfl ?_
  refine pw_getf e_Bus_power_29 fl_Bus_37 (gO_get hnd (i := 29) rfl) rfl ?_
  refine pw_callV (kc := 0) (ks := 0) (As := []) e_Bus_power_32 li_Bus_227 rfl (gO_get hnd (i := 31) rfl) (q_keepActW hst hnd hW hH) rfl (by decide) (Nat.le_of_ble_eq_true rfl) (fun E h' q => absurd q.1 (by simp)) (fun v h1 hq1 => ?_)
  obtain ⟨hv, s1, W1, F1, L1⟩ := hq1
  cases hv
  have hnd1 : (gK (bsL g A (sS S s1) P Y)).Nodup := hnd
  show PW g M_Bus_power 5 0 0 Q 35 [.ref (A 507), .int x, .int y] [] h1
  rw [← ov_self W1.1]
  refine w_Bus_power_35 (S := sS S s1) hst hnd1 hw x y (kpZ Z) ?_
  rw [f_Bus_power_28] at hk
  refine hk.kept hnd1 W1 F1 ⟨L1, rfl⟩ (fun k hk => ?_)
  rw [f_Bus_power_35]
  first | exact u2_k (by omega) | exact up_ne (by omega) rfl
def f_Bus_broken_29 (P : Nat → Nat → Int32) (x y : Int32) (Z : Nat → Nat → Int32) : Int32 × (Nat → Nat → Int32) := f_Bus_broken_36 P x y (kpZ Z)
theorem w_Bus_broken_29 {g : GG} {Q : QT} {h : Hp} (hst : (gl g).stackTraces = false) {A : Nat → Nat} {S : SA} {P Y : Nat → Nat → Int32} (hnd : (gK (bsL g A S P Y)).Nodup) (hw : wfP P) (x y : Int32) (Z : Nat → Nat → Int32) (hW : Wld g A S P Y Z (ov h (gO (bsL g A S P Y) Z))) (hH : HiI Z 303) (hk : AQ g A S P Y (ov h (gO (bsL g A S P Y) Z)) Z Q (f_Bus_broken_29 P x y Z)) : PW g M_Bus_broken 5 2 226 Q 29 [.ref (A 507), .int x, .int y] [] (ov h (gO (bsL g A S P Y) Z)) := by
  refine pw_aload_n e_Bus_broken_29 rfl ?_
  refine pw_getf e_Bus_broken_30 fl_Bus_37 (gO_get hnd (i := 29) rfl) rfl ?_
  refine pw_callV (kc := 0) (ks := 0) (As := []) e_Bus_broken_33 li_Bus_227 rfl (gO_get hnd (i := 31) rfl) (q_keepActW hst hnd hW hH) rfl (by decide) (Nat.le_of_ble_eq_true rfl) (fun E h' q => absurd q.1 (by simp)) (fun v h1 hq1 => ?_)
  obtain ⟨hv, s1, W1, F1, L1⟩ := hq1
  cases hv
  have hnd1 : (gK (bsL g A (sS S s1) P Y)).Nodup := hnd
  show PW g M_Bus_broken 5 0 0 Q 36 [.ref (A 507), .int x, .int y] [] h1
  rw [← ov_self W1.1]
  refine w_Bus_broken_36 (S := sS S s1) hst hnd1 hw x y (kpZ Z) ?_
  rw [f_Bus_broken_29] at hk
  refine hk.kept hnd1 W1 F1 ⟨L1, rfl⟩ (fun k hk => ?_)
  rw [f_Bus_broken_36]
  first | exact u2_k (by omega) | exact up_ne (by omega) rfl
def f_Bus_cycles_38 (P : Nat → Nat → Int32) (x : Int32) (Z : Nat → Nat → Int32) (n : Nat) : Int32 × (Nat → Nat → Int32) := f_Bus_cycles_45 P n (kpZ Z)
theorem w_Bus_cycles_38 {g : GG} {Q : QT} {h : Hp} (hst : (gl g).stackTraces = false) {A : Nat → Nat} {S : SA} {P Y : Nat → Nat → Int32} (hnd : (gK (bsL g A S P Y)).Nodup) (hw : wfP P) (x : Int32) (Z : Nat → Nat → Int32) (n : Nat) (hn : n < 61) (hW : Wld g A S P Y Z (ov h (gO (bsL g A S P Y) Z))) (hH : HiI Z 303) (hk : AQ g A S P Y (ov h (gO (bsL g A S P Y) Z)) Z Q (f_Bus_cycles_38 P x Z n)) : PW g M_Bus_cycles 6 2 226 Q 38 [.ref (A 507), .int (nI n)] [] (ov h (gO (bsL g A S P Y) Z)) := by
  refine pw_aload_n e_Bus_cycles_38 rfl ?_
  refine pw_getf e_Bus_cycles_39 fl_Bus_37 (gO_get hnd (i := 29) rfl) rfl ?_
  refine pw_callV (kc := 0) (ks := 0) (As := []) e_Bus_cycles_42 li_Bus_227 rfl (gO_get hnd (i := 31) rfl) (q_keepActW hst hnd hW hH) rfl (by decide) (Nat.le_of_ble_eq_true rfl) (fun E h' q => absurd q.1 (by simp)) (fun v h1 hq1 => ?_)
  obtain ⟨hv, s1, W1, F1, L1⟩ := hq1
  cases hv
  have hnd1 : (gK (bsL g A (sS S s1) P Y)).Nodup := hnd
  show PW g M_Bus_cycles 6 0 0 Q 45 [.ref (A 507), .int (nI n)] [] h1
  rw [← ov_self W1.1]
  refine w_Bus_cycles_45 (S := sS S s1) hst hnd1 hw n hn (kpZ Z) ?_
  rw [f_Bus_cycles_38] at hk
  refine hk.kept hnd1 W1 F1 ⟨L1, rfl⟩ (fun k hk => ?_)
  rw [f_Bus_cycles_45]
  first | exact u2_k (by omega) | exact up_ne (by omega) rfl
def f_Bus_target_32 (P : Nat → Nat → Int32) (x y : Int32) (Z : Nat → Nat → Int32) (b : Nat) : Int32 × (Nat → Nat → Int32) := f_Bus_putCell P (b * 9 + 0) y Z
theorem w_Bus_target_32 {g : GG} {Q : QT} {h : Hp} (hst : (gl g).stackTraces = false) {A : Nat → Nat} {S : SA} {P Y : Nat → Nat → Int32} (hnd : (gK (bsL g A S P Y)).Nodup) (hw : wfP P) (x y : Int32) (Z : Nat → Nat → Int32) (b : Nat) (hb : b < 10) (hW : Wld g A S P Y Z (ov h (gO (bsL g A S P Y) Z))) (hH : HiI Z 303) (hk : AQ g A S P Y (ov h (gO (bsL g A S P Y) Z)) Z Q (f_Bus_target_32 P x y Z b)) : PW g M_Bus_target 6 2 226 Q 32 [.ref (A 507), .int (nI b), .int y] [] (ov h (gO (bsL g A S P Y) Z)) := by
  refine pw_aload_n e_Bus_target_32 rfl ?_
  refine pw_iload_n e_Bus_target_33 rfl ?_
  refine pw_bipush (v := nI 9) e_Bus_target_34 (by decide) ?_
  refine pw_imulN e_Bus_target_36 ?_
  refine pw_iconst (v := nI 0) e_Bus_target_37 (by decide) ?_
  refine pw_iaddN e_Bus_target_38 ?_
  refine pw_iload_n e_Bus_target_39 rfl ?_
  refine pw_callV (kc := 0) (ks := 0) (As := [.int (nI (b * 9 + 0)), .int y]) e_Bus_target_40 li_Bus_219 rfl (gO_get hnd (i := 29) rfl) (q_Bus_putCell hst hnd hw (b * 9 + 0) y (by omega) Z hW hH) rfl (by decide) (Nat.le_of_ble_eq_true rfl) (fun E h' q => by obtain ⟨_, q, _⟩ := q; cases q) (fun v h1 hq1 => ?_)
  obtain ⟨S1, hv, W1, F1⟩ := hq1
  cases hv
  refine pw_iret e_Bus_target_43 rfl rfl ?_
  rw [f_Bus_target_32] at hk
  exact hk S1 h1 W1 F1.1 F1.2
def f_Bus_hand_52 (P : Nat → Nat → Int32) (x y : Int32) (Z : Nat → Nat → Int32) (b k : Nat) : Int32 × (Nat → Nat → Int32) := f_Bus_putCell P (k) y Z
theorem w_Bus_hand_52 {g : GG} {Q : QT} {h : Hp} (hst : (gl g).stackTraces = false) {A : Nat → Nat} {S : SA} {P Y : Nat → Nat → Int32} (hnd : (gK (bsL g A S P Y)).Nodup) (hw : wfP P) (x y : Int32) (Z : Nat → Nat → Int32) (b k : Nat) (hk5 : k < 225) (hW : Wld g A S P Y Z (ov h (gO (bsL g A S P Y) Z))) (hH : HiI Z 303) (hk : AQ g A S P Y (ov h (gO (bsL g A S P Y) Z)) Z Q (f_Bus_hand_52 P x y Z b k)) : PW g M_Bus_hand 6 2 226 Q 52 [.ref (A 507), .int (nI b), .int y, .int (nI k)] [] (ov h (gO (bsL g A S P Y) Z)) := by
  refine pw_aload_n e_Bus_hand_52 rfl ?_
  refine pw_iload_n e_Bus_hand_53 rfl ?_
  refine pw_iload_n e_Bus_hand_54 rfl ?_
  refine pw_callV (kc := 0) (ks := 0) (As := [.int (nI (k)), .int y]) e_Bus_hand_55 li_Bus_219 rfl (gO_get hnd (i := 29) rfl) (q_Bus_putCell hst hnd hw (k) y (by omega) Z hW hH) rfl (by decide) (Nat.le_of_ble_eq_true rfl) (fun E h' q => by obtain ⟨_, q, _⟩ := q; cases q) (fun v h1 hq1 => ?_)
  obtain ⟨S1, hv, W1, F1⟩ := hq1
  cases hv
  refine pw_iret e_Bus_hand_58 rfl rfl ?_
  rw [f_Bus_hand_52] at hk
  exact hk S1 h1 W1 F1.1 F1.2
def f_Bus_target_8 (P : Nat → Nat → Int32) (x y : Int32) (Z : Nat → Nat → Int32) (b : Nat) : Int32 × (Nat → Nat → Int32) :=
  if (f_State_canTell P (Z 302) b y) = 0 then ((f_Bus_refuseAct P Z).1, (f_Bus_refuseAct P Z).2) else f_Bus_target_32 P x y Z b
set_option maxRecDepth 4000 in
theorem w_Bus_target_8 {g : GG} {Q : QT} {h : Hp} (hst : (gl g).stackTraces = false) {A : Nat → Nat} {S : SA} {P Y : Nat → Nat → Int32} (hnd : (gK (bsL g A S P Y)).Nodup) (hw : wfP P) (x y : Int32)  (Z : Nat → Nat → Int32) (b : Nat) (hb : b < 10) (hW : Wld g A S P Y Z (ov h (gO (bsL g A S P Y) Z))) (hH : HiI Z 303) (hk : AQ g A S P Y (ov h (gO (bsL g A S P Y) Z)) Z Q (f_Bus_target_8 P x y Z b)) : PW g M_Bus_target 6 2 226 Q 8 [.ref (A 507), .int (nI (b)), .int (y)] [] (ov h (gO (bsL g A S P Y) Z)) := by
  have hz0 := hw.blk.2
  have hz1 := hw.lnk.2
  have hz2 := hw.dvs.2
  refine pw_aload_n e_Bus_target_8 rfl ?_
  refine pw_getf e_Bus_target_9 fl_Bus_37 (gO_get hnd (i := 29) rfl) rfl ?_
  refine pw_getf e_Bus_target_12 fl_Bus_76 (gO_get hnd (i := 31) rfl) rfl ?_
  refine pw_aload_n e_Bus_target_15 rfl ?_
  refine pw_getf e_Bus_target_16 fl_Bus_23 (gO_get hnd (i := 29) rfl) rfl ?_
  refine pw_iload_n e_Bus_target_19 rfl ?_
  refine pw_iload_n e_Bus_target_20 rfl ?_
  refine pw_detV (As := [.ref (A 30), .int (nI (b)), .int (y)]) e_Bus_target_21 li_Bus_211 rfl (gO_get hnd (i := 32) rfl) (q_State_canTell hst (gO_get hnd (i := 32) rfl) (Z 302) (gO_get hnd (i := 33) rfl) (bs_pl hnd) hw b y (by omega)) rfl (by decide) (Nat.le_of_ble_eq_true rfl) rfl ?_
  refine pw_if_ne (tgt := 32) e_Bus_target_24 (by decide) (fun (Hq_1 : ¬ (f_State_canTell P (Z 302) b y) = 0) => ?_) (fun (Hq_1 : (f_State_canTell P (Z 302) b y) = 0) => ?_)
  · refine w_Bus_target_32 hst hnd hw x y Z b hb hW hH ?_
    rw [f_Bus_target_8, if_neg Hq_1] at hk
    exact hk
  · refine pw_aload_n e_Bus_target_27 rfl ?_
    refine pw_detV (As := []) e_Bus_target_28 li_Bus_215 rfl (gO_get hnd (i := 29) rfl) (q_Bus_refuseAct hst hnd hw Z (gO_in hnd (fun _ z => z))) rfl (by decide) (Nat.le_of_ble_eq_true rfl) rfl ?_
    refine pw_sameG hnd ?_
    refine pw_iret e_Bus_target_31 rfl rfl ?_
    rw [f_Bus_target_8, if_pos Hq_1] at hk
    exact AQ.ret hnd hW hk (fun k hk => by rw [f_Bus_refuseAct]; exact u2_k (by omega))
def f_Bus_target (P : Nat → Nat → Int32) (x y : Int32) (Z : Nat → Nat → Int32) : Int32 × (Nat → Nat → Int32) :=
  if (f_Bus_isBlock P x) = 0 then ((f_Bus_refuseAct P Z).1, (f_Bus_refuseAct P Z).2) else f_Bus_target_8 P x y Z x.toNatClampNeg
set_option maxRecDepth 4000 in
theorem w_Bus_target_0 {g : GG} {Q : QT} {h : Hp} (hst : (gl g).stackTraces = false) {A : Nat → Nat} {S : SA} {P Y : Nat → Nat → Int32} (hnd : (gK (bsL g A S P Y)).Nodup) (hw : wfP P) (x y : Int32)  (Z : Nat → Nat → Int32) (hW : Wld g A S P Y Z (ov h (gO (bsL g A S P Y) Z))) (hH : HiI Z 303) (hk : AQ g A S P Y (ov h (gO (bsL g A S P Y) Z)) Z Q (f_Bus_target P x y Z)) : PW g M_Bus_target 6 2 226 Q 0 [.ref (A 507), .int (x), .int (y)] [] (ov h (gO (bsL g A S P Y) Z)) := by
  have hz0 := hw.blk.2
  have hz1 := hw.lnk.2
  have hz2 := hw.dvs.2
  refine pw_aload_n e_Bus_target_0 rfl ?_
  refine pw_iload_n e_Bus_target_1 rfl ?_
  refine pw_detV (As := [.int (x)]) e_Bus_target_2 li_Bus_207 rfl (gO_get hnd (i := 29) rfl) (q_Bus_isBlock hst (Z 507) (gO_get hnd (i := 29) rfl) (bs_pl hnd) hw x) rfl (by decide) (Nat.le_of_ble_eq_true rfl) rfl ?_
  refine pw_if_eq (tgt := 27) e_Bus_target_5 (by decide) (fun (Hq_1 : (f_Bus_isBlock P x) = 0) => ?_) (fun (Hq_1 : ¬ (f_Bus_isBlock P x) = 0) => ?_)
  · refine pw_aload_n e_Bus_target_27 rfl ?_
    refine pw_detV (As := []) e_Bus_target_28 li_Bus_215 rfl (gO_get hnd (i := 29) rfl) (q_Bus_refuseAct hst hnd hw Z (gO_in hnd (fun _ z => z))) rfl (by decide) (Nat.le_of_ble_eq_true rfl) rfl ?_
    refine pw_sameG hnd ?_
    refine pw_iret e_Bus_target_31 rfl rfl ?_
    rw [f_Bus_target, if_pos Hq_1] at hk
    exact AQ.ret hnd hW hk (fun k hk => by rw [f_Bus_refuseAct]; exact u2_k (by omega))
  · refine pw_eqls (ls' := [.ref (A 507), .int (nI (x.toNatClampNeg)), .int (y)]) (by rw [← (show x = nI (x.toNatClampNeg) from (blk_of hw Hq_1).1)]) ?_
    refine w_Bus_target_8 hst hnd hw x y Z x.toNatClampNeg (by have := (blk_of hw Hq_1).2; omega) hW hH ?_
    rw [f_Bus_target, if_neg Hq_1] at hk
    exact hk

theorem q_Bus_target {g : GG} {h : Hp} (hst : (gl g).stackTraces = false) {A : Nat → Nat} {S : SA} {P Y : Nat → Nat → Int32} (hnd : (gK (bsL g A S P Y)).Nodup) (hw : wfP P) (x y : Int32) (Z : Nat → Nat → Int32) (hW : Wld g A S P Y Z h) (hH : HiI Z 303) : PM g M_Bus_target 6 2 226 [.ref (A 507), .int x, .int y] h (ActQ g A S P Y h Z (f_Bus_target P x y Z)) := by
  refine PM.of hst (by decide) rfl (fun v hv => ?_) (Nat.le_of_ble_eq_true rfl) ?_
  · simp only [List.mem_cons, List.not_mem_nil, or_false] at hv; rcases hv with rfl | rfl | rfl <;> rfl
  · have e := ov_self hW.1
    have hq := w_Bus_target_0 (g := g) (Q := ActQ g A S P Y h Z (f_Bus_target P x y Z)) (h := h) hst hnd hw x y Z (by rw [e]; exact hW) hH (fun S' h' W F L => ⟨S', rfl, W, by rw [e] at F; exact F, L.1, L.2⟩)
    rw [e] at hq; exact hq
def f_Bus_hand_24 (P : Nat → Nat → Int32) (x y : Int32) (Z : Nat → Nat → Int32) (b : Nat) : Int32 × (Nat → Nat → Int32) :=
  if (f_State_handCell P (Z 302) b) = ((-1)) then ((f_Bus_refuseAct P Z).1, (f_Bus_refuseAct P Z).2) else f_Bus_hand_52 P x y Z b ((f_State_handCell P (Z 302) b).toNatClampNeg)
set_option maxRecDepth 4000 in
theorem w_Bus_hand_24 {g : GG} {Q : QT} {h : Hp} (hst : (gl g).stackTraces = false) {A : Nat → Nat} {S : SA} {P Y : Nat → Nat → Int32} (hnd : (gK (bsL g A S P Y)).Nodup) (hw : wfP P) (x y : Int32)  (Z : Nat → Nat → Int32) (b : Nat) (hb : b < 10) (hW : Wld g A S P Y Z (ov h (gO (bsL g A S P Y) Z))) (hH : HiI Z 303) (hk : AQ g A S P Y (ov h (gO (bsL g A S P Y) Z)) Z Q (f_Bus_hand_24 P x y Z b)) : PW g M_Bus_hand 6 2 226 Q 24 [.ref (A 507), .int (nI (b)), .int (y), .retAddr 0] [] (ov h (gO (bsL g A S P Y) Z)) := by
  have hz0 := hw.blk.2
  have hz1 := hw.lnk.2
  have hz2 := hw.dvs.2
  refine pw_aload_n e_Bus_hand_24 rfl ?_
  refine pw_getf e_Bus_hand_25 fl_Bus_37 (gO_get hnd (i := 29) rfl) rfl ?_
  refine pw_getf e_Bus_hand_28 fl_Bus_76 (gO_get hnd (i := 31) rfl) rfl ?_
  refine pw_aload_n e_Bus_hand_31 rfl ?_
  refine pw_getf e_Bus_hand_32 fl_Bus_23 (gO_get hnd (i := 29) rfl) rfl ?_
  refine pw_iload_n e_Bus_hand_35 rfl ?_
  refine pw_detV (As := [.ref (A 30), .int (nI (b))]) e_Bus_hand_36 li_Bus_223 rfl (gO_get hnd (i := 32) rfl) (q_State_handCell hst (gO_get hnd (i := 32) rfl) (Z 302) (gO_get hnd (i := 33) rfl) (bs_pl hnd) hw b (by omega)) rfl (by decide) (Nat.le_of_ble_eq_true rfl) rfl ?_
  refine pw_istore_n (ls2 := [_, _, _, _]) e_Bus_hand_39 (by decide) rfl ?_
  refine pw_iload_n e_Bus_hand_40 rfl ?_
  refine pw_iconst (v := (-1)) e_Bus_hand_41 (by decide) ?_
  refine pw_icmp_ne (tgt := 52) e_Bus_hand_42 (by decide) (fun (Hq_1 : ¬ (f_State_handCell P (Z 302) b) = ((-1))) => ?_) (fun (Hq_1 : (f_State_handCell P (Z 302) b) = ((-1))) => ?_)
  · refine pw_eqls (ls' := [.ref (A 507), .int (nI (b)), .int (y), .int (nI ((f_State_handCell P (Z 302) b).toNatClampNeg))]) (by rw [← (show f_State_handCell P (Z 302) b = nI ((f_State_handCell P (Z 302) b).toNatClampNeg) from (hc_of hb Hq_1).1)]) ?_
    refine w_Bus_hand_52 hst hnd hw x y Z b ((f_State_handCell P (Z 302) b).toNatClampNeg) (hc_of hb Hq_1).2 hW hH ?_
    rw [f_Bus_hand_24, if_neg Hq_1] at hk
    exact hk
  · refine pw_aload_n e_Bus_hand_45 rfl ?_
    refine pw_detV (As := []) e_Bus_hand_46 li_Bus_215 rfl (gO_get hnd (i := 29) rfl) (q_Bus_refuseAct hst hnd hw Z (gO_in hnd (fun _ z => z))) rfl (by decide) (Nat.le_of_ble_eq_true rfl) rfl ?_
    refine pw_sameG hnd ?_
    refine pw_goto (tgt := 58) e_Bus_hand_49 (by decide) ?_
    refine pw_iret e_Bus_hand_58 rfl rfl ?_
    rw [f_Bus_hand_24, if_pos Hq_1] at hk
    exact AQ.ret hnd hW hk (fun k hk => by rw [f_Bus_refuseAct]; exact u2_k (by omega))
def f_Bus_hand (P : Nat → Nat → Int32) (x y : Int32) (Z : Nat → Nat → Int32) : Int32 × (Nat → Nat → Int32) :=
  if (f_Bus_isBlock P x) = 0 then ((f_Bus_refuseAct P Z).1, (f_Bus_refuseAct P Z).2) else if y < 0 then ((f_Bus_refuseAct P Z).1, (f_Bus_refuseAct P Z).2) else if y ≤ 1000 then f_Bus_hand_24 P x y Z x.toNatClampNeg else ((f_Bus_refuseAct P Z).1, (f_Bus_refuseAct P Z).2)
set_option maxRecDepth 4000 in
theorem w_Bus_hand_0 {g : GG} {Q : QT} {h : Hp} (hst : (gl g).stackTraces = false) {A : Nat → Nat} {S : SA} {P Y : Nat → Nat → Int32} (hnd : (gK (bsL g A S P Y)).Nodup) (hw : wfP P) (x y : Int32)  (Z : Nat → Nat → Int32) (hW : Wld g A S P Y Z (ov h (gO (bsL g A S P Y) Z))) (hH : HiI Z 303) (hk : AQ g A S P Y (ov h (gO (bsL g A S P Y) Z)) Z Q (f_Bus_hand P x y Z)) : PW g M_Bus_hand 6 2 226 Q 0 [.ref (A 507), .int (x), .int (y), .retAddr 0] [] (ov h (gO (bsL g A S P Y) Z)) := by
  have hz0 := hw.blk.2
  have hz1 := hw.lnk.2
  have hz2 := hw.dvs.2
  refine pw_aload_n e_Bus_hand_0 rfl ?_
  refine pw_iload_n e_Bus_hand_1 rfl ?_
  refine pw_detV (As := [.int (x)]) e_Bus_hand_2 li_Bus_207 rfl (gO_get hnd (i := 29) rfl) (q_Bus_isBlock hst (Z 507) (gO_get hnd (i := 29) rfl) (bs_pl hnd) hw x) rfl (by decide) (Nat.le_of_ble_eq_true rfl) rfl ?_
  refine pw_if_eq (tgt := 19) e_Bus_hand_5 (by decide) (fun (Hq_1 : (f_Bus_isBlock P x) = 0) => ?_) (fun (Hq_1 : ¬ (f_Bus_isBlock P x) = 0) => ?_)
  · refine pw_aload_n e_Bus_hand_19 rfl ?_
    refine pw_detV (As := []) e_Bus_hand_20 li_Bus_215 rfl (gO_get hnd (i := 29) rfl) (q_Bus_refuseAct hst hnd hw Z (gO_in hnd (fun _ z => z))) rfl (by decide) (Nat.le_of_ble_eq_true rfl) rfl ?_
    refine pw_sameG hnd ?_
    refine pw_iret e_Bus_hand_23 rfl rfl ?_
    rw [f_Bus_hand, if_pos Hq_1] at hk
    exact AQ.ret hnd hW hk (fun k hk => by rw [f_Bus_refuseAct]; exact u2_k (by omega))
  · refine pw_iload_n e_Bus_hand_8 rfl ?_
    refine pw_if_lt (tgt := 19) e_Bus_hand_9 (by decide) (fun (Hq_2 : y < 0) => ?_) (fun (Hq_2 : ¬ y < 0) => ?_)
    · refine pw_aload_n e_Bus_hand_19 rfl ?_
      refine pw_detV (As := []) e_Bus_hand_20 li_Bus_215 rfl (gO_get hnd (i := 29) rfl) (q_Bus_refuseAct hst hnd hw Z (gO_in hnd (fun _ z => z))) rfl (by decide) (Nat.le_of_ble_eq_true rfl) rfl ?_
      refine pw_sameG hnd ?_
      refine pw_iret e_Bus_hand_23 rfl rfl ?_
      rw [f_Bus_hand, if_neg Hq_1, if_pos Hq_2] at hk
      exact AQ.ret hnd hW hk (fun k hk => by rw [f_Bus_refuseAct]; exact u2_k (by omega))
    · refine pw_iload_n e_Bus_hand_12 rfl ?_
      refine pw_sipush (v := nI 1000) e_Bus_hand_13 (by decide) ?_
      refine pw_icmp_le (tgt := 24) e_Bus_hand_16 (by decide) (fun (Hq_3 : y ≤ 1000) => ?_) (fun (Hq_3 : ¬ y ≤ 1000) => ?_)
      · refine pw_eqls (ls' := [.ref (A 507), .int (nI (x.toNatClampNeg)), .int (y), .retAddr 0]) (by rw [← (show x = nI (x.toNatClampNeg) from (blk_of hw Hq_1).1)]) ?_
        refine w_Bus_hand_24 hst hnd hw x y Z x.toNatClampNeg (by have := (blk_of hw Hq_1).2; omega) hW hH ?_
        rw [f_Bus_hand, if_neg Hq_1, if_neg Hq_2, if_pos Hq_3] at hk
        exact hk
      · refine pw_aload_n e_Bus_hand_19 rfl ?_
        refine pw_detV (As := []) e_Bus_hand_20 li_Bus_215 rfl (gO_get hnd (i := 29) rfl) (q_Bus_refuseAct hst hnd hw Z (gO_in hnd (fun _ z => z))) rfl (by decide) (Nat.le_of_ble_eq_true rfl) rfl ?_
        refine pw_sameG hnd ?_
        refine pw_iret e_Bus_hand_23 rfl rfl ?_
        rw [f_Bus_hand, if_neg Hq_1, if_neg Hq_2, if_neg Hq_3] at hk
        exact AQ.ret hnd hW hk (fun k hk => by rw [f_Bus_refuseAct]; exact u2_k (by omega))

theorem q_Bus_hand {g : GG} {h : Hp} (hst : (gl g).stackTraces = false) {A : Nat → Nat} {S : SA} {P Y : Nat → Nat → Int32} (hnd : (gK (bsL g A S P Y)).Nodup) (hw : wfP P) (x y : Int32) (Z : Nat → Nat → Int32) (hW : Wld g A S P Y Z h) (hH : HiI Z 303) : PM g M_Bus_hand 6 2 226 [.ref (A 507), .int x, .int y] h (ActQ g A S P Y h Z (f_Bus_hand P x y Z)) := by
  refine PM.of hst (by decide) rfl (fun v hv => ?_) (Nat.le_of_ble_eq_true rfl) ?_
  · simp only [List.mem_cons, List.not_mem_nil, or_false] at hv; rcases hv with rfl | rfl | rfl <;> rfl
  · have e := ov_self hW.1
    have hq := w_Bus_hand_0 (g := g) (Q := ActQ g A S P Y h Z (f_Bus_hand P x y Z)) (h := h) hst hnd hw x y Z (by rw [e]; exact hW) hH (fun S' h' W F L => ⟨S', rfl, W, by rw [e] at F; exact F, L.1, L.2⟩)
    rw [e] at hq; exact hq
def f_Bus_power (P : Nat → Nat → Int32) (x y : Int32) (Z : Nat → Nat → Int32) : Int32 × (Nat → Nat → Int32) :=
  if (f_Bus_isDevice P x) = 0 then ((f_Bus_refuseAct P Z).1, (f_Bus_refuseAct P Z).2) else if (f_State_isOn (Z 302) x) = y then ((f_Bus_refuseAct P Z).1, (f_Bus_refuseAct P Z).2) else f_Bus_power_28 P x y Z
set_option maxRecDepth 4000 in
theorem w_Bus_power_0 {g : GG} {Q : QT} {h : Hp} (hst : (gl g).stackTraces = false) {A : Nat → Nat} {S : SA} {P Y : Nat → Nat → Int32} (hnd : (gK (bsL g A S P Y)).Nodup) (hw : wfP P) (x y : Int32)  (Z : Nat → Nat → Int32) (hW : Wld g A S P Y Z (ov h (gO (bsL g A S P Y) Z))) (hH : HiI Z 303) (hk : AQ g A S P Y (ov h (gO (bsL g A S P Y) Z)) Z Q (f_Bus_power P x y Z)) : PW g M_Bus_power 5 2 226 Q 0 [.ref (A 507), .int (x), .int (y)] [] (ov h (gO (bsL g A S P Y) Z)) := by
  have hz0 := hw.blk.2
  have hz1 := hw.lnk.2
  have hz2 := hw.dvs.2
  refine pw_aload_n e_Bus_power_0 rfl ?_
  refine pw_iload_n e_Bus_power_1 rfl ?_
  refine pw_detV (As := [.int (x)]) e_Bus_power_2 li_Bus_230 rfl (gO_get hnd (i := 29) rfl) (q_Bus_isDevice hst (Z 507) (gO_get hnd (i := 29) rfl) (bs_pl hnd) hw x) rfl (by decide) (Nat.le_of_ble_eq_true rfl) rfl ?_
  refine pw_if_eq (tgt := 23) e_Bus_power_5 (by decide) (fun (Hq_1 : (f_Bus_isDevice P x) = 0) => ?_) (fun (Hq_1 : ¬ (f_Bus_isDevice P x) = 0) => ?_)
  · refine pw_aload_n e_Bus_power_23 rfl ?_
    refine pw_detV (As := []) e_Bus_power_24 li_Bus_215 rfl (gO_get hnd (i := 29) rfl) (q_Bus_refuseAct hst hnd hw Z (gO_in hnd (fun _ z => z))) rfl (by decide) (Nat.le_of_ble_eq_true rfl) rfl ?_
    refine pw_sameG hnd ?_
    refine pw_iret e_Bus_power_27 rfl rfl ?_
    rw [f_Bus_power, if_pos Hq_1] at hk
    exact AQ.ret hnd hW hk (fun k hk => by rw [f_Bus_refuseAct]; exact u2_k (by omega))
  · refine pw_aload_n e_Bus_power_8 rfl ?_
    refine pw_getf e_Bus_power_9 fl_Bus_37 (gO_get hnd (i := 29) rfl) rfl ?_
    refine pw_getf e_Bus_power_12 fl_Bus_76 (gO_get hnd (i := 31) rfl) rfl ?_
    refine pw_iload_n e_Bus_power_15 rfl ?_
    refine pw_detV (As := [.int (x)]) e_Bus_power_16 li_Bus_233 rfl (gO_get hnd (i := 32) rfl) (q_State_isOn hst (gO_get hnd (i := 32) rfl) (Z 302) (gO_get hnd (i := 33) rfl) x) rfl (by decide) (Nat.le_of_ble_eq_true rfl) rfl ?_
    refine pw_iload_n e_Bus_power_19 rfl ?_
    refine pw_icmp_ne (tgt := 28) e_Bus_power_20 (by decide) (fun (Hq_2 : ¬ (f_State_isOn (Z 302) x) = y) => ?_) (fun (Hq_2 : (f_State_isOn (Z 302) x) = y) => ?_)
    · refine w_Bus_power_28 hst hnd hw x y Z hW hH ?_
      rw [f_Bus_power, if_neg Hq_1, if_neg Hq_2] at hk
      exact hk
    · refine pw_aload_n e_Bus_power_23 rfl ?_
      refine pw_detV (As := []) e_Bus_power_24 li_Bus_215 rfl (gO_get hnd (i := 29) rfl) (q_Bus_refuseAct hst hnd hw Z (gO_in hnd (fun _ z => z))) rfl (by decide) (Nat.le_of_ble_eq_true rfl) rfl ?_
      refine pw_sameG hnd ?_
      refine pw_iret e_Bus_power_27 rfl rfl ?_
      rw [f_Bus_power, if_neg Hq_1, if_pos Hq_2] at hk
      exact AQ.ret hnd hW hk (fun k hk => by rw [f_Bus_refuseAct]; exact u2_k (by omega))

theorem q_Bus_power {g : GG} {h : Hp} (hst : (gl g).stackTraces = false) {A : Nat → Nat} {S : SA} {P Y : Nat → Nat → Int32} (hnd : (gK (bsL g A S P Y)).Nodup) (hw : wfP P) (x y : Int32) (Z : Nat → Nat → Int32) (hW : Wld g A S P Y Z h) (hH : HiI Z 303) : PM g M_Bus_power 5 2 226 [.ref (A 507), .int x, .int y] h (ActQ g A S P Y h Z (f_Bus_power P x y Z)) := by
  refine PM.of hst (by decide) rfl (fun v hv => ?_) (Nat.le_of_ble_eq_true rfl) ?_
  · simp only [List.mem_cons, List.not_mem_nil, or_false] at hv; rcases hv with rfl | rfl | rfl <;> rfl
  · have e := ov_self hW.1
    have hq := w_Bus_power_0 (g := g) (Q := ActQ g A S P Y h Z (f_Bus_power P x y Z)) (h := h) hst hnd hw x y Z (by rw [e]; exact hW) hH (fun S' h' W F L => ⟨S', rfl, W, by rw [e] at F; exact F, L.1, L.2⟩)
    rw [e] at hq; exact hq
def f_Bus_broken (P : Nat → Nat → Int32) (x y : Int32) (Z : Nat → Nat → Int32) : Int32 × (Nat → Nat → Int32) :=
  if x < 0 then ((f_Bus_refuseAct P Z).1, (f_Bus_refuseAct P Z).2) else if 4 ≤ x then ((f_Bus_refuseAct P Z).1, (f_Bus_refuseAct P Z).2) else if (f_State_isBroken (Z 302) x) = y then ((f_Bus_refuseAct P Z).1, (f_Bus_refuseAct P Z).2) else f_Bus_broken_29 P x y Z
set_option maxRecDepth 4000 in
theorem w_Bus_broken_0 {g : GG} {Q : QT} {h : Hp} (hst : (gl g).stackTraces = false) {A : Nat → Nat} {S : SA} {P Y : Nat → Nat → Int32} (hnd : (gK (bsL g A S P Y)).Nodup) (hw : wfP P) (x y : Int32)  (Z : Nat → Nat → Int32) (hW : Wld g A S P Y Z (ov h (gO (bsL g A S P Y) Z))) (hH : HiI Z 303) (hk : AQ g A S P Y (ov h (gO (bsL g A S P Y) Z)) Z Q (f_Bus_broken P x y Z)) : PW g M_Bus_broken 5 2 226 Q 0 [.ref (A 507), .int (x), .int (y)] [] (ov h (gO (bsL g A S P Y) Z)) := by
  have hz0 := hw.blk.2
  have hz1 := hw.lnk.2
  have hz2 := hw.dvs.2
  refine pw_iload_n e_Bus_broken_0 rfl ?_
  refine pw_if_lt (tgt := 24) e_Bus_broken_1 (by decide) (fun (Hq_1 : x < 0) => ?_) (fun (Hq_1 : ¬ x < 0) => ?_)
  · refine pw_aload_n e_Bus_broken_24 rfl ?_
    refine pw_detV (As := []) e_Bus_broken_25 li_Bus_215 rfl (gO_get hnd (i := 29) rfl) (q_Bus_refuseAct hst hnd hw Z (gO_in hnd (fun _ z => z))) rfl (by decide) (Nat.le_of_ble_eq_true rfl) rfl ?_
    refine pw_sameG hnd ?_
    refine pw_iret e_Bus_broken_28 rfl rfl ?_
    rw [f_Bus_broken, if_pos Hq_1] at hk
    exact AQ.ret hnd hW hk (fun k hk => by rw [f_Bus_refuseAct]; exact u2_k (by omega))
  · refine pw_iload_n e_Bus_broken_4 rfl ?_
    refine pw_iconst (v := nI 4) e_Bus_broken_5 (by decide) ?_
    refine pw_icmp_ge (tgt := 24) e_Bus_broken_6 (by decide) (fun (Hq_2 : 4 ≤ x) => ?_) (fun (Hq_2 : ¬ 4 ≤ x) => ?_)
    · refine pw_aload_n e_Bus_broken_24 rfl ?_
      refine pw_detV (As := []) e_Bus_broken_25 li_Bus_215 rfl (gO_get hnd (i := 29) rfl) (q_Bus_refuseAct hst hnd hw Z (gO_in hnd (fun _ z => z))) rfl (by decide) (Nat.le_of_ble_eq_true rfl) rfl ?_
      refine pw_sameG hnd ?_
      refine pw_iret e_Bus_broken_28 rfl rfl ?_
      rw [f_Bus_broken, if_neg Hq_1, if_pos Hq_2] at hk
      exact AQ.ret hnd hW hk (fun k hk => by rw [f_Bus_refuseAct]; exact u2_k (by omega))
    · refine pw_aload_n e_Bus_broken_9 rfl ?_
      refine pw_getf e_Bus_broken_10 fl_Bus_37 (gO_get hnd (i := 29) rfl) rfl ?_
      refine pw_getf e_Bus_broken_13 fl_Bus_76 (gO_get hnd (i := 31) rfl) rfl ?_
      refine pw_iload_n e_Bus_broken_16 rfl ?_
      refine pw_detV (As := [.int (x)]) e_Bus_broken_17 li_Bus_243 rfl (gO_get hnd (i := 32) rfl) (q_State_isBroken hst (gO_get hnd (i := 32) rfl) (Z 302) (gO_get hnd (i := 33) rfl) x) rfl (by decide) (Nat.le_of_ble_eq_true rfl) rfl ?_
      refine pw_iload_n e_Bus_broken_20 rfl ?_
      refine pw_icmp_ne (tgt := 29) e_Bus_broken_21 (by decide) (fun (Hq_3 : ¬ (f_State_isBroken (Z 302) x) = y) => ?_) (fun (Hq_3 : (f_State_isBroken (Z 302) x) = y) => ?_)
      · refine w_Bus_broken_29 hst hnd hw x y Z hW hH ?_
        rw [f_Bus_broken, if_neg Hq_1, if_neg Hq_2, if_neg Hq_3] at hk
        exact hk
      · refine pw_aload_n e_Bus_broken_24 rfl ?_
        refine pw_detV (As := []) e_Bus_broken_25 li_Bus_215 rfl (gO_get hnd (i := 29) rfl) (q_Bus_refuseAct hst hnd hw Z (gO_in hnd (fun _ z => z))) rfl (by decide) (Nat.le_of_ble_eq_true rfl) rfl ?_
        refine pw_sameG hnd ?_
        refine pw_iret e_Bus_broken_28 rfl rfl ?_
        rw [f_Bus_broken, if_neg Hq_1, if_neg Hq_2, if_pos Hq_3] at hk
        exact AQ.ret hnd hW hk (fun k hk => by rw [f_Bus_refuseAct]; exact u2_k (by omega))

theorem q_Bus_broken {g : GG} {h : Hp} (hst : (gl g).stackTraces = false) {A : Nat → Nat} {S : SA} {P Y : Nat → Nat → Int32} (hnd : (gK (bsL g A S P Y)).Nodup) (hw : wfP P) (x y : Int32) (Z : Nat → Nat → Int32) (hW : Wld g A S P Y Z h) (hH : HiI Z 303) : PM g M_Bus_broken 5 2 226 [.ref (A 507), .int x, .int y] h (ActQ g A S P Y h Z (f_Bus_broken P x y Z)) := by
  refine PM.of hst (by decide) rfl (fun v hv => ?_) (Nat.le_of_ble_eq_true rfl) ?_
  · simp only [List.mem_cons, List.not_mem_nil, or_false] at hv; rcases hv with rfl | rfl | rfl <;> rfl
  · have e := ov_self hW.1
    have hq := w_Bus_broken_0 (g := g) (Q := ActQ g A S P Y h Z (f_Bus_broken P x y Z)) (h := h) hst hnd hw x y Z (by rw [e]; exact hW) hH (fun S' h' W F L => ⟨S', rfl, W, by rw [e] at F; exact F, L.1, L.2⟩)
    rw [e] at hq; exact hq
def f_Bus_cycles (P : Nat → Nat → Int32) (x : Int32) (Z : Nat → Nat → Int32) : Int32 × (Nat → Nat → Int32) :=
  if x < 1 then ((f_Bus_refuseAct P Z).1, (f_Bus_refuseAct P Z).2) else if 30 < x then ((f_Bus_refuseAct P Z).1, (f_Bus_refuseAct P Z).2) else if (((Z 302) 223) + x) ≤ 2000 then f_Bus_cycles_38 P x Z x.toNatClampNeg else ((f_Bus_refuseAct P Z).1, (f_Bus_refuseAct P Z).2)
set_option maxRecDepth 4000 in
theorem w_Bus_cycles_0 {g : GG} {Q : QT} {h : Hp} (hst : (gl g).stackTraces = false) {A : Nat → Nat} {S : SA} {P Y : Nat → Nat → Int32} (hnd : (gK (bsL g A S P Y)).Nodup) (hw : wfP P) (x : Int32)  (Z : Nat → Nat → Int32) (hW : Wld g A S P Y Z (ov h (gO (bsL g A S P Y) Z))) (hH : HiI Z 303) (hk : AQ g A S P Y (ov h (gO (bsL g A S P Y) Z)) Z Q (f_Bus_cycles P x Z)) : PW g M_Bus_cycles 6 2 226 Q 0 [.ref (A 507), .int (x)] [] (ov h (gO (bsL g A S P Y) Z)) := by
  have hz0 := hw.blk.2
  have hz1 := hw.lnk.2
  have hz2 := hw.dvs.2
  refine pw_iload_n e_Bus_cycles_0 rfl ?_
  refine pw_iconst (v := nI 1) e_Bus_cycles_1 (by decide) ?_
  refine pw_icmp_lt (tgt := 33) e_Bus_cycles_2 (by decide) (fun (Hq_1 : x < 1) => ?_) (fun (Hq_1 : ¬ x < 1) => ?_)
  · refine pw_aload_n e_Bus_cycles_33 rfl ?_
    refine pw_detV (As := []) e_Bus_cycles_34 li_Bus_215 rfl (gO_get hnd (i := 29) rfl) (q_Bus_refuseAct hst hnd hw Z (gO_in hnd (fun _ z => z))) rfl (by decide) (Nat.le_of_ble_eq_true rfl) rfl ?_
    refine pw_sameG hnd ?_
    refine pw_iret e_Bus_cycles_37 rfl rfl ?_
    rw [f_Bus_cycles, if_pos Hq_1] at hk
    exact AQ.ret hnd hW hk (fun k hk => by rw [f_Bus_refuseAct]; exact u2_k (by omega))
  · refine pw_iload_n e_Bus_cycles_5 rfl ?_
    refine pw_bipush (v := nI 30) e_Bus_cycles_6 (by decide) ?_
    refine pw_icmp_gt (tgt := 33) e_Bus_cycles_8 (by decide) (fun (Hq_2 : 30 < x) => ?_) (fun (Hq_2 : ¬ 30 < x) => ?_)
    · refine pw_aload_n e_Bus_cycles_33 rfl ?_
      refine pw_detV (As := []) e_Bus_cycles_34 li_Bus_215 rfl (gO_get hnd (i := 29) rfl) (q_Bus_refuseAct hst hnd hw Z (gO_in hnd (fun _ z => z))) rfl (by decide) (Nat.le_of_ble_eq_true rfl) rfl ?_
      refine pw_sameG hnd ?_
      refine pw_iret e_Bus_cycles_37 rfl rfl ?_
      rw [f_Bus_cycles, if_neg Hq_1, if_pos Hq_2] at hk
      exact AQ.ret hnd hW hk (fun k hk => by rw [f_Bus_refuseAct]; exact u2_k (by omega))
    · refine pw_aload_n e_Bus_cycles_11 rfl ?_
      refine pw_getf e_Bus_cycles_12 fl_Bus_37 (gO_get hnd (i := 29) rfl) rfl ?_
      refine pw_getf e_Bus_cycles_15 fl_Bus_76 (gO_get hnd (i := 31) rfl) rfl ?_
      refine pw_getf e_Bus_cycles_18 fl_Bus_127 (gO_get hnd (i := 32) rfl) rfl ?_
      refine pw_sipush (v := nI 223) e_Bus_cycles_21 (by decide) ?_
      refine pw_ialdN e_Bus_cycles_24 (gO_get hnd (i := 33) rfl) (by omega) (by decide) ?_
      refine pw_iload_n e_Bus_cycles_25 rfl ?_
      refine pw_iadd e_Bus_cycles_26 ?_
      refine pw_sipush (v := nI 2000) e_Bus_cycles_27 (by decide) ?_
      refine pw_icmp_le (tgt := 38) e_Bus_cycles_30 (by decide) (fun (Hq_3 : (((Z 302) 223) + x) ≤ 2000) => ?_) (fun (Hq_3 : ¬ (((Z 302) 223) + x) ≤ 2000) => ?_)
      · refine pw_eqls (ls' := [.ref (A 507), .int (nI (x.toNatClampNeg))]) (by rw [← (show x = nI (x.toNatClampNeg) from (cy_of Hq_1 Hq_2).1)]) ?_
        refine w_Bus_cycles_38 hst hnd hw x Z x.toNatClampNeg (by have := (cy_of Hq_1 Hq_2).2; omega) hW hH ?_
        rw [f_Bus_cycles, if_neg Hq_1, if_neg Hq_2, if_pos Hq_3] at hk
        exact hk
      · refine pw_aload_n e_Bus_cycles_33 rfl ?_
        refine pw_detV (As := []) e_Bus_cycles_34 li_Bus_215 rfl (gO_get hnd (i := 29) rfl) (q_Bus_refuseAct hst hnd hw Z (gO_in hnd (fun _ z => z))) rfl (by decide) (Nat.le_of_ble_eq_true rfl) rfl ?_
        refine pw_sameG hnd ?_
        refine pw_iret e_Bus_cycles_37 rfl rfl ?_
        rw [f_Bus_cycles, if_neg Hq_1, if_neg Hq_2, if_neg Hq_3] at hk
        exact AQ.ret hnd hW hk (fun k hk => by rw [f_Bus_refuseAct]; exact u2_k (by omega))

theorem q_Bus_cycles {g : GG} {h : Hp} (hst : (gl g).stackTraces = false) {A : Nat → Nat} {S : SA} {P Y : Nat → Nat → Int32} (hnd : (gK (bsL g A S P Y)).Nodup) (hw : wfP P) (x : Int32) (Z : Nat → Nat → Int32) (hW : Wld g A S P Y Z h) (hH : HiI Z 303) : PM g M_Bus_cycles 6 2 226 [.ref (A 507), .int x] h (ActQ g A S P Y h Z (f_Bus_cycles P x Z)) := by
  refine PM.of hst (by decide) rfl (fun v hv => ?_) (Nat.le_of_ble_eq_true rfl) ?_
  · simp only [List.mem_cons, List.not_mem_nil, or_false] at hv; rcases hv with rfl | rfl <;> rfl
  · have e := ov_self hW.1
    have hq := w_Bus_cycles_0 (g := g) (Q := ActQ g A S P Y h Z (f_Bus_cycles P x Z)) (h := h) hst hnd hw x Z (by rw [e]; exact hW) hH (fun S' h' W F L => ⟨S', rfl, W, by rw [e] at F; exact F, L.1, L.2⟩)
    rw [e] at hq; exact hq
