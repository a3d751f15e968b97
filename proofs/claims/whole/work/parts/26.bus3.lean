/-! the object: notes, causes, looks, years, the tape (written by wip/whole/c_bus3.py) -/
/-- what is noted -/
def NtI (Z : Nat → Nat → Int32) : Prop := (Z 310 0 = nI (pN Z 310 0) ∧ pN Z 310 0 < 7) ∧ (∀ i, Z 311 i = nI (pN Z 311 i) ∧ pN Z 311 i < 10) ∧ (∀ i, Z 312 i = nI (pN Z 312 i) ∧ pN Z 312 i < 21)
theorem NtI.of {Z Y : Nat → Nat → Int32} (h : NtI Z) (h0 : Y 310 = Z 310) (h1 : Y 311 = Z 311) (h2 : Y 312 = Z 312) : NtI Y := by
  unfold NtI pN at *
  rw [h0, h1, h2]; exact h
theorem nt6 {Z : Nat → Nat → Int32} (h : NtI Z) (H : ¬ nI 6 ≤ Z 310 0) : pN Z 310 0 < 6 := by
  rw [h.1.1, i_le, nI_toInt (by omega), nI_toInt (by have := h.1.2; omega)] at H
  omega
def furN (Z : Nat → Nat → Int32) : Nat := (f_Noted_furthest (fun k => Z (310 + k)) (pN Z 310 0)).toNatClampNeg
theorem fur_of {Z : Nat → Nat → Int32} (h : NtI Z) : f_Noted_furthest (fun k => Z (310 + k)) (pN Z 310 0) = nI (furN Z) ∧ furN Z < 21 := by
  have key : ∀ (t : Nat) (m : Int32) (k j : Nat), m = nI j → j < 21 → ∃ i, f_Noted_furthest_4 (fun k => Z (310 + k)) (pN Z 310 0) t m k = nI i ∧ i < 21 := by
    intro t
    induction t with
    | zero => intro m k j _ _; exact ⟨0, rfl, by decide⟩
    | succ t ih =>
      intro m k j hm hj
      rw [f_Noted_furthest_4]
      split
      · exact ⟨j, hm, hj⟩
      · split
        · exact ih _ _ _ (h.2.2 k).1 (h.2.2 k).2
        · exact ih _ _ j hm hj
  obtain ⟨i, e, hi⟩ := key 7 0 0 0 rfl (by decide)
  have e1 : f_Noted_furthest (fun k => Z (310 + k)) (pN Z 310 0) = nI i := e
  have e2 : furN Z = i := by unfold furN; rw [e1, nI_clamp (by omega)]
  rw [e2]; exact ⟨e1, hi⟩
def f_Bus_note_70 (P : Nat → Nat → Int32) (x y z : Int32) (Z : Nat → Nat → Int32) : Int32 × (Nat → Nat → Int32) :=
  ((mixK [310, 311, 312, 313] (fun k => f_Noted_add (pN Z 310 0) x y z (fun k => Z (310 + k)) (k - 310)) Z) 310 0, mixK [310, 311, 312, 313] (fun k => f_Noted_add (pN Z 310 0) x y z (fun k => Z (310 + k)) (k - 310)) Z)
set_option maxRecDepth 4000 in
theorem w_Bus_note_70 {g : GG} {Q : QT} {h : Hp} {kc ks : Nat} (hst : (gl g).stackTraces = false) {A : Nat → Nat} {S : SA} {P Y : Nat → Nat → Int32} (hnd : (gK (bsL g A S P Y)).Nodup) (hw : wfP P) (x y z : Int32)  (Z : Nat → Nat → Int32) (hN : NtI Z) (hn6 : pN Z 310 0 < 6) (hk : Q (.inl (some (.int (f_Bus_note_70 P x y z Z).1))) (ov h (gO (bsL g A S P Y) ((f_Bus_note_70 P x y z Z).2)))) : PW g M_Bus_note 2 kc ks Q 70 [.ref (A 507), .int (x), .int (y), .int (z), .retAddr 0] [] (ov h (gO (bsL g A S P Y) Z)) := by
  have hz0 := hw.blk.2
  have hz1 := hw.lnk.2
  have hz2 := hw.dvs.2
  refine pw_aload_n e_Bus_note_70 rfl ?_
  refine pw_getf e_Bus_note_71 fl_Bus_37 (gO_get hnd (i := 29) rfl) rfl ?_
  refine pw_getf e_Bus_note_74 fl_Bus_120 (gO_get hnd (i := 31) rfl) rfl ?_
  refine pw_iload_n e_Bus_note_77 rfl ?_
  refine pw_iload_n e_Bus_note_78 rfl ?_
  refine pw_iload_n e_Bus_note_79 rfl ?_
  refine pw_detV (As := [.int (x), .int (y), .int (z)]) e_Bus_note_80 li_Bus_292 rfl (gO_get hnd (i := 36) rfl) (q_Noted_add (ad := fun i => A (310 + i)) hst (nd_nt_l hnd) (pN Z 310 0) x y z hn6 (fun k => Z (310 + k)) (gO_inS hnd (bs_nt_l _ _ _ _ _)) hN.1.1) rfl (by decide) (Nat.le_of_ble_eq_true rfl) rfl ?_
  refine pw_shG (b := 310) hnd (bs_x _ _ _ _ _) (nd_nt_l hnd) (bs_nt_l _ _ _ _ _) ?_
  refine pw_aload_n e_Bus_note_83 rfl ?_
  refine pw_getf e_Bus_note_84 fl_Bus_37 (gO_get hnd (i := 29) rfl) rfl ?_
  refine pw_getf e_Bus_note_87 fl_Bus_120 (gO_get hnd (i := 31) rfl) rfl ?_
  refine pw_getf e_Bus_note_90 fl_Bus_152 (gO_get hnd (i := 36) rfl) rfl ?_
  refine pw_iret e_Bus_note_93 rfl rfl ?_
  rw [f_Bus_note_70] at hk
  exact hk
def f_Bus_note_55 (P : Nat → Nat → Int32) (x y z : Int32) (Z : Nat → Nat → Int32) : Int32 × (Nat → Nat → Int32) :=
  ((-1), u2 Z 305 2 (((Z 305) 2) + 1))
set_option maxRecDepth 4000 in
theorem w_Bus_note_55 {g : GG} {Q : QT} {h : Hp} {kc ks : Nat} (hst : (gl g).stackTraces = false) {A : Nat → Nat} {S : SA} {P Y : Nat → Nat → Int32} (hnd : (gK (bsL g A S P Y)).Nodup) (hw : wfP P) (x y z : Int32)  (Z : Nat → Nat → Int32) (hk : Q (.inl (some (.int (f_Bus_note_55 P x y z Z).1))) (ov h (gO (bsL g A S P Y) ((f_Bus_note_55 P x y z Z).2)))) : PW g M_Bus_note 2 kc ks Q 55 [.ref (A 507), .int (x), .int (y), .int (z), .retAddr 0] [] (ov h (gO (bsL g A S P Y) Z)) := by
  have hz0 := hw.blk.2
  have hz1 := hw.lnk.2
  have hz2 := hw.dvs.2
  refine pw_aload_n e_Bus_note_55 rfl ?_
  refine pw_getf e_Bus_note_56 fl_Bus_37 (gO_get hnd (i := 29) rfl) rfl ?_
  refine pw_getf e_Bus_note_59 fl_Bus_97 (gO_get hnd (i := 31) rfl) rfl ?_
  refine pw_iconst (v := nI 2) e_Bus_note_62 (by decide) ?_
  refine pw_dup2 e_Bus_note_63 rfl rfl ?_
  refine pw_ialdN e_Bus_note_64 (gO_get hnd (i := 40) rfl) (by omega) (by decide) ?_
  refine pw_iconst (v := nI 1) e_Bus_note_65 (by decide) ?_
  refine pw_iadd e_Bus_note_66 ?_
  refine pw_iastG (i := 40) e_Bus_note_67 hnd (bs_x _ _ _ _ _) rfl (by omega) (by decide) ?_
  refine pw_iconst (v := (-1)) e_Bus_note_68 (by decide) ?_
  refine pw_iret e_Bus_note_69 rfl rfl ?_
  rw [f_Bus_note_55] at hk
  exact hk
def f_Bus_note (P : Nat → Nat → Int32) (x y z : Int32) (Z : Nat → Nat → Int32) : Int32 × (Nat → Nat → Int32) :=
  if (f_Bus_isBlock P x) = 0 then f_Bus_note_55 P x y z Z else if y < 1 then f_Bus_note_55 P x y z Z else if 20 < y then f_Bus_note_55 P x y z Z else if z < 0 then f_Bus_note_55 P x y z Z else if 3 < z then f_Bus_note_55 P x y z Z else if (Z 310 0) < 6 then f_Bus_note_70 P x y z Z else f_Bus_note_55 P x y z Z
set_option maxRecDepth 4000 in
theorem w_Bus_note_0 {g : GG} {Q : QT} {h : Hp} {kc ks : Nat} (hst : (gl g).stackTraces = false) {A : Nat → Nat} {S : SA} {P Y : Nat → Nat → Int32} (hnd : (gK (bsL g A S P Y)).Nodup) (hw : wfP P) (x y z : Int32)  (Z : Nat → Nat → Int32) (hN : NtI Z) (hk : Q (.inl (some (.int (f_Bus_note P x y z Z).1))) (ov h (gO (bsL g A S P Y) ((f_Bus_note P x y z Z).2)))) : PW g M_Bus_note 2 kc ks Q 0 [.ref (A 507), .int (x), .int (y), .int (z), .retAddr 0] [] (ov h (gO (bsL g A S P Y) Z)) := by
  have hz0 := hw.blk.2
  have hz1 := hw.lnk.2
  have hz2 := hw.dvs.2
  refine pw_aload_n e_Bus_note_0 rfl ?_
  refine pw_iload_n e_Bus_note_1 rfl ?_
  refine pw_detV (As := [.int (x)]) e_Bus_note_2 li_Bus_207 rfl (gO_get hnd (i := 29) rfl) (q_Bus_isBlock hst (Z 507) (gO_get hnd (i := 29) rfl) (bs_pl hnd) hw x) rfl (by decide) (Nat.le_of_ble_eq_true rfl) rfl ?_
  refine pw_if_eq (tgt := 32) e_Bus_note_5 (by decide) (fun (H1 : (f_Bus_isBlock P x) = 0) => ?_) (fun (H1 : ¬ (f_Bus_isBlock P x) = 0) => ?_)
  · refine pw_iconst (v := nI 0) e_Bus_note_32 (by decide) ?_
    refine pw_istore (ls2 := [_, _, _, _, _]) e_Bus_note_33 (by decide) rfl ?_
    refine pw_iload e_Bus_note_35 rfl ?_
    refine pw_if_eq (tgt := 55) e_Bus_note_37 (by decide) (fun (H2 : 0 = 0) => ?_) (fun (H2 : ¬ 0 = 0) => ?_)
    · refine pw_fgt (ls' := [.ref (A 507), .int (x), .int (y), .int (z), .retAddr 0]) ⟨Or.inr rfl, Or.inr rfl, Or.inr rfl, Or.inr rfl, Or.inl rfl, trivial⟩ ?_
      refine w_Bus_note_55 hst hnd hw x y z Z ?_
      rw [f_Bus_note, if_pos H1] at hk
      exact hk
    · exact absurd H2 (by decide)
  · refine pw_iload_n e_Bus_note_8 rfl ?_
    refine pw_iconst (v := nI 1) e_Bus_note_9 (by decide) ?_
    refine pw_icmp_lt (tgt := 32) e_Bus_note_10 (by decide) (fun (H3 : y < 1) => ?_) (fun (H3 : ¬ y < 1) => ?_)
    · refine pw_iconst (v := nI 0) e_Bus_note_32 (by decide) ?_
      refine pw_istore (ls2 := [_, _, _, _, _]) e_Bus_note_33 (by decide) rfl ?_
      refine pw_iload e_Bus_note_35 rfl ?_
      refine pw_if_eq (tgt := 55) e_Bus_note_37 (by decide) (fun (H4 : 0 = 0) => ?_) (fun (H4 : ¬ 0 = 0) => ?_)
      · refine pw_fgt (ls' := [.ref (A 507), .int (x), .int (y), .int (z), .retAddr 0]) ⟨Or.inr rfl, Or.inr rfl, Or.inr rfl, Or.inr rfl, Or.inl rfl, trivial⟩ ?_
        refine w_Bus_note_55 hst hnd hw x y z Z ?_
        rw [f_Bus_note, if_neg H1, if_pos H3] at hk
        exact hk
      · exact absurd H4 (by decide)
    · refine pw_iload_n e_Bus_note_13 rfl ?_
      refine pw_bipush (v := nI 20) e_Bus_note_14 (by decide) ?_
      refine pw_icmp_gt (tgt := 32) e_Bus_note_16 (by decide) (fun (H5 : 20 < y) => ?_) (fun (H5 : ¬ 20 < y) => ?_)
      · refine pw_iconst (v := nI 0) e_Bus_note_32 (by decide) ?_
        refine pw_istore (ls2 := [_, _, _, _, _]) e_Bus_note_33 (by decide) rfl ?_
        refine pw_iload e_Bus_note_35 rfl ?_
        refine pw_if_eq (tgt := 55) e_Bus_note_37 (by decide) (fun (H6 : 0 = 0) => ?_) (fun (H6 : ¬ 0 = 0) => ?_)
        · refine pw_fgt (ls' := [.ref (A 507), .int (x), .int (y), .int (z), .retAddr 0]) ⟨Or.inr rfl, Or.inr rfl, Or.inr rfl, Or.inr rfl, Or.inl rfl, trivial⟩ ?_
          refine w_Bus_note_55 hst hnd hw x y z Z ?_
          rw [f_Bus_note, if_neg H1, if_neg H3, if_pos H5] at hk
          exact hk
        · exact absurd H6 (by decide)
      · refine pw_iload_n e_Bus_note_19 rfl ?_
        refine pw_if_lt (tgt := 32) e_Bus_note_20 (by decide) (fun (H7 : z < 0) => ?_) (fun (H7 : ¬ z < 0) => ?_)
        · refine pw_iconst (v := nI 0) e_Bus_note_32 (by decide) ?_
          refine pw_istore (ls2 := [_, _, _, _, _]) e_Bus_note_33 (by decide) rfl ?_
          refine pw_iload e_Bus_note_35 rfl ?_
          refine pw_if_eq (tgt := 55) e_Bus_note_37 (by decide) (fun (H8 : 0 = 0) => ?_) (fun (H8 : ¬ 0 = 0) => ?_)
          · refine pw_fgt (ls' := [.ref (A 507), .int (x), .int (y), .int (z), .retAddr 0]) ⟨Or.inr rfl, Or.inr rfl, Or.inr rfl, Or.inr rfl, Or.inl rfl, trivial⟩ ?_
            refine w_Bus_note_55 hst hnd hw x y z Z ?_
            rw [f_Bus_note, if_neg H1, if_neg H3, if_neg H5, if_pos H7] at hk
            exact hk
          · exact absurd H8 (by decide)
        · refine pw_iload_n e_Bus_note_23 rfl ?_
          refine pw_iconst (v := nI 3) e_Bus_note_24 (by decide) ?_
          refine pw_icmp_gt (tgt := 32) e_Bus_note_25 (by decide) (fun (H9 : 3 < z) => ?_) (fun (H9 : ¬ 3 < z) => ?_)
          · refine pw_iconst (v := nI 0) e_Bus_note_32 (by decide) ?_
            refine pw_istore (ls2 := [_, _, _, _, _]) e_Bus_note_33 (by decide) rfl ?_
            refine pw_iload e_Bus_note_35 rfl ?_
            refine pw_if_eq (tgt := 55) e_Bus_note_37 (by decide) (fun (H10 : 0 = 0) => ?_) (fun (H10 : ¬ 0 = 0) => ?_)
            · refine pw_fgt (ls' := [.ref (A 507), .int (x), .int (y), .int (z), .retAddr 0]) ⟨Or.inr rfl, Or.inr rfl, Or.inr rfl, Or.inr rfl, Or.inl rfl, trivial⟩ ?_
              refine w_Bus_note_55 hst hnd hw x y z Z ?_
              rw [f_Bus_note, if_neg H1, if_neg H3, if_neg H5, if_neg H7, if_pos H9] at hk
              exact hk
            · exact absurd H10 (by decide)
          · refine pw_iconst (v := nI 1) e_Bus_note_28 (by decide) ?_
            refine pw_goto (tgt := 33) e_Bus_note_29 (by decide) ?_
            refine pw_istore (ls2 := [_, _, _, _, _]) e_Bus_note_33 (by decide) rfl ?_
            refine pw_iload e_Bus_note_35 rfl ?_
            refine pw_if_eq (tgt := 55) e_Bus_note_37 (by decide) (fun (H11 : 1 = 0) => ?_) (fun (H11 : ¬ 1 = 0) => ?_)
            · exact absurd H11 (by decide)
            · refine pw_aload_n e_Bus_note_40 rfl ?_
              refine pw_getf e_Bus_note_41 fl_Bus_37 (gO_get hnd (i := 29) rfl) rfl ?_
              refine pw_getf e_Bus_note_44 fl_Bus_120 (gO_get hnd (i := 31) rfl) rfl ?_
              refine pw_getf e_Bus_note_47 fl_Bus_152 (gO_get hnd (i := 36) rfl) rfl ?_
              refine pw_bipush (v := nI 6) e_Bus_note_50 (by decide) ?_
              refine pw_icmp_lt (tgt := 70) e_Bus_note_52 (by decide) (fun (H12 : (Z 310 0) < 6) => ?_) (fun (H12 : ¬ (Z 310 0) < 6) => ?_)
              · refine pw_fgt (ls' := [.ref (A 507), .int (x), .int (y), .int (z), .retAddr 0]) ⟨Or.inr rfl, Or.inr rfl, Or.inr rfl, Or.inr rfl, Or.inl rfl, trivial⟩ ?_
                refine w_Bus_note_70 hst hnd hw x y z Z hN (nt6 hN (Int32.not_le.mpr H12)) ?_
                rw [f_Bus_note, if_neg H1, if_neg H3, if_neg H5, if_neg H7, if_neg H9, if_pos H12] at hk
                exact hk
              · refine pw_fgt (ls' := [.ref (A 507), .int (x), .int (y), .int (z), .retAddr 0]) ⟨Or.inr rfl, Or.inr rfl, Or.inr rfl, Or.inr rfl, Or.inl rfl, trivial⟩ ?_
                refine w_Bus_note_55 hst hnd hw x y z Z ?_
                rw [f_Bus_note, if_neg H1, if_neg H3, if_neg H5, if_neg H7, if_neg H9, if_neg H12] at hk
                exact hk
theorem q_Bus_note {g : GG} {h : Hp} (hst : (gl g).stackTraces = false) {A : Nat → Nat} {S : SA} {P Y : Nat → Nat → Int32} (hnd : (gK (bsL g A S P Y)).Nodup) (hw : wfP P) (x y z : Int32)  (Z : Nat → Nat → Int32) (hm : ∀ q ∈ gO (bsL g A S P Y) Z, h q.1 = some q.2) (hN : NtI Z) : PM g M_Bus_note 2 0 0 [.ref (A 507), .int (x), .int (y), .int (z)] h (RetV (some (.int (f_Bus_note P x y z Z).1)) (ov h (gO (bsL g A S P Y) ((f_Bus_note P x y z Z).2)))) := by
  refine PM.of hst (by decide) rfl (fun v hv => ?_) (Nat.le_of_ble_eq_true rfl) ?_
  · simp only [List.mem_cons, List.not_mem_nil, or_false] at hv; rcases hv with rfl | rfl | rfl | rfl <;> rfl
  · have hq := w_Bus_note_0 (g := g) (Q := RetV (some (.int (f_Bus_note P x y z Z).1)) (ov h (gO (bsL g A S P Y) ((f_Bus_note P x y z Z).2)))) (h := h) (kc := 0) (ks := 0) hst hnd hw x y z Z hN ?_
    · rw [ov_self hm] at hq; exact hq
    · exact ⟨rfl, rfl⟩

def f_Bus_forget (P : Nat → Nat → Int32) (Z : Nat → Nat → Int32) : (Nat → Nat → Int32) :=
  mixK [310, 311, 312, 313] (fun k => f_Noted_clear (fun k => Z (310 + k)) (k - 310)) Z
set_option maxRecDepth 4000 in
theorem w_Bus_forget_0 {g : GG} {Q : QT} {h : Hp} {kc ks : Nat} (hst : (gl g).stackTraces = false) {A : Nat → Nat} {S : SA} {P Y : Nat → Nat → Int32} (hnd : (gK (bsL g A S P Y)).Nodup) (hw : wfP P)  (Z : Nat → Nat → Int32) (hk : Q (.inl none) (ov h (gO (bsL g A S P Y) (f_Bus_forget P Z)))) : PW g M_Bus_forget 2 kc ks Q 0 [.ref (A 507)] [] (ov h (gO (bsL g A S P Y) Z)) := by
  have hz0 := hw.blk.2
  have hz1 := hw.lnk.2
  have hz2 := hw.dvs.2
  refine pw_aload_n e_Bus_forget_0 rfl ?_
  refine pw_getf e_Bus_forget_1 fl_Bus_37 (gO_get hnd (i := 29) rfl) rfl ?_
  refine pw_getf e_Bus_forget_4 fl_Bus_120 (gO_get hnd (i := 31) rfl) rfl ?_
  refine pw_detV (As := []) e_Bus_forget_7 li_Bus_124 rfl (gO_get hnd (i := 36) rfl) (q_Noted_clear (ad := fun i => A (310 + i)) hst (nd_nt_l hnd) (fun k => Z (310 + k)) (gO_inS hnd (bs_nt_l _ _ _ _ _))) rfl (by decide) (Nat.le_of_ble_eq_true rfl) rfl ?_
  refine pw_shG (b := 310) hnd (bs_x _ _ _ _ _) (nd_nt_l hnd) (bs_nt_l _ _ _ _ _) ?_
  refine pw_vret e_Bus_forget_10 rfl ?_
  rw [f_Bus_forget] at hk
  exact hk
theorem q_Bus_forget {g : GG} {h : Hp} (hst : (gl g).stackTraces = false) {A : Nat → Nat} {S : SA} {P Y : Nat → Nat → Int32} (hnd : (gK (bsL g A S P Y)).Nodup) (hw : wfP P)  (Z : Nat → Nat → Int32) (hm : ∀ q ∈ gO (bsL g A S P Y) Z, h q.1 = some q.2) : PM g M_Bus_forget 2 0 0 [.ref (A 507)] h (RetV none (ov h (gO (bsL g A S P Y) (f_Bus_forget P Z)))) := by
  refine PM.of hst (by decide) rfl (fun v hv => ?_) (Nat.le_of_ble_eq_true rfl) ?_
  · simp only [List.mem_cons, List.not_mem_nil, or_false] at hv; rcases hv with rfl <;> rfl
  · have hq := w_Bus_forget_0 (g := g) (Q := RetV none (ov h (gO (bsL g A S P Y) (f_Bus_forget P Z)))) (h := h) (kc := 0) (ks := 0) hst hnd hw Z ?_
    · rw [ov_self hm] at hq; exact hq
    · exact ⟨rfl, rfl⟩

def f_Bus_startTrialBy (P : Nat → Nat → Int32) (c : Nat) (Z : Nat → Nat → Int32) : Int32 × (Nat → Nat → Int32) :=
  if 1 ≤ c then if 6 ≤ c then if (f_State_isBroken ((va_up Z 501 (Z 302)) 501) (nI (c - 6))) = 0 then if (f_Plan_hasInputOf P (nI (c - 6))) = 0 then (0, va_up Z 501 (Z 302)) else (1, va_up (va_up Z 501 (Z 302)) 501 (f_State_turnSensor (nI (c - 6)) ((va_up Z 501 (Z 302)) 501))) else (0, va_up Z 501 (Z 302)) else if (f_Bus_isDevice P (nI (c - 1))) = 0 then (0, va_up Z 501 (Z 302)) else if (f_State_isOn ((va_up Z 501 (Z 302)) 501) (nI (c - 1))) = 0 then (0, va_up Z 501 (Z 302)) else (1, va_up (va_up Z 501 (Z 302)) 501 (f_State_switchDevice (nI (c - 1)) 0 (P 30 2) ((va_up Z 501 (Z 302)) 501))) else (1, va_up Z 501 (Z 302))
set_option maxRecDepth 4000 in
theorem w_Bus_startTrialBy_0 {g : GG} {Q : QT} {h : Hp} {kc ks : Nat} (hst : (gl g).stackTraces = false) {A : Nat → Nat} {S : SA} {P Y : Nat → Nat → Int32} (hnd : (gK (bsL g A S P Y)).Nodup) (hw : wfP P) (c : Nat) (hc10 : c < 10)  (Z : Nat → Nat → Int32) (hk : Q (.inl (some (.int (f_Bus_startTrialBy P c Z).1))) (ov h (gO (bsL g A S P Y) ((f_Bus_startTrialBy P c Z).2)))) : PW g M_Bus_startTrialBy 3 kc ks Q 0 [.ref (A 507), .int (nI (c)), .retAddr 0] [] (ov h (gO (bsL g A S P Y) Z)) := by
  have hz0 := hw.blk.2
  have hz1 := hw.lnk.2
  have hz2 := hw.dvs.2
  refine pw_aload_n e_Bus_startTrialBy_0 rfl ?_
  refine pw_getf e_Bus_startTrialBy_1 fl_Bus_51 (gO_get hnd (i := 29) rfl) rfl ?_
  refine pw_aload_n e_Bus_startTrialBy_4 rfl ?_
  refine pw_getf e_Bus_startTrialBy_5 fl_Bus_37 (gO_get hnd (i := 29) rfl) rfl ?_
  refine pw_getf e_Bus_startTrialBy_8 fl_Bus_76 (gO_get hnd (i := 31) rfl) rfl ?_
  refine pw_detV (As := [.ref (A 301)]) e_Bus_startTrialBy_11 li_Bus_265 rfl (gO_get hnd (i := 51) rfl) (q_State_copyFrom hst (gO_get hnd (i := 51) rfl) (gO_get hnd (i := 32) rfl) (Z 501) (Z 302) (gO_get hnd (i := 52) rfl) (gO_get hnd (i := 33) rfl)) rfl (by decide) (Nat.le_of_ble_eq_true rfl) rfl ?_
  refine pw_upG (i := 52) hnd (bs_x _ _ _ _ _) rfl rfl ?_
  refine pw_iload_n e_Bus_startTrialBy_14 rfl ?_
  refine pw_iconst (v := nI 1) e_Bus_startTrialBy_15 (by decide) ?_
  refine pw_icmp_geN (tgt := 21) e_Bus_startTrialBy_16 (by decide) (by omega) (by omega) (fun (H1 : 1 ≤ c) => ?_) (fun (H1 : c < 1) => ?_)
  · refine pw_iload_n e_Bus_startTrialBy_21 rfl ?_
    refine pw_bipush (v := nI 6) e_Bus_startTrialBy_22 (by decide) ?_
    refine pw_icmp_geN (tgt := 70) e_Bus_startTrialBy_24 (by decide) (by omega) (by omega) (fun (H2 : 6 ≤ c) => ?_) (fun (H2 : c < 6) => ?_)
    · refine pw_iload_n e_Bus_startTrialBy_70 rfl ?_
      refine pw_bipush (v := nI 6) e_Bus_startTrialBy_71 (by decide) ?_
      refine pw_isubN (by omega) e_Bus_startTrialBy_73 ?_
      refine pw_istore_n (ls2 := [_, _, _]) e_Bus_startTrialBy_74 (by decide) rfl ?_
      refine pw_aload_n e_Bus_startTrialBy_75 rfl ?_
      refine pw_getf e_Bus_startTrialBy_76 fl_Bus_51 (gO_get hnd (i := 29) rfl) rfl ?_
      refine pw_iload_n e_Bus_startTrialBy_79 rfl ?_
      refine pw_detV (As := [.int (nI (c - 6))]) e_Bus_startTrialBy_80 li_Bus_243 rfl (gO_get hnd (i := 51) rfl) (q_State_isBroken hst (gO_get hnd (i := 51) rfl) ((va_up Z 501 (Z 302)) 501) (gO_get hnd (i := 52) rfl) (nI (c - 6))) rfl (by decide) (Nat.le_of_ble_eq_true rfl) rfl ?_
      refine pw_if_ne (tgt := 97) e_Bus_startTrialBy_83 (by decide) (fun (H3 : ¬ (f_State_isBroken ((va_up Z 501 (Z 302)) 501) (nI (c - 6))) = 0) => ?_) (fun (H3 : (f_State_isBroken ((va_up Z 501 (Z 302)) 501) (nI (c - 6))) = 0) => ?_)
      · refine pw_iconst (v := nI 0) e_Bus_startTrialBy_97 (by decide) ?_
        refine pw_iret e_Bus_startTrialBy_98 rfl (by decide) ?_
        rw [f_Bus_startTrialBy, if_pos H1, if_pos H2, if_neg H3] at hk
        exact hk
      · refine pw_aload_n e_Bus_startTrialBy_86 rfl ?_
        refine pw_getf e_Bus_startTrialBy_87 fl_Bus_23 (gO_get hnd (i := 29) rfl) rfl ?_
        refine pw_iload_n e_Bus_startTrialBy_90 rfl ?_
        refine pw_detV (As := [.int (nI (c - 6))]) e_Bus_startTrialBy_91 li_Bus_302 rfl (gO_get hnd (i := 0) rfl) (q_Plan_hasInputOf hst (bs_pl hnd) hw (nI (c - 6))) rfl (by decide) (Nat.le_of_ble_eq_true rfl) rfl ?_
        refine pw_if_ne (tgt := 99) e_Bus_startTrialBy_94 (by decide) (fun (H4 : ¬ (f_Plan_hasInputOf P (nI (c - 6))) = 0) => ?_) (fun (H4 : (f_Plan_hasInputOf P (nI (c - 6))) = 0) => ?_)
        · refine pw_aload_n e_Bus_startTrialBy_99 rfl ?_
          refine pw_getf e_Bus_startTrialBy_100 fl_Bus_51 (gO_get hnd (i := 29) rfl) rfl ?_
          refine pw_iload_n e_Bus_startTrialBy_103 rfl ?_
          refine pw_detV (As := [.int (nI (c - 6))]) e_Bus_startTrialBy_104 li_Bus_246 rfl (gO_get hnd (i := 51) rfl) (q_State_turnSensor hst (bs_ne hnd (i := 51) (j := 52) rfl rfl (by decide)) (nI (c - 6)) ((va_up Z 501 (Z 302)) 501) (gO_get hnd (i := 52) rfl)) rfl (by decide) (Nat.le_of_ble_eq_true rfl) rfl ?_
          refine pw_upG (i := 52) hnd (bs_x _ _ _ _ _) rfl rfl ?_
          refine pw_iconst (v := nI 1) e_Bus_startTrialBy_107 (by decide) ?_
          refine pw_iret e_Bus_startTrialBy_108 rfl (by decide) ?_
          rw [f_Bus_startTrialBy, if_pos H1, if_pos H2, if_pos H3, if_neg H4] at hk
          exact hk
        · refine pw_iconst (v := nI 0) e_Bus_startTrialBy_97 (by decide) ?_
          refine pw_iret e_Bus_startTrialBy_98 rfl (by decide) ?_
          rw [f_Bus_startTrialBy, if_pos H1, if_pos H2, if_pos H3, if_pos H4] at hk
          exact hk
    · refine pw_iload_n e_Bus_startTrialBy_27 rfl ?_
      refine pw_iconst (v := nI 1) e_Bus_startTrialBy_28 (by decide) ?_
      refine pw_isubN (by omega) e_Bus_startTrialBy_29 ?_
      refine pw_istore_n (ls2 := [_, _, _]) e_Bus_startTrialBy_30 (by decide) rfl ?_
      refine pw_aload_n e_Bus_startTrialBy_31 rfl ?_
      refine pw_iload_n e_Bus_startTrialBy_32 rfl ?_
      refine pw_detV (As := [.int (nI (c - 1))]) e_Bus_startTrialBy_33 li_Bus_230 rfl (gO_get hnd (i := 29) rfl) (q_Bus_isDevice hst ((va_up Z 501 (Z 302)) 507) (gO_get hnd (i := 29) rfl) (bs_pl hnd) hw (nI (c - 1))) rfl (by decide) (Nat.le_of_ble_eq_true rfl) rfl ?_
      refine pw_if_eq (tgt := 50) e_Bus_startTrialBy_36 (by decide) (fun (H5 : (f_Bus_isDevice P (nI (c - 1))) = 0) => ?_) (fun (H5 : ¬ (f_Bus_isDevice P (nI (c - 1))) = 0) => ?_)
      · refine pw_iconst (v := nI 0) e_Bus_startTrialBy_50 (by decide) ?_
        refine pw_iret e_Bus_startTrialBy_51 rfl (by decide) ?_
        rw [f_Bus_startTrialBy, if_pos H1, if_neg (Nat.not_le.mpr H2), if_pos H5] at hk
        exact hk
      · refine pw_aload_n e_Bus_startTrialBy_39 rfl ?_
        refine pw_getf e_Bus_startTrialBy_40 fl_Bus_51 (gO_get hnd (i := 29) rfl) rfl ?_
        refine pw_iload_n e_Bus_startTrialBy_43 rfl ?_
        refine pw_detV (As := [.int (nI (c - 1))]) e_Bus_startTrialBy_44 li_Bus_233 rfl (gO_get hnd (i := 51) rfl) (q_State_isOn hst (gO_get hnd (i := 51) rfl) ((va_up Z 501 (Z 302)) 501) (gO_get hnd (i := 52) rfl) (nI (c - 1))) rfl (by decide) (Nat.le_of_ble_eq_true rfl) rfl ?_
        refine pw_if_ne (tgt := 52) e_Bus_startTrialBy_47 (by decide) (fun (H6 : ¬ (f_State_isOn ((va_up Z 501 (Z 302)) 501) (nI (c - 1))) = 0) => ?_) (fun (H6 : (f_State_isOn ((va_up Z 501 (Z 302)) 501) (nI (c - 1))) = 0) => ?_)
        · refine pw_aload_n e_Bus_startTrialBy_52 rfl ?_
          refine pw_getf e_Bus_startTrialBy_53 fl_Bus_51 (gO_get hnd (i := 29) rfl) rfl ?_
          refine pw_iload_n e_Bus_startTrialBy_56 rfl ?_
          refine pw_iconst (v := nI 0) e_Bus_startTrialBy_57 (by decide) ?_
          refine pw_aload_n e_Bus_startTrialBy_58 rfl ?_
          refine pw_getf e_Bus_startTrialBy_59 fl_Bus_23 (gO_get hnd (i := 29) rfl) rfl ?_
          refine pw_getf e_Bus_startTrialBy_62 fl_Bus_236 (gO_get hnd (i := 0) rfl) rfl ?_
          refine pw_detV (As := [.int (nI (c - 1)), .int (nI (0)), .int (P 30 2)]) e_Bus_startTrialBy_65 li_Bus_239 rfl (gO_get hnd (i := 51) rfl) (q_State_switchDevice hst (bs_ne hnd (i := 51) (j := 52) rfl rfl (by decide)) (nI (c - 1)) 0 (P 30 2) ((va_up Z 501 (Z 302)) 501) (gO_get hnd (i := 52) rfl)) rfl (by decide) (Nat.le_of_ble_eq_true rfl) rfl ?_
          refine pw_upG (i := 52) hnd (bs_x _ _ _ _ _) rfl rfl ?_
          refine pw_iconst (v := nI 1) e_Bus_startTrialBy_68 (by decide) ?_
          refine pw_iret e_Bus_startTrialBy_69 rfl (by decide) ?_
          rw [f_Bus_startTrialBy, if_pos H1, if_neg (Nat.not_le.mpr H2), if_neg H5, if_neg H6] at hk
          exact hk
        · refine pw_iconst (v := nI 0) e_Bus_startTrialBy_50 (by decide) ?_
          refine pw_iret e_Bus_startTrialBy_51 rfl (by decide) ?_
          rw [f_Bus_startTrialBy, if_pos H1, if_neg (Nat.not_le.mpr H2), if_neg H5, if_pos H6] at hk
          exact hk
  · refine pw_iconst (v := nI 1) e_Bus_startTrialBy_19 (by decide) ?_
    refine pw_iret e_Bus_startTrialBy_20 rfl (by decide) ?_
    rw [f_Bus_startTrialBy, if_neg (Nat.not_le.mpr H1)] at hk
    exact hk
theorem q_Bus_startTrialBy {g : GG} {h : Hp} (hst : (gl g).stackTraces = false) {A : Nat → Nat} {S : SA} {P Y : Nat → Nat → Int32} (hnd : (gK (bsL g A S P Y)).Nodup) (hw : wfP P) (c : Nat) (hc10 : c < 10)  (Z : Nat → Nat → Int32) (hm : ∀ q ∈ gO (bsL g A S P Y) Z, h q.1 = some q.2) : PM g M_Bus_startTrialBy 3 0 0 [.ref (A 507), .int (nI (c))] h (RetV (some (.int (f_Bus_startTrialBy P c Z).1)) (ov h (gO (bsL g A S P Y) ((f_Bus_startTrialBy P c Z).2)))) := by
  refine PM.of hst (by decide) rfl (fun v hv => ?_) (Nat.le_of_ble_eq_true rfl) ?_
  · simp only [List.mem_cons, List.not_mem_nil, or_false] at hv; rcases hv with rfl | rfl <;> rfl
  · have hq := w_Bus_startTrialBy_0 (g := g) (Q := RetV (some (.int (f_Bus_startTrialBy P c Z).1)) (ov h (gO (bsL g A S P Y) ((f_Bus_startTrialBy P c Z).2)))) (h := h) (kc := 0) (ks := 0) hst hnd hw c hc10 Z ?_
    · rw [ov_self hm] at hq; exact hq
    · exact ⟨rfl, rfl⟩

theorem stb_keep (P : Nat → Nat → Int32) (c : Nat) (Z : Nat → Nat → Int32) {k : Nat} (hk : k ≠ 501) : (f_Bus_startTrialBy P c Z).2 k = Z k := by
  rw [f_Bus_startTrialBy]
  repeat' split
  all_goals simp only [va_up, hk, if_false]
theorem q_fur {g : GG} {h : Hp} (hst : (gl g).stackTraces = false) {A : Nat → Nat} {S : SA} {P Y Z : Nat → Nat → Int32} (hnd : (gK (bsL g A S P Y)).Nodup) (hN : NtI Z) : PM g M_Noted_furthest 1 0 0 [.ref (A 310)] (ov h (gO (bsL g A S P Y) Z)) (RetV (some (.int (nI (furN Z)))) (ov h (gO (bsL g A S P Y) Z))) := by
  rw [← (fur_of hN).1]
  exact q_Noted_furthest (ad := fun i => A (310 + i)) hst (fun k => Z (310 + k)) (gO_inS hnd (bs_nt_l _ _ _ _ _)) (pN Z 310 0) hN.1.2 hN.1.1
def f_Bus_trialIsAsNoted_13 (P : Nat → Nat → Int32) : Nat → (Nat → Nat → Int32) → (Nat) → (Nat) → Int32 × (Nat → Nat → Int32)
  | 0, Z, _, _ => (0, Z)
  | t + 1, Z, u, k => if u < k then (1, Z) else if (f_Noted_isSo (fun k => (va_up Z 501 (f_Cycle_goBy P (Z 501))) (310 + k)) (pN Z 310 0) ((va_up Z 501 (f_Cycle_goBy P (Z 501))) 501) (nI (k))) = 0 then (0, va_up Z 501 (f_Cycle_goBy P (Z 501))) else f_Bus_trialIsAsNoted_13 P t (va_up Z 501 (f_Cycle_goBy P (Z 501))) u (k + 1)
set_option maxRecDepth 4000 in
theorem w_Bus_trialIsAsNoted_13 {g : GG} {Q : QT} {h : Hp} {kc ks : Nat} (hst : (gl g).stackTraces = false) {A : Nat → Nat} {S : SA} {P Y : Nat → Nat → Int32} (hnd : (gK (bsL g A S P Y)).Nodup) (hw : wfP P)  (t : Nat) : ∀ (Z : Nat → Nat → Int32) (u : Nat) (k : Nat) (hN : NtI Z) (hu : u < 21) (hk1 : 1 ≤ k ∧ k ≤ u + 1) (hlt : 21 - k < t) (hk : Q (.inl (some (.int (f_Bus_trialIsAsNoted_13 P t Z u k).1))) (ov h (gO (bsL g A S P Y) ((f_Bus_trialIsAsNoted_13 P t Z u k).2)))), PW g M_Bus_trialIsAsNoted 5 kc ks Q 13 [.ref (A 507), .int (nI (u)), .int (nI (k))] [] (ov h (gO (bsL g A S P Y) Z)) := by
  induction t with
  | zero => intro Z u k hN hu hk1 hlt _; exact absurd hlt (Nat.not_lt_zero _)
  | succ t ih =>
    intro Z u k hN hu hk1 hlt hk
    have hz0 := hw.blk.2
    have hz1 := hw.lnk.2
    have hz2 := hw.dvs.2
    refine pw_iload_n e_Bus_trialIsAsNoted_13 rfl ?_
    refine pw_iload_n e_Bus_trialIsAsNoted_14 rfl ?_
    refine pw_icmp_gtN (tgt := 61) e_Bus_trialIsAsNoted_15 (by decide) (by omega) (by omega) (fun (H1 : u < k) => ?_) (fun (H1 : k ≤ u) => ?_)
    · refine pw_iconst (v := nI 1) e_Bus_trialIsAsNoted_61 (by decide) ?_
      refine pw_iret e_Bus_trialIsAsNoted_62 rfl (by decide) ?_
      rw [f_Bus_trialIsAsNoted_13, if_pos H1] at hk
      exact hk
    · refine pw_aload_n e_Bus_trialIsAsNoted_18 rfl ?_
      refine pw_getf e_Bus_trialIsAsNoted_19 fl_Bus_23 (gO_get hnd (i := 29) rfl) rfl ?_
      refine pw_aload_n e_Bus_trialIsAsNoted_22 rfl ?_
      refine pw_getf e_Bus_trialIsAsNoted_23 fl_Bus_51 (gO_get hnd (i := 29) rfl) rfl ?_
      refine pw_getf e_Bus_trialIsAsNoted_26 fl_Bus_127 (gO_get hnd (i := 51) rfl) rfl ?_
      refine pw_detS (As := [.ref (A 30), .ref (A 501)]) e_Bus_trialIsAsNoted_29 li_Bus_269 (q_Cycle_goBy hst (bs_planU hnd (j := 52) rfl (by decide)) hw (Z 501) (gO_get hnd (i := 52) rfl)) rfl (by decide) (Nat.le_of_ble_eq_true rfl) rfl ?_
      refine pw_upG (i := 52) hnd (bs_x _ _ _ _ _) rfl rfl ?_
      refine pw_aload_n e_Bus_trialIsAsNoted_32 rfl ?_
      refine pw_getf e_Bus_trialIsAsNoted_33 fl_Bus_37 (gO_get hnd (i := 29) rfl) rfl ?_
      refine pw_getf e_Bus_trialIsAsNoted_36 fl_Bus_120 (gO_get hnd (i := 31) rfl) rfl ?_
      refine pw_aload_n e_Bus_trialIsAsNoted_39 rfl ?_
      refine pw_getf e_Bus_trialIsAsNoted_40 fl_Bus_51 (gO_get hnd (i := 29) rfl) rfl ?_
      refine pw_getf e_Bus_trialIsAsNoted_43 fl_Bus_127 (gO_get hnd (i := 51) rfl) rfl ?_
      refine pw_iload_n e_Bus_trialIsAsNoted_46 rfl ?_
      refine pw_detV (As := [.ref (A 501), .int (nI (k))]) e_Bus_trialIsAsNoted_47 li_Bus_308 rfl (gO_get hnd (i := 36) rfl) (q_Noted_isSo (ad := fun i => A (310 + i)) hst (fun k => (va_up Z 501 (f_Cycle_goBy P (Z 501))) (310 + k)) (gO_inS hnd (bs_nt_l _ _ _ _ _)) (pN Z 310 0) hN.1.2 hN.1.1 hN.2.1 ((va_up Z 501 (f_Cycle_goBy P (Z 501))) 501) (gO_get hnd (i := 52) rfl) (nI (k))) rfl (by decide) (Nat.le_of_ble_eq_true rfl) rfl ?_
      refine pw_if_ne (tgt := 55) e_Bus_trialIsAsNoted_50 (by decide) (fun (H2 : ¬ (f_Noted_isSo (fun k => (va_up Z 501 (f_Cycle_goBy P (Z 501))) (310 + k)) (pN Z 310 0) ((va_up Z 501 (f_Cycle_goBy P (Z 501))) 501) (nI (k))) = 0) => ?_) (fun (H2 : (f_Noted_isSo (fun k => (va_up Z 501 (f_Cycle_goBy P (Z 501))) (310 + k)) (pN Z 310 0) ((va_up Z 501 (f_Cycle_goBy P (Z 501))) 501) (nI (k))) = 0) => ?_)
      · refine pw_iincN (ls2 := [_, _, _]) e_Bus_trialIsAsNoted_55 rfl (by decide) rfl ?_
        refine pw_goto (tgt := 13) e_Bus_trialIsAsNoted_58 (by decide) ?_
        refine ih (va_up Z 501 (f_Cycle_goBy P (Z 501))) u (k + 1) (hN.of rfl rfl rfl) (by omega) (by omega) (by omega) ?_
        rw [f_Bus_trialIsAsNoted_13, if_neg (Nat.not_lt.mpr H1), if_neg H2] at hk
        exact hk
      · refine pw_iconst (v := nI 0) e_Bus_trialIsAsNoted_53 (by decide) ?_
        refine pw_iret e_Bus_trialIsAsNoted_54 rfl (by decide) ?_
        rw [f_Bus_trialIsAsNoted_13, if_neg (Nat.not_lt.mpr H1), if_pos H2] at hk
        exact hk
def f_Bus_trialIsAsNoted (P : Nat → Nat → Int32) (Z : Nat → Nat → Int32) : Int32 × (Nat → Nat → Int32) :=
  f_Bus_trialIsAsNoted_13 P 22 Z (furN Z) 1
set_option maxRecDepth 4000 in
theorem w_Bus_trialIsAsNoted_0 {g : GG} {Q : QT} {h : Hp} {kc ks : Nat} (hst : (gl g).stackTraces = false) {A : Nat → Nat} {S : SA} {P Y : Nat → Nat → Int32} (hnd : (gK (bsL g A S P Y)).Nodup) (hw : wfP P)  (Z : Nat → Nat → Int32) (hN : NtI Z) (hk : Q (.inl (some (.int (f_Bus_trialIsAsNoted P Z).1))) (ov h (gO (bsL g A S P Y) ((f_Bus_trialIsAsNoted P Z).2)))) : PW g M_Bus_trialIsAsNoted 5 kc ks Q 0 [.ref (A 507), .retAddr 0, .retAddr 0] [] (ov h (gO (bsL g A S P Y) Z)) := by
  have hz0 := hw.blk.2
  have hz1 := hw.lnk.2
  have hz2 := hw.dvs.2
  refine pw_aload_n e_Bus_trialIsAsNoted_0 rfl ?_
  refine pw_getf e_Bus_trialIsAsNoted_1 fl_Bus_37 (gO_get hnd (i := 29) rfl) rfl ?_
  refine pw_getf e_Bus_trialIsAsNoted_4 fl_Bus_120 (gO_get hnd (i := 31) rfl) rfl ?_
  have hbf := (fur_of hN).2
  refine pw_detV (As := []) e_Bus_trialIsAsNoted_7 li_Bus_305 rfl (gO_get hnd (i := 36) rfl) (q_fur hst hnd hN) rfl (by decide) (Nat.le_of_ble_eq_true rfl) rfl ?_
  refine pw_istore_n (ls2 := [_, _, _]) e_Bus_trialIsAsNoted_10 (by decide) rfl ?_
  refine pw_iconst (v := nI 1) e_Bus_trialIsAsNoted_11 (by decide) ?_
  refine pw_istore_n (ls2 := [_, _, _]) e_Bus_trialIsAsNoted_12 (by decide) rfl ?_
  refine w_Bus_trialIsAsNoted_13 hst hnd hw 22 Z (furN Z) 1 hN (by omega) (by omega) (by omega) ?_
  rw [f_Bus_trialIsAsNoted] at hk
  exact hk
theorem q_Bus_trialIsAsNoted {g : GG} {h : Hp} (hst : (gl g).stackTraces = false) {A : Nat → Nat} {S : SA} {P Y : Nat → Nat → Int32} (hnd : (gK (bsL g A S P Y)).Nodup) (hw : wfP P)  (Z : Nat → Nat → Int32) (hm : ∀ q ∈ gO (bsL g A S P Y) Z, h q.1 = some q.2) (hN : NtI Z) : PM g M_Bus_trialIsAsNoted 5 0 0 [.ref (A 507)] h (RetV (some (.int (f_Bus_trialIsAsNoted P Z).1)) (ov h (gO (bsL g A S P Y) ((f_Bus_trialIsAsNoted P Z).2)))) := by
  refine PM.of hst (by decide) rfl (fun v hv => ?_) (Nat.le_of_ble_eq_true rfl) ?_
  · simp only [List.mem_cons, List.not_mem_nil, or_false] at hv; rcases hv with rfl <;> rfl
  · have hq := w_Bus_trialIsAsNoted_0 (g := g) (Q := RetV (some (.int (f_Bus_trialIsAsNoted P Z).1)) (ov h (gO (bsL g A S P Y) ((f_Bus_trialIsAsNoted P Z).2)))) (h := h) (kc := 0) (ks := 0) hst hnd hw Z hN ?_
    · rw [ov_self hm] at hq; exact hq
    · exact ⟨rfl, rfl⟩

theorem tia_keep (P : Nat → Nat → Int32) (Z : Nat → Nat → Int32) {k : Nat} (hk : k ≠ 501) : (f_Bus_trialIsAsNoted P Z).2 k = Z k := by
  have key : ∀ (t : Nat) (Z : Nat → Nat → Int32) (u i : Nat), (f_Bus_trialIsAsNoted_13 P t Z u i).2 k = Z k := by
    intro t
    induction t with
    | zero => intro Z u i; rfl
    | succ t ih =>
      intro Z u i
      rw [f_Bus_trialIsAsNoted_13]
      repeat' split
      all_goals first | rfl | (rw [ih]; simp only [va_up, hk, if_false]) | simp only [va_up, hk, if_false]
  exact key _ _ _ _
theorem NtI.stb {P : Nat → Nat → Int32} {c : Nat} {Z : Nat → Nat → Int32} (h : NtI Z) : NtI (f_Bus_startTrialBy P c Z).2 := h.of (stb_keep P c Z (by decide)) (stb_keep P c Z (by decide)) (stb_keep P c Z (by decide))
theorem NtI.tia {P : Nat → Nat → Int32} {Z : Nat → Nat → Int32} (h : NtI Z) : NtI (f_Bus_trialIsAsNoted P Z).2 := h.of (tia_keep P Z (by decide)) (tia_keep P Z (by decide)) (tia_keep P Z (by decide))
def f_Bus_fits_4 (P : Nat → Nat → Int32) : Nat → (Nat → Nat → Int32) → (Int32) → (Nat) → Int32 × (Nat → Nat → Int32)
  | 0, Z, _, _ => (0, Z)
  | t + 1, Z, u, c => if 10 ≤ c then (u, Z) else if ((f_Bus_startTrialBy P c Z).1) = 0 then f_Bus_fits_4 P t ((f_Bus_startTrialBy P c Z).2) u (c + 1) else if ((f_Bus_trialIsAsNoted P ((f_Bus_startTrialBy P c Z).2)).1) = 0 then f_Bus_fits_4 P t ((f_Bus_trialIsAsNoted P ((f_Bus_startTrialBy P c Z).2)).2) u (c + 1) else f_Bus_fits_4 P t ((f_Bus_trialIsAsNoted P ((f_Bus_startTrialBy P c Z).2)).2) (u ||| ((1 : Int32) <<< ((nI (c)) &&& 31))) (c + 1)
set_option maxRecDepth 4000 in
theorem w_Bus_fits_4 {g : GG} {Q : QT} {h : Hp} {kc ks : Nat} (hst : (gl g).stackTraces = false) {A : Nat → Nat} {S : SA} {P Y : Nat → Nat → Int32} (hnd : (gK (bsL g A S P Y)).Nodup) (hw : wfP P)  (t : Nat) : ∀ (Z : Nat → Nat → Int32) (u : Int32) (c : Nat) (hN : NtI Z) (hc9 : c ≤ 10) (hlt : 10 - c < t) (hk : Q (.inl (some (.int (f_Bus_fits_4 P t Z u c).1))) (ov h (gO (bsL g A S P Y) ((f_Bus_fits_4 P t Z u c).2)))), PW g M_Bus_fits 6 kc ks Q 4 [.ref (A 507), .int (u), .int (nI (c))] [] (ov h (gO (bsL g A S P Y) Z)) := by
  induction t with
  | zero => intro Z u c hN hc9 hlt _; exact absurd hlt (Nat.not_lt_zero _)
  | succ t ih =>
    intro Z u c hN hc9 hlt hk
    have hz0 := hw.blk.2
    have hz1 := hw.lnk.2
    have hz2 := hw.dvs.2
    refine pw_iload_n e_Bus_fits_4 rfl ?_
    refine pw_bipush (v := nI 10) e_Bus_fits_5 (by decide) ?_
    refine pw_icmp_geN (tgt := 37) e_Bus_fits_7 (by decide) (by omega) (by omega) (fun (H1 : 10 ≤ c) => ?_) (fun (H1 : c < 10) => ?_)
    · refine pw_iload_n e_Bus_fits_37 rfl ?_
      refine pw_iret e_Bus_fits_38 rfl rfl ?_
      rw [f_Bus_fits_4, if_pos H1] at hk
      exact hk
    · refine pw_aload_n e_Bus_fits_10 rfl ?_
      refine pw_iload_n e_Bus_fits_11 rfl ?_
      refine pw_detV (As := [.int (nI (c))]) e_Bus_fits_12 li_Bus_295 rfl (gO_get hnd (i := 29) rfl) (q_Bus_startTrialBy hst hnd hw c (by omega) Z (gO_in hnd (fun _ z => z))) rfl (by decide) (Nat.le_of_ble_eq_true rfl) rfl ?_
      refine pw_sameG hnd ?_
      refine pw_if_eq (tgt := 31) e_Bus_fits_15 (by decide) (fun (H2 : ((f_Bus_startTrialBy P c Z).1) = 0) => ?_) (fun (H2 : ¬ ((f_Bus_startTrialBy P c Z).1) = 0) => ?_)
      · refine pw_iincN (ls2 := [_, _, _]) e_Bus_fits_31 rfl (by decide) rfl ?_
        refine pw_goto (tgt := 4) e_Bus_fits_34 (by decide) ?_
        refine ih ((f_Bus_startTrialBy P c Z).2) u (c + 1) hN.stb (by omega) (by omega) ?_
        rw [f_Bus_fits_4, if_neg (Nat.not_le.mpr H1), if_pos H2] at hk
        exact hk
      · refine pw_aload_n e_Bus_fits_18 rfl ?_
        refine pw_detV (As := []) e_Bus_fits_19 li_Bus_298 rfl (gO_get hnd (i := 29) rfl) (q_Bus_trialIsAsNoted hst hnd hw ((f_Bus_startTrialBy P c Z).2) (gO_in hnd (fun _ z => z)) hN.stb) rfl (by decide) (Nat.le_of_ble_eq_true rfl) rfl ?_
        refine pw_sameG hnd ?_
        refine pw_if_eq (tgt := 31) e_Bus_fits_22 (by decide) (fun (H3 : ((f_Bus_trialIsAsNoted P ((f_Bus_startTrialBy P c Z).2)).1) = 0) => ?_) (fun (H3 : ¬ ((f_Bus_trialIsAsNoted P ((f_Bus_startTrialBy P c Z).2)).1) = 0) => ?_)
        · refine pw_iincN (ls2 := [_, _, _]) e_Bus_fits_31 rfl (by decide) rfl ?_
          refine pw_goto (tgt := 4) e_Bus_fits_34 (by decide) ?_
          refine ih ((f_Bus_trialIsAsNoted P ((f_Bus_startTrialBy P c Z).2)).2) u (c + 1) hN.stb.tia (by omega) (by omega) ?_
          rw [f_Bus_fits_4, if_neg (Nat.not_le.mpr H1), if_neg H2, if_pos H3] at hk
          exact hk
        · refine pw_iload_n e_Bus_fits_25 rfl ?_
          refine pw_iconst (v := nI 1) e_Bus_fits_26 (by decide) ?_
          refine pw_iload_n e_Bus_fits_27 rfl ?_
          refine pw_ishl e_Bus_fits_28 ?_
          refine pw_ior e_Bus_fits_29 ?_
          refine pw_istore_n (ls2 := [_, _, _]) e_Bus_fits_30 (by decide) rfl ?_
          refine pw_iincN (ls2 := [_, _, _]) e_Bus_fits_31 rfl (by decide) rfl ?_
          refine pw_goto (tgt := 4) e_Bus_fits_34 (by decide) ?_
          refine ih ((f_Bus_trialIsAsNoted P ((f_Bus_startTrialBy P c Z).2)).2) (u ||| ((1 : Int32) <<< ((nI (c)) &&& 31))) (c + 1) hN.stb.tia (by omega) (by omega) ?_
          rw [f_Bus_fits_4, if_neg (Nat.not_le.mpr H1), if_neg H2, if_neg H3] at hk
          exact hk
def f_Bus_fits (P : Nat → Nat → Int32) (Z : Nat → Nat → Int32) : Int32 × (Nat → Nat → Int32) :=
  f_Bus_fits_4 P 11 Z 0 0
set_option maxRecDepth 4000 in
theorem w_Bus_fits_0 {g : GG} {Q : QT} {h : Hp} {kc ks : Nat} (hst : (gl g).stackTraces = false) {A : Nat → Nat} {S : SA} {P Y : Nat → Nat → Int32} (hnd : (gK (bsL g A S P Y)).Nodup) (hw : wfP P)  (Z : Nat → Nat → Int32) (hN : NtI Z) (hk : Q (.inl (some (.int (f_Bus_fits P Z).1))) (ov h (gO (bsL g A S P Y) ((f_Bus_fits P Z).2)))) : PW g M_Bus_fits 6 kc ks Q 0 [.ref (A 507), .retAddr 0, .retAddr 0] [] (ov h (gO (bsL g A S P Y) Z)) := by
  have hz0 := hw.blk.2
  have hz1 := hw.lnk.2
  have hz2 := hw.dvs.2
  refine pw_iconst (v := nI 0) e_Bus_fits_0 (by decide) ?_
  refine pw_istore_n (ls2 := [_, _, _]) e_Bus_fits_1 (by decide) rfl ?_
  refine pw_iconst (v := nI 0) e_Bus_fits_2 (by decide) ?_
  refine pw_istore_n (ls2 := [_, _, _]) e_Bus_fits_3 (by decide) rfl ?_
  refine w_Bus_fits_4 hst hnd hw 11 Z 0 0 hN (by omega) (by omega) ?_
  rw [f_Bus_fits] at hk
  exact hk
theorem q_Bus_fits {g : GG} {h : Hp} (hst : (gl g).stackTraces = false) {A : Nat → Nat} {S : SA} {P Y : Nat → Nat → Int32} (hnd : (gK (bsL g A S P Y)).Nodup) (hw : wfP P)  (Z : Nat → Nat → Int32) (hm : ∀ q ∈ gO (bsL g A S P Y) Z, h q.1 = some q.2) (hN : NtI Z) : PM g M_Bus_fits 6 0 0 [.ref (A 507)] h (RetV (some (.int (f_Bus_fits P Z).1)) (ov h (gO (bsL g A S P Y) ((f_Bus_fits P Z).2)))) := by
  refine PM.of hst (by decide) rfl (fun v hv => ?_) (Nat.le_of_ble_eq_true rfl) ?_
  · simp only [List.mem_cons, List.not_mem_nil, or_false] at hv; rcases hv with rfl <;> rfl
  · have hq := w_Bus_fits_0 (g := g) (Q := RetV (some (.int (f_Bus_fits P Z).1)) (ov h (gO (bsL g A S P Y) ((f_Bus_fits P Z).2)))) (h := h) (kc := 0) (ks := 0) hst hnd hw Z hN ?_
    · rw [ov_self hm] at hq; exact hq
    · exact ⟨rfl, rfl⟩

def f_Bus_gatherModes_57 (P : Nat → Nat → Int32) (x : Int32) : Nat → (Nat → Nat → Int32) → (Nat) → (Nat) → (Nat → Nat → Int32)
  | 0, Z, _, _ => Z
  | t + 1, Z, c, b => if (pN P 30 3) ≤ b then Z else f_Bus_gatherModes_57 P x t (u2 Z 505 b (((Z 505) b) ||| ((1 : Int32) <<< (((Z 501) ((b * 9) + 1)) &&& 31)))) c (b + 1)
set_option maxRecDepth 4000 in
theorem w_Bus_gatherModes_57 {g : GG} {Q : QT} {h : Hp} {kc ks : Nat} (hst : (gl g).stackTraces = false) {A : Nat → Nat} {S : SA} {P Y : Nat → Nat → Int32} (hnd : (gK (bsL g A S P Y)).Nodup) (hw : wfP P) (x : Int32)  (t : Nat) : ∀ (Z : Nat → Nat → Int32) (c : Nat) (b : Nat) (hb9 : b ≤ pN P 30 3) (hlt : pN P 30 3 - b < t) (hk : PW g M_Bus_gatherModes 6 kc ks Q 99 [.ref (A 507), .int (x), .int (nI (c)), .retAddr 0] [] (ov h (gO (bsL g A S P Y) (f_Bus_gatherModes_57 P x t Z c b)))), PW g M_Bus_gatherModes 6 kc ks Q 57 [.ref (A 507), .int (x), .int (nI (c)), .int (nI (b))] [] (ov h (gO (bsL g A S P Y) Z)) := by
  induction t with
  | zero => intro Z c b hb9 hlt _; exact absurd hlt (Nat.not_lt_zero _)
  | succ t ih =>
    intro Z c b hb9 hlt hk
    have hz0 := hw.blk.2
    have hz1 := hw.lnk.2
    have hz2 := hw.dvs.2
    refine pw_iload_n e_Bus_gatherModes_57 rfl ?_
    refine pw_aload_n e_Bus_gatherModes_58 rfl ?_
    refine pw_getf e_Bus_gatherModes_59 fl_Bus_23 (gO_get hnd (i := 29) rfl) rfl ?_
    refine pw_getf e_Bus_gatherModes_62 fl_Bus_133 (gO_get hnd (i := 0) rfl) rfl ?_
    rw [hw.blk.1]
    refine pw_icmp_geN (tgt := 99) e_Bus_gatherModes_65 (by decide) (by omega) (by omega) (fun (H1 : (pN P 30 3) ≤ b) => ?_) (fun (H1 : b < (pN P 30 3)) => ?_)
    · refine pw_fgt (ls' := [.ref (A 507), .int (x), .int (nI (c)), .retAddr 0]) ⟨Or.inr rfl, Or.inr rfl, Or.inr rfl, Or.inl rfl, trivial⟩ ?_
      rw [f_Bus_gatherModes_57, if_pos H1] at hk
      exact hk
    · refine pw_aload_n e_Bus_gatherModes_68 rfl ?_
      refine pw_getf e_Bus_gatherModes_69 fl_Bus_72 (gO_get hnd (i := 29) rfl) rfl ?_
      refine pw_iload_n e_Bus_gatherModes_72 rfl ?_
      refine pw_dup2 e_Bus_gatherModes_73 rfl rfl ?_
      refine pw_ialdN e_Bus_gatherModes_74 (gO_get hnd (i := 64) rfl) (by omega) (by decide) ?_
      refine pw_iconst (v := nI 1) e_Bus_gatherModes_75 (by decide) ?_
      refine pw_aload_n e_Bus_gatherModes_76 rfl ?_
      refine pw_getf e_Bus_gatherModes_77 fl_Bus_51 (gO_get hnd (i := 29) rfl) rfl ?_
      refine pw_getf e_Bus_gatherModes_80 fl_Bus_127 (gO_get hnd (i := 51) rfl) rfl ?_
      refine pw_iload_n e_Bus_gatherModes_83 rfl ?_
      refine pw_bipush (v := nI 9) e_Bus_gatherModes_84 (by decide) ?_
      refine pw_imulN e_Bus_gatherModes_86 ?_
      refine pw_iconst (v := nI 1) e_Bus_gatherModes_87 (by decide) ?_
      refine pw_iaddN e_Bus_gatherModes_88 ?_
      refine pw_ialdN e_Bus_gatherModes_89 (gO_get hnd (i := 52) rfl) (by omega) (by decide) ?_
      refine pw_ishl e_Bus_gatherModes_90 ?_
      refine pw_ior e_Bus_gatherModes_91 ?_
      refine pw_iastG (i := 64) e_Bus_gatherModes_92 hnd (bs_x _ _ _ _ _) rfl (by omega) (by decide) ?_
      refine pw_iincN (ls2 := [_, _, _, _]) e_Bus_gatherModes_93 rfl (by decide) rfl ?_
      refine pw_goto (tgt := 57) e_Bus_gatherModes_96 (by decide) ?_
      refine ih (u2 Z 505 b (((Z 505) b) ||| ((1 : Int32) <<< (((Z 501) ((b * 9) + 1)) &&& 31)))) c (b + 1) (by omega) (by omega) ?_
      rw [f_Bus_gatherModes_57, if_neg (Nat.not_le.mpr H1)] at hk
      exact hk
def f_Bus_gatherModes_23 (P : Nat → Nat → Int32) (x : Int32) : Nat → (Nat → Nat → Int32) → (Nat) → (Nat → Nat → Int32)
  | 0, Z, _ => Z
  | t + 1, Z, c => if 10 ≤ c then Z else if (f_Bus_hasBit x (nI (c))) = 0 then f_Bus_gatherModes_23 P x t Z (c + 1) else if ((f_Bus_startTrialBy P c Z).1) = 0 then f_Bus_gatherModes_23 P x t ((f_Bus_startTrialBy P c Z).2) (c + 1) else f_Bus_gatherModes_23 P x t (f_Bus_gatherModes_57 P x 11 (va_up ((f_Bus_startTrialBy P c Z).2) 501 (f_Bus_passCycles P 8 (((f_Bus_startTrialBy P c Z).2) 501))) c 0) (c + 1)
set_option maxRecDepth 4000 in
theorem w_Bus_gatherModes_23 {g : GG} {Q : QT} {h : Hp} {kc ks : Nat} (hst : (gl g).stackTraces = false) {A : Nat → Nat} {S : SA} {P Y : Nat → Nat → Int32} (hnd : (gK (bsL g A S P Y)).Nodup) (hw : wfP P) (x : Int32)  (t : Nat) : ∀ (Z : Nat → Nat → Int32) (c : Nat) (hc9 : c ≤ 10) (hlt : 10 - c < t) (hk : PW g M_Bus_gatherModes 6 kc ks Q 105 [.ref (A 507), .int (x), .retAddr 0, .retAddr 0] [] (ov h (gO (bsL g A S P Y) (f_Bus_gatherModes_23 P x t Z c)))), PW g M_Bus_gatherModes 6 kc ks Q 23 [.ref (A 507), .int (x), .int (nI (c)), .retAddr 0] [] (ov h (gO (bsL g A S P Y) Z)) := by
  induction t with
  | zero => intro Z c hc9 hlt _; exact absurd hlt (Nat.not_lt_zero _)
  | succ t ih =>
    intro Z c hc9 hlt hk
    have hz0 := hw.blk.2
    have hz1 := hw.lnk.2
    have hz2 := hw.dvs.2
    refine pw_iload_n e_Bus_gatherModes_23 rfl ?_
    refine pw_bipush (v := nI 10) e_Bus_gatherModes_24 (by decide) ?_
    refine pw_icmp_geN (tgt := 105) e_Bus_gatherModes_26 (by decide) (by omega) (by omega) (fun (H1 : 10 ≤ c) => ?_) (fun (H1 : c < 10) => ?_)
    · refine pw_fgt (ls' := [.ref (A 507), .int (x), .retAddr 0, .retAddr 0]) ⟨Or.inr rfl, Or.inr rfl, Or.inl rfl, Or.inr rfl, trivial⟩ ?_
      rw [f_Bus_gatherModes_23, if_pos H1] at hk
      exact hk
    · refine pw_iload_n e_Bus_gatherModes_29 rfl ?_
      refine pw_iload_n e_Bus_gatherModes_30 rfl ?_
      refine pw_detS (As := [.int (x), .int (nI (c))]) e_Bus_gatherModes_31 li_Bus_323 (q_Bus_hasBit hst x (nI (c))) rfl (by decide) (Nat.le_of_ble_eq_true rfl) rfl ?_
      refine pw_if_eq (tgt := 99) e_Bus_gatherModes_34 (by decide) (fun (H2 : (f_Bus_hasBit x (nI (c))) = 0) => ?_) (fun (H2 : ¬ (f_Bus_hasBit x (nI (c))) = 0) => ?_)
      · refine pw_iincN (ls2 := [_, _, _, _]) e_Bus_gatherModes_99 rfl (by decide) rfl ?_
        refine pw_goto (tgt := 23) e_Bus_gatherModes_102 (by decide) ?_
        refine ih Z (c + 1) (by omega) (by omega) ?_
        rw [f_Bus_gatherModes_23, if_neg (Nat.not_le.mpr H1), if_pos H2] at hk
        exact hk
      · refine pw_aload_n e_Bus_gatherModes_37 rfl ?_
        refine pw_iload_n e_Bus_gatherModes_38 rfl ?_
        refine pw_detV (As := [.int (nI (c))]) e_Bus_gatherModes_39 li_Bus_295 rfl (gO_get hnd (i := 29) rfl) (q_Bus_startTrialBy hst hnd hw c (by omega) Z (gO_in hnd (fun _ z => z))) rfl (by decide) (Nat.le_of_ble_eq_true rfl) rfl ?_
        refine pw_sameG hnd ?_
        refine pw_if_eq (tgt := 99) e_Bus_gatherModes_42 (by decide) (fun (H3 : ((f_Bus_startTrialBy P c Z).1) = 0) => ?_) (fun (H3 : ¬ ((f_Bus_startTrialBy P c Z).1) = 0) => ?_)
        · refine pw_iincN (ls2 := [_, _, _, _]) e_Bus_gatherModes_99 rfl (by decide) rfl ?_
          refine pw_goto (tgt := 23) e_Bus_gatherModes_102 (by decide) ?_
          refine ih ((f_Bus_startTrialBy P c Z).2) (c + 1) (by omega) (by omega) ?_
          rw [f_Bus_gatherModes_23, if_neg (Nat.not_le.mpr H1), if_neg H2, if_pos H3] at hk
          exact hk
        · refine pw_aload_n e_Bus_gatherModes_45 rfl ?_
          refine pw_aload_n e_Bus_gatherModes_46 rfl ?_
          refine pw_getf e_Bus_gatherModes_47 fl_Bus_51 (gO_get hnd (i := 29) rfl) rfl ?_
          refine pw_bipush (v := nI 8) e_Bus_gatherModes_50 (by decide) ?_
          refine pw_detV (As := [.ref (A 500), .int (nI (8))]) e_Bus_gatherModes_52 li_Bus_249 rfl (gO_get hnd (i := 29) rfl) (q_Bus_passCycles hst (bs_ne hnd (i := 29) (j := 52) rfl rfl (by decide)) (bs_ne hnd (i := 51) (j := 52) rfl rfl (by decide)) (bs_planU hnd (j := 52) rfl (by decide)) hw 8 (by omega) (((f_Bus_startTrialBy P c Z).2) 501) (gO_get hnd (i := 52) rfl)) rfl (by decide) (Nat.le_of_ble_eq_true rfl) rfl ?_
          refine pw_upG (i := 52) hnd (bs_x _ _ _ _ _) rfl rfl ?_
          refine pw_iconst (v := nI 0) e_Bus_gatherModes_55 (by decide) ?_
          refine pw_istore_n (ls2 := [_, _, _, _]) e_Bus_gatherModes_56 (by decide) rfl ?_
          refine w_Bus_gatherModes_57 hst hnd hw x 11 (va_up ((f_Bus_startTrialBy P c Z).2) 501 (f_Bus_passCycles P 8 (((f_Bus_startTrialBy P c Z).2) 501))) c 0 (by omega) (by omega) ?_
          refine pw_iincN (ls2 := [_, _, _, _]) e_Bus_gatherModes_99 rfl (by decide) rfl ?_
          refine pw_goto (tgt := 23) e_Bus_gatherModes_102 (by decide) ?_
          refine ih (f_Bus_gatherModes_57 P x 11 (va_up ((f_Bus_startTrialBy P c Z).2) 501 (f_Bus_passCycles P 8 (((f_Bus_startTrialBy P c Z).2) 501))) c 0) (c + 1) (by omega) (by omega) ?_
          rw [f_Bus_gatherModes_23, if_neg (Nat.not_le.mpr H1), if_neg H2, if_neg H3] at hk
          exact hk
def f_Bus_gatherModes_2 (P : Nat → Nat → Int32) (x : Int32) : Nat → (Nat → Nat → Int32) → (Nat) → (Nat → Nat → Int32)
  | 0, Z, _ => Z
  | t + 1, Z, b => if 10 ≤ b then Z else f_Bus_gatherModes_2 P x t (u2 Z 505 b 0) (b + 1)
set_option maxRecDepth 4000 in
theorem w_Bus_gatherModes_2 {g : GG} {Q : QT} {h : Hp} {kc ks : Nat} (hst : (gl g).stackTraces = false) {A : Nat → Nat} {S : SA} {P Y : Nat → Nat → Int32} (hnd : (gK (bsL g A S P Y)).Nodup) (hw : wfP P) (x : Int32)  (t : Nat) : ∀ (Z : Nat → Nat → Int32) (b : Nat) (hb9 : b ≤ 10) (hlt : 10 - b < t) (hk : PW g M_Bus_gatherModes 6 kc ks Q 21 [.ref (A 507), .int (x), .retAddr 0, .retAddr 0] [] (ov h (gO (bsL g A S P Y) (f_Bus_gatherModes_2 P x t Z b)))), PW g M_Bus_gatherModes 6 kc ks Q 2 [.ref (A 507), .int (x), .int (nI (b)), .retAddr 0] [] (ov h (gO (bsL g A S P Y) Z)) := by
  induction t with
  | zero => intro Z b hb9 hlt _; exact absurd hlt (Nat.not_lt_zero _)
  | succ t ih =>
    intro Z b hb9 hlt hk
    have hz0 := hw.blk.2
    have hz1 := hw.lnk.2
    have hz2 := hw.dvs.2
    refine pw_iload_n e_Bus_gatherModes_2 rfl ?_
    refine pw_bipush (v := nI 10) e_Bus_gatherModes_3 (by decide) ?_
    refine pw_icmp_geN (tgt := 21) e_Bus_gatherModes_5 (by decide) (by omega) (by omega) (fun (H1 : 10 ≤ b) => ?_) (fun (H1 : b < 10) => ?_)
    · refine pw_fgt (ls' := [.ref (A 507), .int (x), .retAddr 0, .retAddr 0]) ⟨Or.inr rfl, Or.inr rfl, Or.inl rfl, Or.inr rfl, trivial⟩ ?_
      rw [f_Bus_gatherModes_2, if_pos H1] at hk
      exact hk
    · refine pw_aload_n e_Bus_gatherModes_8 rfl ?_
      refine pw_getf e_Bus_gatherModes_9 fl_Bus_72 (gO_get hnd (i := 29) rfl) rfl ?_
      refine pw_iload_n e_Bus_gatherModes_12 rfl ?_
      refine pw_iconst (v := nI 0) e_Bus_gatherModes_13 (by decide) ?_
      refine pw_iastG (i := 64) e_Bus_gatherModes_14 hnd (bs_x _ _ _ _ _) rfl (by omega) (by decide) ?_
      refine pw_iincN (ls2 := [_, _, _, _]) e_Bus_gatherModes_15 rfl (by decide) rfl ?_
      refine pw_goto (tgt := 2) e_Bus_gatherModes_18 (by decide) ?_
      refine ih (u2 Z 505 b 0) (b + 1) (by omega) (by omega) ?_
      rw [f_Bus_gatherModes_2, if_neg (Nat.not_le.mpr H1)] at hk
      exact hk
def f_Bus_gatherModes (P : Nat → Nat → Int32) (x : Int32) (Z : Nat → Nat → Int32) : (Nat → Nat → Int32) :=
  f_Bus_gatherModes_23 P x 11 (f_Bus_gatherModes_2 P x 11 Z 0) 0
set_option maxRecDepth 4000 in
theorem w_Bus_gatherModes_0 {g : GG} {Q : QT} {h : Hp} {kc ks : Nat} (hst : (gl g).stackTraces = false) {A : Nat → Nat} {S : SA} {P Y : Nat → Nat → Int32} (hnd : (gK (bsL g A S P Y)).Nodup) (hw : wfP P) (x : Int32)  (Z : Nat → Nat → Int32) (hk : Q (.inl none) (ov h (gO (bsL g A S P Y) (f_Bus_gatherModes P x Z)))) : PW g M_Bus_gatherModes 6 kc ks Q 0 [.ref (A 507), .int (x), .retAddr 0, .retAddr 0] [] (ov h (gO (bsL g A S P Y) Z)) := by
  have hz0 := hw.blk.2
  have hz1 := hw.lnk.2
  have hz2 := hw.dvs.2
  refine pw_iconst (v := nI 0) e_Bus_gatherModes_0 (by decide) ?_
  refine pw_istore_n (ls2 := [_, _, _, _]) e_Bus_gatherModes_1 (by decide) rfl ?_
  refine w_Bus_gatherModes_2 hst hnd hw x 11 Z 0 (by omega) (by omega) ?_
  refine pw_iconst (v := nI 0) e_Bus_gatherModes_21 (by decide) ?_
  refine pw_istore_n (ls2 := [_, _, _, _]) e_Bus_gatherModes_22 (by decide) rfl ?_
  refine w_Bus_gatherModes_23 hst hnd hw x 11 (f_Bus_gatherModes_2 P x 11 Z 0) 0 (by omega) (by omega) ?_
  refine pw_vret e_Bus_gatherModes_105 rfl ?_
  rw [f_Bus_gatherModes] at hk
  exact hk
theorem q_Bus_gatherModes {g : GG} {h : Hp} (hst : (gl g).stackTraces = false) {A : Nat → Nat} {S : SA} {P Y : Nat → Nat → Int32} (hnd : (gK (bsL g A S P Y)).Nodup) (hw : wfP P) (x : Int32)  (Z : Nat → Nat → Int32) (hm : ∀ q ∈ gO (bsL g A S P Y) Z, h q.1 = some q.2) : PM g M_Bus_gatherModes 6 0 0 [.ref (A 507), .int (x)] h (RetV none (ov h (gO (bsL g A S P Y) (f_Bus_gatherModes P x Z)))) := by
  refine PM.of hst (by decide) rfl (fun v hv => ?_) (Nat.le_of_ble_eq_true rfl) ?_
  · simp only [List.mem_cons, List.not_mem_nil, or_false] at hv; rcases hv with rfl | rfl <;> rfl
  · have hq := w_Bus_gatherModes_0 (g := g) (Q := RetV none (ov h (gO (bsL g A S P Y) (f_Bus_gatherModes P x Z)))) (h := h) (kc := 0) (ks := 0) hst hnd hw x Z ?_
    · rw [ov_self hm] at hq; exact hq
    · exact ⟨rfl, rfl⟩

def f_JInteger_bitCount (x : Int32) : Int32 :=
  (((((((x - (((x.toUInt32 >>> ((nI 1).toUInt32 &&& Int32.toUInt32 31)).toInt32) &&& 1431655765)) &&& 858993459) + ((((x - (((x.toUInt32 >>> ((nI 1).toUInt32 &&& Int32.toUInt32 31)).toInt32) &&& 1431655765)).toUInt32 >>> ((nI 2).toUInt32 &&& Int32.toUInt32 31)).toInt32) &&& 858993459)) + (((((x - (((x.toUInt32 >>> ((nI 1).toUInt32 &&& Int32.toUInt32 31)).toInt32) &&& 1431655765)) &&& 858993459) + ((((x - (((x.toUInt32 >>> ((nI 1).toUInt32 &&& Int32.toUInt32 31)).toInt32) &&& 1431655765)).toUInt32 >>> ((nI 2).toUInt32 &&& Int32.toUInt32 31)).toInt32) &&& 858993459)).toUInt32 >>> ((nI 4).toUInt32 &&& Int32.toUInt32 31)).toInt32)) &&& 252645135) + (((((((x - (((x.toUInt32 >>> ((nI 1).toUInt32 &&& Int32.toUInt32 31)).toInt32) &&& 1431655765)) &&& 858993459) + ((((x - (((x.toUInt32 >>> ((nI 1).toUInt32 &&& Int32.toUInt32 31)).toInt32) &&& 1431655765)).toUInt32 >>> ((nI 2).toUInt32 &&& Int32.toUInt32 31)).toInt32) &&& 858993459)) + (((((x - (((x.toUInt32 >>> ((nI 1).toUInt32 &&& Int32.toUInt32 31)).toInt32) &&& 1431655765)) &&& 858993459) + ((((x - (((x.toUInt32 >>> ((nI 1).toUInt32 &&& Int32.toUInt32 31)).toInt32) &&& 1431655765)).toUInt32 >>> ((nI 2).toUInt32 &&& Int32.toUInt32 31)).toInt32) &&& 858993459)).toUInt32 >>> ((nI 4).toUInt32 &&& Int32.toUInt32 31)).toInt32)) &&& 252645135).toUInt32 >>> ((nI 8).toUInt32 &&& Int32.toUInt32 31)).toInt32)) + ((((((((x - (((x.toUInt32 >>> ((nI 1).toUInt32 &&& Int32.toUInt32 31)).toInt32) &&& 1431655765)) &&& 858993459) + ((((x - (((x.toUInt32 >>> ((nI 1).toUInt32 &&& Int32.toUInt32 31)).toInt32) &&& 1431655765)).toUInt32 >>> ((nI 2).toUInt32 &&& Int32.toUInt32 31)).toInt32) &&& 858993459)) + (((((x - (((x.toUInt32 >>> ((nI 1).toUInt32 &&& Int32.toUInt32 31)).toInt32) &&& 1431655765)) &&& 858993459) + ((((x - (((x.toUInt32 >>> ((nI 1).toUInt32 &&& Int32.toUInt32 31)).toInt32) &&& 1431655765)).toUInt32 >>> ((nI 2).toUInt32 &&& Int32.toUInt32 31)).toInt32) &&& 858993459)).toUInt32 >>> ((nI 4).toUInt32 &&& Int32.toUInt32 31)).toInt32)) &&& 252645135) + (((((((x - (((x.toUInt32 >>> ((nI 1).toUInt32 &&& Int32.toUInt32 31)).toInt32) &&& 1431655765)) &&& 858993459) + ((((x - (((x.toUInt32 >>> ((nI 1).toUInt32 &&& Int32.toUInt32 31)).toInt32) &&& 1431655765)).toUInt32 >>> ((nI 2).toUInt32 &&& Int32.toUInt32 31)).toInt32) &&& 858993459)) + (((((x - (((x.toUInt32 >>> ((nI 1).toUInt32 &&& Int32.toUInt32 31)).toInt32) &&& 1431655765)) &&& 858993459) + ((((x - (((x.toUInt32 >>> ((nI 1).toUInt32 &&& Int32.toUInt32 31)).toInt32) &&& 1431655765)).toUInt32 >>> ((nI 2).toUInt32 &&& Int32.toUInt32 31)).toInt32) &&& 858993459)).toUInt32 >>> ((nI 4).toUInt32 &&& Int32.toUInt32 31)).toInt32)) &&& 252645135).toUInt32 >>> ((nI 8).toUInt32 &&& Int32.toUInt32 31)).toInt32)).toUInt32 >>> ((nI 16).toUInt32 &&& Int32.toUInt32 31)).toInt32)) &&& 63
set_option maxRecDepth 4000 in
theorem w_JInteger_bitCount_0 {g : GG} {Q : QT} {h : Hp} {kc ks : Nat} (hst : (gl g).stackTraces = false) (x : Int32)  (hk : Q (.inl (some (.int (f_JInteger_bitCount x)))) h) : PW g M_JInteger_bitCount 0 kc ks Q 0 [.int (x)] [] h := by
  refine pw_iload_n e_JInteger_bitCount_0 rfl ?_
  refine pw_iload_n e_JInteger_bitCount_1 rfl ?_
  refine pw_iconst (v := nI 1) e_JInteger_bitCount_2 (by decide) ?_
  refine pw_iushr e_JInteger_bitCount_3 ?_
  refine pw_ldcw e_JInteger_bitCount_4 kc_JInteger_265 ?_
  refine pw_iand e_JInteger_bitCount_7 ?_
  refine pw_isub e_JInteger_bitCount_8 ?_
  refine pw_istore_n (ls2 := [_]) e_JInteger_bitCount_9 (by decide) rfl ?_
  refine pw_iload_n e_JInteger_bitCount_10 rfl ?_
  refine pw_ldcw e_JInteger_bitCount_11 kc_JInteger_266 ?_
  refine pw_iand e_JInteger_bitCount_14 ?_
  refine pw_iload_n e_JInteger_bitCount_15 rfl ?_
  refine pw_iconst (v := nI 2) e_JInteger_bitCount_16 (by decide) ?_
  refine pw_iushr e_JInteger_bitCount_17 ?_
  refine pw_ldcw e_JInteger_bitCount_18 kc_JInteger_266 ?_
  refine pw_iand e_JInteger_bitCount_21 ?_
  refine pw_iadd e_JInteger_bitCount_22 ?_
  refine pw_istore_n (ls2 := [_]) e_JInteger_bitCount_23 (by decide) rfl ?_
  refine pw_iload_n e_JInteger_bitCount_24 rfl ?_
  refine pw_iload_n e_JInteger_bitCount_25 rfl ?_
  refine pw_iconst (v := nI 4) e_JInteger_bitCount_26 (by decide) ?_
  refine pw_iushr e_JInteger_bitCount_27 ?_
  refine pw_iadd e_JInteger_bitCount_28 ?_
  refine pw_ldcw e_JInteger_bitCount_29 kc_JInteger_267 ?_
  refine pw_iand e_JInteger_bitCount_32 ?_
  refine pw_istore_n (ls2 := [_]) e_JInteger_bitCount_33 (by decide) rfl ?_
  refine pw_iload_n e_JInteger_bitCount_34 rfl ?_
  refine pw_iload_n e_JInteger_bitCount_35 rfl ?_
  refine pw_bipush (v := nI 8) e_JInteger_bitCount_36 (by decide) ?_
  refine pw_iushr e_JInteger_bitCount_38 ?_
  refine pw_iadd e_JInteger_bitCount_39 ?_
  refine pw_istore_n (ls2 := [_]) e_JInteger_bitCount_40 (by decide) rfl ?_
  refine pw_iload_n e_JInteger_bitCount_41 rfl ?_
  refine pw_iload_n e_JInteger_bitCount_42 rfl ?_
  refine pw_bipush (v := nI 16) e_JInteger_bitCount_43 (by decide) ?_
  refine pw_iushr e_JInteger_bitCount_45 ?_
  refine pw_iadd e_JInteger_bitCount_46 ?_
  refine pw_istore_n (ls2 := [_]) e_JInteger_bitCount_47 (by decide) rfl ?_
  refine pw_iload_n e_JInteger_bitCount_48 rfl ?_
  refine pw_bipush (v := nI 63) e_JInteger_bitCount_49 (by decide) ?_
  refine pw_iand e_JInteger_bitCount_51 ?_
  refine pw_iret e_JInteger_bitCount_52 rfl rfl ?_
  rw [f_JInteger_bitCount] at hk
  exact hk
theorem q_JInteger_bitCount {g : GG} {h : Hp} (hst : (gl g).stackTraces = false) (x : Int32)  : PM g M_JInteger_bitCount 0 0 0 [.int (x)] h (RetV (some (.int (f_JInteger_bitCount x))) h) := by
  refine PM.of hst (by decide) rfl (fun v hv => ?_) (Nat.le_of_ble_eq_true rfl) ?_
  · simp only [List.mem_cons, List.not_mem_nil, or_false] at hv; rcases hv with rfl <;> rfl
  · have hq := w_JInteger_bitCount_0 (g := g) (Q := RetV (some (.int (f_JInteger_bitCount x))) h) (h := h) (kc := 0) (ks := 0) hst x ?_
    · exact hq
    · exact ⟨rfl, rfl⟩

def f_Bus_look_32 (P : Nat → Nat → Int32) (x : Int32) : Nat → (Nat → Nat → Int32) → (Int32) → (Int32) → (Nat) → (Int32 ⊕ String) × (Nat → Nat → Int32)
  | 0, Z, _, _, _ => (.inl 0, Z)
  | t + 1, Z, e, m, b => if (pN P 30 3) ≤ b then if x = 0 then (.inl e, Z) else (.inl m, Z) else if (f_JInteger_bitCount ((Z 505) b)) ≤ m then f_Bus_look_32 P x t Z e m (b + 1) else f_Bus_look_32 P x t Z (nI (b)) (f_JInteger_bitCount ((Z 505) b)) (b + 1)
set_option maxRecDepth 4000 in
theorem w_Bus_look_32 {g : GG} {Q : QT} {h : Hp} (hst : (gl g).stackTraces = false) {A : Nat → Nat} {S : SA} {P Y : Nat → Nat → Int32} (hnd : (gK (bsL g A S P Y)).Nodup) (hw : wfP P) (x : Int32)  (t : Nat) : ∀ (Z : Nat → Nat → Int32) (e : Int32) (m : Int32) (b : Nat) (hb9 : b ≤ pN P 30 3) (hlt : pN P 30 3 - b < t) (hk : Q (outX (f_Bus_look_32 P x t Z e m b).1) (ov h (gO (bsL g A S P Y) ((f_Bus_look_32 P x t Z e m b).2)))), PW g M_Bus_look 7 0 0 Q 32 [.ref (A 507), .int (x), .int (e), .int (m), .int (nI (b)), .retAddr 0] [] (ov h (gO (bsL g A S P Y) Z)) := by
  induction t with
  | zero => intro Z e m b hb9 hlt _; exact absurd hlt (Nat.not_lt_zero _)
  | succ t ih =>
    intro Z e m b hb9 hlt hk
    have hz0 := hw.blk.2
    have hz1 := hw.lnk.2
    have hz2 := hw.dvs.2
    refine pw_iload e_Bus_look_32 rfl ?_
    refine pw_aload_n e_Bus_look_34 rfl ?_
    refine pw_getf e_Bus_look_35 fl_Bus_23 (gO_get hnd (i := 29) rfl) rfl ?_
    refine pw_getf e_Bus_look_38 fl_Bus_133 (gO_get hnd (i := 0) rfl) rfl ?_
    rw [hw.blk.1]
    refine pw_icmp_geN (tgt := 74) e_Bus_look_41 (by decide) (by omega) (by omega) (fun (H1 : (pN P 30 3) ≤ b) => ?_) (fun (H1 : b < (pN P 30 3)) => ?_)
    · refine pw_iload_n e_Bus_look_74 rfl ?_
      refine pw_if_ne (tgt := 82) e_Bus_look_75 (by decide) (fun (H2 : ¬ x = 0) => ?_) (fun (H2 : x = 0) => ?_)
      · refine pw_iload_n e_Bus_look_82 rfl ?_
        refine pw_iret e_Bus_look_83 rfl rfl ?_
        rw [f_Bus_look_32, if_pos H1, if_neg H2] at hk
        exact hk
      · refine pw_iload_n e_Bus_look_78 rfl ?_
        refine pw_goto (tgt := 83) e_Bus_look_79 (by decide) ?_
        refine pw_iret e_Bus_look_83 rfl rfl ?_
        rw [f_Bus_look_32, if_pos H1, if_pos H2] at hk
        exact hk
    · refine pw_aload_n e_Bus_look_44 rfl ?_
      refine pw_getf e_Bus_look_45 fl_Bus_72 (gO_get hnd (i := 29) rfl) rfl ?_
      refine pw_iload e_Bus_look_48 rfl ?_
      refine pw_ialdN e_Bus_look_50 (gO_get hnd (i := 64) rfl) (by omega) (by decide) ?_
      refine pw_detS (As := [.int ((Z 505) b)]) e_Bus_look_51 li_Bus_318 (q_JInteger_bitCount hst ((Z 505) b)) rfl (by decide) (Nat.le_of_ble_eq_true rfl) rfl ?_
      refine pw_istore (ls2 := [_, _, _, _, _, _]) e_Bus_look_54 (by decide) rfl ?_
      refine pw_iload e_Bus_look_56 rfl ?_
      refine pw_iload_n e_Bus_look_58 rfl ?_
      refine pw_icmp_le (tgt := 68) e_Bus_look_59 (by decide) (fun (H3 : (f_JInteger_bitCount ((Z 505) b)) ≤ m) => ?_) (fun (H3 : ¬ (f_JInteger_bitCount ((Z 505) b)) ≤ m) => ?_)
      · refine pw_iincN (ls2 := [_, _, _, _, _, _]) e_Bus_look_68 rfl (by decide) rfl ?_
        refine pw_goto (tgt := 32) e_Bus_look_71 (by decide) ?_
        refine pw_fgt (ls' := [.ref (A 507), .int (x), .int (e), .int (m), .int (nI (b + 1)), .retAddr 0]) ⟨Or.inr rfl, Or.inr rfl, Or.inr rfl, Or.inr rfl, Or.inr rfl, Or.inl rfl, trivial⟩ ?_
        refine ih Z e m (b + 1) (by omega) (by omega) ?_
        rw [f_Bus_look_32, if_neg (Nat.not_le.mpr H1), if_pos H3] at hk
        exact hk
      · refine pw_iload e_Bus_look_62 rfl ?_
        refine pw_istore_n (ls2 := [_, _, _, _, _, _]) e_Bus_look_64 (by decide) rfl ?_
        refine pw_iload e_Bus_look_65 rfl ?_
        refine pw_istore_n (ls2 := [_, _, _, _, _, _]) e_Bus_look_67 (by decide) rfl ?_
        refine pw_iincN (ls2 := [_, _, _, _, _, _]) e_Bus_look_68 rfl (by decide) rfl ?_
        refine pw_goto (tgt := 32) e_Bus_look_71 (by decide) ?_
        refine pw_fgt (ls' := [.ref (A 507), .int (x), .int (nI (b)), .int (f_JInteger_bitCount ((Z 505) b)), .int (nI (b + 1)), .retAddr 0]) ⟨Or.inr rfl, Or.inr rfl, Or.inr rfl, Or.inr rfl, Or.inr rfl, Or.inl rfl, trivial⟩ ?_
        refine ih Z (nI (b)) (f_JInteger_bitCount ((Z 505) b)) (b + 1) (by omega) (by omega) ?_
        rw [f_Bus_look_32, if_neg (Nat.not_le.mpr H1), if_neg H3] at hk
        exact hk
def f_Bus_look_17 (P : Nat → Nat → Int32) (x : Int32) (Z : Nat → Nat → Int32) : (Int32 ⊕ String) × (Nat → Nat → Int32) :=
  f_Bus_look_32 P x 11 (f_Bus_gatherModes P ((f_Bus_fits P Z).1) ((f_Bus_fits P Z).2)) ((-1)) 0 0
set_option maxRecDepth 4000 in
theorem w_Bus_look_17 {g : GG} {Q : QT} {h : Hp} (hst : (gl g).stackTraces = false) {A : Nat → Nat} {S : SA} {P Y : Nat → Nat → Int32} (hnd : (gK (bsL g A S P Y)).Nodup) (hw : wfP P) (x : Int32)  (Z : Nat → Nat → Int32) (hN : NtI Z) (hk : Q (outX (f_Bus_look_17 P x Z).1) (ov h (gO (bsL g A S P Y) ((f_Bus_look_17 P x Z).2)))) : PW g M_Bus_look 7 0 0 Q 17 [.ref (A 507), .int (x), .retAddr 0, .retAddr 0, .retAddr 0, .retAddr 0] [] (ov h (gO (bsL g A S P Y) Z)) := by
  have hz0 := hw.blk.2
  have hz1 := hw.lnk.2
  have hz2 := hw.dvs.2
  refine pw_aload_n e_Bus_look_17 rfl ?_
  refine pw_aload_n e_Bus_look_18 rfl ?_
  refine pw_detV (As := []) e_Bus_look_19 li_Bus_312 rfl (gO_get hnd (i := 29) rfl) (q_Bus_fits hst hnd hw Z (gO_in hnd (fun _ z => z)) hN) rfl (by decide) (Nat.le_of_ble_eq_true rfl) rfl ?_
  refine pw_sameG hnd ?_
  refine pw_detV (As := [.int ((f_Bus_fits P Z).1)]) e_Bus_look_22 li_Bus_315 rfl (gO_get hnd (i := 29) rfl) (q_Bus_gatherModes hst hnd hw ((f_Bus_fits P Z).1) ((f_Bus_fits P Z).2) (gO_in hnd (fun _ z => z))) rfl (by decide) (Nat.le_of_ble_eq_true rfl) rfl ?_
  refine pw_sameG hnd ?_
  refine pw_iconst (v := (-1)) e_Bus_look_25 (by decide) ?_
  refine pw_istore_n (ls2 := [_, _, _, _, _, _]) e_Bus_look_26 (by decide) rfl ?_
  refine pw_iconst (v := nI 0) e_Bus_look_27 (by decide) ?_
  refine pw_istore_n (ls2 := [_, _, _, _, _, _]) e_Bus_look_28 (by decide) rfl ?_
  refine pw_iconst (v := nI 0) e_Bus_look_29 (by decide) ?_
  refine pw_istore (ls2 := [_, _, _, _, _, _]) e_Bus_look_30 (by decide) rfl ?_
  refine w_Bus_look_32 hst hnd hw x 11 (f_Bus_gatherModes P ((f_Bus_fits P Z).1) ((f_Bus_fits P Z).2)) ((-1)) 0 0 (by omega) (by omega) ?_
  rw [f_Bus_look_17] at hk
  exact hk
def f_Bus_look (P : Nat → Nat → Int32) (x : Int32) (Z : Nat → Nat → Int32) : (Int32 ⊕ String) × (Nat → Nat → Int32) :=
  if x = 0 then f_Bus_look_17 P x Z else if x = 1 then f_Bus_look_17 P x Z else (.inr "java/util/NoSuchElementException", Z)
set_option maxRecDepth 4000 in
theorem w_Bus_look_0 {g : GG} {Q : QT} {h : Hp} (hst : (gl g).stackTraces = false) {A : Nat → Nat} {S : SA} {P Y : Nat → Nat → Int32} (hnd : (gK (bsL g A S P Y)).Nodup) (hw : wfP P) (x : Int32)  (Z : Nat → Nat → Int32) (hN : NtI Z) (hk : Q (outX (f_Bus_look P x Z).1) (ov h (gO (bsL g A S P Y) ((f_Bus_look P x Z).2)))) : PW g M_Bus_look 7 1 6 Q 0 [.ref (A 507), .int (x), .retAddr 0, .retAddr 0, .retAddr 0, .retAddr 0] [] (ov h (gO (bsL g A S P Y) Z)) := by
  have hz0 := hw.blk.2
  have hz1 := hw.lnk.2
  have hz2 := hw.dvs.2
  refine pw_iload_n e_Bus_look_0 rfl ?_
  refine pw_if_eq (tgt := 17) e_Bus_look_1 (by decide) (fun (H1 : x = 0) => ?_) (fun (H1 : ¬ x = 0) => ?_)
  · refine PW.more (kc' := 0) (ks' := 0) (by decide) (by decide) ?_
    refine w_Bus_look_17 hst hnd hw x Z hN ?_
    rw [f_Bus_look, if_pos H1] at hk
    exact hk
  · refine pw_iload_n e_Bus_look_4 rfl ?_
    refine pw_iconst (v := nI 1) e_Bus_look_5 (by decide) ?_
    refine pw_icmp_eq (tgt := 17) e_Bus_look_6 (by decide) (fun (H2 : x = 1) => ?_) (fun (H2 : ¬ x = 1) => ?_)
    · refine PW.more (kc' := 0) (ks' := 0) (by decide) (by decide) ?_
      refine w_Bus_look_17 hst hnd hw x Z hN ?_
      rw [f_Bus_look, if_neg H1, if_pos H2] at hk
      exact hk
    · refine pw_nse (kc := 0) (ks := 0) rfl e_Bus_look_9 e_Bus_look_12 e_Bus_look_13 e_Bus_look_16 rfl (by decide) (Nat.le_of_ble_eq_true rfl) ?_
      rw [f_Bus_look, if_neg H1, if_neg H2] at hk
      exact hk
theorem q_Bus_look {g : GG} {h : Hp} (hst : (gl g).stackTraces = false) {A : Nat → Nat} {S : SA} {P Y : Nat → Nat → Int32} (hnd : (gK (bsL g A S P Y)).Nodup) (hw : wfP P) (x : Int32)  (Z : Nat → Nat → Int32) (hm : ∀ q ∈ gO (bsL g A S P Y) Z, h q.1 = some q.2) (hN : NtI Z) : PM g M_Bus_look 7 1 6 [.ref (A 507), .int (x)] h (RetX (f_Bus_look P x Z).1 (ov h (gO (bsL g A S P Y) ((f_Bus_look P x Z).2)))) := by
  refine PM.of hst (by decide) rfl (fun v hv => ?_) (Nat.le_of_ble_eq_true rfl) ?_
  · simp only [List.mem_cons, List.not_mem_nil, or_false] at hv; rcases hv with rfl | rfl <;> rfl
  · have hq := w_Bus_look_0 (g := g) (Q := RetX (f_Bus_look P x Z).1 (ov h (gO (bsL g A S P Y) ((f_Bus_look P x Z).2)))) (h := h) hst hnd hw x Z hN ?_
    · rw [ov_self hm] at hq; exact hq
    · exact ⟨rfl, rfl⟩

