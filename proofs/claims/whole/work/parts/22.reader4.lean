/-! the reader: the whole text (written by wip/whole/c_reader4.py) -/
theorem rt_k {R : Nat → Int32} {k : Nat} (h : RI R) (hk : k < 901) (hl : ¬ R 3 ≤ nI k) : k < 900 := by
  have d := i_le.mp h.2.2.2
  have e : (900 : Int32).toInt = 900 := by decide
  rw [i_le, nI_toInt (by omega)] at hl
  omega
theorem rt_3 {n : Nat} {Z : Nat → Nat → Int32} (hn : n ≤ 900) : 0 ≤ u2 Z 40 3 (if 900 < nI n then 900 else nI n) 40 3 ∧ u2 Z 40 3 (if 900 < nI n then 900 else nI n) 40 3 ≤ 900 := by
  have e : u2 Z 40 3 (if 900 < nI n then 900 else nI n) 40 3 = (if 900 < nI n then 900 else nI n) := rfl
  have q : (900 : Int32).toInt = 900 := by decide
  have z : (0 : Int32).toInt = 0 := by decide
  rw [e]
  split
  · exact ⟨by decide, by decide⟩
  · rw [i_le, i_le, nI_toInt (by omega)]; omega
theorem cl_0 (Z : Nat → Nat → Int32) : f_Plan_clear Z 30 3 = 0 ∧ f_Plan_clear Z 31 0 = 0 := ⟨rfl, rfl⟩
theorem rt_iz {B : Nat → Int32} {Z : Nat → Nat → Int32} (hj : RJ (Z 40)) (h0 : Z 40 1 = 0) : IZ (va_up (mixK [30, 31, 0, 1, 2, 3, 4, 5, 6, 7, 8, 9, 10, 11, 12, 13, 14, 15, 16, 17] (f_Plan_clear Z) Z) 40 (f_Reader_nextToken B (mixK [30, 31, 0, 1, 2, 3, 4, 5, 6, 7, 8, 9, 10, 11, 12, 13, 14, 15, 16, 17] (f_Plan_clear Z) Z 40))) := by
  have e : mixK [30, 31, 0, 1, 2, 3, 4, 5, 6, 7, 8, 9, 10, 11, 12, 13, 14, 15, 16, 17] (f_Plan_clear Z) Z 40 = Z 40 := rfl
  rw [e]
  refine ⟨ri_up (nx_RJ hj h0), ?_, ?_⟩
  · unfold pN
    rw [up_ne (by decide) rfl, mix_pl (by decide) (by decide), (cl_0 Z).1]
    exact ⟨rfl, by decide⟩
  · unfold pN
    rw [up_ne (by decide) rfl, mix_pl (by decide) (by decide), (cl_0 Z).2]
    exact ⟨rfl, by decide⟩
def f_Reader_readText_94 (B : Nat → Int32) (n : Nat) (Z : Nat → Nat → Int32) : Int32 × (Nat → Nat → Int32) :=
  (Z 40 1, Z)
set_option maxRecDepth 4000 in
theorem w_Reader_readText_94 {g : GG} {Q : QT} {h : Hp} {kc ks : Nat} (hst : (gl g).stackTraces = false) {r y p : Nat} {ad : Nat → Nat} {B : Nat → Int32} (hc : RdC g h r y p ad B) (n : Nat) (hn : n ≤ 900)  (Z : Nat → Nat → Int32) (hk : Q (.inl (some (.int (f_Reader_readText_94 B n Z).1))) (ov h (gO (rdL g r y p ad) ((f_Reader_readText_94 B n Z).2)))) : PW g M_Reader_readText 9 kc ks Q 94 [.ref (r), .ref (y), .int (nI (n)), .retAddr 0] [] (ov h (gO (rdL g r y p ad) Z)) := by
  have nds : [r].Nodup := List.pairwise_singleton _ r
  have hnd := hc.1
  have hy := hc.2.1
  have hry := hc.2.2.1
  have hpl := hc.2.2.2.1
  refine pw_aload_n e_Reader_readText_94 rfl ?_
  refine pw_getf e_Reader_readText_95 fl_Reader_15 (gO_get hnd (i := 0) rfl) rfl ?_
  refine pw_iret e_Reader_readText_98 rfl rfl ?_
  rw [f_Reader_readText_94] at hk
  exact hk
def f_Reader_readText_58 (B : Nat → Int32) (n : Nat) : Nat → (Nat → Nat → Int32) → (Nat) → (Nat → Nat → Int32)
  | 0, Z, _ => Z
  | t + 1, Z, k => if (Z 40 3) ≤ (nI (k)) then Z else if (Z 40 1) = 0 then if (Z 40 9) = 0 then Z else f_Reader_readText_58 B n t (va_up (f_Reader_readClause B Z) 40 (f_Reader_nextToken B ((f_Reader_readClause B Z) 40))) (k + 1) else Z
set_option maxRecDepth 4000 in
theorem w_Reader_readText_58 {g : GG} {Q : QT} {h : Hp} {kc ks : Nat} (hst : (gl g).stackTraces = false) {r y p : Nat} {ad : Nat → Nat} {B : Nat → Int32} (hc : RdC g h r y p ad B) (n : Nat) (hn : n ≤ 900)  (t : Nat) : ∀ (Z : Nat → Nat → Int32) (k : Nat) (hi0 : IZ Z) (hk9 : k < 901) (hlt : 900 - k < t) (hk : PW g M_Reader_readText 9 kc ks Q 94 [.ref (r), .ref (y), .int (nI (n)), .retAddr 0] [] (ov h (gO (rdL g r y p ad) (f_Reader_readText_58 B n t Z k)))), PW g M_Reader_readText 9 kc ks Q 58 [.ref (r), .ref (y), .int (nI (n)), .int (nI (k))] [] (ov h (gO (rdL g r y p ad) Z)) := by
  induction t with
  | zero => intro Z k hi0 hk9 hlt _; exact absurd hlt (Nat.not_lt_zero _)
  | succ t ih =>
    intro Z k hi0 hk9 hlt hk
    have nds : [r].Nodup := List.pairwise_singleton _ r
    have hnd := hc.1
    have hy := hc.2.1
    have hry := hc.2.2.1
    have hpl := hc.2.2.2.1
    refine pw_iload_n e_Reader_readText_58 rfl ?_
    refine pw_aload_n e_Reader_readText_59 rfl ?_
    refine pw_getf e_Reader_readText_60 fl_Reader_22 (gO_get hnd (i := 0) rfl) rfl ?_
    refine pw_icmp_ge (tgt := 94) e_Reader_readText_63 (by decide) (fun (H1 : (Z 40 3) ≤ (nI (k))) => ?_) (fun (H1 : ¬ (Z 40 3) ≤ (nI (k))) => ?_)
    · refine pw_fgt (ls' := [.ref (r), .ref (y), .int (nI (n)), .retAddr 0]) ⟨Or.inr rfl, Or.inr rfl, Or.inr rfl, Or.inl rfl, trivial⟩ ?_
      rw [f_Reader_readText_58, if_pos H1] at hk
      exact hk
    · refine pw_aload_n e_Reader_readText_66 rfl ?_
      refine pw_getf e_Reader_readText_67 fl_Reader_15 (gO_get hnd (i := 0) rfl) rfl ?_
      refine pw_if_ne (tgt := 94) e_Reader_readText_70 (by decide) (fun (H2 : ¬ (Z 40 1) = 0) => ?_) (fun (H2 : (Z 40 1) = 0) => ?_)
      · refine pw_fgt (ls' := [.ref (r), .ref (y), .int (nI (n)), .retAddr 0]) ⟨Or.inr rfl, Or.inr rfl, Or.inr rfl, Or.inl rfl, trivial⟩ ?_
        rw [f_Reader_readText_58, if_neg H1, if_neg H2] at hk
        exact hk
      · refine pw_aload_n e_Reader_readText_73 rfl ?_
        refine pw_getf e_Reader_readText_74 fl_Reader_45 (gO_get hnd (i := 0) rfl) rfl ?_
        refine pw_if_eq (tgt := 94) e_Reader_readText_77 (by decide) (fun (H3 : (Z 40 9) = 0) => ?_) (fun (H3 : ¬ (Z 40 9) = 0) => ?_)
        · refine pw_fgt (ls' := [.ref (r), .ref (y), .int (nI (n)), .retAddr 0]) ⟨Or.inr rfl, Or.inr rfl, Or.inr rfl, Or.inl rfl, trivial⟩ ?_
          rw [f_Reader_readText_58, if_neg H1, if_pos H2, if_pos H3] at hk
          exact hk
        · refine pw_aload_n e_Reader_readText_80 rfl ?_
          refine pw_detV (As := []) e_Reader_readText_81 li_Reader_63 rfl (gO_get hnd (i := 0) rfl) (q_Reader_readClause hst (hc.up (gO_fst _ _)) Z (gO_in hnd (fun _ z => z)) hi0) rfl (by decide) (Nat.le_of_ble_eq_true rfl) rfl ?_
          refine pw_sameG hnd ?_
          refine pw_aload_n e_Reader_readText_84 rfl ?_
          refine pw_detV (As := []) e_Reader_readText_85 li_Reader_60 rfl (gO_get hnd (i := 0) rfl) (q_Reader_nextToken hst nds (fun l hl => ov_ne hry (hy _ (gO_fst _ _)) hl) ((f_Reader_readClause B Z) 40) (gO_get hnd (i := 0) rfl) (RI.rj (z_Reader_readClause hi0).1)) rfl (by decide) (Nat.le_of_ble_eq_true rfl) rfl ?_
          refine pw_oneG (i := 0) hnd (rd_x _ _ _ _ _) rfl rfl ?_
          refine pw_iincN (ls2 := [_, _, _, _]) e_Reader_readText_88 rfl (by decide) rfl ?_
          refine pw_goto (tgt := 58) e_Reader_readText_91 (by decide) ?_
          refine ih (va_up (f_Reader_readClause B Z) 40 (f_Reader_nextToken B ((f_Reader_readClause B Z) 40))) (k + 1) (iz_up (z_Reader_readClause hi0) (nx_RI (z_Reader_readClause hi0).1)) (by have := rt_k hi0.1 hk9 H1; omega) (by have := rt_k hi0.1 hk9 H1; omega) ?_
          rw [f_Reader_readText_58, if_neg H1, if_pos H2, if_neg H3] at hk
          exact hk
def f_Reader_readText_45 (B : Nat → Int32) (n : Nat) (Z : Nat → Nat → Int32) : Int32 × (Nat → Nat → Int32) :=
  f_Reader_readText_94 B n (f_Reader_readText_58 B n 901 (va_up (mixK [30, 31, 0, 1, 2, 3, 4, 5, 6, 7, 8, 9, 10, 11, 12, 13, 14, 15, 16, 17] (f_Plan_clear Z) Z) 40 (f_Reader_nextToken B ((mixK [30, 31, 0, 1, 2, 3, 4, 5, 6, 7, 8, 9, 10, 11, 12, 13, 14, 15, 16, 17] (f_Plan_clear Z) Z) 40))) 0)
set_option maxRecDepth 4000 in
theorem w_Reader_readText_45 {g : GG} {Q : QT} {h : Hp} {kc ks : Nat} (hst : (gl g).stackTraces = false) {r y p : Nat} {ad : Nat → Nat} {B : Nat → Int32} (hc : RdC g h r y p ad B) (n : Nat) (hn : n ≤ 900)  (Z : Nat → Nat → Int32) (hj : RJ (Z 40)) (hf0 : Z 40 1 = 0) (hk : Q (.inl (some (.int (f_Reader_readText_45 B n Z).1))) (ov h (gO (rdL g r y p ad) ((f_Reader_readText_45 B n Z).2)))) : PW g M_Reader_readText 9 kc ks Q 45 [.ref (r), .ref (y), .int (nI (n)), .retAddr 0] [] (ov h (gO (rdL g r y p ad) Z)) := by
  have hpp : ∀ l : List (Nat × va_E), l.map Prod.fst = gK (plL g p ad) → ∀ Z : Nat → Nat → Int32, ov (ov h (gO (rdL g r y p ad) Z)) l (ad 26) = some (.inr (6, [.ref (ad 15), .ref (ad 16), .ref (ad 17)])) := fun l hl Z => by
    have e := hc.2.2.2.1 _ (gO_fst (rdL g r y p ad) Z)
    rw [ov_none (by rw [hl]; exact fun q => hc.2.2.2.2.2 (List.mem_cons_of_mem _ q))]
    exact e
  have nds : [r].Nodup := List.pairwise_singleton _ r
  have hnd := hc.1
  have hy := hc.2.1
  have hry := hc.2.2.1
  have hpl := hc.2.2.2.1
  refine pw_aload_n e_Reader_readText_45 rfl ?_
  refine pw_getf e_Reader_readText_46 fl_Reader_31 (gO_get hnd (i := 0) rfl) rfl ?_
  refine pw_detV (As := []) e_Reader_readText_49 li_Reader_57 rfl (gO_get hnd (i := 1) rfl) (q_Plan_clear hst (nd_of hnd (pl_sl _ _ _ _ _)) (fun l hl => hpp l hl _) hc.2.2.2.2.1 Z (gO_in hnd (pl_in _ _ _ _ _))) rfl (by decide) (Nat.le_of_ble_eq_true rfl) rfl ?_
  refine pw_subG hnd (rd_x _ _ _ _ _) (nd_of hnd (pl_sl _ _ _ _ _)) (pl_in _ _ _ _ _) ?_
  refine pw_aload_n e_Reader_readText_52 rfl ?_
  refine pw_detV (As := []) e_Reader_readText_53 li_Reader_60 rfl (gO_get hnd (i := 0) rfl) (q_Reader_nextToken hst nds (fun l hl => ov_ne hry (hy _ (gO_fst _ _)) hl) ((mixK [30, 31, 0, 1, 2, 3, 4, 5, 6, 7, 8, 9, 10, 11, 12, 13, 14, 15, 16, 17] (f_Plan_clear Z) Z) 40) (gO_get hnd (i := 0) rfl) hj) rfl (by decide) (Nat.le_of_ble_eq_true rfl) rfl ?_
  refine pw_oneG (i := 0) hnd (rd_x _ _ _ _ _) rfl rfl ?_
  refine pw_iconst (v := nI 0) e_Reader_readText_56 (by decide) ?_
  refine pw_istore_n (ls2 := [_, _, _, _]) e_Reader_readText_57 (by decide) rfl ?_
  refine w_Reader_readText_58 hst hc n hn 901 (va_up (mixK [30, 31, 0, 1, 2, 3, 4, 5, 6, 7, 8, 9, 10, 11, 12, 13, 14, 15, 16, 17] (f_Plan_clear Z) Z) 40 (f_Reader_nextToken B ((mixK [30, 31, 0, 1, 2, 3, 4, 5, 6, 7, 8, 9, 10, 11, 12, 13, 14, 15, 16, 17] (f_Plan_clear Z) Z) 40))) 0 (rt_iz hj hf0) (by omega) (by omega) ?_
  refine w_Reader_readText_94 hst hc n hn (f_Reader_readText_58 B n 901 (va_up (mixK [30, 31, 0, 1, 2, 3, 4, 5, 6, 7, 8, 9, 10, 11, 12, 13, 14, 15, 16, 17] (f_Plan_clear Z) Z) 40 (f_Reader_nextToken B ((mixK [30, 31, 0, 1, 2, 3, 4, 5, 6, 7, 8, 9, 10, 11, 12, 13, 14, 15, 16, 17] (f_Plan_clear Z) Z) 40))) 0) ?_
  rw [f_Reader_readText_45] at hk
  exact hk
def f_Reader_readText_15 (B : Nat → Int32) (n : Nat) (Z : Nat → Nat → Int32) : Int32 × (Nat → Nat → Int32) :=
  f_Reader_readText_45 B n (u2 (u2 (u2 (u2 (u2 (u2 Z 40 4 0) 40 0 ((-1))) 40 1 0) 40 6 0) 40 7 0) 40 8 0)
set_option maxRecDepth 4000 in
theorem w_Reader_readText_15 {g : GG} {Q : QT} {h : Hp} {kc ks : Nat} (hst : (gl g).stackTraces = false) {r y p : Nat} {ad : Nat → Nat} {B : Nat → Int32} (hc : RdC g h r y p ad B) (n : Nat) (hn : n ≤ 900)  (Z : Nat → Nat → Int32) (h3 : 0 ≤ Z 40 3 ∧ Z 40 3 ≤ 900) (hk : Q (.inl (some (.int (f_Reader_readText_15 B n Z).1))) (ov h (gO (rdL g r y p ad) ((f_Reader_readText_15 B n Z).2)))) : PW g M_Reader_readText 9 kc ks Q 15 [.ref (r), .ref (y), .int (nI (n)), .retAddr 0] [] (ov h (gO (rdL g r y p ad) Z)) := by
  have nds : [r].Nodup := List.pairwise_singleton _ r
  have hnd := hc.1
  have hy := hc.2.1
  have hry := hc.2.2.1
  have hpl := hc.2.2.2.1
  refine pw_aload_n e_Reader_readText_15 rfl ?_
  refine pw_iconst (v := nI 0) e_Reader_readText_16 (by decide) ?_
  refine pw_putG (i := 0) (ps := 4) (x := 0) e_Reader_readText_17 fp_Reader_25 hnd (rd_x _ _ _ _ _) rfl (Nat.le_of_ble_eq_true rfl) rfl rfl rfl ?_
  refine pw_aload_n e_Reader_readText_20 rfl ?_
  refine pw_iconst (v := (-1)) e_Reader_readText_21 (by decide) ?_
  refine pw_putG (i := 0) (ps := 0) (x := (-1)) e_Reader_readText_22 fp_Reader_9 hnd (rd_x _ _ _ _ _) rfl (Nat.le_of_ble_eq_true rfl) rfl rfl rfl ?_
  refine pw_aload_n e_Reader_readText_25 rfl ?_
  refine pw_iconst (v := nI 0) e_Reader_readText_26 (by decide) ?_
  refine pw_putG (i := 0) (ps := 1) (x := 0) e_Reader_readText_27 fp_Reader_15 hnd (rd_x _ _ _ _ _) rfl (Nat.le_of_ble_eq_true rfl) rfl rfl rfl ?_
  refine pw_aload_n e_Reader_readText_30 rfl ?_
  refine pw_iconst (v := nI 0) e_Reader_readText_31 (by decide) ?_
  refine pw_putG (i := 0) (ps := 6) (x := 0) e_Reader_readText_32 fp_Reader_35 hnd (rd_x _ _ _ _ _) rfl (Nat.le_of_ble_eq_true rfl) rfl rfl rfl ?_
  refine pw_aload_n e_Reader_readText_35 rfl ?_
  refine pw_iconst (v := nI 0) e_Reader_readText_36 (by decide) ?_
  refine pw_putG (i := 0) (ps := 7) (x := 0) e_Reader_readText_37 fp_Reader_38 hnd (rd_x _ _ _ _ _) rfl (Nat.le_of_ble_eq_true rfl) (by decide) rfl rfl ?_
  refine pw_aload_n e_Reader_readText_40 rfl ?_
  refine pw_iconst (v := nI 0) e_Reader_readText_41 (by decide) ?_
  refine pw_putG (i := 0) (ps := 8) (x := 0) e_Reader_readText_42 fp_Reader_42 hnd (rd_x _ _ _ _ _) rfl (Nat.le_of_ble_eq_true rfl) (by decide) rfl rfl ?_
  refine w_Reader_readText_45 hst hc n hn (u2 (u2 (u2 (u2 (u2 (u2 Z 40 4 0) 40 0 ((-1))) 40 1 0) 40 6 0) 40 7 0) 40 8 0) ⟨Int32.le_refl _, h3.1, h3.2⟩ rfl ?_
  rw [f_Reader_readText_15] at hk
  exact hk
def f_Reader_readText_5 (B : Nat → Int32) (n : Nat) (Z : Nat → Nat → Int32) : Int32 × (Nat → Nat → Int32) :=
  f_Reader_readText_15 B n (u2 Z 40 3 (if 900 < (nI (n)) then 900 else (nI (n))))
set_option maxRecDepth 4000 in
theorem w_Reader_readText_5 {g : GG} {Q : QT} {h : Hp} {kc ks : Nat} (hst : (gl g).stackTraces = false) {r y p : Nat} {ad : Nat → Nat} {B : Nat → Int32} (hc : RdC g h r y p ad B) (n : Nat) (hn : n ≤ 900)  (Z : Nat → Nat → Int32) (hk : Q (.inl (some (.int (f_Reader_readText_5 B n Z).1))) (ov h (gO (rdL g r y p ad) ((f_Reader_readText_5 B n Z).2)))) : PW g M_Reader_readText 9 kc ks Q 5 [.ref (r), .ref (y), .int (nI (n)), .retAddr 0] [] (ov h (gO (rdL g r y p ad) Z)) := by
  have nds : [r].Nodup := List.pairwise_singleton _ r
  have hnd := hc.1
  have hy := hc.2.1
  have hry := hc.2.2.1
  have hpl := hc.2.2.2.1
  refine pw_aload_n e_Reader_readText_5 rfl ?_
  refine pw_iload_n e_Reader_readText_6 rfl ?_
  refine pw_aload_n e_Reader_readText_7 rfl ?_
  refine pw_alen (t0 := 1) e_Reader_readText_8 (hy _ (gO_fst _ _)) rfl rfl ?_
  refine pw_min e_Reader_readText_9 ml_Reader_51 (by decide) (Nat.le_of_ble_eq_true rfl) ?_
  refine pw_putG (i := 0) (ps := 3) (x := if 900 < (nI (n)) then 900 else (nI (n))) e_Reader_readText_12 fp_Reader_22 hnd (rd_x _ _ _ _ _) rfl (Nat.le_of_ble_eq_true rfl) rfl rfl rfl ?_
  refine w_Reader_readText_15 hst hc n hn (u2 Z 40 3 (if 900 < (nI (n)) then 900 else (nI (n)))) (rt_3 hn) ?_
  rw [f_Reader_readText_5] at hk
  exact hk

