/-! the reader: blocks, links, clauses, the text (written by wip/whole/c_reader3.py) -/
theorem q_ab {g : GG} {h : Hp} (hst : (gl g).stackTraces = false) {p : Nat} {ad : Nat → Nat} (hnd : (gK (plL g p ad)).Nodup) (n : Nat) (x y : Int32) (hn : n < 10) (Z : Nat → Nat → Int32) (hm : ∀ q ∈ gO (plL g p ad) Z, h q.1 = some q.2) (hbl : Z 30 3 = nI n) : PM g M_Plan_addBlock 0 0 0 [.ref p, .int x, .int y] h (RetV (some (.int (nI n))) (ov h (gO (plL g p ad) (f_Plan_addBlock n x y Z).2))) := q_Plan_addBlock hst hnd n x y hn Z hm hbl
theorem pl_sl (g : GG) (r y p : Nat) (ad : Nat → Nat) : List.Sublist (plL g p ad) (rdL g r y p ad) := .cons _ (List.Sublist.refl _)
theorem mix_pl {Z1 Z : Nat → Nat → Int32} {k : Nat} (hk : k ≠ 40) (hk2 : k ∈ [30, 31, 0, 1, 2, 3, 4, 5, 6, 7, 8, 9, 10, 11, 12, 13, 14, 15, 16, 17]) : mixK [30, 31, 0, 1, 2, 3, 4, 5, 6, 7, 8, 9, 10, 11, 12, 13, 14, 15, 16, 17] Z1 Z k = Z1 k := if_pos hk2
theorem iz_ab {n : Nat} {x y : Int32} {Z : Nat → Nat → Int32} (h : IZ Z) (hn : n < 10) (hb : Z 30 3 = nI n) : IZ (mixK [30, 31, 0, 1, 2, 3, 4, 5, 6, 7, 8, 9, 10, 11, 12, 13, 14, 15, 16, 17] (f_Plan_addBlock n x y Z).2 Z) := by
  have e1 : (f_Plan_addBlock n x y Z).2 30 3 = nI (n + 1) := by
    rw [f_Plan_addBlock, f_Plan_addBlock_60]
    rfl
  have e2 : (f_Plan_addBlock n x y Z).2 31 0 = Z 31 0 := by
    rw [f_Plan_addBlock, f_Plan_addBlock_60]
    show f_Plan_addBlock_36 n x y 4 _ 0 31 0 = _
    rw [ab_keep _ _ _ _ _ _ 31 0 (by decide)]; rfl
  refine ⟨h.1, ?_, ?_⟩
  · unfold pN
    rw [mix_pl (by decide) (by decide), e1, nI_clamp (by omega)]
    exact ⟨rfl, by omega⟩
  · unfold pN
    rw [mix_pl (by decide) (by decide), e2]
    exact h.2.2
def f_Reader_readBlock_178 (B : Nat → Int32) (Z : Nat → Nat → Int32) (b : Nat) : (Nat → Nat → Int32) :=
  if (f_Reader_isWord B (Z 40) 9) = 0 then va_up Z 40 (f_Reader_fail 1 (Z 40)) else u2 (va_up (u2 Z 0 b 3) 40 ((f_Reader_readChoice B 10 11 ((u2 Z 0 b 3) 40)).2)) 9 b ((f_Reader_readChoice B 10 11 ((u2 Z 0 b 3) 40)).1)
set_option maxRecDepth 4000 in
theorem w_Reader_readBlock_178 {g : GG} {Q : QT} {h : Hp} {kc ks : Nat} (hst : (gl g).stackTraces = false) {r y p : Nat} {ad : Nat → Nat} {B : Nat → Int32} (hc : RdC g h r y p ad B)  (Z : Nat → Nat → Int32) (b : Nat) (hi0 : IZ Z) (hb10 : b < 10) (hk : Q (.inl none) (ov h (gO (rdL g r y p ad) (f_Reader_readBlock_178 B Z b)))) : PW g M_Reader_readBlock 7 kc ks Q 178 [.ref (r), .retAddr 0, .retAddr 0, .int (nI (b))] [] (ov h (gO (rdL g r y p ad) Z)) := by
  have nds : [r].Nodup := List.pairwise_singleton _ r
  have hnd := hc.1
  have hy := hc.2.1
  have hry := hc.2.2.1
  have hpl := hc.2.2.2.1
  have hz0 := hi0.2.1.2
  have hz1 := hi0.2.2.2
  refine pw_aload_n e_Reader_readBlock_178 rfl ?_
  refine pw_ldcS (i := 9) e_Reader_readBlock_179 rfl (by decide) (by decide) ?_
  refine pw_detV (As := [.ref (gk g 9)]) e_Reader_readBlock_181 li_Reader_68 rfl (gO_get hnd (i := 0) rfl) (q_Reader_isWord hst (Z 40) (gO_get hnd (i := 0) rfl) (hy _ (gO_fst _ _)) hi0.1 9 (by decide)) rfl (by decide) (Nat.le_of_ble_eq_true rfl) rfl ?_
  refine pw_if_eq (tgt := 217) e_Reader_readBlock_184 (by decide) (fun (H1 : (f_Reader_isWord B (Z 40) 9) = 0) => ?_) (fun (H1 : ¬ (f_Reader_isWord B (Z 40) 9) = 0) => ?_)
  · refine pw_aload_n e_Reader_readBlock_217 rfl ?_
    refine pw_iconst (v := nI 1) e_Reader_readBlock_218 (by decide) ?_
    refine pw_detV (As := [.int (nI (1))]) e_Reader_readBlock_219 li_Reader_100 rfl (gO_get hnd (i := 0) rfl) (q_Reader_fail hst nds 1 (Z 40) (gO_get hnd (i := 0) rfl)) rfl (by decide) (Nat.le_of_ble_eq_true rfl) rfl ?_
    refine pw_oneG (i := 0) hnd (rd_x _ _ _ _ _) rfl rfl ?_
    refine pw_vret e_Reader_readBlock_222 rfl ?_
    rw [f_Reader_readBlock_178, if_pos H1] at hk
    exact hk
  · refine pw_aload_n e_Reader_readBlock_187 rfl ?_
    refine pw_getf e_Reader_readBlock_188 fl_Reader_31 (gO_get hnd (i := 0) rfl) rfl ?_
    refine pw_getf e_Reader_readBlock_191 fl_Reader_137 (gO_get hnd (i := 1) rfl) rfl ?_
    refine pw_iload_n e_Reader_readBlock_194 rfl ?_
    refine pw_iconst (v := nI 3) e_Reader_readBlock_195 (by decide) ?_
    refine pw_iastG (i := 3) e_Reader_readBlock_196 hnd (rd_x _ _ _ _ _) rfl (by omega) (by decide) ?_
    refine pw_aload_n e_Reader_readBlock_197 rfl ?_
    refine pw_getf e_Reader_readBlock_198 fl_Reader_31 (gO_get hnd (i := 0) rfl) rfl ?_
    refine pw_getf e_Reader_readBlock_201 fl_Reader_155 (gO_get hnd (i := 1) rfl) rfl ?_
    refine pw_iload_n e_Reader_readBlock_204 rfl ?_
    refine pw_aload_n e_Reader_readBlock_205 rfl ?_
    refine pw_ldcS (i := 10) e_Reader_readBlock_206 rfl (by decide) (by decide) ?_
    refine pw_ldcS (i := 11) e_Reader_readBlock_208 rfl (by decide) (by decide) ?_
    refine pw_detV (As := [.ref (gk g 10), .ref (gk g 11)]) e_Reader_readBlock_210 li_Reader_162 rfl (gO_get hnd (i := 0) rfl) (q_Reader_readChoice hst nds (fun l hl => ov_ne hry (hy _ (gO_fst _ _)) hl) 10 11 (by decide) (by decide) ((u2 Z 0 b 3) 40) (gO_get hnd (i := 0) rfl) (iz_u2 hi0 (by decide) (by decide) (by decide)).1) rfl (by decide) (Nat.le_of_ble_eq_true rfl) rfl ?_
    refine pw_oneG (i := 0) hnd (rd_x _ _ _ _ _) rfl rfl ?_
    refine pw_zastG (i := 12) e_Reader_readBlock_213 hnd (rd_x _ _ _ _ _) rfl (by omega) (by decide) (zn01 (rc01 _ _ _ _)) ?_
    refine pw_goto (tgt := 222) e_Reader_readBlock_214 (by decide) ?_
    refine pw_vret e_Reader_readBlock_222 rfl ?_
    rw [f_Reader_readBlock_178, if_neg H1] at hk
    exact hk
theorem z_Reader_readBlock_178 {B : Nat → Int32} {Z : Nat → Nat → Int32} {b : Nat} (hi0 : IZ Z) (hb10 : b < 10) : IZ (f_Reader_readBlock_178 B Z b) := by
  have hz0 := hi0.2.1.2
  have hz1 := hi0.2.2.2
  rw [f_Reader_readBlock_178]
  by_cases H1 : (f_Reader_isWord B (Z 40) 9) = 0
  · rw [if_pos H1]
    exact (iz_up hi0 (fail_RI hi0.1))
  · rw [if_neg H1]
    exact (iz_u2 (iz_up (iz_u2 hi0 (by decide) (by decide) (by decide)) (rc_RI (iz_u2 hi0 (by decide) (by decide) (by decide)).1)) (by decide) (by decide) (by decide))
def f_Reader_readBlock_124 (B : Nat → Int32) (Z : Nat → Nat → Int32) (b : Nat) : (Nat → Nat → Int32) :=
  if (f_Reader_isWord B (Z 40) 8) = 0 then f_Reader_readBlock_178 B Z b else u2 (va_up (u2 (va_up (u2 Z 0 b 2) 40 ((f_Reader_readNumber B (nI 0) (nI 3) ((u2 Z 0 b 2) 40)).2)) 3 b (nI (rnN B 0 3 ((u2 Z 0 b 2) 40)))) 40 ((f_Reader_readNumber B (nI 1) (nI 1000) ((u2 (va_up (u2 Z 0 b 2) 40 ((f_Reader_readNumber B (nI 0) (nI 3) ((u2 Z 0 b 2) 40)).2)) 3 b (nI (rnN B 0 3 ((u2 Z 0 b 2) 40)))) 40)).2)) 6 b (nI (rnN B 1 1000 ((u2 (va_up (u2 Z 0 b 2) 40 ((f_Reader_readNumber B (nI 0) (nI 3) ((u2 Z 0 b 2) 40)).2)) 3 b (nI (rnN B 0 3 ((u2 Z 0 b 2) 40)))) 40)))
set_option maxRecDepth 4000 in
theorem w_Reader_readBlock_124 {g : GG} {Q : QT} {h : Hp} {kc ks : Nat} (hst : (gl g).stackTraces = false) {r y p : Nat} {ad : Nat → Nat} {B : Nat → Int32} (hc : RdC g h r y p ad B)  (Z : Nat → Nat → Int32) (b : Nat) (hi0 : IZ Z) (hb10 : b < 10) (hk : Q (.inl none) (ov h (gO (rdL g r y p ad) (f_Reader_readBlock_124 B Z b)))) : PW g M_Reader_readBlock 7 kc ks Q 124 [.ref (r), .retAddr 0, .retAddr 0, .int (nI (b))] [] (ov h (gO (rdL g r y p ad) Z)) := by
  have nds : [r].Nodup := List.pairwise_singleton _ r
  have hnd := hc.1
  have hy := hc.2.1
  have hry := hc.2.2.1
  have hpl := hc.2.2.2.1
  have hz0 := hi0.2.1.2
  have hz1 := hi0.2.2.2
  refine pw_aload_n e_Reader_readBlock_124 rfl ?_
  refine pw_ldcS (i := 8) e_Reader_readBlock_125 rfl (by decide) (by decide) ?_
  refine pw_detV (As := [.ref (gk g 8)]) e_Reader_readBlock_127 li_Reader_68 rfl (gO_get hnd (i := 0) rfl) (q_Reader_isWord hst (Z 40) (gO_get hnd (i := 0) rfl) (hy _ (gO_fst _ _)) hi0.1 8 (by decide)) rfl (by decide) (Nat.le_of_ble_eq_true rfl) rfl ?_
  refine pw_if_eq (tgt := 178) e_Reader_readBlock_130 (by decide) (fun (H1 : (f_Reader_isWord B (Z 40) 8) = 0) => ?_) (fun (H1 : ¬ (f_Reader_isWord B (Z 40) 8) = 0) => ?_)
  · refine w_Reader_readBlock_178 hst hc Z b hi0 (by omega) ?_
    rw [f_Reader_readBlock_124, if_pos H1] at hk
    exact hk
  · refine pw_aload_n e_Reader_readBlock_133 rfl ?_
    refine pw_getf e_Reader_readBlock_134 fl_Reader_31 (gO_get hnd (i := 0) rfl) rfl ?_
    refine pw_getf e_Reader_readBlock_137 fl_Reader_137 (gO_get hnd (i := 1) rfl) rfl ?_
    refine pw_iload_n e_Reader_readBlock_140 rfl ?_
    refine pw_iconst (v := nI 2) e_Reader_readBlock_141 (by decide) ?_
    refine pw_iastG (i := 3) e_Reader_readBlock_142 hnd (rd_x _ _ _ _ _) rfl (by omega) (by decide) ?_
    refine pw_aload_n e_Reader_readBlock_143 rfl ?_
    refine pw_getf e_Reader_readBlock_144 fl_Reader_31 (gO_get hnd (i := 0) rfl) rfl ?_
    refine pw_getf e_Reader_readBlock_147 fl_Reader_140 (gO_get hnd (i := 1) rfl) rfl ?_
    refine pw_iload_n e_Reader_readBlock_150 rfl ?_
    refine pw_aload_n e_Reader_readBlock_151 rfl ?_
    refine pw_iconst (v := nI 0) e_Reader_readBlock_152 (by decide) ?_
    refine pw_iconst (v := nI 3) e_Reader_readBlock_153 (by decide) ?_
    have hb2 := (rn_nat (B := B) (lo := 0) (hi := 3) (R := ((u2 Z 0 b 2) 40)) (by decide) (by decide)).2
    refine pw_detV (As := [.int (nI (0)), .int (nI (3))]) e_Reader_readBlock_154 li_Reader_104 rfl (gO_get hnd (i := 0) rfl) (q_rn hst nds (fun l hl => ov_ne hry (hy _ (gO_fst _ _)) hl) 0 3 ((u2 Z 0 b 2) 40) (gO_get hnd (i := 0) rfl) (iz_u2 hi0 (by decide) (by decide) (by decide)).1 (by decide) (by decide)) rfl (by decide) (Nat.le_of_ble_eq_true rfl) rfl ?_
    refine pw_oneG (i := 0) hnd (rd_x _ _ _ _ _) rfl rfl ?_
    refine pw_iastG (i := 6) e_Reader_readBlock_157 hnd (rd_x _ _ _ _ _) rfl (by omega) (by decide) ?_
    refine pw_aload_n e_Reader_readBlock_158 rfl ?_
    refine pw_getf e_Reader_readBlock_159 fl_Reader_31 (gO_get hnd (i := 0) rfl) rfl ?_
    refine pw_getf e_Reader_readBlock_162 fl_Reader_150 (gO_get hnd (i := 1) rfl) rfl ?_
    refine pw_iload_n e_Reader_readBlock_165 rfl ?_
    refine pw_aload_n e_Reader_readBlock_166 rfl ?_
    refine pw_iconst (v := nI 1) e_Reader_readBlock_167 (by decide) ?_
    refine pw_sipush (v := nI 1000) e_Reader_readBlock_168 (by decide) ?_
    have hb3 := (rn_nat (B := B) (lo := 1) (hi := 1000) (R := ((u2 (va_up (u2 Z 0 b 2) 40 ((f_Reader_readNumber B (nI 0) (nI 3) ((u2 Z 0 b 2) 40)).2)) 3 b (nI (rnN B 0 3 ((u2 Z 0 b 2) 40)))) 40)) (by decide) (by decide)).2
    refine pw_detV (As := [.int (nI (1)), .int (nI (1000))]) e_Reader_readBlock_171 li_Reader_104 rfl (gO_get hnd (i := 0) rfl) (q_rn hst nds (fun l hl => ov_ne hry (hy _ (gO_fst _ _)) hl) 1 1000 ((u2 (va_up (u2 Z 0 b 2) 40 ((f_Reader_readNumber B (nI 0) (nI 3) ((u2 Z 0 b 2) 40)).2)) 3 b (nI (rnN B 0 3 ((u2 Z 0 b 2) 40)))) 40) (gO_get hnd (i := 0) rfl) (iz_u2 (iz_up (iz_u2 hi0 (by decide) (by decide) (by decide)) (rn_RI (iz_u2 hi0 (by decide) (by decide) (by decide)).1)) (by decide) (by decide) (by decide)).1 (by decide) (by decide)) rfl (by decide) (Nat.le_of_ble_eq_true rfl) rfl ?_
    refine pw_oneG (i := 0) hnd (rd_x _ _ _ _ _) rfl rfl ?_
    refine pw_iastG (i := 9) e_Reader_readBlock_174 hnd (rd_x _ _ _ _ _) rfl (by omega) (by decide) ?_
    refine pw_goto (tgt := 222) e_Reader_readBlock_175 (by decide) ?_
    refine pw_vret e_Reader_readBlock_222 rfl ?_
    rw [f_Reader_readBlock_124, if_neg H1] at hk
    exact hk
theorem z_Reader_readBlock_124 {B : Nat → Int32} {Z : Nat → Nat → Int32} {b : Nat} (hi0 : IZ Z) (hb10 : b < 10) : IZ (f_Reader_readBlock_124 B Z b) := by
  have hz0 := hi0.2.1.2
  have hz1 := hi0.2.2.2
  rw [f_Reader_readBlock_124]
  by_cases H1 : (f_Reader_isWord B (Z 40) 8) = 0
  · rw [if_pos H1]
    exact z_Reader_readBlock_178 hi0 (by omega)
  · rw [if_neg H1]
    have hb2 := (rn_nat (B := B) (lo := 0) (hi := 3) (R := ((u2 Z 0 b 2) 40)) (by decide) (by decide)).2
    have hb3 := (rn_nat (B := B) (lo := 1) (hi := 1000) (R := ((u2 (va_up (u2 Z 0 b 2) 40 ((f_Reader_readNumber B (nI 0) (nI 3) ((u2 Z 0 b 2) 40)).2)) 3 b (nI (rnN B 0 3 ((u2 Z 0 b 2) 40)))) 40)) (by decide) (by decide)).2
    exact (iz_u2 (iz_up (iz_u2 (iz_up (iz_u2 hi0 (by decide) (by decide) (by decide)) (rn_RI (iz_u2 hi0 (by decide) (by decide) (by decide)).1)) (by decide) (by decide) (by decide)) (rn_RI (iz_u2 (iz_up (iz_u2 hi0 (by decide) (by decide) (by decide)) (rn_RI (iz_u2 hi0 (by decide) (by decide) (by decide)).1)) (by decide) (by decide) (by decide)).1)) (by decide) (by decide) (by decide))
def f_Reader_readBlock_107 (B : Nat → Int32) (Z : Nat → Nat → Int32) (b : Nat) : (Nat → Nat → Int32) :=
  if (f_Reader_isWord B (Z 40) 3) = 0 then f_Reader_readBlock_124 B Z b else f_Reader_readPid B b Z
set_option maxRecDepth 4000 in
theorem w_Reader_readBlock_107 {g : GG} {Q : QT} {h : Hp} {kc ks : Nat} (hst : (gl g).stackTraces = false) {r y p : Nat} {ad : Nat → Nat} {B : Nat → Int32} (hc : RdC g h r y p ad B)  (Z : Nat → Nat → Int32) (b : Nat) (hi0 : IZ Z) (hb10 : b < 10) (hk : Q (.inl none) (ov h (gO (rdL g r y p ad) (f_Reader_readBlock_107 B Z b)))) : PW g M_Reader_readBlock 7 kc ks Q 107 [.ref (r), .retAddr 0, .retAddr 0, .int (nI (b))] [] (ov h (gO (rdL g r y p ad) Z)) := by
  have nds : [r].Nodup := List.pairwise_singleton _ r
  have hnd := hc.1
  have hy := hc.2.1
  have hry := hc.2.2.1
  have hpl := hc.2.2.2.1
  have hz0 := hi0.2.1.2
  have hz1 := hi0.2.2.2
  refine pw_aload_n e_Reader_readBlock_107 rfl ?_
  refine pw_ldcS (i := 3) e_Reader_readBlock_108 rfl (by decide) (by decide) ?_
  refine pw_detV (As := [.ref (gk g 3)]) e_Reader_readBlock_110 li_Reader_68 rfl (gO_get hnd (i := 0) rfl) (q_Reader_isWord hst (Z 40) (gO_get hnd (i := 0) rfl) (hy _ (gO_fst _ _)) hi0.1 3 (by decide)) rfl (by decide) (Nat.le_of_ble_eq_true rfl) rfl ?_
  refine pw_if_eq (tgt := 124) e_Reader_readBlock_113 (by decide) (fun (H1 : (f_Reader_isWord B (Z 40) 3) = 0) => ?_) (fun (H1 : ¬ (f_Reader_isWord B (Z 40) 3) = 0) => ?_)
  · refine w_Reader_readBlock_124 hst hc Z b hi0 (by omega) ?_
    rw [f_Reader_readBlock_107, if_pos H1] at hk
    exact hk
  · refine pw_aload_n e_Reader_readBlock_116 rfl ?_
    refine pw_iload_n e_Reader_readBlock_117 rfl ?_
    refine pw_detV (As := [.int (nI (b))]) e_Reader_readBlock_118 li_Reader_145 rfl (gO_get hnd (i := 0) rfl) (q_Reader_readPid hst (hc.up (gO_fst _ _)) b (by omega) Z (gO_in hnd (fun _ z => z)) hi0) rfl (by decide) (Nat.le_of_ble_eq_true rfl) rfl ?_
    refine pw_sameG hnd ?_
    refine pw_goto (tgt := 222) e_Reader_readBlock_121 (by decide) ?_
    refine pw_vret e_Reader_readBlock_222 rfl ?_
    rw [f_Reader_readBlock_107, if_neg H1] at hk
    exact hk
theorem z_Reader_readBlock_107 {B : Nat → Int32} {Z : Nat → Nat → Int32} {b : Nat} (hi0 : IZ Z) (hb10 : b < 10) : IZ (f_Reader_readBlock_107 B Z b) := by
  have hz0 := hi0.2.1.2
  have hz1 := hi0.2.2.2
  rw [f_Reader_readBlock_107]
  by_cases H1 : (f_Reader_isWord B (Z 40) 3) = 0
  · rw [if_pos H1]
    exact z_Reader_readBlock_124 hi0 (by omega)
  · rw [if_neg H1]
    exact (z_Reader_readPid hi0)
def f_Reader_readBlock_70 (B : Nat → Int32) (Z : Nat → Nat → Int32) (b : Nat) : (Nat → Nat → Int32) :=
  if (f_Reader_isWord B (Z 40) 2) = 0 then f_Reader_readBlock_107 B Z b else u2 (va_up (u2 Z 0 b 0) 40 ((f_Reader_readNumber B (nI 0) (nI 3) ((u2 Z 0 b 0) 40)).2)) 3 b (nI (rnN B 0 3 ((u2 Z 0 b 0) 40)))
set_option maxRecDepth 4000 in
theorem w_Reader_readBlock_70 {g : GG} {Q : QT} {h : Hp} {kc ks : Nat} (hst : (gl g).stackTraces = false) {r y p : Nat} {ad : Nat → Nat} {B : Nat → Int32} (hc : RdC g h r y p ad B)  (Z : Nat → Nat → Int32) (b : Nat) (hi0 : IZ Z) (hb10 : b < 10) (hk : Q (.inl none) (ov h (gO (rdL g r y p ad) (f_Reader_readBlock_70 B Z b)))) : PW g M_Reader_readBlock 7 kc ks Q 70 [.ref (r), .retAddr 0, .retAddr 0, .int (nI (b))] [] (ov h (gO (rdL g r y p ad) Z)) := by
  have nds : [r].Nodup := List.pairwise_singleton _ r
  have hnd := hc.1
  have hy := hc.2.1
  have hry := hc.2.2.1
  have hpl := hc.2.2.2.1
  have hz0 := hi0.2.1.2
  have hz1 := hi0.2.2.2
  refine pw_aload_n e_Reader_readBlock_70 rfl ?_
  refine pw_ldcS (i := 2) e_Reader_readBlock_71 rfl (by decide) (by decide) ?_
  refine pw_detV (As := [.ref (gk g 2)]) e_Reader_readBlock_73 li_Reader_68 rfl (gO_get hnd (i := 0) rfl) (q_Reader_isWord hst (Z 40) (gO_get hnd (i := 0) rfl) (hy _ (gO_fst _ _)) hi0.1 2 (by decide)) rfl (by decide) (Nat.le_of_ble_eq_true rfl) rfl ?_
  refine pw_if_eq (tgt := 107) e_Reader_readBlock_76 (by decide) (fun (H1 : (f_Reader_isWord B (Z 40) 2) = 0) => ?_) (fun (H1 : ¬ (f_Reader_isWord B (Z 40) 2) = 0) => ?_)
  · refine w_Reader_readBlock_107 hst hc Z b hi0 (by omega) ?_
    rw [f_Reader_readBlock_70, if_pos H1] at hk
    exact hk
  · refine pw_aload_n e_Reader_readBlock_79 rfl ?_
    refine pw_getf e_Reader_readBlock_80 fl_Reader_31 (gO_get hnd (i := 0) rfl) rfl ?_
    refine pw_getf e_Reader_readBlock_83 fl_Reader_137 (gO_get hnd (i := 1) rfl) rfl ?_
    refine pw_iload_n e_Reader_readBlock_86 rfl ?_
    refine pw_iconst (v := nI 0) e_Reader_readBlock_87 (by decide) ?_
    refine pw_iastG (i := 3) e_Reader_readBlock_88 hnd (rd_x _ _ _ _ _) rfl (by omega) (by decide) ?_
    refine pw_aload_n e_Reader_readBlock_89 rfl ?_
    refine pw_getf e_Reader_readBlock_90 fl_Reader_31 (gO_get hnd (i := 0) rfl) rfl ?_
    refine pw_getf e_Reader_readBlock_93 fl_Reader_140 (gO_get hnd (i := 1) rfl) rfl ?_
    refine pw_iload_n e_Reader_readBlock_96 rfl ?_
    refine pw_aload_n e_Reader_readBlock_97 rfl ?_
    refine pw_iconst (v := nI 0) e_Reader_readBlock_98 (by decide) ?_
    refine pw_iconst (v := nI 3) e_Reader_readBlock_99 (by decide) ?_
    have hb2 := (rn_nat (B := B) (lo := 0) (hi := 3) (R := ((u2 Z 0 b 0) 40)) (by decide) (by decide)).2
    refine pw_detV (As := [.int (nI (0)), .int (nI (3))]) e_Reader_readBlock_100 li_Reader_104 rfl (gO_get hnd (i := 0) rfl) (q_rn hst nds (fun l hl => ov_ne hry (hy _ (gO_fst _ _)) hl) 0 3 ((u2 Z 0 b 0) 40) (gO_get hnd (i := 0) rfl) (iz_u2 hi0 (by decide) (by decide) (by decide)).1 (by decide) (by decide)) rfl (by decide) (Nat.le_of_ble_eq_true rfl) rfl ?_
    refine pw_oneG (i := 0) hnd (rd_x _ _ _ _ _) rfl rfl ?_
    refine pw_iastG (i := 6) e_Reader_readBlock_103 hnd (rd_x _ _ _ _ _) rfl (by omega) (by decide) ?_
    refine pw_goto (tgt := 222) e_Reader_readBlock_104 (by decide) ?_
    refine pw_vret e_Reader_readBlock_222 rfl ?_
    rw [f_Reader_readBlock_70, if_neg H1] at hk
    exact hk
theorem z_Reader_readBlock_70 {B : Nat → Int32} {Z : Nat → Nat → Int32} {b : Nat} (hi0 : IZ Z) (hb10 : b < 10) : IZ (f_Reader_readBlock_70 B Z b) := by
  have hz0 := hi0.2.1.2
  have hz1 := hi0.2.2.2
  rw [f_Reader_readBlock_70]
  by_cases H1 : (f_Reader_isWord B (Z 40) 2) = 0
  · rw [if_pos H1]
    exact z_Reader_readBlock_107 hi0 (by omega)
  · rw [if_neg H1]
    have hb2 := (rn_nat (B := B) (lo := 0) (hi := 3) (R := ((u2 Z 0 b 0) 40)) (by decide) (by decide)).2
    exact (iz_u2 (iz_up (iz_u2 hi0 (by decide) (by decide) (by decide)) (rn_RI (iz_u2 hi0 (by decide) (by decide) (by decide)).1)) (by decide) (by decide) (by decide))
def f_Reader_readBlock_60 (B : Nat → Int32) (Z : Nat → Nat → Int32) (dv : Nat) (tm : Nat) : (Nat → Nat → Int32) :=
  f_Reader_readBlock_70 B (mixK [30, 31, 0, 1, 2, 3, 4, 5, 6, 7, 8, 9, 10, 11, 12, 13, 14, 15, 16, 17] (f_Plan_addBlock (pN Z 30 3) (nI (dv)) (nI (tm)) Z).2 Z) (pN Z 30 3)
set_option maxRecDepth 4000 in
theorem w_Reader_readBlock_60 {g : GG} {Q : QT} {h : Hp} {kc ks : Nat} (hst : (gl g).stackTraces = false) {r y p : Nat} {ad : Nat → Nat} {B : Nat → Int32} (hc : RdC g h r y p ad B)  (Z : Nat → Nat → Int32) (dv : Nat) (tm : Nat) (hi0 : IZ Z) (hb9 : pN Z 30 3 < 10) (hd5 : dv < 5) (hk : Q (.inl none) (ov h (gO (rdL g r y p ad) (f_Reader_readBlock_60 B Z dv tm)))) : PW g M_Reader_readBlock 7 kc ks Q 60 [.ref (r), .int (nI (dv)), .int (nI (tm)), .retAddr 0] [] (ov h (gO (rdL g r y p ad) Z)) := by
  have nds : [r].Nodup := List.pairwise_singleton _ r
  have hnd := hc.1
  have hy := hc.2.1
  have hry := hc.2.2.1
  have hpl := hc.2.2.2.1
  have hz0 := hi0.2.1.2
  have hz1 := hi0.2.2.2
  refine pw_aload_n e_Reader_readBlock_60 rfl ?_
  refine pw_getf e_Reader_readBlock_61 fl_Reader_31 (gO_get hnd (i := 0) rfl) rfl ?_
  refine pw_iload_n e_Reader_readBlock_64 rfl ?_
  refine pw_iload_n e_Reader_readBlock_65 rfl ?_
  refine pw_detV (As := [.int (nI (dv)), .int (nI (tm))]) e_Reader_readBlock_66 li_Reader_132 rfl (gO_get hnd (i := 1) rfl) (q_ab hst (nd_of hnd (pl_sl _ _ _ _ _)) (pN Z 30 3) (nI (dv)) (nI (tm)) hb9 Z (gO_in hnd (pl_in _ _ _ _ _)) hi0.2.1.1) rfl (by decide) (Nat.le_of_ble_eq_true rfl) rfl ?_
  refine pw_subG hnd (rd_x _ _ _ _ _) (nd_of hnd (pl_sl _ _ _ _ _)) (pl_in _ _ _ _ _) ?_
  refine pw_istore_n (ls2 := [_, _, _, _]) e_Reader_readBlock_69 (by decide) rfl ?_
  refine pw_fgt (ls' := [.ref (r), .retAddr 0, .retAddr 0, .int (nI (pN Z 30 3))]) ⟨Or.inr rfl, Or.inl rfl, Or.inl rfl, Or.inr rfl, trivial⟩ ?_
  refine w_Reader_readBlock_70 hst hc (mixK [30, 31, 0, 1, 2, 3, 4, 5, 6, 7, 8, 9, 10, 11, 12, 13, 14, 15, 16, 17] (f_Plan_addBlock (pN Z 30 3) (nI (dv)) (nI (tm)) Z).2 Z) (pN Z 30 3) (iz_ab hi0 hb9 hi0.2.1.1) (by omega) ?_
  rw [f_Reader_readBlock_60] at hk
  exact hk
theorem z_Reader_readBlock_60 {B : Nat → Int32} {Z : Nat → Nat → Int32} {dv : Nat} {tm : Nat} (hi0 : IZ Z) (hb9 : pN Z 30 3 < 10) (hd5 : dv < 5) : IZ (f_Reader_readBlock_60 B Z dv tm) := by
  have hz0 := hi0.2.1.2
  have hz1 := hi0.2.2.2
  rw [f_Reader_readBlock_60]
  exact z_Reader_readBlock_70 (iz_ab hi0 hb9 hi0.2.1.1) (by omega)
def f_Reader_readBlock_52 (B : Nat → Int32) (Z : Nat → Nat → Int32) (dv : Nat) (tm : Nat) : (Nat → Nat → Int32) :=
  if (Z 40 1) = 0 then f_Reader_readBlock_60 B Z dv tm else Z
set_option maxRecDepth 4000 in
theorem w_Reader_readBlock_52 {g : GG} {Q : QT} {h : Hp} {kc ks : Nat} (hst : (gl g).stackTraces = false) {r y p : Nat} {ad : Nat → Nat} {B : Nat → Int32} (hc : RdC g h r y p ad B)  (Z : Nat → Nat → Int32) (dv : Nat) (tm : Nat) (hi0 : IZ Z) (hbk : Z 40 1 = 0 → pN Z 30 3 < 10) (hd5 : dv < 5) (hk : Q (.inl none) (ov h (gO (rdL g r y p ad) (f_Reader_readBlock_52 B Z dv tm)))) : PW g M_Reader_readBlock 7 kc ks Q 52 [.ref (r), .int (nI (dv)), .int (nI (tm)), .retAddr 0] [] (ov h (gO (rdL g r y p ad) Z)) := by
  have nds : [r].Nodup := List.pairwise_singleton _ r
  have hnd := hc.1
  have hy := hc.2.1
  have hry := hc.2.2.1
  have hpl := hc.2.2.2.1
  have hz0 := hi0.2.1.2
  have hz1 := hi0.2.2.2
  refine pw_aload_n e_Reader_readBlock_52 rfl ?_
  refine pw_getf e_Reader_readBlock_53 fl_Reader_15 (gO_get hnd (i := 0) rfl) rfl ?_
  refine pw_if_eq (tgt := 60) e_Reader_readBlock_56 (by decide) (fun (H1 : (Z 40 1) = 0) => ?_) (fun (H1 : ¬ (Z 40 1) = 0) => ?_)
  · refine w_Reader_readBlock_60 hst hc Z dv tm hi0 (hbk H1) (by omega) ?_
    rw [f_Reader_readBlock_52, if_pos H1] at hk
    exact hk
  · refine pw_vret e_Reader_readBlock_59 rfl ?_
    rw [f_Reader_readBlock_52, if_neg H1] at hk
    exact hk
theorem z_Reader_readBlock_52 {B : Nat → Int32} {Z : Nat → Nat → Int32} {dv : Nat} {tm : Nat} (hi0 : IZ Z) (hbk : Z 40 1 = 0 → pN Z 30 3 < 10) (hd5 : dv < 5) : IZ (f_Reader_readBlock_52 B Z dv tm) := by
  have hz0 := hi0.2.1.2
  have hz1 := hi0.2.2.2
  rw [f_Reader_readBlock_52]
  by_cases H1 : (Z 40 1) = 0
  · rw [if_pos H1]
    exact z_Reader_readBlock_60 hi0 (hbk H1) (by omega)
  · rw [if_neg H1]
    exact hi0
def f_Reader_readBlock_48 (B : Nat → Int32) (Z : Nat → Nat → Int32) (dv : Nat) (tm : Nat) : (Nat → Nat → Int32) :=
  f_Reader_readBlock_52 B (va_up Z 40 (f_Reader_nextToken B (Z 40))) dv tm
set_option maxRecDepth 4000 in
theorem w_Reader_readBlock_48 {g : GG} {Q : QT} {h : Hp} {kc ks : Nat} (hst : (gl g).stackTraces = false) {r y p : Nat} {ad : Nat → Nat} {B : Nat → Int32} (hc : RdC g h r y p ad B)  (Z : Nat → Nat → Int32) (dv : Nat) (tm : Nat) (hi0 : IZ Z) (hbk : Z 40 1 = 0 → pN Z 30 3 < 10) (hd5 : dv < 5) (hk : Q (.inl none) (ov h (gO (rdL g r y p ad) (f_Reader_readBlock_48 B Z dv tm)))) : PW g M_Reader_readBlock 7 kc ks Q 48 [.ref (r), .int (nI (dv)), .int (nI (tm)), .retAddr 0] [] (ov h (gO (rdL g r y p ad) Z)) := by
  have nds : [r].Nodup := List.pairwise_singleton _ r
  have hnd := hc.1
  have hy := hc.2.1
  have hry := hc.2.2.1
  have hpl := hc.2.2.2.1
  have hz0 := hi0.2.1.2
  have hz1 := hi0.2.2.2
  refine pw_aload_n e_Reader_readBlock_48 rfl ?_
  refine pw_detV (As := []) e_Reader_readBlock_49 li_Reader_60 rfl (gO_get hnd (i := 0) rfl) (q_Reader_nextToken hst nds (fun l hl => ov_ne hry (hy _ (gO_fst _ _)) hl) (Z 40) (gO_get hnd (i := 0) rfl) (RI.rj hi0.1)) rfl (by decide) (Nat.le_of_ble_eq_true rfl) rfl ?_
  refine pw_oneG (i := 0) hnd (rd_x _ _ _ _ _) rfl rfl ?_
  refine w_Reader_readBlock_52 hst hc (va_up Z 40 (f_Reader_nextToken B (Z 40))) dv tm (iz_up hi0 (nx_RI hi0.1)) (bk_up (by decide) hbk (fun q => nx_g q)) (by omega) ?_
  rw [f_Reader_readBlock_48] at hk
  exact hk
theorem z_Reader_readBlock_48 {B : Nat → Int32} {Z : Nat → Nat → Int32} {dv : Nat} {tm : Nat} (hi0 : IZ Z) (hbk : Z 40 1 = 0 → pN Z 30 3 < 10) (hd5 : dv < 5) : IZ (f_Reader_readBlock_48 B Z dv tm) := by
  have hz0 := hi0.2.1.2
  have hz1 := hi0.2.2.2
  rw [f_Reader_readBlock_48]
  exact z_Reader_readBlock_52 (iz_up hi0 (nx_RI hi0.1)) (bk_up (by decide) hbk (fun q => nx_g q)) (by omega)
def f_Reader_readBlock_40 (B : Nat → Int32) (Z : Nat → Nat → Int32) (dv : Nat) : (Nat → Nat → Int32) :=
  f_Reader_readBlock_48 B (va_up Z 40 ((f_Reader_readNumber B (nI 1) (nI 9) (Z 40)).2)) dv (rnN B 1 9 (Z 40))
set_option maxRecDepth 4000 in
theorem w_Reader_readBlock_40 {g : GG} {Q : QT} {h : Hp} {kc ks : Nat} (hst : (gl g).stackTraces = false) {r y p : Nat} {ad : Nat → Nat} {B : Nat → Int32} (hc : RdC g h r y p ad B)  (Z : Nat → Nat → Int32) (dv : Nat) (hi0 : IZ Z) (hbk : Z 40 1 = 0 → pN Z 30 3 < 10) (hd5 : dv < 5) (hk : Q (.inl none) (ov h (gO (rdL g r y p ad) (f_Reader_readBlock_40 B Z dv)))) : PW g M_Reader_readBlock 7 kc ks Q 40 [.ref (r), .int (nI (dv)), .retAddr 0, .retAddr 0] [] (ov h (gO (rdL g r y p ad) Z)) := by
  have nds : [r].Nodup := List.pairwise_singleton _ r
  have hnd := hc.1
  have hy := hc.2.1
  have hry := hc.2.2.1
  have hpl := hc.2.2.2.1
  have hz0 := hi0.2.1.2
  have hz1 := hi0.2.2.2
  refine pw_aload_n e_Reader_readBlock_40 rfl ?_
  refine pw_iconst (v := nI 1) e_Reader_readBlock_41 (by decide) ?_
  refine pw_bipush (v := nI 9) e_Reader_readBlock_42 (by decide) ?_
  have hb1 := (rn_nat (B := B) (lo := 1) (hi := 9) (R := (Z 40)) (by decide) (by decide)).2
  refine pw_detV (As := [.int (nI (1)), .int (nI (9))]) e_Reader_readBlock_44 li_Reader_104 rfl (gO_get hnd (i := 0) rfl) (q_rn hst nds (fun l hl => ov_ne hry (hy _ (gO_fst _ _)) hl) 1 9 (Z 40) (gO_get hnd (i := 0) rfl) hi0.1 (by decide) (by decide)) rfl (by decide) (Nat.le_of_ble_eq_true rfl) rfl ?_
  refine pw_oneG (i := 0) hnd (rd_x _ _ _ _ _) rfl rfl ?_
  refine pw_istore_n (ls2 := [_, _, _, _]) e_Reader_readBlock_47 (by decide) rfl ?_
  refine w_Reader_readBlock_48 hst hc (va_up Z 40 ((f_Reader_readNumber B (nI 1) (nI 9) (Z 40)).2)) dv (rnN B 1 9 (Z 40)) (iz_up hi0 (rn_RI hi0.1)) (bk_up (by decide) hbk (fun q => rn_g q)) (by omega) ?_
  rw [f_Reader_readBlock_40] at hk
  exact hk
theorem z_Reader_readBlock_40 {B : Nat → Int32} {Z : Nat → Nat → Int32} {dv : Nat} (hi0 : IZ Z) (hbk : Z 40 1 = 0 → pN Z 30 3 < 10) (hd5 : dv < 5) : IZ (f_Reader_readBlock_40 B Z dv) := by
  have hz0 := hi0.2.1.2
  have hz1 := hi0.2.2.2
  rw [f_Reader_readBlock_40]
  have hb1 := (rn_nat (B := B) (lo := 1) (hi := 9) (R := (Z 40)) (by decide) (by decide)).2
  exact z_Reader_readBlock_48 (iz_up hi0 (rn_RI hi0.1)) (bk_up (by decide) hbk (fun q => rn_g q)) (by omega)
def f_Reader_readBlock_24 (B : Nat → Int32) (Z : Nat → Nat → Int32) (dv : Nat) : (Nat → Nat → Int32) :=
  if (nI (dv)) < (Z 30 0) then f_Reader_readBlock_40 B Z dv else f_Reader_readBlock_40 B (va_up Z 40 (f_Reader_fail 3 (Z 40))) dv
set_option maxRecDepth 4000 in
theorem w_Reader_readBlock_24 {g : GG} {Q : QT} {h : Hp} {kc ks : Nat} (hst : (gl g).stackTraces = false) {r y p : Nat} {ad : Nat → Nat} {B : Nat → Int32} (hc : RdC g h r y p ad B)  (Z : Nat → Nat → Int32) (dv : Nat) (hi0 : IZ Z) (hbk : Z 40 1 = 0 → pN Z 30 3 < 10) (hd5 : dv < 5) (hk : Q (.inl none) (ov h (gO (rdL g r y p ad) (f_Reader_readBlock_24 B Z dv)))) : PW g M_Reader_readBlock 7 kc ks Q 24 [.ref (r), .int (nI (dv)), .retAddr 0, .retAddr 0] [] (ov h (gO (rdL g r y p ad) Z)) := by
  have nds : [r].Nodup := List.pairwise_singleton _ r
  have hnd := hc.1
  have hy := hc.2.1
  have hry := hc.2.2.1
  have hpl := hc.2.2.2.1
  have hz0 := hi0.2.1.2
  have hz1 := hi0.2.2.2
  refine pw_iload_n e_Reader_readBlock_24 rfl ?_
  refine pw_aload_n e_Reader_readBlock_25 rfl ?_
  refine pw_getf e_Reader_readBlock_26 fl_Reader_31 (gO_get hnd (i := 0) rfl) rfl ?_
  refine pw_getf e_Reader_readBlock_29 fl_Reader_107 (gO_get hnd (i := 1) rfl) rfl ?_
  refine pw_icmp_lt (tgt := 40) e_Reader_readBlock_32 (by decide) (fun (H1 : (nI (dv)) < (Z 30 0)) => ?_) (fun (H1 : ¬ (nI (dv)) < (Z 30 0)) => ?_)
  · refine w_Reader_readBlock_40 hst hc Z dv hi0 hbk (by omega) ?_
    rw [f_Reader_readBlock_24, if_pos H1] at hk
    exact hk
  · refine pw_aload_n e_Reader_readBlock_35 rfl ?_
    refine pw_iconst (v := nI 3) e_Reader_readBlock_36 (by decide) ?_
    refine pw_detV (As := [.int (nI (3))]) e_Reader_readBlock_37 li_Reader_100 rfl (gO_get hnd (i := 0) rfl) (q_Reader_fail hst nds 3 (Z 40) (gO_get hnd (i := 0) rfl)) rfl (by decide) (Nat.le_of_ble_eq_true rfl) rfl ?_
    refine pw_oneG (i := 0) hnd (rd_x _ _ _ _ _) rfl rfl ?_
    refine w_Reader_readBlock_40 hst hc (va_up Z 40 (f_Reader_fail 3 (Z 40))) dv (iz_up hi0 (fail_RI hi0.1)) (bk_fail (by decide)) (by omega) ?_
    rw [f_Reader_readBlock_24, if_neg H1] at hk
    exact hk
theorem z_Reader_readBlock_24 {B : Nat → Int32} {Z : Nat → Nat → Int32} {dv : Nat} (hi0 : IZ Z) (hbk : Z 40 1 = 0 → pN Z 30 3 < 10) (hd5 : dv < 5) : IZ (f_Reader_readBlock_24 B Z dv) := by
  have hz0 := hi0.2.1.2
  have hz1 := hi0.2.2.2
  rw [f_Reader_readBlock_24]
  by_cases H1 : (nI (dv)) < (Z 30 0)
  · rw [if_pos H1]
    exact z_Reader_readBlock_40 hi0 hbk (by omega)
  · rw [if_neg H1]
    exact z_Reader_readBlock_40 (iz_up hi0 (fail_RI hi0.1)) (bk_fail (by decide)) (by omega)
def f_Reader_readBlock_17 (B : Nat → Int32) (Z : Nat → Nat → Int32) : (Nat → Nat → Int32) :=
  f_Reader_readBlock_24 B (va_up Z 40 ((f_Reader_readNumber B (nI 0) (nI 4) (Z 40)).2)) (rnN B 0 4 (Z 40))
set_option maxRecDepth 4000 in
theorem w_Reader_readBlock_17 {g : GG} {Q : QT} {h : Hp} {kc ks : Nat} (hst : (gl g).stackTraces = false) {r y p : Nat} {ad : Nat → Nat} {B : Nat → Int32} (hc : RdC g h r y p ad B)  (Z : Nat → Nat → Int32) (hi0 : IZ Z) (hbk : Z 40 1 = 0 → pN Z 30 3 < 10) (hk : Q (.inl none) (ov h (gO (rdL g r y p ad) (f_Reader_readBlock_17 B Z)))) : PW g M_Reader_readBlock 7 kc ks Q 17 [.ref (r), .retAddr 0, .retAddr 0, .retAddr 0] [] (ov h (gO (rdL g r y p ad) Z)) := by
  have nds : [r].Nodup := List.pairwise_singleton _ r
  have hnd := hc.1
  have hy := hc.2.1
  have hry := hc.2.2.1
  have hpl := hc.2.2.2.1
  have hz0 := hi0.2.1.2
  have hz1 := hi0.2.2.2
  refine pw_aload_n e_Reader_readBlock_17 rfl ?_
  refine pw_iconst (v := nI 0) e_Reader_readBlock_18 (by decide) ?_
  refine pw_iconst (v := nI 4) e_Reader_readBlock_19 (by decide) ?_
  have hb1 := (rn_nat (B := B) (lo := 0) (hi := 4) (R := (Z 40)) (by decide) (by decide)).2
  refine pw_detV (As := [.int (nI (0)), .int (nI (4))]) e_Reader_readBlock_20 li_Reader_104 rfl (gO_get hnd (i := 0) rfl) (q_rn hst nds (fun l hl => ov_ne hry (hy _ (gO_fst _ _)) hl) 0 4 (Z 40) (gO_get hnd (i := 0) rfl) hi0.1 (by decide) (by decide)) rfl (by decide) (Nat.le_of_ble_eq_true rfl) rfl ?_
  refine pw_oneG (i := 0) hnd (rd_x _ _ _ _ _) rfl rfl ?_
  refine pw_istore_n (ls2 := [_, _, _, _]) e_Reader_readBlock_23 (by decide) rfl ?_
  refine w_Reader_readBlock_24 hst hc (va_up Z 40 ((f_Reader_readNumber B (nI 0) (nI 4) (Z 40)).2)) (rnN B 0 4 (Z 40)) (iz_up hi0 (rn_RI hi0.1)) (bk_up (by decide) hbk (fun q => rn_g q)) (by omega) ?_
  rw [f_Reader_readBlock_17] at hk
  exact hk
theorem z_Reader_readBlock_17 {B : Nat → Int32} {Z : Nat → Nat → Int32} (hi0 : IZ Z) (hbk : Z 40 1 = 0 → pN Z 30 3 < 10) : IZ (f_Reader_readBlock_17 B Z) := by
  have hz0 := hi0.2.1.2
  have hz1 := hi0.2.2.2
  rw [f_Reader_readBlock_17]
  have hb1 := (rn_nat (B := B) (lo := 0) (hi := 4) (R := (Z 40)) (by decide) (by decide)).2
  exact z_Reader_readBlock_24 (iz_up hi0 (rn_RI hi0.1)) (bk_up (by decide) hbk (fun q => rn_g q)) (by omega)
def f_Reader_readBlock (B : Nat → Int32) (Z : Nat → Nat → Int32) : (Nat → Nat → Int32) :=
  if (pN Z 30 3) < 10 then f_Reader_readBlock_17 B Z else f_Reader_readBlock_17 B (va_up Z 40 (f_Reader_fail 2 (Z 40)))
set_option maxRecDepth 4000 in
theorem w_Reader_readBlock_0 {g : GG} {Q : QT} {h : Hp} {kc ks : Nat} (hst : (gl g).stackTraces = false) {r y p : Nat} {ad : Nat → Nat} {B : Nat → Int32} (hc : RdC g h r y p ad B)  (Z : Nat → Nat → Int32) (hi0 : IZ Z) (hk : Q (.inl none) (ov h (gO (rdL g r y p ad) (f_Reader_readBlock B Z)))) : PW g M_Reader_readBlock 7 kc ks Q 0 [.ref (r), .retAddr 0, .retAddr 0, .retAddr 0] [] (ov h (gO (rdL g r y p ad) Z)) := by
  have nds : [r].Nodup := List.pairwise_singleton _ r
  have hnd := hc.1
  have hy := hc.2.1
  have hry := hc.2.2.1
  have hpl := hc.2.2.2.1
  have hz0 := hi0.2.1.2
  have hz1 := hi0.2.2.2
  refine pw_aload_n e_Reader_readBlock_0 rfl ?_
  refine pw_getf e_Reader_readBlock_1 fl_Reader_31 (gO_get hnd (i := 0) rfl) rfl ?_
  refine pw_getf e_Reader_readBlock_4 fl_Reader_129 (gO_get hnd (i := 1) rfl) rfl ?_
  rw [show Z 30 3 = nI (pN Z 30 3) from hi0.2.1.1]
  refine pw_bipush (v := nI 10) e_Reader_readBlock_7 (by decide) ?_
  refine pw_icmp_ltN (tgt := 17) e_Reader_readBlock_9 (by decide) (by omega) (by omega) (fun (H1 : (pN Z 30 3) < 10) => ?_) (fun (H1 : 10 ≤ (pN Z 30 3)) => ?_)
  · refine w_Reader_readBlock_17 hst hc Z hi0 (fun _ => H1) ?_
    rw [f_Reader_readBlock, if_pos H1] at hk
    exact hk
  · refine pw_aload_n e_Reader_readBlock_12 rfl ?_
    refine pw_iconst (v := nI 2) e_Reader_readBlock_13 (by decide) ?_
    refine pw_detV (As := [.int (nI (2))]) e_Reader_readBlock_14 li_Reader_100 rfl (gO_get hnd (i := 0) rfl) (q_Reader_fail hst nds 2 (Z 40) (gO_get hnd (i := 0) rfl)) rfl (by decide) (Nat.le_of_ble_eq_true rfl) rfl ?_
    refine pw_oneG (i := 0) hnd (rd_x _ _ _ _ _) rfl rfl ?_
    refine w_Reader_readBlock_17 hst hc (va_up Z 40 (f_Reader_fail 2 (Z 40))) (iz_up hi0 (fail_RI hi0.1)) (bk_fail (by decide)) ?_
    rw [f_Reader_readBlock, if_neg (Nat.not_lt.mpr H1)] at hk
    exact hk
theorem q_Reader_readBlock {g : GG} {h : Hp} (hst : (gl g).stackTraces = false) {r y p : Nat} {ad : Nat → Nat} {B : Nat → Int32} (hc : RdC g h r y p ad B)  (Z : Nat → Nat → Int32) (hm : ∀ q ∈ gO (rdL g r y p ad) Z, h q.1 = some q.2) (hi0 : IZ Z) : PM g M_Reader_readBlock 7 0 0 [.ref (r)] h (RetV none (ov h (gO (rdL g r y p ad) (f_Reader_readBlock B Z)))) := by
  refine PM.of hst (by decide) rfl (fun v hv => ?_) (Nat.le_of_ble_eq_true rfl) ?_
  · simp only [List.mem_cons, List.not_mem_nil, or_false] at hv; rcases hv with rfl <;> rfl
  · have hq := w_Reader_readBlock_0 (g := g) (Q := RetV none (ov h (gO (rdL g r y p ad) (f_Reader_readBlock B Z)))) (h := h) (kc := 0) (ks := 0) hst hc Z hi0 ?_
    · rw [ov_self hm] at hq; exact hq
    · exact ⟨rfl, rfl⟩
theorem z_Reader_readBlock {B : Nat → Int32} {Z : Nat → Nat → Int32} (hi0 : IZ Z) : IZ (f_Reader_readBlock B Z) := by
  have hz0 := hi0.2.1.2
  have hz1 := hi0.2.2.2
  rw [f_Reader_readBlock]
  by_cases H1 : (pN Z 30 3) < 10
  · rw [if_pos H1]
    exact z_Reader_readBlock_17 hi0 (fun _ => H1)
  · rw [if_neg H1]
    exact z_Reader_readBlock_17 (iz_up hi0 (fail_RI hi0.1)) (bk_fail (by decide))

theorem iz_al {n a b w : Nat} {Z : Nat → Nat → Int32} (h : IZ Z) (hn : n < 12) (hb : Z 31 0 = nI n) : IZ (mixK [30, 31, 0, 1, 2, 3, 4, 5, 6, 7, 8, 9, 10, 11, 12, 13, 14, 15, 16, 17] (f_Plan_addLink n a b w Z) Z) := by
  have e1 : f_Plan_addLink n a b w Z 31 0 = nI (n + 1) ∧ f_Plan_addLink n a b w Z 30 3 = Z 30 3 := by
    rw [f_Plan_addLink]
    split <;> exact ⟨rfl, rfl⟩
  refine ⟨h.1, ?_, ?_⟩
  · unfold pN
    rw [mix_pl (by decide) (by decide), e1.2]
    exact h.2.1
  · unfold pN
    rw [mix_pl (by decide) (by decide), e1.1, nI_clamp (by omega)]
    exact ⟨rfl, by omega⟩
def f_Reader_readLink_96 (B : Nat → Int32) (Z : Nat → Nat → Int32) (a : Nat) (b : Nat) (w : Nat) : (Nat → Nat → Int32) :=
  if (f_Plan_suits Z a b w) = 0 then va_up Z 40 (f_Reader_fail 3 (Z 40)) else if (f_Plan_hasLinked Z a b w) = 0 then if (f_Links_leads (pN Z 31 0) Z (nI (b)) (nI (a))) = 0 then mixK [30, 31, 0, 1, 2, 3, 4, 5, 6, 7, 8, 9, 10, 11, 12, 13, 14, 15, 16, 17] (f_Plan_addLink (pN Z 31 0) a b w Z) Z else va_up Z 40 (f_Reader_fail 5 (Z 40)) else va_up Z 40 (f_Reader_fail 5 (Z 40))
set_option maxRecDepth 4000 in
theorem w_Reader_readLink_96 {g : GG} {Q : QT} {h : Hp} {kc ks : Nat} (hst : (gl g).stackTraces = false) {r y p : Nat} {ad : Nat → Nat} {B : Nat → Int32} (hc : RdC g h r y p ad B)  (Z : Nat → Nat → Int32) (a : Nat) (b : Nat) (w : Nat) (hi0 : IZ Z) (hl12 : pN Z 31 0 < 12) (ha9 : a < 10) (hb9 : b < 10) (hw3 : w < 3) (hk : Q (.inl none) (ov h (gO (rdL g r y p ad) (f_Reader_readLink_96 B Z a b w)))) : PW g M_Reader_readLink 7 kc ks Q 96 [.ref (r), .int (nI (a)), .int (nI (b)), .int (nI (w))] [] (ov h (gO (rdL g r y p ad) Z)) := by
  have nds : [r].Nodup := List.pairwise_singleton _ r
  have hnd := hc.1
  have hy := hc.2.1
  have hry := hc.2.2.1
  have hpl := hc.2.2.2.1
  have hz0 := hi0.2.1.2
  have hz1 := hi0.2.2.2
  refine pw_aload_n e_Reader_readLink_96 rfl ?_
  refine pw_getf e_Reader_readLink_97 fl_Reader_31 (gO_get hnd (i := 0) rfl) rfl ?_
  refine pw_iload_n e_Reader_readLink_100 rfl ?_
  refine pw_iload_n e_Reader_readLink_101 rfl ?_
  refine pw_iload_n e_Reader_readLink_102 rfl ?_
  refine pw_detV (As := [.int (nI (a)), .int (nI (b)), .int (nI (w))]) e_Reader_readLink_103 li_Reader_202 rfl (gO_get hnd (i := 1) rfl) (q_Plan_suits hst Z (gO_get hnd (i := 1) rfl) (gO_get hnd (i := 3) rfl) (gO_get hnd (i := 13) rfl) (gO_get hnd (i := 14) rfl) a b w (by omega) (by omega) (by omega)) rfl (by decide) (Nat.le_of_ble_eq_true rfl) rfl ?_
  refine pw_if_ne (tgt := 117) e_Reader_readLink_106 (by decide) (fun (H1 : ¬ (f_Plan_suits Z a b w) = 0) => ?_) (fun (H1 : (f_Plan_suits Z a b w) = 0) => ?_)
  · refine pw_aload_n e_Reader_readLink_117 rfl ?_
    refine pw_getf e_Reader_readLink_118 fl_Reader_31 (gO_get hnd (i := 0) rfl) rfl ?_
    refine pw_iload_n e_Reader_readLink_121 rfl ?_
    refine pw_iload_n e_Reader_readLink_122 rfl ?_
    refine pw_iload_n e_Reader_readLink_123 rfl ?_
    refine pw_detV (As := [.int (nI (a)), .int (nI (b)), .int (nI (w))]) e_Reader_readLink_124 li_Reader_206 rfl (gO_get hnd (i := 1) rfl) (q_Plan_hasLinked hst Z (gO_get hnd (i := 1) rfl) (gO_get hnd (i := 3) rfl) (gO_get hnd (i := 13) rfl) (gO_get hnd (i := 14) rfl) a b w (by omega) (by omega) (by omega)) rfl (by decide) (Nat.le_of_ble_eq_true rfl) rfl ?_
    refine pw_if_ne (tgt := 145) e_Reader_readLink_127 (by decide) (fun (H2 : ¬ (f_Plan_hasLinked Z a b w) = 0) => ?_) (fun (H2 : (f_Plan_hasLinked Z a b w) = 0) => ?_)
    · refine pw_aload_n e_Reader_readLink_145 rfl ?_
      refine pw_iconst (v := nI 5) e_Reader_readLink_146 (by decide) ?_
      refine pw_detV (As := [.int (nI (5))]) e_Reader_readLink_147 li_Reader_100 rfl (gO_get hnd (i := 0) rfl) (q_Reader_fail hst nds 5 (Z 40) (gO_get hnd (i := 0) rfl)) rfl (by decide) (Nat.le_of_ble_eq_true rfl) rfl ?_
      refine pw_oneG (i := 0) hnd (rd_x _ _ _ _ _) rfl rfl ?_
      refine pw_goto (tgt := 163) e_Reader_readLink_150 (by decide) ?_
      refine pw_vret e_Reader_readLink_163 rfl ?_
      rw [f_Reader_readLink_96, if_neg H1, if_neg H2] at hk
      exact hk
    · refine pw_aload_n e_Reader_readLink_130 rfl ?_
      refine pw_getf e_Reader_readLink_131 fl_Reader_31 (gO_get hnd (i := 0) rfl) rfl ?_
      refine pw_getf e_Reader_readLink_134 fl_Reader_183 (gO_get hnd (i := 1) rfl) rfl ?_
      refine pw_iload_n e_Reader_readLink_137 rfl ?_
      refine pw_iload_n e_Reader_readLink_138 rfl ?_
      refine pw_detV (As := [.int (nI (b)), .int (nI (a))]) e_Reader_readLink_139 li_Reader_209 rfl (gO_get hnd (i := 2) rfl) (q_Links_leads hst (pN Z 31 0) Z hi0.2.2.2 hi0.2.2.1 (gO_get hnd (i := 2) rfl) (gO_get hnd (i := 15) rfl) (gO_get hnd (i := 16) rfl) (nI (b)) (nI (a))) rfl (by decide) (Nat.le_of_ble_eq_true rfl) rfl ?_
      refine pw_if_eq (tgt := 153) e_Reader_readLink_142 (by decide) (fun (H3 : (f_Links_leads (pN Z 31 0) Z (nI (b)) (nI (a))) = 0) => ?_) (fun (H3 : ¬ (f_Links_leads (pN Z 31 0) Z (nI (b)) (nI (a))) = 0) => ?_)
      · refine pw_aload_n e_Reader_readLink_153 rfl ?_
        refine pw_getf e_Reader_readLink_154 fl_Reader_31 (gO_get hnd (i := 0) rfl) rfl ?_
        refine pw_iload_n e_Reader_readLink_157 rfl ?_
        refine pw_iload_n e_Reader_readLink_158 rfl ?_
        refine pw_iload_n e_Reader_readLink_159 rfl ?_
        refine pw_detV (As := [.int (nI (a)), .int (nI (b)), .int (nI (w))]) e_Reader_readLink_160 li_Reader_213 rfl (gO_get hnd (i := 1) rfl) (q_Plan_addLink hst (nd_of hnd (pl_sl _ _ _ _ _)) (pN Z 31 0) a b w hl12 (by omega) (by omega) (by omega) Z (gO_in hnd (pl_in _ _ _ _ _)) hi0.2.2.1) rfl (by decide) (Nat.le_of_ble_eq_true rfl) rfl ?_
        refine pw_subG hnd (rd_x _ _ _ _ _) (nd_of hnd (pl_sl _ _ _ _ _)) (pl_in _ _ _ _ _) ?_
        refine pw_vret e_Reader_readLink_163 rfl ?_
        rw [f_Reader_readLink_96, if_neg H1, if_pos H2, if_pos H3] at hk
        exact hk
      · refine pw_aload_n e_Reader_readLink_145 rfl ?_
        refine pw_iconst (v := nI 5) e_Reader_readLink_146 (by decide) ?_
        refine pw_detV (As := [.int (nI (5))]) e_Reader_readLink_147 li_Reader_100 rfl (gO_get hnd (i := 0) rfl) (q_Reader_fail hst nds 5 (Z 40) (gO_get hnd (i := 0) rfl)) rfl (by decide) (Nat.le_of_ble_eq_true rfl) rfl ?_
        refine pw_oneG (i := 0) hnd (rd_x _ _ _ _ _) rfl rfl ?_
        refine pw_goto (tgt := 163) e_Reader_readLink_150 (by decide) ?_
        refine pw_vret e_Reader_readLink_163 rfl ?_
        rw [f_Reader_readLink_96, if_neg H1, if_pos H2, if_neg H3] at hk
        exact hk
  · refine pw_aload_n e_Reader_readLink_109 rfl ?_
    refine pw_iconst (v := nI 3) e_Reader_readLink_110 (by decide) ?_
    refine pw_detV (As := [.int (nI (3))]) e_Reader_readLink_111 li_Reader_100 rfl (gO_get hnd (i := 0) rfl) (q_Reader_fail hst nds 3 (Z 40) (gO_get hnd (i := 0) rfl)) rfl (by decide) (Nat.le_of_ble_eq_true rfl) rfl ?_
    refine pw_oneG (i := 0) hnd (rd_x _ _ _ _ _) rfl rfl ?_
    refine pw_goto (tgt := 163) e_Reader_readLink_114 (by decide) ?_
    refine pw_vret e_Reader_readLink_163 rfl ?_
    rw [f_Reader_readLink_96, if_pos H1] at hk
    exact hk
theorem z_Reader_readLink_96 {B : Nat → Int32} {Z : Nat → Nat → Int32} {a : Nat} {b : Nat} {w : Nat} (hi0 : IZ Z) (hl12 : pN Z 31 0 < 12) (ha9 : a < 10) (hb9 : b < 10) (hw3 : w < 3) : IZ (f_Reader_readLink_96 B Z a b w) := by
  have hz0 := hi0.2.1.2
  have hz1 := hi0.2.2.2
  rw [f_Reader_readLink_96]
  by_cases H1 : (f_Plan_suits Z a b w) = 0
  · rw [if_pos H1]
    exact (iz_up hi0 (fail_RI hi0.1))
  · rw [if_neg H1]
    by_cases H2 : (f_Plan_hasLinked Z a b w) = 0
    · rw [if_pos H2]
      by_cases H3 : (f_Links_leads (pN Z 31 0) Z (nI (b)) (nI (a))) = 0
      · rw [if_pos H3]
        exact (iz_al hi0 hl12 hi0.2.2.1)
      · rw [if_neg H3]
        exact (iz_up hi0 (fail_RI hi0.1))
    · rw [if_neg H2]
      exact (iz_up hi0 (fail_RI hi0.1))
def f_Reader_readLink_42 (B : Nat → Int32) (Z : Nat → Nat → Int32) (a : Nat) (b : Nat) : (Nat → Nat → Int32) :=
  if (f_Reader_isWord B (Z 40) 13) = 0 then if (f_Reader_isWord B (Z 40) 14) = 0 then if (f_Reader_isWord B (Z 40) 15) = 0 then va_up Z 40 (f_Reader_fail 1 (Z 40)) else f_Reader_readLink_96 B Z a b 2 else f_Reader_readLink_96 B Z a b 1 else f_Reader_readLink_96 B Z a b 0
set_option maxRecDepth 4000 in
theorem w_Reader_readLink_42 {g : GG} {Q : QT} {h : Hp} {kc ks : Nat} (hst : (gl g).stackTraces = false) {r y p : Nat} {ad : Nat → Nat} {B : Nat → Int32} (hc : RdC g h r y p ad B)  (Z : Nat → Nat → Int32) (a : Nat) (b : Nat) (hi0 : IZ Z) (hl12 : pN Z 31 0 < 12) (ha9 : a < 10) (hb9 : b < 10) (hk : Q (.inl none) (ov h (gO (rdL g r y p ad) (f_Reader_readLink_42 B Z a b)))) : PW g M_Reader_readLink 7 kc ks Q 42 [.ref (r), .int (nI (a)), .int (nI (b)), .retAddr 0] [] (ov h (gO (rdL g r y p ad) Z)) := by
  have nds : [r].Nodup := List.pairwise_singleton _ r
  have hnd := hc.1
  have hy := hc.2.1
  have hry := hc.2.2.1
  have hpl := hc.2.2.2.1
  have hz0 := hi0.2.1.2
  have hz1 := hi0.2.2.2
  refine pw_aload_n e_Reader_readLink_42 rfl ?_
  refine pw_ldcS (i := 13) e_Reader_readLink_43 rfl (by decide) (by decide) ?_
  refine pw_detV (As := [.ref (gk g 13)]) e_Reader_readLink_45 li_Reader_68 rfl (gO_get hnd (i := 0) rfl) (q_Reader_isWord hst (Z 40) (gO_get hnd (i := 0) rfl) (hy _ (gO_fst _ _)) hi0.1 13 (by decide)) rfl (by decide) (Nat.le_of_ble_eq_true rfl) rfl ?_
  refine pw_if_eq (tgt := 55) e_Reader_readLink_48 (by decide) (fun (H1 : (f_Reader_isWord B (Z 40) 13) = 0) => ?_) (fun (H1 : ¬ (f_Reader_isWord B (Z 40) 13) = 0) => ?_)
  · refine pw_aload_n e_Reader_readLink_55 rfl ?_
    refine pw_ldcS (i := 14) e_Reader_readLink_56 rfl (by decide) (by decide) ?_
    refine pw_detV (As := [.ref (gk g 14)]) e_Reader_readLink_58 li_Reader_68 rfl (gO_get hnd (i := 0) rfl) (q_Reader_isWord hst (Z 40) (gO_get hnd (i := 0) rfl) (hy _ (gO_fst _ _)) hi0.1 14 (by decide)) rfl (by decide) (Nat.le_of_ble_eq_true rfl) rfl ?_
    refine pw_if_eq (tgt := 68) e_Reader_readLink_61 (by decide) (fun (H2 : (f_Reader_isWord B (Z 40) 14) = 0) => ?_) (fun (H2 : ¬ (f_Reader_isWord B (Z 40) 14) = 0) => ?_)
    · refine pw_aload_n e_Reader_readLink_68 rfl ?_
      refine pw_ldcS (i := 15) e_Reader_readLink_69 rfl (by decide) (by decide) ?_
      refine pw_detV (As := [.ref (gk g 15)]) e_Reader_readLink_71 li_Reader_68 rfl (gO_get hnd (i := 0) rfl) (q_Reader_isWord hst (Z 40) (gO_get hnd (i := 0) rfl) (hy _ (gO_fst _ _)) hi0.1 15 (by decide)) rfl (by decide) (Nat.le_of_ble_eq_true rfl) rfl ?_
      refine pw_if_eq (tgt := 81) e_Reader_readLink_74 (by decide) (fun (H3 : (f_Reader_isWord B (Z 40) 15) = 0) => ?_) (fun (H3 : ¬ (f_Reader_isWord B (Z 40) 15) = 0) => ?_)
      · refine pw_iconst (v := (-1)) e_Reader_readLink_81 (by decide) ?_
        refine pw_istore_n (ls2 := [_, _, _, _]) e_Reader_readLink_82 (by decide) rfl ?_
        refine pw_iload_n e_Reader_readLink_83 rfl ?_
        refine pw_iconst (v := (-1)) e_Reader_readLink_84 (by decide) ?_
        refine pw_icmp_ne (tgt := 96) e_Reader_readLink_85 (by decide) (fun (H4 : ¬ ((-1)) = ((-1))) => ?_) (fun (H4 : ((-1)) = ((-1))) => ?_)
        · exact absurd H4 (by decide)
        · refine pw_aload_n e_Reader_readLink_88 rfl ?_
          refine pw_iconst (v := nI 1) e_Reader_readLink_89 (by decide) ?_
          refine pw_detV (As := [.int (nI (1))]) e_Reader_readLink_90 li_Reader_100 rfl (gO_get hnd (i := 0) rfl) (q_Reader_fail hst nds 1 (Z 40) (gO_get hnd (i := 0) rfl)) rfl (by decide) (Nat.le_of_ble_eq_true rfl) rfl ?_
          refine pw_oneG (i := 0) hnd (rd_x _ _ _ _ _) rfl rfl ?_
          refine pw_goto (tgt := 163) e_Reader_readLink_93 (by decide) ?_
          refine pw_vret e_Reader_readLink_163 rfl ?_
          rw [f_Reader_readLink_42, if_pos H1, if_pos H2, if_pos H3] at hk
          exact hk
      · refine pw_iconst (v := nI 2) e_Reader_readLink_77 (by decide) ?_
        refine pw_goto (tgt := 82) e_Reader_readLink_78 (by decide) ?_
        refine pw_istore_n (ls2 := [_, _, _, _]) e_Reader_readLink_82 (by decide) rfl ?_
        refine pw_iload_n e_Reader_readLink_83 rfl ?_
        refine pw_iconst (v := (-1)) e_Reader_readLink_84 (by decide) ?_
        refine pw_icmp_ne (tgt := 96) e_Reader_readLink_85 (by decide) (fun (H5 : ¬ 2 = ((-1))) => ?_) (fun (H5 : 2 = ((-1))) => ?_)
        · refine w_Reader_readLink_96 hst hc Z a b 2 hi0 (by omega) (by omega) (by omega) (by omega) ?_
          rw [f_Reader_readLink_42, if_pos H1, if_pos H2, if_neg H3] at hk
          exact hk
        · exact absurd H5 (by decide)
    · refine pw_iconst (v := nI 1) e_Reader_readLink_64 (by decide) ?_
      refine pw_goto (tgt := 82) e_Reader_readLink_65 (by decide) ?_
      refine pw_istore_n (ls2 := [_, _, _, _]) e_Reader_readLink_82 (by decide) rfl ?_
      refine pw_iload_n e_Reader_readLink_83 rfl ?_
      refine pw_iconst (v := (-1)) e_Reader_readLink_84 (by decide) ?_
      refine pw_icmp_ne (tgt := 96) e_Reader_readLink_85 (by decide) (fun (H6 : ¬ 1 = ((-1))) => ?_) (fun (H6 : 1 = ((-1))) => ?_)
      · refine w_Reader_readLink_96 hst hc Z a b 1 hi0 (by omega) (by omega) (by omega) (by omega) ?_
        rw [f_Reader_readLink_42, if_pos H1, if_neg H2] at hk
        exact hk
      · exact absurd H6 (by decide)
  · refine pw_iconst (v := nI 0) e_Reader_readLink_51 (by decide) ?_
    refine pw_goto (tgt := 82) e_Reader_readLink_52 (by decide) ?_
    refine pw_istore_n (ls2 := [_, _, _, _]) e_Reader_readLink_82 (by decide) rfl ?_
    refine pw_iload_n e_Reader_readLink_83 rfl ?_
    refine pw_iconst (v := (-1)) e_Reader_readLink_84 (by decide) ?_
    refine pw_icmp_ne (tgt := 96) e_Reader_readLink_85 (by decide) (fun (H7 : ¬ 0 = ((-1))) => ?_) (fun (H7 : 0 = ((-1))) => ?_)
    · refine w_Reader_readLink_96 hst hc Z a b 0 hi0 (by omega) (by omega) (by omega) (by omega) ?_
      rw [f_Reader_readLink_42, if_neg H1] at hk
      exact hk
    · exact absurd H7 (by decide)
theorem z_Reader_readLink_42 {B : Nat → Int32} {Z : Nat → Nat → Int32} {a : Nat} {b : Nat} (hi0 : IZ Z) (hl12 : pN Z 31 0 < 12) (ha9 : a < 10) (hb9 : b < 10) : IZ (f_Reader_readLink_42 B Z a b) := by
  have hz0 := hi0.2.1.2
  have hz1 := hi0.2.2.2
  rw [f_Reader_readLink_42]
  by_cases H1 : (f_Reader_isWord B (Z 40) 13) = 0
  · rw [if_pos H1]
    by_cases H2 : (f_Reader_isWord B (Z 40) 14) = 0
    · rw [if_pos H2]
      by_cases H3 : (f_Reader_isWord B (Z 40) 15) = 0
      · rw [if_pos H3]
        exact (iz_up hi0 (fail_RI hi0.1))
      · rw [if_neg H3]
        exact z_Reader_readLink_96 hi0 (by omega) (by omega) (by omega) (by omega)
    · rw [if_neg H2]
      exact z_Reader_readLink_96 hi0 (by omega) (by omega) (by omega) (by omega)
  · rw [if_neg H1]
    exact z_Reader_readLink_96 hi0 (by omega) (by omega) (by omega) (by omega)
def f_Reader_readLink_20 (B : Nat → Int32) (Z : Nat → Nat → Int32) : (Nat → Nat → Int32) :=
  if ((va_up ((f_Reader_readBlockNumber B ((f_Reader_readBlockNumber B Z).2)).2) 40 (f_Reader_nextToken B (((f_Reader_readBlockNumber B ((f_Reader_readBlockNumber B Z).2)).2) 40))) 40 1) = 0 then f_Reader_readLink_42 B (va_up ((f_Reader_readBlockNumber B ((f_Reader_readBlockNumber B Z).2)).2) 40 (f_Reader_nextToken B (((f_Reader_readBlockNumber B ((f_Reader_readBlockNumber B Z).2)).2) 40))) (rbN B Z) (rbN B ((f_Reader_readBlockNumber B Z).2)) else va_up ((f_Reader_readBlockNumber B ((f_Reader_readBlockNumber B Z).2)).2) 40 (f_Reader_nextToken B (((f_Reader_readBlockNumber B ((f_Reader_readBlockNumber B Z).2)).2) 40))
set_option maxRecDepth 4000 in
theorem w_Reader_readLink_20 {g : GG} {Q : QT} {h : Hp} {kc ks : Nat} (hst : (gl g).stackTraces = false) {r y p : Nat} {ad : Nat → Nat} {B : Nat → Int32} (hc : RdC g h r y p ad B)  (Z : Nat → Nat → Int32) (hi0 : IZ Z) (hbk : Z 40 1 = 0 → pN Z 31 0 < 12) (hk : Q (.inl none) (ov h (gO (rdL g r y p ad) (f_Reader_readLink_20 B Z)))) : PW g M_Reader_readLink 7 kc ks Q 20 [.ref (r), .retAddr 0, .retAddr 0, .retAddr 0] [] (ov h (gO (rdL g r y p ad) Z)) := by
  have nds : [r].Nodup := List.pairwise_singleton _ r
  have hnd := hc.1
  have hy := hc.2.1
  have hry := hc.2.2.1
  have hpl := hc.2.2.2.1
  have hz0 := hi0.2.1.2
  have hz1 := hi0.2.2.2
  refine pw_aload_n e_Reader_readLink_20 rfl ?_
  have hb51 := rbn_nat B (Z := Z)
  refine pw_detV (As := []) e_Reader_readLink_21 li_Reader_192 rfl (gO_get hnd (i := 0) rfl) (q_rbn hst (hc.up (gO_fst _ _)) Z (gO_in hnd (fun _ z => z)) hi0) rfl (by decide) (Nat.le_of_ble_eq_true rfl) rfl ?_
  refine pw_sameG hnd ?_
  refine pw_istore_n (ls2 := [_, _, _, _]) e_Reader_readLink_24 (by decide) rfl ?_
  refine pw_aload_n e_Reader_readLink_25 rfl ?_
  have hb52 := rbn_nat B (Z := ((f_Reader_readBlockNumber B Z).2))
  refine pw_detV (As := []) e_Reader_readLink_26 li_Reader_192 rfl (gO_get hnd (i := 0) rfl) (q_rbn hst (hc.up (gO_fst _ _)) ((f_Reader_readBlockNumber B Z).2) (gO_in hnd (fun _ z => z)) (iz_rbn hi0)) rfl (by decide) (Nat.le_of_ble_eq_true rfl) rfl ?_
  refine pw_sameG hnd ?_
  refine pw_istore_n (ls2 := [_, _, _, _]) e_Reader_readLink_29 (by decide) rfl ?_
  refine pw_aload_n e_Reader_readLink_30 rfl ?_
  refine pw_detV (As := []) e_Reader_readLink_31 li_Reader_60 rfl (gO_get hnd (i := 0) rfl) (q_Reader_nextToken hst nds (fun l hl => ov_ne hry (hy _ (gO_fst _ _)) hl) (((f_Reader_readBlockNumber B ((f_Reader_readBlockNumber B Z).2)).2) 40) (gO_get hnd (i := 0) rfl) (RI.rj (iz_rbn (iz_rbn hi0)).1)) rfl (by decide) (Nat.le_of_ble_eq_true rfl) rfl ?_
  refine pw_oneG (i := 0) hnd (rd_x _ _ _ _ _) rfl rfl ?_
  refine pw_aload_n e_Reader_readLink_34 rfl ?_
  refine pw_getf e_Reader_readLink_35 fl_Reader_15 (gO_get hnd (i := 0) rfl) rfl ?_
  refine pw_if_eq (tgt := 42) e_Reader_readLink_38 (by decide) (fun (H3 : ((va_up ((f_Reader_readBlockNumber B ((f_Reader_readBlockNumber B Z).2)).2) 40 (f_Reader_nextToken B (((f_Reader_readBlockNumber B ((f_Reader_readBlockNumber B Z).2)).2) 40))) 40 1) = 0) => ?_) (fun (H3 : ¬ ((va_up ((f_Reader_readBlockNumber B ((f_Reader_readBlockNumber B Z).2)).2) 40 (f_Reader_nextToken B (((f_Reader_readBlockNumber B ((f_Reader_readBlockNumber B Z).2)).2) 40))) 40 1) = 0) => ?_)
  · refine w_Reader_readLink_42 hst hc (va_up ((f_Reader_readBlockNumber B ((f_Reader_readBlockNumber B Z).2)).2) 40 (f_Reader_nextToken B (((f_Reader_readBlockNumber B ((f_Reader_readBlockNumber B Z).2)).2) 40))) (rbN B Z) (rbN B ((f_Reader_readBlockNumber B Z).2)) (iz_up (iz_rbn (iz_rbn hi0)) (nx_RI (iz_rbn (iz_rbn hi0)).1)) ((bk_up (by decide) (bk_rbn (bk_rbn hbk)) (fun q => nx_g q)) H3) (by omega) (by omega) ?_
    rw [f_Reader_readLink_20, if_pos H3] at hk
    exact hk
  · refine pw_vret e_Reader_readLink_41 rfl ?_
    rw [f_Reader_readLink_20, if_neg H3] at hk
    exact hk
theorem z_Reader_readLink_20 {B : Nat → Int32} {Z : Nat → Nat → Int32} (hi0 : IZ Z) (hbk : Z 40 1 = 0 → pN Z 31 0 < 12) : IZ (f_Reader_readLink_20 B Z) := by
  have hz0 := hi0.2.1.2
  have hz1 := hi0.2.2.2
  rw [f_Reader_readLink_20]
  have hb51 := rbn_nat B (Z := Z)
  have hb52 := rbn_nat B (Z := ((f_Reader_readBlockNumber B Z).2))
  by_cases H3 : ((va_up ((f_Reader_readBlockNumber B ((f_Reader_readBlockNumber B Z).2)).2) 40 (f_Reader_nextToken B (((f_Reader_readBlockNumber B ((f_Reader_readBlockNumber B Z).2)).2) 40))) 40 1) = 0
  · rw [if_pos H3]
    exact z_Reader_readLink_42 (iz_up (iz_rbn (iz_rbn hi0)) (nx_RI (iz_rbn (iz_rbn hi0)).1)) ((bk_up (by decide) (bk_rbn (bk_rbn hbk)) (fun q => nx_g q)) H3) (by omega) (by omega)
  · rw [if_neg H3]
    exact (iz_up (iz_rbn (iz_rbn hi0)) (nx_RI (iz_rbn (iz_rbn hi0)).1))
def f_Reader_readLink (B : Nat → Int32) (Z : Nat → Nat → Int32) : (Nat → Nat → Int32) :=
  if (pN Z 31 0) < 12 then f_Reader_readLink_20 B Z else f_Reader_readLink_20 B (va_up Z 40 (f_Reader_fail 2 (Z 40)))
set_option maxRecDepth 4000 in
theorem w_Reader_readLink_0 {g : GG} {Q : QT} {h : Hp} {kc ks : Nat} (hst : (gl g).stackTraces = false) {r y p : Nat} {ad : Nat → Nat} {B : Nat → Int32} (hc : RdC g h r y p ad B)  (Z : Nat → Nat → Int32) (hi0 : IZ Z) (hk : Q (.inl none) (ov h (gO (rdL g r y p ad) (f_Reader_readLink B Z)))) : PW g M_Reader_readLink 7 kc ks Q 0 [.ref (r), .retAddr 0, .retAddr 0, .retAddr 0] [] (ov h (gO (rdL g r y p ad) Z)) := by
  have nds : [r].Nodup := List.pairwise_singleton _ r
  have hnd := hc.1
  have hy := hc.2.1
  have hry := hc.2.2.1
  have hpl := hc.2.2.2.1
  have hz0 := hi0.2.1.2
  have hz1 := hi0.2.2.2
  refine pw_aload_n e_Reader_readLink_0 rfl ?_
  refine pw_getf e_Reader_readLink_1 fl_Reader_31 (gO_get hnd (i := 0) rfl) rfl ?_
  refine pw_getf e_Reader_readLink_4 fl_Reader_183 (gO_get hnd (i := 1) rfl) rfl ?_
  refine pw_getf e_Reader_readLink_7 fl_Reader_187 (gO_get hnd (i := 2) rfl) rfl ?_
  rw [show Z 31 0 = nI (pN Z 31 0) from hi0.2.2.1]
  refine pw_bipush (v := nI 12) e_Reader_readLink_10 (by decide) ?_
  refine pw_icmp_ltN (tgt := 20) e_Reader_readLink_12 (by decide) (by omega) (by omega) (fun (H1 : (pN Z 31 0) < 12) => ?_) (fun (H1 : 12 ≤ (pN Z 31 0)) => ?_)
  · refine w_Reader_readLink_20 hst hc Z hi0 (fun _ => H1) ?_
    rw [f_Reader_readLink, if_pos H1] at hk
    exact hk
  · refine pw_aload_n e_Reader_readLink_15 rfl ?_
    refine pw_iconst (v := nI 2) e_Reader_readLink_16 (by decide) ?_
    refine pw_detV (As := [.int (nI (2))]) e_Reader_readLink_17 li_Reader_100 rfl (gO_get hnd (i := 0) rfl) (q_Reader_fail hst nds 2 (Z 40) (gO_get hnd (i := 0) rfl)) rfl (by decide) (Nat.le_of_ble_eq_true rfl) rfl ?_
    refine pw_oneG (i := 0) hnd (rd_x _ _ _ _ _) rfl rfl ?_
    refine w_Reader_readLink_20 hst hc (va_up Z 40 (f_Reader_fail 2 (Z 40))) (iz_up hi0 (fail_RI hi0.1)) (bk_fail (by decide)) ?_
    rw [f_Reader_readLink, if_neg (Nat.not_lt.mpr H1)] at hk
    exact hk
theorem q_Reader_readLink {g : GG} {h : Hp} (hst : (gl g).stackTraces = false) {r y p : Nat} {ad : Nat → Nat} {B : Nat → Int32} (hc : RdC g h r y p ad B)  (Z : Nat → Nat → Int32) (hm : ∀ q ∈ gO (rdL g r y p ad) Z, h q.1 = some q.2) (hi0 : IZ Z) : PM g M_Reader_readLink 7 0 0 [.ref (r)] h (RetV none (ov h (gO (rdL g r y p ad) (f_Reader_readLink B Z)))) := by
  refine PM.of hst (by decide) rfl (fun v hv => ?_) (Nat.le_of_ble_eq_true rfl) ?_
  · simp only [List.mem_cons, List.not_mem_nil, or_false] at hv; rcases hv with rfl <;> rfl
  · have hq := w_Reader_readLink_0 (g := g) (Q := RetV none (ov h (gO (rdL g r y p ad) (f_Reader_readLink B Z)))) (h := h) (kc := 0) (ks := 0) hst hc Z hi0 ?_
    · rw [ov_self hm] at hq; exact hq
    · exact ⟨rfl, rfl⟩
theorem z_Reader_readLink {B : Nat → Int32} {Z : Nat → Nat → Int32} (hi0 : IZ Z) : IZ (f_Reader_readLink B Z) := by
  have hz0 := hi0.2.1.2
  have hz1 := hi0.2.2.2
  rw [f_Reader_readLink]
  by_cases H1 : (pN Z 31 0) < 12
  · rw [if_pos H1]
    exact z_Reader_readLink_20 hi0 (fun _ => H1)
  · rw [if_neg H1]
    exact z_Reader_readLink_20 (iz_up hi0 (fail_RI hi0.1)) (bk_fail (by decide))

def f_Reader_readClause_118 (B : Nat → Int32) (Z : Nat → Nat → Int32) : (Nat → Nat → Int32) :=
  u2 Z 40 6 ((Z 40 6) + 1)
set_option maxRecDepth 4000 in
theorem w_Reader_readClause_118 {g : GG} {Q : QT} {h : Hp} {kc ks : Nat} (hst : (gl g).stackTraces = false) {r y p : Nat} {ad : Nat → Nat} {B : Nat → Int32} (hc : RdC g h r y p ad B)  (Z : Nat → Nat → Int32) (hi0 : IZ Z) (hk : Q (.inl none) (ov h (gO (rdL g r y p ad) (f_Reader_readClause_118 B Z)))) : PW g M_Reader_readClause 8 kc ks Q 118 [.ref (r)] [] (ov h (gO (rdL g r y p ad) Z)) := by
  have nds : [r].Nodup := List.pairwise_singleton _ r
  have hnd := hc.1
  have hy := hc.2.1
  have hry := hc.2.2.1
  have hpl := hc.2.2.2.1
  have hz0 := hi0.2.1.2
  have hz1 := hi0.2.2.2
  refine pw_aload_n e_Reader_readClause_118 rfl ?_
  refine pw_dup e_Reader_readClause_119 rfl ?_
  refine pw_getf e_Reader_readClause_120 fl_Reader_35 (gO_get hnd (i := 0) rfl) rfl ?_
  refine pw_iconst (v := nI 1) e_Reader_readClause_123 (by decide) ?_
  refine pw_iadd e_Reader_readClause_124 ?_
  refine pw_putG (i := 0) (ps := 6) (x := (Z 40 6) + 1) e_Reader_readClause_125 fp_Reader_35 hnd (rd_x _ _ _ _ _) rfl (Nat.le_of_ble_eq_true rfl) rfl rfl rfl ?_
  refine pw_vret e_Reader_readClause_128 rfl ?_
  rw [f_Reader_readClause_118] at hk
  exact hk
theorem z_Reader_readClause_118 {B : Nat → Int32} {Z : Nat → Nat → Int32} (hi0 : IZ Z) : IZ (f_Reader_readClause_118 B Z) := by
  have hz0 := hi0.2.1.2
  have hz1 := hi0.2.2.2
  rw [f_Reader_readClause_118]
  exact (iz_40 hi0 (by decide) (by decide) (by decide))
def f_Reader_readClause_101 (B : Nat → Int32) (Z : Nat → Nat → Int32) : (Nat → Nat → Int32) :=
  if ((va_up Z 40 (f_Reader_nextToken B (Z 40))) 40 9) = 3 then f_Reader_readClause_118 B (va_up Z 40 (f_Reader_nextToken B (Z 40))) else f_Reader_readClause_118 B (va_up (va_up Z 40 (f_Reader_nextToken B (Z 40))) 40 (f_Reader_fail 1 ((va_up Z 40 (f_Reader_nextToken B (Z 40))) 40)))
set_option maxRecDepth 4000 in
theorem w_Reader_readClause_101 {g : GG} {Q : QT} {h : Hp} {kc ks : Nat} (hst : (gl g).stackTraces = false) {r y p : Nat} {ad : Nat → Nat} {B : Nat → Int32} (hc : RdC g h r y p ad B)  (Z : Nat → Nat → Int32) (hi0 : IZ Z) (hk : Q (.inl none) (ov h (gO (rdL g r y p ad) (f_Reader_readClause_101 B Z)))) : PW g M_Reader_readClause 8 kc ks Q 101 [.ref (r)] [] (ov h (gO (rdL g r y p ad) Z)) := by
  have nds : [r].Nodup := List.pairwise_singleton _ r
  have hnd := hc.1
  have hy := hc.2.1
  have hry := hc.2.2.1
  have hpl := hc.2.2.2.1
  have hz0 := hi0.2.1.2
  have hz1 := hi0.2.2.2
  refine pw_aload_n e_Reader_readClause_101 rfl ?_
  refine pw_detV (As := []) e_Reader_readClause_102 li_Reader_60 rfl (gO_get hnd (i := 0) rfl) (q_Reader_nextToken hst nds (fun l hl => ov_ne hry (hy _ (gO_fst _ _)) hl) (Z 40) (gO_get hnd (i := 0) rfl) (RI.rj hi0.1)) rfl (by decide) (Nat.le_of_ble_eq_true rfl) rfl ?_
  refine pw_oneG (i := 0) hnd (rd_x _ _ _ _ _) rfl rfl ?_
  refine pw_aload_n e_Reader_readClause_105 rfl ?_
  refine pw_getf e_Reader_readClause_106 fl_Reader_45 (gO_get hnd (i := 0) rfl) rfl ?_
  refine pw_iconst (v := nI 3) e_Reader_readClause_109 (by decide) ?_
  refine pw_icmp_eq (tgt := 118) e_Reader_readClause_110 (by decide) (fun (H1 : ((va_up Z 40 (f_Reader_nextToken B (Z 40))) 40 9) = 3) => ?_) (fun (H1 : ¬ ((va_up Z 40 (f_Reader_nextToken B (Z 40))) 40 9) = 3) => ?_)
  · refine w_Reader_readClause_118 hst hc (va_up Z 40 (f_Reader_nextToken B (Z 40))) (iz_up hi0 (nx_RI hi0.1)) ?_
    rw [f_Reader_readClause_101, if_pos H1] at hk
    exact hk
  · refine pw_aload_n e_Reader_readClause_113 rfl ?_
    refine pw_iconst (v := nI 1) e_Reader_readClause_114 (by decide) ?_
    refine pw_detV (As := [.int (nI (1))]) e_Reader_readClause_115 li_Reader_100 rfl (gO_get hnd (i := 0) rfl) (q_Reader_fail hst nds 1 ((va_up Z 40 (f_Reader_nextToken B (Z 40))) 40) (gO_get hnd (i := 0) rfl)) rfl (by decide) (Nat.le_of_ble_eq_true rfl) rfl ?_
    refine pw_oneG (i := 0) hnd (rd_x _ _ _ _ _) rfl rfl ?_
    refine w_Reader_readClause_118 hst hc (va_up (va_up Z 40 (f_Reader_nextToken B (Z 40))) 40 (f_Reader_fail 1 ((va_up Z 40 (f_Reader_nextToken B (Z 40))) 40))) (iz_up (iz_up hi0 (nx_RI hi0.1)) (fail_RI (iz_up hi0 (nx_RI hi0.1)).1)) ?_
    rw [f_Reader_readClause_101, if_neg H1] at hk
    exact hk
theorem z_Reader_readClause_101 {B : Nat → Int32} {Z : Nat → Nat → Int32} (hi0 : IZ Z) : IZ (f_Reader_readClause_101 B Z) := by
  have hz0 := hi0.2.1.2
  have hz1 := hi0.2.2.2
  rw [f_Reader_readClause_101]
  by_cases H1 : ((va_up Z 40 (f_Reader_nextToken B (Z 40))) 40 9) = 3
  · rw [if_pos H1]
    exact z_Reader_readClause_118 (iz_up hi0 (nx_RI hi0.1))
  · rw [if_neg H1]
    exact z_Reader_readClause_118 (iz_up (iz_up hi0 (nx_RI hi0.1)) (fail_RI (iz_up hi0 (nx_RI hi0.1)).1))
def f_Reader_readClause (B : Nat → Int32) (Z : Nat → Nat → Int32) : (Nat → Nat → Int32) :=
  if (f_Reader_isWord B (Z 40) 0) = 0 then if (f_Reader_isWord B (Z 40) 1) = 0 then if (f_Reader_isWord B (Z 40) 12) = 0 then if (f_Reader_isWord B (Z 40) 16) = 0 then if (f_Reader_isWord B (Z 40) 17) = 0 then if (f_Reader_isWord B (Z 40) 18) = 0 then f_Reader_readClause_101 B (va_up Z 40 (f_Reader_fail 1 (Z 40))) else f_Reader_readClause_101 B (f_Reader_readOver B Z) else f_Reader_readClause_101 B (f_Reader_readOld B Z) else f_Reader_readClause_101 B (f_Reader_readPlant B Z) else f_Reader_readClause_101 B (f_Reader_readLink B Z) else f_Reader_readClause_101 B (f_Reader_readBlock B Z) else f_Reader_readClause_101 B (f_Reader_readDevices B Z)
set_option maxRecDepth 4000 in
theorem w_Reader_readClause_0 {g : GG} {Q : QT} {h : Hp} {kc ks : Nat} (hst : (gl g).stackTraces = false) {r y p : Nat} {ad : Nat → Nat} {B : Nat → Int32} (hc : RdC g h r y p ad B)  (Z : Nat → Nat → Int32) (hi0 : IZ Z) (hk : Q (.inl none) (ov h (gO (rdL g r y p ad) (f_Reader_readClause B Z)))) : PW g M_Reader_readClause 8 kc ks Q 0 [.ref (r)] [] (ov h (gO (rdL g r y p ad) Z)) := by
  have nds : [r].Nodup := List.pairwise_singleton _ r
  have hnd := hc.1
  have hy := hc.2.1
  have hry := hc.2.2.1
  have hpl := hc.2.2.2.1
  have hz0 := hi0.2.1.2
  have hz1 := hi0.2.2.2
  refine pw_aload_n e_Reader_readClause_0 rfl ?_
  refine pw_ldcS (i := 0) e_Reader_readClause_1 rfl (by decide) (by decide) ?_
  refine pw_detV (As := [.ref (gk g 0)]) e_Reader_readClause_3 li_Reader_68 rfl (gO_get hnd (i := 0) rfl) (q_Reader_isWord hst (Z 40) (gO_get hnd (i := 0) rfl) (hy _ (gO_fst _ _)) hi0.1 0 (by decide)) rfl (by decide) (Nat.le_of_ble_eq_true rfl) rfl ?_
  refine pw_if_eq (tgt := 16) e_Reader_readClause_6 (by decide) (fun (H1 : (f_Reader_isWord B (Z 40) 0) = 0) => ?_) (fun (H1 : ¬ (f_Reader_isWord B (Z 40) 0) = 0) => ?_)
  · refine pw_aload_n e_Reader_readClause_16 rfl ?_
    refine pw_ldcS (i := 1) e_Reader_readClause_17 rfl (by decide) (by decide) ?_
    refine pw_detV (As := [.ref (gk g 1)]) e_Reader_readClause_19 li_Reader_68 rfl (gO_get hnd (i := 0) rfl) (q_Reader_isWord hst (Z 40) (gO_get hnd (i := 0) rfl) (hy _ (gO_fst _ _)) hi0.1 1 (by decide)) rfl (by decide) (Nat.le_of_ble_eq_true rfl) rfl ?_
    refine pw_if_eq (tgt := 32) e_Reader_readClause_22 (by decide) (fun (H2 : (f_Reader_isWord B (Z 40) 1) = 0) => ?_) (fun (H2 : ¬ (f_Reader_isWord B (Z 40) 1) = 0) => ?_)
    · refine pw_aload_n e_Reader_readClause_32 rfl ?_
      refine pw_ldcS (i := 12) e_Reader_readClause_33 rfl (by decide) (by decide) ?_
      refine pw_detV (As := [.ref (gk g 12)]) e_Reader_readClause_35 li_Reader_68 rfl (gO_get hnd (i := 0) rfl) (q_Reader_isWord hst (Z 40) (gO_get hnd (i := 0) rfl) (hy _ (gO_fst _ _)) hi0.1 12 (by decide)) rfl (by decide) (Nat.le_of_ble_eq_true rfl) rfl ?_
      refine pw_if_eq (tgt := 48) e_Reader_readClause_38 (by decide) (fun (H3 : (f_Reader_isWord B (Z 40) 12) = 0) => ?_) (fun (H3 : ¬ (f_Reader_isWord B (Z 40) 12) = 0) => ?_)
      · refine pw_aload_n e_Reader_readClause_48 rfl ?_
        refine pw_ldcS (i := 16) e_Reader_readClause_49 rfl (by decide) (by decide) ?_
        refine pw_detV (As := [.ref (gk g 16)]) e_Reader_readClause_51 li_Reader_68 rfl (gO_get hnd (i := 0) rfl) (q_Reader_isWord hst (Z 40) (gO_get hnd (i := 0) rfl) (hy _ (gO_fst _ _)) hi0.1 16 (by decide)) rfl (by decide) (Nat.le_of_ble_eq_true rfl) rfl ?_
        refine pw_if_eq (tgt := 64) e_Reader_readClause_54 (by decide) (fun (H4 : (f_Reader_isWord B (Z 40) 16) = 0) => ?_) (fun (H4 : ¬ (f_Reader_isWord B (Z 40) 16) = 0) => ?_)
        · refine pw_aload_n e_Reader_readClause_64 rfl ?_
          refine pw_ldcS (i := 17) e_Reader_readClause_65 rfl (by decide) (by decide) ?_
          refine pw_detV (As := [.ref (gk g 17)]) e_Reader_readClause_67 li_Reader_68 rfl (gO_get hnd (i := 0) rfl) (q_Reader_isWord hst (Z 40) (gO_get hnd (i := 0) rfl) (hy _ (gO_fst _ _)) hi0.1 17 (by decide)) rfl (by decide) (Nat.le_of_ble_eq_true rfl) rfl ?_
          refine pw_if_eq (tgt := 80) e_Reader_readClause_70 (by decide) (fun (H5 : (f_Reader_isWord B (Z 40) 17) = 0) => ?_) (fun (H5 : ¬ (f_Reader_isWord B (Z 40) 17) = 0) => ?_)
          · refine pw_aload_n e_Reader_readClause_80 rfl ?_
            refine pw_ldcS (i := 18) e_Reader_readClause_81 rfl (by decide) (by decide) ?_
            refine pw_detV (As := [.ref (gk g 18)]) e_Reader_readClause_83 li_Reader_68 rfl (gO_get hnd (i := 0) rfl) (q_Reader_isWord hst (Z 40) (gO_get hnd (i := 0) rfl) (hy _ (gO_fst _ _)) hi0.1 18 (by decide)) rfl (by decide) (Nat.le_of_ble_eq_true rfl) rfl ?_
            refine pw_if_eq (tgt := 96) e_Reader_readClause_86 (by decide) (fun (H6 : (f_Reader_isWord B (Z 40) 18) = 0) => ?_) (fun (H6 : ¬ (f_Reader_isWord B (Z 40) 18) = 0) => ?_)
            · refine pw_aload_n e_Reader_readClause_96 rfl ?_
              refine pw_iconst (v := nI 1) e_Reader_readClause_97 (by decide) ?_
              refine pw_detV (As := [.int (nI (1))]) e_Reader_readClause_98 li_Reader_100 rfl (gO_get hnd (i := 0) rfl) (q_Reader_fail hst nds 1 (Z 40) (gO_get hnd (i := 0) rfl)) rfl (by decide) (Nat.le_of_ble_eq_true rfl) rfl ?_
              refine pw_oneG (i := 0) hnd (rd_x _ _ _ _ _) rfl rfl ?_
              refine w_Reader_readClause_101 hst hc (va_up Z 40 (f_Reader_fail 1 (Z 40))) (iz_up hi0 (fail_RI hi0.1)) ?_
              rw [f_Reader_readClause, if_pos H1, if_pos H2, if_pos H3, if_pos H4, if_pos H5, if_pos H6] at hk
              exact hk
            · refine pw_aload_n e_Reader_readClause_89 rfl ?_
              refine pw_detV (As := []) e_Reader_readClause_90 li_Reader_97 rfl (gO_get hnd (i := 0) rfl) (q_Reader_readOver hst (hc.up (gO_fst _ _)) Z (gO_in hnd (fun _ z => z)) hi0) rfl (by decide) (Nat.le_of_ble_eq_true rfl) rfl ?_
              refine pw_sameG hnd ?_
              refine pw_goto (tgt := 101) e_Reader_readClause_93 (by decide) ?_
              refine w_Reader_readClause_101 hst hc (f_Reader_readOver B Z) (z_Reader_readOver hi0) ?_
              rw [f_Reader_readClause, if_pos H1, if_pos H2, if_pos H3, if_pos H4, if_pos H5, if_neg H6] at hk
              exact hk
          · refine pw_aload_n e_Reader_readClause_73 rfl ?_
            refine pw_detV (As := []) e_Reader_readClause_74 li_Reader_92 rfl (gO_get hnd (i := 0) rfl) (q_Reader_readOld hst (hc.up (gO_fst _ _)) Z (gO_in hnd (fun _ z => z)) hi0) rfl (by decide) (Nat.le_of_ble_eq_true rfl) rfl ?_
            refine pw_sameG hnd ?_
            refine pw_goto (tgt := 101) e_Reader_readClause_77 (by decide) ?_
            refine w_Reader_readClause_101 hst hc (f_Reader_readOld B Z) (z_Reader_readOld hi0) ?_
            rw [f_Reader_readClause, if_pos H1, if_pos H2, if_pos H3, if_pos H4, if_neg H5] at hk
            exact hk
        · refine pw_aload_n e_Reader_readClause_57 rfl ?_
          refine pw_detV (As := []) e_Reader_readClause_58 li_Reader_87 rfl (gO_get hnd (i := 0) rfl) (q_Reader_readPlant hst (hc.up (gO_fst _ _)) Z (gO_in hnd (fun _ z => z)) hi0) rfl (by decide) (Nat.le_of_ble_eq_true rfl) rfl ?_
          refine pw_sameG hnd ?_
          refine pw_goto (tgt := 101) e_Reader_readClause_61 (by decide) ?_
          refine w_Reader_readClause_101 hst hc (f_Reader_readPlant B Z) (z_Reader_readPlant hi0) ?_
          rw [f_Reader_readClause, if_pos H1, if_pos H2, if_pos H3, if_neg H4] at hk
          exact hk
      · refine pw_aload_n e_Reader_readClause_41 rfl ?_
        refine pw_detV (As := []) e_Reader_readClause_42 li_Reader_82 rfl (gO_get hnd (i := 0) rfl) (q_Reader_readLink hst (hc.up (gO_fst _ _)) Z (gO_in hnd (fun _ z => z)) hi0) rfl (by decide) (Nat.le_of_ble_eq_true rfl) rfl ?_
        refine pw_sameG hnd ?_
        refine pw_goto (tgt := 101) e_Reader_readClause_45 (by decide) ?_
        refine w_Reader_readClause_101 hst hc (f_Reader_readLink B Z) (z_Reader_readLink hi0) ?_
        rw [f_Reader_readClause, if_pos H1, if_pos H2, if_neg H3] at hk
        exact hk
    · refine pw_aload_n e_Reader_readClause_25 rfl ?_
      refine pw_detV (As := []) e_Reader_readClause_26 li_Reader_77 rfl (gO_get hnd (i := 0) rfl) (q_Reader_readBlock hst (hc.up (gO_fst _ _)) Z (gO_in hnd (fun _ z => z)) hi0) rfl (by decide) (Nat.le_of_ble_eq_true rfl) rfl ?_
      refine pw_sameG hnd ?_
      refine pw_goto (tgt := 101) e_Reader_readClause_29 (by decide) ?_
      refine w_Reader_readClause_101 hst hc (f_Reader_readBlock B Z) (z_Reader_readBlock hi0) ?_
      rw [f_Reader_readClause, if_pos H1, if_neg H2] at hk
      exact hk
  · refine pw_aload_n e_Reader_readClause_9 rfl ?_
    refine pw_detV (As := []) e_Reader_readClause_10 li_Reader_72 rfl (gO_get hnd (i := 0) rfl) (q_Reader_readDevices hst (hc.up (gO_fst _ _)) Z (gO_in hnd (fun _ z => z)) hi0) rfl (by decide) (Nat.le_of_ble_eq_true rfl) rfl ?_
    refine pw_sameG hnd ?_
    refine pw_goto (tgt := 101) e_Reader_readClause_13 (by decide) ?_
    refine w_Reader_readClause_101 hst hc (f_Reader_readDevices B Z) (z_Reader_readDevices hi0) ?_
    rw [f_Reader_readClause, if_neg H1] at hk
    exact hk
theorem q_Reader_readClause {g : GG} {h : Hp} (hst : (gl g).stackTraces = false) {r y p : Nat} {ad : Nat → Nat} {B : Nat → Int32} (hc : RdC g h r y p ad B)  (Z : Nat → Nat → Int32) (hm : ∀ q ∈ gO (rdL g r y p ad) Z, h q.1 = some q.2) (hi0 : IZ Z) : PM g M_Reader_readClause 8 0 0 [.ref (r)] h (RetV none (ov h (gO (rdL g r y p ad) (f_Reader_readClause B Z)))) := by
  refine PM.of hst (by decide) rfl (fun v hv => ?_) (Nat.le_of_ble_eq_true rfl) ?_
  · simp only [List.mem_cons, List.not_mem_nil, or_false] at hv; rcases hv with rfl <;> rfl
  · have hq := w_Reader_readClause_0 (g := g) (Q := RetV none (ov h (gO (rdL g r y p ad) (f_Reader_readClause B Z)))) (h := h) (kc := 0) (ks := 0) hst hc Z hi0 ?_
    · rw [ov_self hm] at hq; exact hq
    · exact ⟨rfl, rfl⟩
theorem z_Reader_readClause {B : Nat → Int32} {Z : Nat → Nat → Int32} (hi0 : IZ Z) : IZ (f_Reader_readClause B Z) := by
  have hz0 := hi0.2.1.2
  have hz1 := hi0.2.2.2
  rw [f_Reader_readClause]
  by_cases H1 : (f_Reader_isWord B (Z 40) 0) = 0
  · rw [if_pos H1]
    by_cases H2 : (f_Reader_isWord B (Z 40) 1) = 0
    · rw [if_pos H2]
      by_cases H3 : (f_Reader_isWord B (Z 40) 12) = 0
      · rw [if_pos H3]
        by_cases H4 : (f_Reader_isWord B (Z 40) 16) = 0
        · rw [if_pos H4]
          by_cases H5 : (f_Reader_isWord B (Z 40) 17) = 0
          · rw [if_pos H5]
            by_cases H6 : (f_Reader_isWord B (Z 40) 18) = 0
            · rw [if_pos H6]
              exact z_Reader_readClause_101 (iz_up hi0 (fail_RI hi0.1))
            · rw [if_neg H6]
              exact z_Reader_readClause_101 (z_Reader_readOver hi0)
          · rw [if_neg H5]
            exact z_Reader_readClause_101 (z_Reader_readOld hi0)
        · rw [if_neg H4]
          exact z_Reader_readClause_101 (z_Reader_readPlant hi0)
      · rw [if_neg H3]
        exact z_Reader_readClause_101 (z_Reader_readLink hi0)
    · rw [if_neg H2]
      exact z_Reader_readClause_101 (z_Reader_readBlock hi0)
  · rw [if_neg H1]
    exact z_Reader_readClause_101 (z_Reader_readDevices hi0)

