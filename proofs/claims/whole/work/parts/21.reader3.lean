/-! the reader: blocks, links, clauses, the text (written by wip/whole/c_reader3.py) -/
/-- where the reader stands, and how many blocks, links there are -/
def WR (Z : Nat → Nat → Int32) : Prop := (Z 30 3 = nI (pN Z 30 3) ∧ pN Z 30 3 < 11) ∧ (Z 31 0 = nI (pN Z 31 0) ∧ pN Z 31 0 < 13)
def IZ (Z : Nat → Nat → Int32) : Prop := RI (Z 40) ∧ WR Z
theorem wr_of {Z Y : Nat → Nat → Int32} (h : WR Z) (h1 : Y 30 3 = Z 30 3) (h2 : Y 31 0 = Z 31 0) : WR Y := by
  unfold WR pN at *
  rw [h1, h2]; exact h
theorem iz_up {Z : Nat → Nat → Int32} {R : Nat → Int32} (h : IZ Z) (hr : RI R) : IZ (va_up Z 40 R) := ⟨ri_up hr, wr_of h.2 rfl rfl⟩
theorem iz_u2 {Z : Nat → Nat → Int32} {k i : Nat} {v : Int32} (h : IZ Z) (h1 : 30 ≠ k) (h2 : 31 ≠ k) (h3 : 40 ≠ k) : IZ (u2 Z k i v) := ⟨ri_u2 h.1 h3, wr_of h.2 (by unfold u2; rw [up_ne h1 rfl]) (by unfold u2; rw [up_ne h2 rfl])⟩
theorem iz_30 {Z : Nat → Nat → Int32} {i : Nat} {v : Int32} (h : IZ Z) (hi : 3 ≠ i) : IZ (u2 Z 30 i v) := ⟨ri_u2 h.1 (by decide), wr_of h.2 (by unfold u2; rw [up_same]; simp [upd, hi]) rfl⟩
theorem iz_40 {Z : Nat → Nat → Int32} {i : Nat} {v : Int32} (h : IZ Z) (h3 : 3 ≠ i) (h4 : 4 ≠ i) (h10 : 10 ≠ i) : IZ (u2 Z 40 i v) := ⟨ri_40 h.1 h3 h4 h10, wr_of h.2 rfl rfl⟩
theorem u40 {Z : Nat → Nat → Int32} {R : Nat → Int32} (h : va_up Z 40 R 40 1 = 0) : R 1 = 0 := by rw [up_same] at h; exact h
theorem bk_up {Z : Nat → Nat → Int32} {R : Nat → Int32} {k i n : Nat} (hk : k ≠ 40) (h : Z 40 1 = 0 → pN Z k i < n) (hr : R 1 = 0 → Z 40 1 = 0) : va_up Z 40 R 40 1 = 0 → pN (va_up Z 40 R) k i < n := by
  intro q
  have := h (hr (u40 q))
  unfold pN at this ⊢
  rw [up_ne hk rfl]; exact this
theorem bk_fail {Z : Nat → Nat → Int32} {x : Int32} {P : Prop} (hx : x ≠ 0) : va_up Z 40 (f_Reader_fail x (Z 40)) 40 1 = 0 → P := fun q => absurd (u40 q) (fail_f hx)
theorem nx_g {B R : Nat → Int32} (h : f_Reader_nextToken B R 1 = 0) : R 1 = 0 := by rw [nx_f] at h; exact h
theorem rc_g {B : Nat → Int32} {i j : Nat} {R : Nat → Int32} (h : (f_Reader_readChoice B i j R).2 1 = 0) : R 1 = 0 := by
  rw [f_Reader_readChoice, f_Reader_readChoice_4, f_Reader_readChoice_10] at h
  rw [← nx_f B R]
  split at h
  · split at h
    · exact fail_g h (by decide)
    · exact h
  · exact h
theorem rbn_cases (B : Nat → Int32) (Z : Nat → Nat → Int32) : ∃ R, (f_Reader_readBlockNumber B Z).2 = va_up Z 40 R ∧ (RI (Z 40) → RI R) ∧ (R 1 = 0 → Z 40 1 = 0) := by
  rw [f_Reader_readBlockNumber, f_Reader_readBlockNumber_8]
  split
  · exact ⟨_, rfl, fun h => rn_RI h, fun h => rn_g h⟩
  · refine ⟨f_Reader_fail 3 ((f_Reader_readNumber B (nI 0) (nI 9) (Z 40)).2), ?_, fun h => fail_RI (rn_RI h), fun h => absurd h (fail_f (by decide))⟩
    rw [up_same]
    exact up_up _ _ _ _
theorem iz_rbn {B : Nat → Int32} {Z : Nat → Nat → Int32} (h : IZ Z) : IZ (f_Reader_readBlockNumber B Z).2 := by
  obtain ⟨R, e, h1, -⟩ := rbn_cases B Z
  rw [e]; exact iz_up h (h1 h.1)
theorem bk_rbn {B : Nat → Int32} {Z : Nat → Nat → Int32} {n : Nat} (h : Z 40 1 = 0 → pN Z 31 0 < n) : (f_Reader_readBlockNumber B Z).2 40 1 = 0 → pN (f_Reader_readBlockNumber B Z).2 31 0 < n := by
  obtain ⟨R, e, -, h2⟩ := rbn_cases B Z
  rw [e]; exact bk_up (by decide) h h2
theorem q_ab {g : GG} {h : Hp} (hst : (gl g).stackTraces = false) {p : Nat} {ad : Nat → Nat} (hnd : (gK (plL g p ad)).Nodup) (n : Nat) (x y : Int32) (hn : n < 10) (Z : Nat → Nat → Int32) (hm : ∀ q ∈ gO (plL g p ad) Z, h q.1 = some q.2) (hbl : Z 30 3 = nI n) : PM g M_Plan_addBlock 0 0 0 [.ref p, .int x, .int y] h (RetV (some (.int (nI n))) (ov h (gO (plL g p ad) (f_Plan_addBlock n x y Z).2))) := q_Plan_addBlock hst hnd n x y hn Z hm hbl
theorem pl_sl (g : GG) (r y p : Nat) (ad : Nat → Nat) : List.Sublist (plL g p ad) (rdL g r y p ad) := .cons _ (List.Sublist.refl _)
theorem mix_pl {Z1 Z : Nat → Nat → Int32} {k : Nat} (hk : k ≠ 40) (hk2 : k ∈ [30, 31, 0, 1, 2, 3, 4, 5, 6, 7, 8, 9, 10, 11, 12, 13, 14, 15, 16, 17]) : mixK [30, 31, 0, 1, 2, 3, 4, 5, 6, 7, 8, 9, 10, 11, 12, 13, 14, 15, 16, 17] Z1 Z k = Z1 k := if_pos hk2
theorem iz_ab {n : Nat} {x y : Int32} {Z : Nat → Nat → Int32} (h : IZ Z) (hn : n < 10) (hb : Z 30 3 = nI n) : IZ (mixK [30, 31, 0, 1, 2, 3, 4, 5, 6, 7, 8, 9, 10, 11, 12, 13, 14, 15, 16, 17] (f_Plan_addBlock n x y Z).2 Z) := by
  have e1 : (f_Plan_addBlock n x y Z).2 30 3 = nI (n + 1) := by
    rw [f_Plan_addBlock, f_Plan_addBlock_60]
    show f_Plan_addBlock_36 n x y 4 _ 0 30 3 + 1 = _
    rw [ab_keep _ _ _ _ _ _ 30 3 (by decide), nI_succ, ← hb]; rfl
  have e2 : (f_Plan_addBlock n x y Z).2 31 0 = Z 31 0 := by
    rw [f_Plan_addBlock, f_Plan_addBlock_60]
    show f_Plan_addBlock_36 n x y 4 _ 0 31 0 = _
    rw [ab_keep _ _ _ _ _ _ 31 0 (by decide)]; rfl
  refine ⟨h.1, ?_, ?_⟩
  · unfold pN
    rw [mix_pl (by decide) (by decide), e1, nI_clamp (by omega)]
    exact ⟨rfl, by omega⟩
  · unfold pN
    rw [mix_pl (by decide) (by decide), e2]
    exact h.2.2
def f_Reader_readBlock_178 (B : Nat → Int32) (Z : Nat → Nat → Int32) (b : Nat) : (Nat → Nat → Int32) :=
  if (f_Reader_isWord B (Z 40) 9) = 0 then va_up Z 40 (f_Reader_fail 1 (Z 40)) else u2 (va_up (u2 Z 0 b 3) 40 ((f_Reader_readChoice B 10 11 ((u2 Z 0 b 3) 40)).2)) 9 b ((f_Reader_readChoice B 10 11 ((u2 Z 0 b 3) 40)).1)
set_option maxRecDepth 4000 in
theorem w_Reader_readBlock_178 {g : GG} {Q : QT} {h : Hp} {kc ks : Nat} (hst : (gl g).stackTraces = false) {r y p : Nat} {ad : Nat → Nat} {B : Nat → Int32} (hc : RdC g h r y p ad B)  (Z : Nat → Nat → Int32) (b : Nat) (hi0 : IZ Z) (hb10 : b < 10) (hk : Q (.inl none) (ov h (gO (rdL g r y p ad) (f_Reader_readBlock_178 B Z b)))) : PW g M_Reader_readBlock 7 kc ks Q 178 [.ref (r), .retAddr 0, .retAddr 0, .int (nI (b))] [] (ov h (gO (rdL g r y p ad) Z)) := by
  have nds : [r].Nodup := List.pairwise_singleton _ r
  have hnd := hc.1
  have hy := hc.2.1
  have hry := hc.2.2.1
  have hpl := hc.2.2.2.1
  have hz0 := hi0.2.1.2
  have hz1 := hi0.2.2.2
  refine pw_aload_n e_Reader_readBlock_178 rfl ?_
  refine pw_ldcS (i := 9) e_Reader_readBlock_179 rfl (by decide) (by decide) ?_
  refine pw_detV (As := [.ref (gk g 9)]) e_Reader_readBlock_181 li_Reader_68 rfl (gO_get hnd (i := 0) rfl) (q_Reader_isWord hst (Z 40) (gO_get hnd (i := 0) rfl) (hy _ (gO_fst _ _)) hi0.1 9 (by decide)) rfl (by decide) (Nat.le_of_ble_eq_true rfl) rfl ?_
  refine pw_if_eq (tgt := 217) e_Reader_readBlock_184 (by decide) (fun (H1 : (f_Reader_isWord B (Z 40) 9) = 0) => ?_) (fun (H1 : ¬ (f_Reader_isWord B (Z 40) 9) = 0) => ?_)
  · refine pw_aload_n e_Reader_readBlock_217 rfl ?_
    refine pw_iconst (v := nI 1) e_Reader_readBlock_218 (by decide) ?_
    refine pw_detV (As := [.int (nI (1))]) e_Reader_readBlock_219 li_Reader_100 rfl (gO_get hnd (i := 0) rfl) (q_Reader_fail hst nds 1 (Z 40) (gO_get hnd (i := 0) rfl)) rfl (by decide) (Nat.le_of_ble_eq_true rfl) rfl ?_
    refine pw_oneG (i := 0) hnd (rd_x _ _ _ _ _) rfl rfl ?_
    refine pw_vret e_Reader_readBlock_222 rfl ?_
    rw [f_Reader_readBlock_178, if_pos H1] at hk
    exact hk
  · refine pw_aload_n e_Reader_readBlock_187 rfl ?_
    refine pw_getf e_Reader_readBlock_188 fl_Reader_31 (gO_get hnd (i := 0) rfl) rfl ?_
    refine pw_getf e_Reader_readBlock_191 fl_Reader_137 (gO_get hnd (i := 1) rfl) rfl ?_
    refine pw_iload_n e_Reader_readBlock_194 rfl ?_
    refine pw_iconst (v := nI 3) e_Reader_readBlock_195 (by decide) ?_
    refine pw_iastG (i := 3) e_Reader_readBlock_196 hnd (rd_x _ _ _ _ _) rfl (by omega) (by decide) ?_
    refine pw_aload_n e_Reader_readBlock_197 rfl ?_
    refine pw_getf e_Reader_readBlock_198 fl_Reader_31 (gO_get hnd (i := 0) rfl) rfl ?_
    refine pw_getf e_Reader_readBlock_201 fl_Reader_155 (gO_get hnd (i := 1) rfl) rfl ?_
    refine pw_iload_n e_Reader_readBlock_204 rfl ?_
    refine pw_aload_n e_Reader_readBlock_205 rfl ?_
    refine pw_ldcS (i := 10) e_Reader_readBlock_206 rfl (by decide) (by decide) ?_
    refine pw_ldcS (i := 11) e_Reader_readBlock_208 rfl (by decide) (by decide) ?_
    refine pw_detV (As := [.ref (gk g 10), .ref (gk g 11)]) e_Reader_readBlock_210 li_Reader_162 rfl (gO_get hnd (i := 0) rfl) (q_Reader_readChoice hst nds (fun l hl => ov_ne hry (hy _ (gO_fst _ _)) hl) 10 11 (by decide) (by decide) ((u2 Z 0 b 3) 40) (gO_get hnd (i := 0) rfl) (iz_u2 hi0 (by decide) (by decide) (by decide)).1) rfl (by decide) (Nat.le_of_ble_eq_true rfl) rfl ?_
    refine pw_oneG (i := 0) hnd (rd_x _ _ _ _ _) rfl rfl ?_
    refine pw_zastG (i := 12) e_Reader_readBlock_213 hnd (rd_x _ _ _ _ _) rfl (by omega) (by decide) (zn01 (rc01 _ _ _ _)) ?_
    refine pw_goto (tgt := 222) e_Reader_readBlock_214 (by decide) ?_
    refine pw_vret e_Reader_readBlock_222 rfl ?_
    rw [f_Reader_readBlock_178, if_neg H1] at hk
    exact hk
def f_Reader_readBlock_124 (B : Nat → Int32) (Z : Nat → Nat → Int32) (b : Nat) : (Nat → Nat → Int32) :=
  if (f_Reader_isWord B (Z 40) 8) = 0 then f_Reader_readBlock_178 B Z b else u2 (va_up (u2 (va_up (u2 Z 0 b 2) 40 ((f_Reader_readNumber B (nI 0) (nI 3) ((u2 Z 0 b 2) 40)).2)) 3 b (nI (rnN B 0 3 ((u2 Z 0 b 2) 40)))) 40 ((f_Reader_readNumber B (nI 1) (nI 1000) ((u2 (va_up (u2 Z 0 b 2) 40 ((f_Reader_readNumber B (nI 0) (nI 3) ((u2 Z 0 b 2) 40)).2)) 3 b (nI (rnN B 0 3 ((u2 Z 0 b 2) 40)))) 40)).2)) 6 b (nI (rnN B 1 1000 ((u2 (va_up (u2 Z 0 b 2) 40 ((f_Reader_readNumber B (nI 0) (nI 3) ((u2 Z 0 b 2) 40)).2)) 3 b (nI (rnN B 0 3 ((u2 Z 0 b 2) 40)))) 40)))
set_option maxRecDepth 4000 in
theorem w_Reader_readBlock_124 {g : GG} {Q : QT} {h : Hp} {kc ks : Nat} (hst : (gl g).stackTraces = false) {r y p : Nat} {ad : Nat → Nat} {B : Nat → Int32} (hc : RdC g h r y p ad B)  (Z : Nat → Nat → Int32) (b : Nat) (hi0 : IZ Z) (hb10 : b < 10) (hk : Q (.inl none) (ov h (gO (rdL g r y p ad) (f_Reader_readBlock_124 B Z b)))) : PW g M_Reader_readBlock 7 kc ks Q 124 [.ref (r), .retAddr 0, .retAddr 0, .int (nI (b))] [] (ov h (gO (rdL g r y p ad) Z)) := by
  have nds : [r].Nodup := List.pairwise_singleton _ r
  have hnd := hc.1
  have hy := hc.2.1
  have hry := hc.2.2.1
  have hpl := hc.2.2.2.1
  have hz0 := hi0.2.1.2
  have hz1 := hi0.2.2.2
  refine pw_aload_n e_Reader_readBlock_124 rfl ?_
  refine pw_ldcS (i := 8) e_Reader_readBlock_125 rfl (by decide) (by decide) ?_
  refine pw_detV (As := [.ref (gk g 8)]) e_Reader_readBlock_127 li_Reader_68 rfl (gO_get hnd (i := 0) rfl) (q_Reader_isWord hst (Z 40) (gO_get hnd (i := 0) rfl) (hy _ (gO_fst _ _)) hi0.1 8 (by decide)) rfl (by decide) (Nat.le_of_ble_eq_true rfl) rfl ?_
  refine pw_if_eq (tgt := 178) e_Reader_readBlock_130 (by decide) (fun (H1 : (f_Reader_isWord B (Z 40) 8) = 0) => ?_) (fun (H1 : ¬ (f_Reader_isWord B (Z 40) 8) = 0) => ?_)
  · refine w_Reader_readBlock_178 hst hc Z b hi0 (by omega) ?_
    rw [f_Reader_readBlock_124, if_pos H1] at hk
    exact hk
  · refine pw_aload_n e_Reader_readBlock_133 rfl ?_
    refine pw_getf e_Reader_readBlock_134 fl_Reader_31 (gO_get hnd (i := 0) rfl) rfl ?_
    refine pw_getf e_Reader_readBlock_137 fl_Reader_137 (gO_get hnd (i := 1) rfl) rfl ?_
    refine pw_iload_n e_Reader_readBlock_140 rfl ?_
    refine pw_iconst (v := nI 2) e_Reader_readBlock_141 (by decide) ?_
    refine pw_iastG (i := 3) e_Reader_readBlock_142 hnd (rd_x _ _ _ _ _) rfl (by omega) (by decide) ?_
    refine pw_aload_n e_Reader_readBlock_143 rfl ?_
    refine pw_getf e_Reader_readBlock_144 fl_Reader_31 (gO_get hnd (i := 0) rfl) rfl ?_
    refine pw_getf e_Reader_readBlock_147 fl_Reader_140 (gO_get hnd (i := 1) rfl) rfl ?_
    refine pw_iload_n e_Reader_readBlock_150 rfl ?_
    refine pw_aload_n e_Reader_readBlock_151 rfl ?_
    refine pw_iconst (v := nI 0) e_Reader_readBlock_152 (by decide) ?_
    refine pw_iconst (v := nI 3) e_Reader_readBlock_153 (by decide) ?_
    have hb2 := (rn_nat (B := B) (lo := 0) (hi := 3) (R := ((u2 Z 0 b 2) 40)) (by decide) (by decide)).2
    refine pw_detV (As := [.int (nI (0)), .int (nI (3))]) e_Reader_readBlock_154 li_Reader_104 rfl (gO_get hnd (i := 0) rfl) (q_rn hst nds (fun l hl => ov_ne hry (hy _ (gO_fst _ _)) hl) 0 3 ((u2 Z 0 b 2) 40) (gO_get hnd (i := 0) rfl) (iz_u2 hi0 (by decide) (by decide) (by decide)).1 (by decide) (by decide)) rfl (by decide) (Nat.le_of_ble_eq_true rfl) rfl ?_
    refine pw_oneG (i := 0) hnd (rd_x _ _ _ _ _) rfl rfl ?_
    refine pw_iastG (i := 6) e_Reader_readBlock_157 hnd (rd_x _ _ _ _ _) rfl (by omega) (by decide) ?_
    refine pw_aload_n e_Reader_readBlock_158 rfl ?_
    refine pw_getf e_Reader_readBlock_159 fl_Reader_31 (gO_get hnd (i := 0) rfl) rfl ?_
    refine pw_getf e_Reader_readBlock_162 fl_Reader_150 (gO_get hnd (i := 1) rfl) rfl ?_
    refine pw_iload_n e_Reader_readBlock_165 rfl ?_
    refine pw_aload_n e_Reader_readBlock_166 rfl ?_
    refine pw_iconst (v := nI 1) e_Reader_readBlock_167 (by decide) ?_
    refine pw_sipush (v := nI 1000) e_Reader_readBlock_168 (by decide) ?_
    have hb3 := (rn_nat (B := B) (lo := 1) (hi := 1000) (R := ((u2 (va_up (u2 Z 0 b 2) 40 ((f_Reader_readNumber B (nI 0) (nI 3) ((u2 Z 0 b 2) 40)).2)) 3 b (nI (rnN B 0 3 ((u2 Z 0 b 2) 40)))) 40)) (by decide) (by decide)).2
    refine pw_detV (As := [.int (nI (1)), .int (nI (1000))]) e_Reader_readBlock_171 li_Reader_104 rfl (gO_get hnd (i := 0) rfl) (q_rn hst nds (fun l hl => ov_ne hry (hy _ (gO_fst _ _)) hl) 1 1000 ((u2 (va_up (u2 Z 0 b 2) 40 ((f_Reader_readNumber B (nI 0) (nI 3) ((u2 Z 0 b 2) 40)).2)) 3 b (nI (rnN B 0 3 ((u2 Z 0 b 2) 40)))) 40) (gO_get hnd (i := 0) rfl) (iz_u2 (iz_up (iz_u2 hi0 (by decide) (by decide) (by decide)) (rn_RI (iz_u2 hi0 (by decide) (by decide) (by decide)).1)) (by decide) (by decide) (by decide)).1 (by decide) (by decide)) rfl (by decide) (Nat.le_of_ble_eq_true rfl) rfl ?_
    refine pw_oneG (i := 0) hnd (rd_x _ _ _ _ _) rfl rfl ?_
    refine pw_iastG (i := 9) e_Reader_readBlock_174 hnd (rd_x _ _ _ _ _) rfl (by omega) (by decide) ?_
    refine pw_goto (tgt := 222) e_Reader_readBlock_175 (by decide) ?_
    refine pw_vret e_Reader_readBlock_222 rfl ?_
    rw [f_Reader_readBlock_124, if_neg H1] at hk
    exact hk
def f_Reader_readBlock_107 (B : Nat → Int32) (Z : Nat → Nat → Int32) (b : Nat) : (Nat → Nat → Int32) :=
  if (f_Reader_isWord B (Z 40) 3) = 0 then f_Reader_readBlock_124 B Z b else f_Reader_readPid B b Z
set_option maxRecDepth 4000 in
theorem w_Reader_readBlock_107 {g : GG} {Q : QT} {h : Hp} {kc ks : Nat} (hst : (gl g).stackTraces = false) {r y p : Nat} {ad : Nat → Nat} {B : Nat → Int32} (hc : RdC g h r y p ad B)  (Z : Nat → Nat → Int32) (b : Nat) (hi0 : IZ Z) (hb10 : b < 10) (hk : Q (.inl none) (ov h (gO (rdL g r y p ad) (f_Reader_readBlock_107 B Z b)))) : PW g M_Reader_readBlock 7 kc ks Q 107 [.ref (r), .retAddr 0, .retAddr 0, .int (nI (b))] [] (ov h (gO (rdL g r y p ad) Z)) := by
  have nds : [r].Nodup := List.pairwise_singleton _ r
  have hnd := hc.1
  have hy := hc.2.1
  have hry := hc.2.2.1
  have hpl := hc.2.2.2.1
  have hz0 := hi0.2.1.2
  have hz1 := hi0.2.2.2
  refine pw_aload_n e_Reader_readBlock_107 rfl ?_
  refine pw_ldcS (i := 3) e_Reader_readBlock_108 rfl (by decide) (by decide) ?_
  refine pw_detV (As := [.ref (gk g 3)]) e_Reader_readBlock_110 li_Reader_68 rfl (gO_get hnd (i := 0) rfl) (q_Reader_isWord hst (Z 40) (gO_get hnd (i := 0) rfl) (hy _ (gO_fst _ _)) hi0.1 3 (by decide)) rfl (by decide) (Nat.le_of_ble_eq_true rfl) rfl ?_
  refine pw_if_eq (tgt := 124) e_Reader_readBlock_113 (by decide) (fun (H1 : (f_Reader_isWord B (Z 40) 3) = 0) => ?_) (fun (H1 : ¬ (f_Reader_isWord B (Z 40) 3) = 0) => ?_)
  · refine w_Reader_readBlock_124 hst hc Z b hi0 (by omega) ?_
    rw [f_Reader_readBlock_107, if_pos H1] at hk
    exact hk
  · refine pw_aload_n e_Reader_readBlock_116 rfl ?_
    refine pw_iload_n e_Reader_readBlock_117 rfl ?_
    refine pw_detV (As := [.int (nI (b))]) e_Reader_readBlock_118 li_Reader_145 rfl (gO_get hnd (i := 0) rfl) (q_Reader_readPid hst (hc.up (gO_fst _ _)) b (by omega) Z (gO_in hnd (fun _ z => z)) hi0.1) rfl (by decide) (Nat.le_of_ble_eq_true rfl) rfl ?_
    refine pw_sameG hnd ?_
    refine pw_goto (tgt := 222) e_Reader_readBlock_121 (by decide) ?_
    refine pw_vret e_Reader_readBlock_222 rfl ?_
    rw [f_Reader_readBlock_107, if_neg H1] at hk
    exact hk
def f_Reader_readBlock_70 (B : Nat → Int32) (Z : Nat → Nat → Int32) (b : Nat) : (Nat → Nat → Int32) :=
  if (f_Reader_isWord B (Z 40) 2) = 0 then f_Reader_readBlock_107 B Z b else u2 (va_up (u2 Z 0 b 0) 40 ((f_Reader_readNumber B (nI 0) (nI 3) ((u2 Z 0 b 0) 40)).2)) 3 b (nI (rnN B 0 3 ((u2 Z 0 b 0) 40)))
set_option maxRecDepth 4000 in
theorem w_Reader_readBlock_70 {g : GG} {Q : QT} {h : Hp} {kc ks : Nat} (hst : (gl g).stackTraces = false) {r y p : Nat} {ad : Nat → Nat} {B : Nat → Int32} (hc : RdC g h r y p ad B)  (Z : Nat → Nat → Int32) (b : Nat) (hi0 : IZ Z) (hb10 : b < 10) (hk : Q (.inl none) (ov h (gO (rdL g r y p ad) (f_Reader_readBlock_70 B Z b)))) : PW g M_Reader_readBlock 7 kc ks Q 70 [.ref (r), .retAddr 0, .retAddr 0, .int (nI (b))] [] (ov h (gO (rdL g r y p ad) Z)) := by
  have nds : [r].Nodup := List.pairwise_singleton _ r
  have hnd := hc.1
  have hy := hc.2.1
  have hry := hc.2.2.1
  have hpl := hc.2.2.2.1
  have hz0 := hi0.2.1.2
  have hz1 := hi0.2.2.2
  refine pw_aload_n e_Reader_readBlock_70 rfl ?_
  refine pw_ldcS (i := 2) e_Reader_readBlock_71 rfl (by decide) (by decide) ?_
  refine pw_detV (As := [.ref (gk g 2)]) e_Reader_readBlock_73 li_Reader_68 rfl (gO_get hnd (i := 0) rfl) (q_Reader_isWord hst (Z 40) (gO_get hnd (i := 0) rfl) (hy _ (gO_fst _ _)) hi0.1 2 (by decide)) rfl (by decide) (Nat.le_of_ble_eq_true rfl) rfl ?_
  refine pw_if_eq (tgt := 107) e_Reader_readBlock_76 (by decide) (fun (H1 : (f_Reader_isWord B (Z 40) 2) = 0) => ?_) (fun (H1 : ¬ (f_Reader_isWord B (Z 40) 2) = 0) => ?_)
  · refine w_Reader_readBlock_107 hst hc Z b hi0 (by omega) ?_
    rw [f_Reader_readBlock_70, if_pos H1] at hk
    exact hk
  · refine pw_aload_n e_Reader_readBlock_79 rfl ?_
    refine pw_getf e_Reader_readBlock_80 fl_Reader_31 (gO_get hnd (i := 0) rfl) rfl ?_
    refine pw_getf e_Reader_readBlock_83 fl_Reader_137 (gO_get hnd (i := 1) rfl) rfl ?_
    refine pw_iload_n e_Reader_readBlock_86 rfl ?_
    refine pw_iconst (v := nI 0) e_Reader_readBlock_87 (by decide) ?_
    refine pw_iastG (i := 3) e_Reader_readBlock_88 hnd (rd_x _ _ _ _ _) rfl (by omega) (by decide) ?_
    refine pw_aload_n e_Reader_readBlock_89 rfl ?_
    refine pw_getf e_Reader_readBlock_90 fl_Reader_31 (gO_get hnd (i := 0) rfl) rfl ?_
    refine pw_getf e_Reader_readBlock_93 fl_Reader_140 (gO_get hnd (i := 1) rfl) rfl ?_
    refine pw_iload_n e_Reader_readBlock_96 rfl ?_
    refine pw_aload_n e_Reader_readBlock_97 rfl ?_
    refine pw_iconst (v := nI 0) e_Reader_readBlock_98 (by decide) ?_
    refine pw_iconst (v := nI 3) e_Reader_readBlock_99 (by decide) ?_
    have hb2 := (rn_nat (B := B) (lo := 0) (hi := 3) (R := ((u2 Z 0 b 0) 40)) (by decide) (by decide)).2
    refine pw_detV (As := [.int (nI (0)), .int (nI (3))]) e_Reader_readBlock_100 li_Reader_104 rfl (gO_get hnd (i := 0) rfl) (q_rn hst nds (fun l hl => ov_ne hry (hy _ (gO_fst _ _)) hl) 0 3 ((u2 Z 0 b 0) 40) (gO_get hnd (i := 0) rfl) (iz_u2 hi0 (by decide) (by decide) (by decide)).1 (by decide) (by decide)) rfl (by decide) (Nat.le_of_ble_eq_true rfl) rfl ?_
    refine pw_oneG (i := 0) hnd (rd_x _ _ _ _ _) rfl rfl ?_
    refine pw_iastG (i := 6) e_Reader_readBlock_103 hnd (rd_x _ _ _ _ _) rfl (by omega) (by decide) ?_
    refine pw_goto (tgt := 222) e_Reader_readBlock_104 (by decide) ?_
    refine pw_vret e_Reader_readBlock_222 rfl ?_
    rw [f_Reader_readBlock_70, if_neg H1] at hk
    exact hk
def f_Reader_readBlock_60 (B : Nat → Int32) (Z : Nat → Nat → Int32) (dv : Nat) (tm : Nat) : (Nat → Nat → Int32) :=
  f_Reader_readBlock_70 B (mixK [30, 31, 0, 1, 2, 3, 4, 5, 6, 7, 8, 9, 10, 11, 12, 13, 14, 15, 16, 17] (f_Plan_addBlock (pN Z 30 3) (nI (dv)) (nI (tm)) Z).2 Z) (pN Z 30 3)
set_option maxRecDepth 4000 in
theorem w_Reader_readBlock_60 {g : GG} {Q : QT} {h : Hp} {kc ks : Nat} (hst : (gl g).stackTraces = false) {r y p : Nat} {ad : Nat → Nat} {B : Nat → Int32} (hc : RdC g h r y p ad B)  (Z : Nat → Nat → Int32) (dv : Nat) (tm : Nat) (hi0 : IZ Z) (hb9 : pN Z 30 3 < 10) (hd5 : dv < 5) (hk : Q (.inl none) (ov h (gO (rdL g r y p ad) (f_Reader_readBlock_60 B Z dv tm)))) : PW g M_Reader_readBlock 7 kc ks Q 60 [.ref (r), .int (nI (dv)), .int (nI (tm)), .retAddr 0] [] (ov h (gO (rdL g r y p ad) Z)) := by
  have nds : [r].Nodup := List.pairwise_singleton _ r
  have hnd := hc.1
  have hy := hc.2.1
  have hry := hc.2.2.1
  have hpl := hc.2.2.2.1
  have hz0 := hi0.2.1.2
  have hz1 := hi0.2.2.2
  refine pw_aload_n e_Reader_readBlock_60 rfl ?_
  refine pw_getf e_Reader_readBlock_61 fl_Reader_31 (gO_get hnd (i := 0) rfl) rfl ?_
  refine pw_iload_n e_Reader_readBlock_64 rfl ?_
  refine pw_iload_n e_Reader_readBlock_65 rfl ?_
  refine pw_detV (As := [.int (nI (dv)), .int (nI (tm))]) e_Reader_readBlock_66 li_Reader_132 rfl (gO_get hnd (i := 1) rfl) (q_ab hst (nd_of hnd (pl_sl _ _ _ _ _)) (pN Z 30 3) (nI (dv)) (nI (tm)) hb9 Z (gO_in hnd (pl_in _ _ _ _ _)) hi0.2.1.1) rfl (by decide) (Nat.le_of_ble_eq_true rfl) rfl ?_
  refine pw_subG hnd (rd_x _ _ _ _ _) (nd_of hnd (pl_sl _ _ _ _ _)) (pl_in _ _ _ _ _) ?_
  refine pw_istore_n (ls2 := [_, _, _, _]) e_Reader_readBlock_69 (by decide) rfl ?_
  refine pw_fgt (ls' := [.ref (r), .retAddr 0, .retAddr 0, .int (nI (pN Z 30 3))]) ⟨Or.inr rfl, Or.inl rfl, Or.inl rfl, Or.inr rfl, trivial⟩ ?_
  refine w_Reader_readBlock_70 hst hc (mixK [30, 31, 0, 1, 2, 3, 4, 5, 6, 7, 8, 9, 10, 11, 12, 13, 14, 15, 16, 17] (f_Plan_addBlock (pN Z 30 3) (nI (dv)) (nI (tm)) Z).2 Z) (pN Z 30 3) (iz_ab hi0 hb9 hi0.2.1.1) (by omega) ?_
  rw [f_Reader_readBlock_60] at hk
  exact hk
def f_Reader_readBlock_52 (B : Nat → Int32) (Z : Nat → Nat → Int32) (dv : Nat) (tm : Nat) : (Nat → Nat → Int32) :=
  if (Z 40 1) = 0 then f_Reader_readBlock_60 B Z dv tm else Z
set_option maxRecDepth 4000 in
theorem w_Reader_readBlock_52 {g : GG} {Q : QT} {h : Hp} {kc ks : Nat} (hst : (gl g).stackTraces = false) {r y p : Nat} {ad : Nat → Nat} {B : Nat → Int32} (hc : RdC g h r y p ad B)  (Z : Nat → Nat → Int32) (dv : Nat) (tm : Nat) (hi0 : IZ Z) (hbk : Z 40 1 = 0 → pN Z 30 3 < 10) (hd5 : dv < 5) (hk : Q (.inl none) (ov h (gO (rdL g r y p ad) (f_Reader_readBlock_52 B Z dv tm)))) : PW g M_Reader_readBlock 7 kc ks Q 52 [.ref (r), .int (nI (dv)), .int (nI (tm)), .retAddr 0] [] (ov h (gO (rdL g r y p ad) Z)) := by
  have nds : [r].Nodup := List.pairwise_singleton _ r
  have hnd := hc.1
  have hy := hc.2.1
  have hry := hc.2.2.1
  have hpl := hc.2.2.2.1
  have hz0 := hi0.2.1.2
  have hz1 := hi0.2.2.2
  refine pw_aload_n e_Reader_readBlock_52 rfl ?_
  refine pw_getf e_Reader_readBlock_53 fl_Reader_15 (gO_get hnd (i := 0) rfl) rfl ?_
  refine pw_if_eq (tgt := 60) e_Reader_readBlock_56 (by decide) (fun (H1 : (Z 40 1) = 0) => ?_) (fun (H1 : ¬ (Z 40 1) = 0) => ?_)
  · refine w_Reader_readBlock_60 hst hc Z dv tm hi0 (hbk H1) (by omega) ?_
    rw [f_Reader_readBlock_52, if_pos H1] at hk
    exact hk
  · refine pw_vret e_Reader_readBlock_59 rfl ?_
    rw [f_Reader_readBlock_52, if_neg H1] at hk
    exact hk
def f_Reader_readBlock_48 (B : Nat → Int32) (Z : Nat → Nat → Int32) (dv : Nat) (tm : Nat) : (Nat → Nat → Int32) :=
  f_Reader_readBlock_52 B (va_up Z 40 (f_Reader_nextToken B (Z 40))) dv tm
set_option maxRecDepth 4000 in
theorem w_Reader_readBlock_48 {g : GG} {Q : QT} {h : Hp} {kc ks : Nat} (hst : (gl g).stackTraces = false) {r y p : Nat} {ad : Nat → Nat} {B : Nat → Int32} (hc : RdC g h r y p ad B)  (Z : Nat → Nat → Int32) (dv : Nat) (tm : Nat) (hi0 : IZ Z) (hbk : Z 40 1 = 0 → pN Z 30 3 < 10) (hd5 : dv < 5) (hk : Q (.inl none) (ov h (gO (rdL g r y p ad) (f_Reader_readBlock_48 B Z dv tm)))) : PW g M_Reader_readBlock 7 kc ks Q 48 [.ref (r), .int (nI (dv)), .int (nI (tm)), .retAddr 0] [] (ov h (gO (rdL g r y p ad) Z)) := by
  have nds : [r].Nodup := List.pairwise_singleton _ r
  have hnd := hc.1
  have hy := hc.2.1
  have hry := hc.2.2.1
  have hpl := hc.2.2.2.1
  have hz0 := hi0.2.1.2
  have hz1 := hi0.2.2.2
  refine pw_aload_n e_Reader_readBlock_48 rfl ?_
  refine pw_detV (As := []) e_Reader_readBlock_49 li_Reader_60 rfl (gO_get hnd (i := 0) rfl) (q_Reader_nextToken hst nds (fun l hl => ov_ne hry (hy _ (gO_fst _ _)) hl) (Z 40) (gO_get hnd (i := 0) rfl) hi0.1) rfl (by decide) (Nat.le_of_ble_eq_true rfl) rfl ?_
  refine pw_oneG (i := 0) hnd (rd_x _ _ _ _ _) rfl rfl ?_
  refine w_Reader_readBlock_52 hst hc (va_up Z 40 (f_Reader_nextToken B (Z 40))) dv tm (iz_up hi0 (nx_RI hi0.1)) (bk_up (by decide) hbk (fun q => nx_g q)) (by omega) ?_
  rw [f_Reader_readBlock_48] at hk
  exact hk
def f_Reader_readBlock_40 (B : Nat → Int32) (Z : Nat → Nat → Int32) (dv : Nat) : (Nat → Nat → Int32) :=
  f_Reader_readBlock_48 B (va_up Z 40 ((f_Reader_readNumber B (nI 1) (nI 9) (Z 40)).2)) dv (rnN B 1 9 (Z 40))
set_option maxRecDepth 4000 in
theorem w_Reader_readBlock_40 {g : GG} {Q : QT} {h : Hp} {kc ks : Nat} (hst : (gl g).stackTraces = false) {r y p : Nat} {ad : Nat → Nat} {B : Nat → Int32} (hc : RdC g h r y p ad B)  (Z : Nat → Nat → Int32) (dv : Nat) (hi0 : IZ Z) (hbk : Z 40 1 = 0 → pN Z 30 3 < 10) (hd5 : dv < 5) (hk : Q (.inl none) (ov h (gO (rdL g r y p ad) (f_Reader_readBlock_40 B Z dv)))) : PW g M_Reader_readBlock 7 kc ks Q 40 [.ref (r), .int (nI (dv)), .retAddr 0, .retAddr 0] [] (ov h (gO (rdL g r y p ad) Z)) := by
  have nds : [r].Nodup := List.pairwise_singleton _ r
  have hnd := hc.1
  have hy := hc.2.1
  have hry := hc.2.2.1
  have hpl := hc.2.2.2.1
  have hz0 := hi0.2.1.2
  have hz1 := hi0.2.2.2
  refine pw_aload_n e_Reader_readBlock_40 rfl ?_
  refine pw_iconst (v := nI 1) e_Reader_readBlock_41 (by decide) ?_
  refine pw_bipush (v := nI 9) e_Reader_readBlock_42 (by decide) ?_
  have hb1 := (rn_nat (B := B) (lo := 1) (hi := 9) (R := (Z 40)) (by decide) (by decide)).2
  refine pw_detV (As := [.int (nI (1)), .int (nI (9))]) e_Reader_readBlock_44 li_Reader_104 rfl (gO_get hnd (i := 0) rfl) (q_rn hst nds (fun l hl => ov_ne hry (hy _ (gO_fst _ _)) hl) 1 9 (Z 40) (gO_get hnd (i := 0) rfl) hi0.1 (by decide) (by decide)) rfl (by decide) (Nat.le_of_ble_eq_true rfl) rfl ?_
  refine pw_oneG (i := 0) hnd (rd_x _ _ _ _ _) rfl rfl ?_
  refine pw_istore_n (ls2 := [_, _, _, _]) e_Reader_readBlock_47 (by decide) rfl ?_
  refine w_Reader_readBlock_48 hst hc (va_up Z 40 ((f_Reader_readNumber B (nI 1) (nI 9) (Z 40)).2)) dv (rnN B 1 9 (Z 40)) (iz_up hi0 (rn_RI hi0.1)) (bk_up (by decide) hbk (fun q => rn_g q)) (by omega) ?_
  rw [f_Reader_readBlock_40] at hk
  exact hk
def f_Reader_readBlock_24 (B : Nat → Int32) (Z : Nat → Nat → Int32) (dv : Nat) : (Nat → Nat → Int32) :=
  if (nI (dv)) < (Z 30 0) then f_Reader_readBlock_40 B Z dv else f_Reader_readBlock_40 B (va_up Z 40 (f_Reader_fail 3 (Z 40))) dv
set_option maxRecDepth 4000 in
theorem w_Reader_readBlock_24 {g : GG} {Q : QT} {h : Hp} {kc ks : Nat} (hst : (gl g).stackTraces = false) {r y p : Nat} {ad : Nat → Nat} {B : Nat → Int32} (hc : RdC g h r y p ad B)  (Z : Nat → Nat → Int32) (dv : Nat) (hi0 : IZ Z) (hbk : Z 40 1 = 0 → pN Z 30 3 < 10) (hd5 : dv < 5) (hk : Q (.inl none) (ov h (gO (rdL g r y p ad) (f_Reader_readBlock_24 B Z dv)))) : PW g M_Reader_readBlock 7 kc ks Q 24 [.ref (r), .int (nI (dv)), .retAddr 0, .retAddr 0] [] (ov h (gO (rdL g r y p ad) Z)) := by
  have nds : [r].Nodup := List.pairwise_singleton _ r
  have hnd := hc.1
  have hy := hc.2.1
  have hry := hc.2.2.1
  have hpl := hc.2.2.2.1
  have hz0 := hi0.2.1.2
  have hz1 := hi0.2.2.2
  refine pw_iload_n e_Reader_readBlock_24 rfl ?_
  refine pw_aload_n e_Reader_readBlock_25 rfl ?_
  refine pw_getf e_Reader_readBlock_26 fl_Reader_31 (gO_get hnd (i := 0) rfl) rfl ?_
  refine pw_getf e_Reader_readBlock_29 fl_Reader_107 (gO_get hnd (i := 1) rfl) rfl ?_
  refine pw_icmp_lt (tgt := 40) e_Reader_readBlock_32 (by decide) (fun (H1 : (nI (dv)) < (Z 30 0)) => ?_) (fun (H1 : ¬ (nI (dv)) < (Z 30 0)) => ?_)
  · refine w_Reader_readBlock_40 hst hc Z dv hi0 hbk (by omega) ?_
    rw [f_Reader_readBlock_24, if_pos H1] at hk
    exact hk
  · refine pw_aload_n e_Reader_readBlock_35 rfl ?_
    refine pw_iconst (v := nI 3) e_Reader_readBlock_36 (by decide) ?_
    refine pw_detV (As := [.int (nI (3))]) e_Reader_readBlock_37 li_Reader_100 rfl (gO_get hnd (i := 0) rfl) (q_Reader_fail hst nds 3 (Z 40) (gO_get hnd (i := 0) rfl)) rfl (by decide) (Nat.le_of_ble_eq_true rfl) rfl ?_
    refine pw_oneG (i := 0) hnd (rd_x _ _ _ _ _) rfl rfl ?_
    refine w_Reader_readBlock_40 hst hc (va_up Z 40 (f_Reader_fail 3 (Z 40))) dv (iz_up hi0 (fail_RI hi0.1)) (bk_fail (by decide)) (by omega) ?_
    rw [f_Reader_readBlock_24, if_neg H1] at hk
    exact hk
def f_Reader_readBlock_17 (B : Nat → Int32) (Z : Nat → Nat → Int32) : (Nat → Nat → Int32) :=
  f_Reader_readBlock_24 B (va_up Z 40 ((f_Reader_readNumber B (nI 0) (nI 4) (Z 40)).2)) (rnN B 0 4 (Z 40))
set_option maxRecDepth 4000 in
theorem w_Reader_readBlock_17 {g : GG} {Q : QT} {h : Hp} {kc ks : Nat} (hst : (gl g).stackTraces = false) {r y p : Nat} {ad : Nat → Nat} {B : Nat → Int32} (hc : RdC g h r y p ad B)  (Z : Nat → Nat → Int32) (hi0 : IZ Z) (hbk : Z 40 1 = 0 → pN Z 30 3 < 10) (hk : Q (.inl none) (ov h (gO (rdL g r y p ad) (f_Reader_readBlock_17 B Z)))) : PW g M_Reader_readBlock 7 kc ks Q 17 [.ref (r), .retAddr 0, .retAddr 0, .retAddr 0] [] (ov h (gO (rdL g r y p ad) Z)) := by
  have nds : [r].Nodup := List.pairwise_singleton _ r
  have hnd := hc.1
  have hy := hc.2.1
  have hry := hc.2.2.1
  have hpl := hc.2.2.2.1
  have hz0 := hi0.2.1.2
  have hz1 := hi0.2.2.2
  refine pw_aload_n e_Reader_readBlock_17 rfl ?_
  refine pw_iconst (v := nI 0) e_Reader_readBlock_18 (by decide) ?_
  refine pw_iconst (v := nI 4) e_Reader_readBlock_19 (by decide) ?_
  have hb1 := (rn_nat (B := B) (lo := 0) (hi := 4) (R := (Z 40)) (by decide) (by decide)).2
  refine pw_detV (As := [.int (nI (0)), .int (nI (4))]) e_Reader_readBlock_20 li_Reader_104 rfl (gO_get hnd (i := 0) rfl) (q_rn hst nds (fun l hl => ov_ne hry (hy _ (gO_fst _ _)) hl) 0 4 (Z 40) (gO_get hnd (i := 0) rfl) hi0.1 (by decide) (by decide)) rfl (by decide) (Nat.le_of_ble_eq_true rfl) rfl ?_
  refine pw_oneG (i := 0) hnd (rd_x _ _ _ _ _) rfl rfl ?_
  refine pw_istore_n (ls2 := [_, _, _, _]) e_Reader_readBlock_23 (by decide) rfl ?_
  refine w_Reader_readBlock_24 hst hc (va_up Z 40 ((f_Reader_readNumber B (nI 0) (nI 4) (Z 40)).2)) (rnN B 0 4 (Z 40)) (iz_up hi0 (rn_RI hi0.1)) (bk_up (by decide) hbk (fun q => rn_g q)) (by omega) ?_
  rw [f_Reader_readBlock_17] at hk
  exact hk
def f_Reader_readBlock (B : Nat → Int32) (Z : Nat → Nat → Int32) : (Nat → Nat → Int32) :=
  if (pN Z 30 3) < 10 then f_Reader_readBlock_17 B Z else f_Reader_readBlock_17 B (va_up Z 40 (f_Reader_fail 2 (Z 40)))
set_option maxRecDepth 4000 in
theorem w_Reader_readBlock_0 {g : GG} {Q : QT} {h : Hp} {kc ks : Nat} (hst : (gl g).stackTraces = false) {r y p : Nat} {ad : Nat → Nat} {B : Nat → Int32} (hc : RdC g h r y p ad B)  (Z : Nat → Nat → Int32) (hi0 : IZ Z) (hk : Q (.inl none) (ov h (gO (rdL g r y p ad) (f_Reader_readBlock B Z)))) : PW g M_Reader_readBlock 7 kc ks Q 0 [.ref (r), .retAddr 0, .retAddr 0, .retAddr 0] [] (ov h (gO (rdL g r y p ad) Z)) := by
  have nds : [r].Nodup := List.pairwise_singleton _ r
  have hnd := hc.1
  have hy := hc.2.1
  have hry := hc.2.2.1
  have hpl := hc.2.2.2.1
  have hz0 := hi0.2.1.2
  have hz1 := hi0.2.2.2
  refine pw_aload_n e_Reader_readBlock_0 rfl ?_
  refine pw_getf e_Reader_readBlock_1 fl_Reader_31 (gO_get hnd (i := 0) rfl) rfl ?_
  refine pw_getf e_Reader_readBlock_4 fl_Reader_129 (gO_get hnd (i := 1) rfl) rfl ?_
  rw [show Z 30 3 = nI (pN Z 30 3) from hi0.2.1.1]
  refine pw_bipush (v := nI 10) e_Reader_readBlock_7 (by decide) ?_
  refine pw_icmp_ltN (tgt := 17) e_Reader_readBlock_9 (by decide) (by omega) (by omega) (fun (H1 : (pN Z 30 3) < 10) => ?_) (fun (H1 : 10 ≤ (pN Z 30 3)) => ?_)
  · refine w_Reader_readBlock_17 hst hc Z hi0 (fun _ => H1) ?_
    rw [f_Reader_readBlock, if_pos H1] at hk
    exact hk
  · refine pw_aload_n e_Reader_readBlock_12 rfl ?_
    refine pw_iconst (v := nI 2) e_Reader_readBlock_13 (by decide) ?_
    refine pw_detV (As := [.int (nI (2))]) e_Reader_readBlock_14 li_Reader_100 rfl (gO_get hnd (i := 0) rfl) (q_Reader_fail hst nds 2 (Z 40) (gO_get hnd (i := 0) rfl)) rfl (by decide) (Nat.le_of_ble_eq_true rfl) rfl ?_
    refine pw_oneG (i := 0) hnd (rd_x _ _ _ _ _) rfl rfl ?_
    refine w_Reader_readBlock_17 hst hc (va_up Z 40 (f_Reader_fail 2 (Z 40))) (iz_up hi0 (fail_RI hi0.1)) (bk_fail (by decide)) ?_
    rw [f_Reader_readBlock, if_neg (Nat.not_lt.mpr H1)] at hk
    exact hk
theorem q_Reader_readBlock {g : GG} {h : Hp} (hst : (gl g).stackTraces = false) {r y p : Nat} {ad : Nat → Nat} {B : Nat → Int32} (hc : RdC g h r y p ad B)  (Z : Nat → Nat → Int32) (hm : ∀ q ∈ gO (rdL g r y p ad) Z, h q.1 = some q.2) (hi0 : IZ Z) : PM g M_Reader_readBlock 7 0 0 [.ref (r)] h (RetV none (ov h (gO (rdL g r y p ad) (f_Reader_readBlock B Z)))) := by
  refine PM.of hst (by decide) rfl (fun v hv => ?_) (Nat.le_of_ble_eq_true rfl) ?_
  · simp only [List.mem_cons, List.not_mem_nil, or_false] at hv; rcases hv with rfl <;> rfl
  · have hq := w_Reader_readBlock_0 (g := g) (Q := RetV none (ov h (gO (rdL g r y p ad) (f_Reader_readBlock B Z)))) (h := h) (kc := 0) (ks := 0) hst hc Z hi0 ?_
    · rw [ov_self hm] at hq; exact hq
    · exact ⟨rfl, rfl⟩

