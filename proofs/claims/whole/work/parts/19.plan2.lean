/-! the reader's plan: plan and links as they are told (written by wip/whole/c_reader2.py) -/
def plL (g : GG) (p : Nat) (ad : Nat → Nat) : GL := [(p, 30, fun f => .inr (5, [.int (f 0), .int (f 1), .int (f 2), .int (f 3), .ref (ad 0), .ref (ad 1), .ref (ad 2), .ref (ad 3), .ref (ad 4), .ref (ad 5), .ref (ad 6), .ref (ad 7), .ref (ad 8), .ref (ad 9), .ref (ad 10), .ref (ad 11), .ref (ad 25), .ref (ad 26), .ref (ad 27)])), (ad 25, 31, fun f => .inr (2, [.int (f 0), .ref (ad 12), .ref (ad 13), .ref (ad 14)])), (ad 0, 0, aI g 10), (ad 1, 1, aI g 10), (ad 2, 2, aI g 10), (ad 3, 3, aI g 10), (ad 4, 4, aI g 10), (ad 5, 5, aI g 10), (ad 6, 6, aI g 10), (ad 7, 7, aI g 10), (ad 8, 8, aZ g 10), (ad 9, 9, aZ g 10), (ad 10, 10, aI g 30), (ad 11, 11, aI g 10), (ad 12, 12, aI g 12), (ad 13, 13, aI g 12), (ad 14, 14, aI g 12), (ad 15, 15, aI g 4), (ad 16, 16, aI g 4), (ad 17, 17, aI g 4)]
theorem pl_x (g : GG) (p : Nat) (ad : Nat → Nat) : (gX (plL g p ad)).Nodup := by show List.Nodup [30, 31, 0, 1, 2, 3, 4, 5, 6, 7, 8, 9, 10, 11, 12, 13, 14, 15, 16, 17]; decide
def rdL (g : GG) (r y p : Nat) (ad : Nat → Nat) : GL := (r, 40, fun f => .inr (7, [.int (f 0), .int (f 1), .ref y, .int (f 3), .int (f 4), .ref p, .int (f 6), .int (f 7), .int (f 8), .int (f 9), .int (f 10)])) :: plL g p ad
theorem rd_x (g : GG) (r y p : Nat) (ad : Nat → Nat) : (gX (rdL g r y p ad)).Nodup := by show List.Nodup [40, 30, 31, 0, 1, 2, 3, 4, 5, 6, 7, 8, 9, 10, 11, 12, 13, 14, 15, 16, 17]; decide
def lkL (g : GG) (ad : Nat → Nat) : GL := [(ad 25, 31, fun f => .inr (2, [.int (f 0), .ref (ad 12), .ref (ad 13), .ref (ad 14)])), (ad 12, 12, aI g 12), (ad 13, 13, aI g 12), (ad 14, 14, aI g 12)]
theorem lk_x (g : GG) (ad : Nat → Nat) : (gX (lkL g ad)).Nodup := by show List.Nodup [31, 12, 13, 14]; decide
def ptL (g : GG) (ad : Nat → Nat) : GL := [(ad 15, 15, aI g 4), (ad 16, 16, aI g 4), (ad 17, 17, aI g 4)]
theorem pt_x (g : GG) (ad : Nat → Nat) : (gX (ptL g ad)).Nodup := by show List.Nodup [15, 16, 17]; decide
theorem in_ix {L L' : GL} (is : List Nat) (h : L' = is.filterMap (fun i => L[i]?)) : ∀ q ∈ L', q ∈ L := by
  intro q hq
  rw [h] at hq
  obtain ⟨i, -, hi⟩ := List.mem_filterMap.mp hq
  exact List.mem_of_getElem? hi
theorem pt_in (g : GG) (p : Nat) (ad : Nat → Nat) : ∀ q ∈ ptL g ad, q ∈ plL g p ad := in_ix [17, 18, 19] rfl
theorem lk_in (g : GG) (p : Nat) (ad : Nat → Nat) : ∀ q ∈ lkL g ad, q ∈ plL g p ad := in_ix [1, 14, 15, 16] rfl
theorem pl_in (g : GG) (r y p : Nat) (ad : Nat → Nat) : ∀ q ∈ plL g p ad, q ∈ rdL g r y p ad := fun q h => List.mem_cons_of_mem _ h
theorem nd_of {L L' : GL} (h : (gK L).Nodup) (hs : List.Sublist L' L) : (gK L').Nodup := h.sublist (hs.map _)
theorem pt_sl (g : GG) (p : Nat) (ad : Nat → Nat) : List.Sublist (ptL g ad) (plL g p ad) := by
  unfold plL ptL
  iterate 17 refine .cons _ ?_
  exact List.Sublist.refl _
theorem lk_sl (g : GG) (p : Nat) (ad : Nat → Nat) : List.Sublist (lkL g ad) (plL g p ad) := by
  unfold plL lkL
  refine .cons _ (.cons₂ _ ?_)
  iterate 12 refine .cons _ ?_
  refine .cons₂ _ (.cons₂ _ (.cons₂ _ ?_))
  exact List.nil_sublist _
def f_Links_add (n : Nat) (x y z : Int32) (Z : Nat → Nat → Int32) : (Nat → Nat → Int32) :=
  u2 (u2 (u2 (u2 Z 12 n x) 13 n y) 14 n z) 31 0 (nI (n + 1))
set_option maxRecDepth 4000 in
theorem w_Links_add_0 {g : GG} {Q : QT} {h : Hp} {kc ks : Nat} (hst : (gl g).stackTraces = false) {ad : Nat → Nat} (hnd : (gK (lkL g ad)).Nodup) (n : Nat) (x y z : Int32) (hn : n < 12)  (Z : Nat → Nat → Int32) (hmany : Z 31 0 = nI n) (hk : Q (.inl none) (ov h (gO (lkL g ad) (f_Links_add n x y z Z)))) : PW g M_Links_add 0 kc ks Q 0 [.ref (ad 25), .int (x), .int (y), .int (z)] [] (ov h (gO (lkL g ad) Z)) := by
  refine pw_aload_n e_Links_add_0 rfl ?_
  refine pw_getf e_Links_add_1 fl_Links_15 (gO_get hnd (i := 0) rfl) rfl ?_
  refine pw_aload_n e_Links_add_4 rfl ?_
  refine pw_getf e_Links_add_5 fl_Links_9 (gO_get hnd (i := 0) rfl) rfl ?_
  rw [show Z 31 0 = nI (n) from hmany]
  refine pw_iload_n e_Links_add_8 rfl ?_
  refine pw_iastG (i := 1) e_Links_add_9 hnd (lk_x _ _) rfl (by omega) (by decide) ?_
  refine pw_aload_n e_Links_add_10 rfl ?_
  refine pw_getf e_Links_add_11 fl_Links_19 (gO_get hnd (i := 0) rfl) rfl ?_
  refine pw_aload_n e_Links_add_14 rfl ?_
  refine pw_getf e_Links_add_15 fl_Links_9 (gO_get hnd (i := 0) rfl) rfl ?_
  rw [show (u2 Z 12 n x) 31 0 = nI (n) from hmany]
  refine pw_iload_n e_Links_add_18 rfl ?_
  refine pw_iastG (i := 2) e_Links_add_19 hnd (lk_x _ _) rfl (by omega) (by decide) ?_
  refine pw_aload_n e_Links_add_20 rfl ?_
  refine pw_getf e_Links_add_21 fl_Links_22 (gO_get hnd (i := 0) rfl) rfl ?_
  refine pw_aload_n e_Links_add_24 rfl ?_
  refine pw_getf e_Links_add_25 fl_Links_9 (gO_get hnd (i := 0) rfl) rfl ?_
  rw [show (u2 (u2 Z 12 n x) 13 n y) 31 0 = nI (n) from hmany]
  refine pw_iload_n e_Links_add_28 rfl ?_
  refine pw_iastG (i := 3) e_Links_add_29 hnd (lk_x _ _) rfl (by omega) (by decide) ?_
  refine pw_aload_n e_Links_add_30 rfl ?_
  refine pw_dup e_Links_add_31 rfl ?_
  refine pw_getf e_Links_add_32 fl_Links_9 (gO_get hnd (i := 0) rfl) rfl ?_
  rw [show (u2 (u2 (u2 Z 12 n x) 13 n y) 14 n z) 31 0 = nI (n) from hmany]
  refine pw_iconst (v := nI 1) e_Links_add_35 (by decide) ?_
  refine pw_iaddN e_Links_add_36 ?_
  refine pw_putG (i := 0) (ps := 0) (x := nI (n + 1)) e_Links_add_37 fp_Links_9 hnd (lk_x _ _) rfl (Nat.le_of_ble_eq_true rfl) rfl rfl rfl ?_
  refine pw_vret e_Links_add_40 rfl ?_
  rw [f_Links_add] at hk
  exact hk
theorem q_Links_add {g : GG} {h : Hp} (hst : (gl g).stackTraces = false) {ad : Nat → Nat} (hnd : (gK (lkL g ad)).Nodup) (n : Nat) (x y z : Int32) (hn : n < 12)  (Z : Nat → Nat → Int32) (hm : ∀ q ∈ gO (lkL g ad) Z, h q.1 = some q.2) (hmany : Z 31 0 = nI n) : PM g M_Links_add 0 0 0 [.ref (ad 25), .int (x), .int (y), .int (z)] h (RetV none (ov h (gO (lkL g ad) (f_Links_add n x y z Z)))) := by
  refine PM.of hst (by decide) rfl (fun v hv => ?_) (Nat.le_of_ble_eq_true rfl) ?_
  · simp only [List.mem_cons, List.not_mem_nil, or_false] at hv; rcases hv with rfl | rfl | rfl | rfl <;> rfl
  · have hq := w_Links_add_0 (g := g) (Q := RetV none (ov h (gO (lkL g ad) (f_Links_add n x y z Z)))) (h := h) (kc := 0) (ks := 0) hst hnd n x y z hn Z hmany ?_
    · rw [ov_self hm] at hq; exact hq
    · exact ⟨rfl, rfl⟩

def f_Links_leads_17 (n : Nat) (Z : Nat → Nat → Int32) (x y : Int32) : Nat → (Int32) → (Nat) → (Nat) → Int32
  | 0, _, _, _ => 0
  | t + 1, m, k, l => if n ≤ l then m else if (f_Bus_hasBit m ((Z 12) l)) = 0 then f_Links_leads_17 n Z x y t m k (l + 1) else f_Links_leads_17 n Z x y t (m ||| ((1 : Int32) <<< (((Z 13) l) &&& 31))) k (l + 1)
set_option maxRecDepth 4000 in
theorem w_Links_leads_17 {g : GG} {Q : QT} {h : Hp} {kc ks : Nat} (hst : (gl g).stackTraces = false) {ad : Nat → Nat} (n : Nat) (Z : Nat → Nat → Int32) (hn : n < 13) (hmany : Z 31 0 = nI n) (hk0 : h (ad 25) = some (.inr (2, [.int (Z 31 0), .ref (ad 12), .ref (ad 13), .ref (ad 14)]))) (hk1 : h (ad 12) = some (aI g 12 (Z 12))) (hk2 : h (ad 13) = some (aI g 12 (Z 13))) (x y : Int32)  (t : Nat) : ∀ (m : Int32) (k : Nat) (l : Nat) (hk9 : k < 10) (hl9 : l < 13) (hlt : 12 - l < t) (hk : PW g M_Links_leads 1 kc ks Q 58 [.ref (ad 25), .int (x), .int (y), .int (f_Links_leads_17 n Z x y t m k l), .int (nI (k)), .retAddr 0] [] h), PW g M_Links_leads 1 kc ks Q 17 [.ref (ad 25), .int (x), .int (y), .int (m), .int (nI (k)), .int (nI (l))] [] h := by
  induction t with
  | zero => intro m k l hk9 hl9 hlt _; exact absurd hlt (Nat.not_lt_zero _)
  | succ t ih =>
    intro m k l hk9 hl9 hlt hk
    refine pw_iload e_Links_leads_17 rfl ?_
    refine pw_aload_n e_Links_leads_19 rfl ?_
    refine pw_getf e_Links_leads_20 fl_Links_9 hk0 rfl ?_
    rw [hmany]
    refine pw_icmp_geN (tgt := 58) e_Links_leads_23 (by decide) (by omega) (by omega) (fun (H1 : n ≤ l) => ?_) (fun (H1 : l < n) => ?_)
    · refine pw_fgt (ls' := [.ref (ad 25), .int (x), .int (y), .int (m), .int (nI (k)), .retAddr 0]) ⟨Or.inr rfl, Or.inr rfl, Or.inr rfl, Or.inr rfl, Or.inr rfl, Or.inl rfl, trivial⟩ ?_
      rw [f_Links_leads_17, if_pos H1] at hk
      exact hk
    · refine pw_iload_n e_Links_leads_26 rfl ?_
      refine pw_aload_n e_Links_leads_27 rfl ?_
      refine pw_getf e_Links_leads_28 fl_Links_15 hk0 rfl ?_
      refine pw_iload e_Links_leads_31 rfl ?_
      refine pw_ialdN e_Links_leads_33 hk1 (by omega) (by decide) ?_
      refine pw_detSN (As := [.int (m), .int ((Z 12) l)]) e_Links_leads_34 li_Links_25 (q_Bus_hasBit hst m ((Z 12) l)) rfl (by decide) (Nat.le_of_ble_eq_true rfl) rfl ?_
      refine pw_if_eq (tgt := 52) e_Links_leads_37 (by decide) (fun (H2 : (f_Bus_hasBit m ((Z 12) l)) = 0) => ?_) (fun (H2 : ¬ (f_Bus_hasBit m ((Z 12) l)) = 0) => ?_)
      · refine pw_iincN (ls2 := [_, _, _, _, _, _]) e_Links_leads_52 rfl (by decide) rfl ?_
        refine pw_goto (tgt := 17) e_Links_leads_55 (by decide) ?_
        refine ih m k (l + 1) (by omega) (by omega) (by omega) ?_
        rw [f_Links_leads_17, if_neg (Nat.not_le.mpr H1), if_pos H2] at hk
        exact hk
      · refine pw_iload_n e_Links_leads_40 rfl ?_
        refine pw_iconst (v := nI 1) e_Links_leads_41 (by decide) ?_
        refine pw_aload_n e_Links_leads_42 rfl ?_
        refine pw_getf e_Links_leads_43 fl_Links_19 hk0 rfl ?_
        refine pw_iload e_Links_leads_46 rfl ?_
        refine pw_ialdN e_Links_leads_48 hk2 (by omega) (by decide) ?_
        refine pw_ishl e_Links_leads_49 ?_
        refine pw_ior e_Links_leads_50 ?_
        refine pw_istore_n (ls2 := [_, _, _, _, _, _]) e_Links_leads_51 (by decide) rfl ?_
        refine pw_iincN (ls2 := [_, _, _, _, _, _]) e_Links_leads_52 rfl (by decide) rfl ?_
        refine pw_goto (tgt := 17) e_Links_leads_55 (by decide) ?_
        refine ih (m ||| ((1 : Int32) <<< (((Z 13) l) &&& 31))) k (l + 1) (by omega) (by omega) (by omega) ?_
        rw [f_Links_leads_17, if_neg (Nat.not_le.mpr H1), if_neg H2] at hk
        exact hk
def f_Links_leads_7 (n : Nat) (Z : Nat → Nat → Int32) (x y : Int32) : Nat → (Int32) → (Nat) → Int32
  | 0, _, _ => 0
  | t + 1, m, k => if 10 ≤ k then m else f_Links_leads_7 n Z x y t (f_Links_leads_17 n Z x y 13 m k 0) (k + 1)
set_option maxRecDepth 4000 in
theorem w_Links_leads_7 {g : GG} {Q : QT} {h : Hp} {kc ks : Nat} (hst : (gl g).stackTraces = false) {ad : Nat → Nat} (n : Nat) (Z : Nat → Nat → Int32) (hn : n < 13) (hmany : Z 31 0 = nI n) (hk0 : h (ad 25) = some (.inr (2, [.int (Z 31 0), .ref (ad 12), .ref (ad 13), .ref (ad 14)]))) (hk1 : h (ad 12) = some (aI g 12 (Z 12))) (hk2 : h (ad 13) = some (aI g 12 (Z 13))) (x y : Int32)  (t : Nat) : ∀ (m : Int32) (k : Nat) (hk9 : k < 11) (hlt : 10 - k < t) (hk : PW g M_Links_leads 1 kc ks Q 64 [.ref (ad 25), .int (x), .int (y), .int (f_Links_leads_7 n Z x y t m k), .retAddr 0, .retAddr 0] [] h), PW g M_Links_leads 1 kc ks Q 7 [.ref (ad 25), .int (x), .int (y), .int (m), .int (nI (k)), .retAddr 0] [] h := by
  induction t with
  | zero => intro m k hk9 hlt _; exact absurd hlt (Nat.not_lt_zero _)
  | succ t ih =>
    intro m k hk9 hlt hk
    refine pw_iload e_Links_leads_7 rfl ?_
    refine pw_bipush (v := nI 10) e_Links_leads_9 (by decide) ?_
    refine pw_icmp_geN (tgt := 64) e_Links_leads_11 (by decide) (by omega) (by omega) (fun (H1 : 10 ≤ k) => ?_) (fun (H1 : k < 10) => ?_)
    · refine pw_fgt (ls' := [.ref (ad 25), .int (x), .int (y), .int (m), .retAddr 0, .retAddr 0]) ⟨Or.inr rfl, Or.inr rfl, Or.inr rfl, Or.inr rfl, Or.inl rfl, Or.inr rfl, trivial⟩ ?_
      rw [f_Links_leads_7, if_pos H1] at hk
      exact hk
    · refine pw_iconst (v := nI 0) e_Links_leads_14 (by decide) ?_
      refine pw_istore (ls2 := [_, _, _, _, _, _]) e_Links_leads_15 (by decide) rfl ?_
      refine w_Links_leads_17 hst n Z hn hmany hk0 hk1 hk2 x y 13 m k 0 (by omega) (by omega) (by omega) ?_
      refine pw_iincN (ls2 := [_, _, _, _, _, _]) e_Links_leads_58 rfl (by decide) rfl ?_
      refine pw_goto (tgt := 7) e_Links_leads_61 (by decide) ?_
      refine ih (f_Links_leads_17 n Z x y 13 m k 0) (k + 1) (by omega) (by omega) ?_
      rw [f_Links_leads_7, if_neg (Nat.not_le.mpr H1)] at hk
      exact hk
def f_Links_leads (n : Nat) (Z : Nat → Nat → Int32) (x y : Int32) : Int32 :=
  f_Bus_hasBit (f_Links_leads_7 n Z x y 11 ((1 : Int32) <<< (x &&& 31)) 0) y
set_option maxRecDepth 4000 in
theorem w_Links_leads_0 {g : GG} {Q : QT} {h : Hp} {kc ks : Nat} (hst : (gl g).stackTraces = false) {ad : Nat → Nat} (n : Nat) (Z : Nat → Nat → Int32) (hn : n < 13) (hmany : Z 31 0 = nI n) (hk0 : h (ad 25) = some (.inr (2, [.int (Z 31 0), .ref (ad 12), .ref (ad 13), .ref (ad 14)]))) (hk1 : h (ad 12) = some (aI g 12 (Z 12))) (hk2 : h (ad 13) = some (aI g 12 (Z 13))) (x y : Int32)  (hk : Q (.inl (some (.int (f_Links_leads n Z x y)))) h) : PW g M_Links_leads 1 kc ks Q 0 [.ref (ad 25), .int (x), .int (y), .retAddr 0, .retAddr 0, .retAddr 0] [] h := by
  refine pw_iconst (v := nI 1) e_Links_leads_0 (by decide) ?_
  refine pw_iload_n e_Links_leads_1 rfl ?_
  refine pw_ishl e_Links_leads_2 ?_
  refine pw_istore_n (ls2 := [_, _, _, _, _, _]) e_Links_leads_3 (by decide) rfl ?_
  refine pw_iconst (v := nI 0) e_Links_leads_4 (by decide) ?_
  refine pw_istore (ls2 := [_, _, _, _, _, _]) e_Links_leads_5 (by decide) rfl ?_
  refine w_Links_leads_7 hst n Z hn hmany hk0 hk1 hk2 x y 11 ((1 : Int32) <<< (x &&& 31)) 0 (by omega) (by omega) ?_
  refine pw_iload_n e_Links_leads_64 rfl ?_
  refine pw_iload_n e_Links_leads_65 rfl ?_
  refine pw_detSN (As := [.int (f_Links_leads_7 n Z x y 11 ((1 : Int32) <<< (x &&& 31)) 0), .int (y)]) e_Links_leads_66 li_Links_25 (q_Bus_hasBit hst (f_Links_leads_7 n Z x y 11 ((1 : Int32) <<< (x &&& 31)) 0) y) rfl (by decide) (Nat.le_of_ble_eq_true rfl) rfl ?_
  refine pw_iret e_Links_leads_69 rfl (by unfold f_Bus_hasBit; split <;> decide) ?_
  rw [f_Links_leads] at hk
  exact hk
theorem q_Links_leads {g : GG} {h : Hp} (hst : (gl g).stackTraces = false) {ad : Nat → Nat} (n : Nat) (Z : Nat → Nat → Int32) (hn : n < 13) (hmany : Z 31 0 = nI n) (hk0 : h (ad 25) = some (.inr (2, [.int (Z 31 0), .ref (ad 12), .ref (ad 13), .ref (ad 14)]))) (hk1 : h (ad 12) = some (aI g 12 (Z 12))) (hk2 : h (ad 13) = some (aI g 12 (Z 13))) (x y : Int32)  : PM g M_Links_leads 1 0 0 [.ref (ad 25), .int (x), .int (y)] h (RetV (some (.int (f_Links_leads n Z x y))) h) := by
  refine PM.of hst (by decide) rfl (fun v hv => ?_) (Nat.le_of_ble_eq_true rfl) ?_
  · simp only [List.mem_cons, List.not_mem_nil, or_false] at hv; rcases hv with rfl | rfl | rfl <;> rfl
  · have hq := w_Links_leads_0 (g := g) (Q := RetV (some (.int (f_Links_leads n Z x y))) h) (h := h) (kc := 0) (ks := 0) hst n Z hn hmany hk0 hk1 hk2 x y ?_
    · exact hq
    · exact ⟨rfl, rfl⟩

def f_Plants_clear_2  : Nat → (Nat → Nat → Int32) → (Nat) → (Nat → Nat → Int32)
  | 0, Z, _ => Z
  | t + 1, Z, k => if 4 ≤ k then Z else f_Plants_clear_2  t (u2 (u2 (u2 Z 15 k ((-1))) 16 k 0) 17 k 1) (k + 1)
set_option maxRecDepth 4000 in
theorem w_Plants_clear_2 {g : GG} {Q : QT} {h : Hp} {kc ks : Nat} (hst : (gl g).stackTraces = false) {ad : Nat → Nat} (hnd : (gK (ptL g ad)).Nodup) (hpl : ∀ l : List (Nat × va_E), l.map Prod.fst = gK (ptL g ad) → ov h l (ad 26) = some (.inr (6, [.ref (ad 15), .ref (ad 16), .ref (ad 17)])))  (t : Nat) : ∀ (Z : Nat → Nat → Int32) (k : Nat) (hk1 : k < 5) (hlt : 4 - k < t) (hk : PW g M_Plants_clear 0 kc ks Q 34 [.ref (ad 26), .retAddr 0] [] (ov h (gO (ptL g ad) (f_Plants_clear_2  t Z k)))), PW g M_Plants_clear 0 kc ks Q 2 [.ref (ad 26), .int (nI (k))] [] (ov h (gO (ptL g ad) Z)) := by
  induction t with
  | zero => intro Z k hk1 hlt _; exact absurd hlt (Nat.not_lt_zero _)
  | succ t ih =>
    intro Z k hk1 hlt hk
    refine pw_iload_n e_Plants_clear_2 rfl ?_
    refine pw_iconst (v := nI 4) e_Plants_clear_3 (by decide) ?_
    refine pw_icmp_geN (tgt := 34) e_Plants_clear_4 (by decide) (by omega) (by omega) (fun (H1 : 4 ≤ k) => ?_) (fun (H1 : k < 4) => ?_)
    · refine pw_fgt (ls' := [.ref (ad 26), .retAddr 0]) ⟨Or.inr rfl, Or.inl rfl, trivial⟩ ?_
      rw [f_Plants_clear_2, if_pos H1] at hk
      exact hk
    · refine pw_aload_n e_Plants_clear_7 rfl ?_
      refine pw_getf e_Plants_clear_8 fl_Plants_9 (hpl _ (gO_fst _ _)) rfl ?_
      refine pw_iload_n e_Plants_clear_11 rfl ?_
      refine pw_iconst (v := (-1)) e_Plants_clear_12 (by decide) ?_
      refine pw_iastG (i := 0) e_Plants_clear_13 hnd (pt_x _ _) rfl (by omega) (by decide) ?_
      refine pw_aload_n e_Plants_clear_14 rfl ?_
      refine pw_getf e_Plants_clear_15 fl_Plants_15 (hpl _ (gO_fst _ _)) rfl ?_
      refine pw_iload_n e_Plants_clear_18 rfl ?_
      refine pw_iconst (v := nI 0) e_Plants_clear_19 (by decide) ?_
      refine pw_iastG (i := 1) e_Plants_clear_20 hnd (pt_x _ _) rfl (by omega) (by decide) ?_
      refine pw_aload_n e_Plants_clear_21 rfl ?_
      refine pw_getf e_Plants_clear_22 fl_Plants_18 (hpl _ (gO_fst _ _)) rfl ?_
      refine pw_iload_n e_Plants_clear_25 rfl ?_
      refine pw_iconst (v := nI 1) e_Plants_clear_26 (by decide) ?_
      refine pw_iastG (i := 2) e_Plants_clear_27 hnd (pt_x _ _) rfl (by omega) (by decide) ?_
      refine pw_iincN (ls2 := [_, _]) e_Plants_clear_28 rfl (by decide) rfl ?_
      refine pw_goto (tgt := 2) e_Plants_clear_31 (by decide) ?_
      refine ih (u2 (u2 (u2 Z 15 k ((-1))) 16 k 0) 17 k 1) (k + 1) (by omega) (by omega) ?_
      rw [f_Plants_clear_2, if_neg (Nat.not_le.mpr H1)] at hk
      exact hk
def f_Plants_clear  (Z : Nat → Nat → Int32) : (Nat → Nat → Int32) :=
  f_Plants_clear_2  5 Z 0
set_option maxRecDepth 4000 in
theorem w_Plants_clear_0 {g : GG} {Q : QT} {h : Hp} {kc ks : Nat} (hst : (gl g).stackTraces = false) {ad : Nat → Nat} (hnd : (gK (ptL g ad)).Nodup) (hpl : ∀ l : List (Nat × va_E), l.map Prod.fst = gK (ptL g ad) → ov h l (ad 26) = some (.inr (6, [.ref (ad 15), .ref (ad 16), .ref (ad 17)])))  (Z : Nat → Nat → Int32) (hk : Q (.inl none) (ov h (gO (ptL g ad) (f_Plants_clear  Z)))) : PW g M_Plants_clear 0 kc ks Q 0 [.ref (ad 26), .retAddr 0] [] (ov h (gO (ptL g ad) Z)) := by
  refine pw_iconst (v := nI 0) e_Plants_clear_0 (by decide) ?_
  refine pw_istore_n (ls2 := [_, _]) e_Plants_clear_1 (by decide) rfl ?_
  refine w_Plants_clear_2 hst hnd hpl 5 Z 0 (by omega) (by omega) ?_
  refine pw_vret e_Plants_clear_34 rfl ?_
  rw [f_Plants_clear] at hk
  exact hk
theorem q_Plants_clear {g : GG} {h : Hp} (hst : (gl g).stackTraces = false) {ad : Nat → Nat} (hnd : (gK (ptL g ad)).Nodup) (hpl : ∀ l : List (Nat × va_E), l.map Prod.fst = gK (ptL g ad) → ov h l (ad 26) = some (.inr (6, [.ref (ad 15), .ref (ad 16), .ref (ad 17)])))  (Z : Nat → Nat → Int32) (hm : ∀ q ∈ gO (ptL g ad) Z, h q.1 = some q.2) : PM g M_Plants_clear 0 0 0 [.ref (ad 26)] h (RetV none (ov h (gO (ptL g ad) (f_Plants_clear  Z)))) := by
  refine PM.of hst (by decide) rfl (fun v hv => ?_) (Nat.le_of_ble_eq_true rfl) ?_
  · simp only [List.mem_cons, List.not_mem_nil, or_false] at hv; rcases hv with rfl <;> rfl
  · have hq := w_Plants_clear_0 (g := g) (Q := RetV none (ov h (gO (ptL g ad) (f_Plants_clear  Z)))) (h := h) (kc := 0) (ks := 0) hst hnd hpl Z ?_
    · rw [ov_self hm] at hq; exact hq
    · exact ⟨rfl, rfl⟩

def f_Plan_clear  (Z : Nat → Nat → Int32) : (Nat → Nat → Int32) :=
  mixK [15, 16, 17] (f_Plants_clear (u2 (u2 (u2 (u2 (u2 Z 30 0 2) 30 1 3) 30 2 2) 30 3 0) 31 0 0)) (u2 (u2 (u2 (u2 (u2 Z 30 0 2) 30 1 3) 30 2 2) 30 3 0) 31 0 0)
set_option maxRecDepth 4000 in
theorem w_Plan_clear_0 {g : GG} {Q : QT} {h : Hp} {kc ks : Nat} (hst : (gl g).stackTraces = false) {p : Nat} {ad : Nat → Nat} (hnd : (gK (plL g p ad)).Nodup) (hpl : ∀ l : List (Nat × va_E), l.map Prod.fst = gK (plL g p ad) → ov h l (ad 26) = some (.inr (6, [.ref (ad 15), .ref (ad 16), .ref (ad 17)]))) (hpn : ad 26 ∉ gK (ptL g ad))  (Z : Nat → Nat → Int32) (hk : Q (.inl none) (ov h (gO (plL g p ad) (f_Plan_clear  Z)))) : PW g M_Plan_clear 1 kc ks Q 0 [.ref (p)] [] (ov h (gO (plL g p ad) Z)) := by
  refine pw_aload_n e_Plan_clear_0 rfl ?_
  refine pw_iconst (v := nI 2) e_Plan_clear_1 (by decide) ?_
  refine pw_putG (i := 0) (ps := 0) (x := 2) e_Plan_clear_2 fp_Plan_9 hnd (pl_x _ _ _) rfl (Nat.le_of_ble_eq_true rfl) rfl rfl rfl ?_
  refine pw_aload_n e_Plan_clear_5 rfl ?_
  refine pw_iconst (v := nI 3) e_Plan_clear_6 (by decide) ?_
  refine pw_putG (i := 0) (ps := 1) (x := 3) e_Plan_clear_7 fp_Plan_15 hnd (pl_x _ _ _) rfl (Nat.le_of_ble_eq_true rfl) rfl rfl rfl ?_
  refine pw_aload_n e_Plan_clear_10 rfl ?_
  refine pw_iconst (v := nI 2) e_Plan_clear_11 (by decide) ?_
  refine pw_putG (i := 0) (ps := 2) (x := 2) e_Plan_clear_12 fp_Plan_18 hnd (pl_x _ _ _) rfl (Nat.le_of_ble_eq_true rfl) rfl rfl rfl ?_
  refine pw_aload_n e_Plan_clear_15 rfl ?_
  refine pw_iconst (v := nI 0) e_Plan_clear_16 (by decide) ?_
  refine pw_putG (i := 0) (ps := 3) (x := 0) e_Plan_clear_17 fp_Plan_21 hnd (pl_x _ _ _) rfl (Nat.le_of_ble_eq_true rfl) rfl rfl rfl ?_
  refine pw_aload_n e_Plan_clear_20 rfl ?_
  refine pw_getf e_Plan_clear_21 fl_Plan_65 (gO_get hnd (i := 0) rfl) rfl ?_
  refine pw_iconst (v := nI 0) e_Plan_clear_24 (by decide) ?_
  refine pw_putG (i := 1) (ps := 0) (x := 0) e_Plan_clear_25 fp_Plan_83 hnd (pl_x _ _ _) rfl (Nat.le_of_ble_eq_true rfl) rfl rfl rfl ?_
  refine pw_aload_n e_Plan_clear_28 rfl ?_
  refine pw_getf e_Plan_clear_29 fl_Plan_72 (gO_get hnd (i := 0) rfl) rfl ?_
  refine pw_detV (As := []) e_Plan_clear_32 li_Plan_86 rfl (hpl _ (gO_fst _ _)) (q_Plants_clear hst (nd_of hnd (pt_sl _ _ _)) (fun l hl => ov_ne hpn (hpl _ (gO_fst _ _)) hl) (u2 (u2 (u2 (u2 (u2 Z 30 0 2) 30 1 3) 30 2 2) 30 3 0) 31 0 0) (gO_in hnd (pt_in _ _ _))) rfl (by decide) (Nat.le_of_ble_eq_true rfl) rfl ?_
  refine pw_subG hnd (pl_x _ _ _) (nd_of hnd (pt_sl _ _ _)) (pt_in _ _ _) ?_
  refine pw_vret e_Plan_clear_35 rfl ?_
  rw [f_Plan_clear] at hk
  exact hk
theorem q_Plan_clear {g : GG} {h : Hp} (hst : (gl g).stackTraces = false) {p : Nat} {ad : Nat → Nat} (hnd : (gK (plL g p ad)).Nodup) (hpl : ∀ l : List (Nat × va_E), l.map Prod.fst = gK (plL g p ad) → ov h l (ad 26) = some (.inr (6, [.ref (ad 15), .ref (ad 16), .ref (ad 17)]))) (hpn : ad 26 ∉ gK (ptL g ad))  (Z : Nat → Nat → Int32) (hm : ∀ q ∈ gO (plL g p ad) Z, h q.1 = some q.2) : PM g M_Plan_clear 1 0 0 [.ref (p)] h (RetV none (ov h (gO (plL g p ad) (f_Plan_clear  Z)))) := by
  refine PM.of hst (by decide) rfl (fun v hv => ?_) (Nat.le_of_ble_eq_true rfl) ?_
  · simp only [List.mem_cons, List.not_mem_nil, or_false] at hv; rcases hv with rfl <;> rfl
  · have hq := w_Plan_clear_0 (g := g) (Q := RetV none (ov h (gO (plL g p ad) (f_Plan_clear  Z)))) (h := h) (kc := 0) (ks := 0) hst hnd hpl hpn Z ?_
    · rw [ov_self hm] at hq; exact hq
    · exact ⟨rfl, rfl⟩

def f_Plan_addBlock_60 (n : Nat) (x y : Int32) (Z : Nat → Nat → Int32) : Int32 × (Nat → Nat → Int32) :=
  (nI (n), u2 (u2 Z 11 n ((-1))) 30 3 (nI (n + 1)))
set_option maxRecDepth 4000 in
theorem w_Plan_addBlock_60 {g : GG} {Q : QT} {h : Hp} {kc ks : Nat} (hst : (gl g).stackTraces = false) {p : Nat} {ad : Nat → Nat} (hnd : (gK (plL g p ad)).Nodup) (n : Nat) (x y : Int32) (hn : n < 10)  (Z : Nat → Nat → Int32) (hbl : Z 30 3 = nI n) (hk : Q (.inl (some (.int (f_Plan_addBlock_60 n x y Z).1))) (ov h (gO (plL g p ad) ((f_Plan_addBlock_60 n x y Z).2)))) : PW g M_Plan_addBlock 0 kc ks Q 60 [.ref (p), .int (x), .int (y), .int (nI (n)), .retAddr 0] [] (ov h (gO (plL g p ad) Z)) := by
  refine pw_aload_n e_Plan_addBlock_60 rfl ?_
  refine pw_getf e_Plan_addBlock_61 fl_Plan_59 (gO_get hnd (i := 0) rfl) rfl ?_
  refine pw_iload_n e_Plan_addBlock_64 rfl ?_
  refine pw_iconst (v := (-1)) e_Plan_addBlock_65 (by decide) ?_
  refine pw_iastG (i := 13) e_Plan_addBlock_66 hnd (pl_x _ _ _) rfl (by omega) (by decide) ?_
  refine pw_aload_n e_Plan_addBlock_67 rfl ?_
  refine pw_dup e_Plan_addBlock_68 rfl ?_
  refine pw_getf e_Plan_addBlock_69 fl_Plan_21 (gO_get hnd (i := 0) rfl) rfl ?_
  rw [show (u2 Z 11 n ((-1))) 30 3 = nI (n) from hbl]
  refine pw_iconst (v := nI 1) e_Plan_addBlock_72 (by decide) ?_
  refine pw_iaddN e_Plan_addBlock_73 ?_
  refine pw_putG (i := 0) (ps := 3) (x := nI (n + 1)) e_Plan_addBlock_74 fp_Plan_21 hnd (pl_x _ _ _) rfl (Nat.le_of_ble_eq_true rfl) rfl rfl rfl ?_
  refine pw_iload_n e_Plan_addBlock_77 rfl ?_
  refine pw_iret e_Plan_addBlock_78 rfl rfl ?_
  rw [f_Plan_addBlock_60] at hk
  exact hk
def f_Plan_addBlock_36 (n : Nat) (x y : Int32) : Nat → (Nat → Nat → Int32) → (Nat) → (Nat → Nat → Int32)
  | 0, Z, _ => Z
  | t + 1, Z, w => if 3 ≤ w then Z else f_Plan_addBlock_36 n x y t (u2 Z 10 ((n * 3) + w) ((-1))) (w + 1)
set_option maxRecDepth 4000 in
theorem w_Plan_addBlock_36 {g : GG} {Q : QT} {h : Hp} {kc ks : Nat} (hst : (gl g).stackTraces = false) {p : Nat} {ad : Nat → Nat} (hnd : (gK (plL g p ad)).Nodup) (n : Nat) (x y : Int32) (hn : n < 10)  (t : Nat) : ∀ (Z : Nat → Nat → Int32) (w : Nat) (hw1 : w < 4) (hbl : Z 30 3 = nI n) (hlt : 3 - w < t) (hk : PW g M_Plan_addBlock 0 kc ks Q 60 [.ref (p), .int (x), .int (y), .int (nI (n)), .retAddr 0] [] (ov h (gO (plL g p ad) (f_Plan_addBlock_36 n x y t Z w)))), PW g M_Plan_addBlock 0 kc ks Q 36 [.ref (p), .int (x), .int (y), .int (nI (n)), .int (nI (w))] [] (ov h (gO (plL g p ad) Z)) := by
  induction t with
  | zero => intro Z w hw1 hbl hlt _; exact absurd hlt (Nat.not_lt_zero _)
  | succ t ih =>
    intro Z w hw1 hbl hlt hk
    refine pw_iload e_Plan_addBlock_36 rfl ?_
    refine pw_iconst (v := nI 3) e_Plan_addBlock_38 (by decide) ?_
    refine pw_icmp_geN (tgt := 60) e_Plan_addBlock_39 (by decide) (by omega) (by omega) (fun (H1 : 3 ≤ w) => ?_) (fun (H1 : w < 3) => ?_)
    · refine pw_fgt (ls' := [.ref (p), .int (x), .int (y), .int (nI (n)), .retAddr 0]) ⟨Or.inr rfl, Or.inr rfl, Or.inr rfl, Or.inr rfl, Or.inl rfl, trivial⟩ ?_
      rw [f_Plan_addBlock_36, if_pos H1] at hk
      exact hk
    · refine pw_aload_n e_Plan_addBlock_42 rfl ?_
      refine pw_getf e_Plan_addBlock_43 fl_Plan_56 (gO_get hnd (i := 0) rfl) rfl ?_
      refine pw_iload_n e_Plan_addBlock_46 rfl ?_
      refine pw_iconst (v := nI 3) e_Plan_addBlock_47 (by decide) ?_
      refine pw_imulN e_Plan_addBlock_48 ?_
      refine pw_iload e_Plan_addBlock_49 rfl ?_
      refine pw_iaddN e_Plan_addBlock_51 ?_
      refine pw_iconst (v := (-1)) e_Plan_addBlock_52 (by decide) ?_
      refine pw_iastG (i := 12) e_Plan_addBlock_53 hnd (pl_x _ _ _) rfl (by omega) (by decide) ?_
      refine pw_iincN (ls2 := [_, _, _, _, _]) e_Plan_addBlock_54 rfl (by decide) rfl ?_
      refine pw_goto (tgt := 36) e_Plan_addBlock_57 (by decide) ?_
      refine ih (u2 Z 10 ((n * 3) + w) ((-1))) (w + 1) (by omega) (by first | rfl | assumption | exact hbl) (by omega) ?_
      rw [f_Plan_addBlock_36, if_neg (Nat.not_le.mpr H1)] at hk
      exact hk
theorem ab_keep (n : Nat) (x y : Int32) : ∀ (t : Nat) (Z : Nat → Nat → Int32) (w a b : Nat), a ≠ 10 → f_Plan_addBlock_36 n x y t Z w a b = Z a b := by
  intro t
  induction t with
  | zero => intro Z w a b _; rfl
  | succ t ih =>
    intro Z w a b ha
    rw [f_Plan_addBlock_36]
    split
    · rfl
    · rw [ih _ _ a b ha, u2, va_up, if_neg ha]
def f_Plan_addBlock (n : Nat) (x y : Int32) (Z : Nat → Nat → Int32) : Int32 × (Nat → Nat → Int32) :=
  f_Plan_addBlock_60 n x y (f_Plan_addBlock_36 n x y 4 (u2 (u2 (u2 (u2 Z 1 n x) 2 n y) 3 n ((-1))) 4 n 0) 0)
set_option maxRecDepth 4000 in
theorem w_Plan_addBlock_0 {g : GG} {Q : QT} {h : Hp} {kc ks : Nat} (hst : (gl g).stackTraces = false) {p : Nat} {ad : Nat → Nat} (hnd : (gK (plL g p ad)).Nodup) (n : Nat) (x y : Int32) (hn : n < 10)  (Z : Nat → Nat → Int32) (hbl : Z 30 3 = nI n) (hk : Q (.inl (some (.int (f_Plan_addBlock n x y Z).1))) (ov h (gO (plL g p ad) ((f_Plan_addBlock n x y Z).2)))) : PW g M_Plan_addBlock 0 kc ks Q 0 [.ref (p), .int (x), .int (y), .retAddr 0, .retAddr 0] [] (ov h (gO (plL g p ad) Z)) := by
  refine pw_aload_n e_Plan_addBlock_0 rfl ?_
  refine pw_getf e_Plan_addBlock_1 fl_Plan_21 (gO_get hnd (i := 0) rfl) rfl ?_
  rw [show Z 30 3 = nI (n) from hbl]
  refine pw_istore_n (ls2 := [_, _, _, _, _]) e_Plan_addBlock_4 (by decide) rfl ?_
  refine pw_aload_n e_Plan_addBlock_5 rfl ?_
  refine pw_getf e_Plan_addBlock_6 fl_Plan_28 (gO_get hnd (i := 0) rfl) rfl ?_
  refine pw_iload_n e_Plan_addBlock_9 rfl ?_
  refine pw_iload_n e_Plan_addBlock_10 rfl ?_
  refine pw_iastG (i := 3) e_Plan_addBlock_11 hnd (pl_x _ _ _) rfl (by omega) (by decide) ?_
  refine pw_aload_n e_Plan_addBlock_12 rfl ?_
  refine pw_getf e_Plan_addBlock_13 fl_Plan_31 (gO_get hnd (i := 0) rfl) rfl ?_
  refine pw_iload_n e_Plan_addBlock_16 rfl ?_
  refine pw_iload_n e_Plan_addBlock_17 rfl ?_
  refine pw_iastG (i := 4) e_Plan_addBlock_18 hnd (pl_x _ _ _) rfl (by omega) (by decide) ?_
  refine pw_aload_n e_Plan_addBlock_19 rfl ?_
  refine pw_getf e_Plan_addBlock_20 fl_Plan_34 (gO_get hnd (i := 0) rfl) rfl ?_
  refine pw_iload_n e_Plan_addBlock_23 rfl ?_
  refine pw_iconst (v := (-1)) e_Plan_addBlock_24 (by decide) ?_
  refine pw_iastG (i := 5) e_Plan_addBlock_25 hnd (pl_x _ _ _) rfl (by omega) (by decide) ?_
  refine pw_aload_n e_Plan_addBlock_26 rfl ?_
  refine pw_getf e_Plan_addBlock_27 fl_Plan_37 (gO_get hnd (i := 0) rfl) rfl ?_
  refine pw_iload_n e_Plan_addBlock_30 rfl ?_
  refine pw_iconst (v := nI 0) e_Plan_addBlock_31 (by decide) ?_
  refine pw_iastG (i := 6) e_Plan_addBlock_32 hnd (pl_x _ _ _) rfl (by omega) (by decide) ?_
  refine pw_iconst (v := nI 0) e_Plan_addBlock_33 (by decide) ?_
  refine pw_istore (ls2 := [_, _, _, _, _]) e_Plan_addBlock_34 (by decide) rfl ?_
  refine w_Plan_addBlock_36 hst hnd n x y hn 4 (u2 (u2 (u2 (u2 Z 1 n x) 2 n y) 3 n ((-1))) 4 n 0) 0 (by omega) (by first | rfl | assumption | exact hbl) (by omega) ?_
  refine w_Plan_addBlock_60 hst hnd n x y hn (f_Plan_addBlock_36 n x y 4 (u2 (u2 (u2 (u2 Z 1 n x) 2 n y) 3 n ((-1))) 4 n 0) 0) ((ab_keep n x y _ _ _ 30 3 (by decide)).trans hbl) ?_
  rw [f_Plan_addBlock] at hk
  exact hk
theorem q_Plan_addBlock {g : GG} {h : Hp} (hst : (gl g).stackTraces = false) {p : Nat} {ad : Nat → Nat} (hnd : (gK (plL g p ad)).Nodup) (n : Nat) (x y : Int32) (hn : n < 10)  (Z : Nat → Nat → Int32) (hm : ∀ q ∈ gO (plL g p ad) Z, h q.1 = some q.2) (hbl : Z 30 3 = nI n) : PM g M_Plan_addBlock 0 0 0 [.ref (p), .int (x), .int (y)] h (RetV (some (.int (f_Plan_addBlock n x y Z).1)) (ov h (gO (plL g p ad) ((f_Plan_addBlock n x y Z).2)))) := by
  refine PM.of hst (by decide) rfl (fun v hv => ?_) (Nat.le_of_ble_eq_true rfl) ?_
  · simp only [List.mem_cons, List.not_mem_nil, or_false] at hv; rcases hv with rfl | rfl | rfl <;> rfl
  · have hq := w_Plan_addBlock_0 (g := g) (Q := RetV (some (.int (f_Plan_addBlock n x y Z).1)) (ov h (gO (plL g p ad) ((f_Plan_addBlock n x y Z).2)))) (h := h) (kc := 0) (ks := 0) hst hnd n x y hn Z hbl ?_
    · rw [ov_self hm] at hq; exact hq
    · exact ⟨rfl, rfl⟩

def f_Plan_addLink (n a b w : Nat) (Z : Nat → Nat → Int32) : (Nat → Nat → Int32) :=
  if w = 2 then mixK [31, 12, 13, 14] (f_Links_add n (nI (a)) (nI (b)) (nI (w)) (u2 (u2 Z 10 ((b * 3) + w) (Z 31 0)) 11 a ((u2 Z 10 ((b * 3) + w) (Z 31 0)) 31 0))) (u2 (u2 Z 10 ((b * 3) + w) (Z 31 0)) 11 a ((u2 Z 10 ((b * 3) + w) (Z 31 0)) 31 0)) else mixK [31, 12, 13, 14] (f_Links_add n (nI (a)) (nI (b)) (nI (w)) (u2 Z 10 ((b * 3) + w) (Z 31 0))) (u2 Z 10 ((b * 3) + w) (Z 31 0))
set_option maxRecDepth 4000 in
theorem w_Plan_addLink_0 {g : GG} {Q : QT} {h : Hp} {kc ks : Nat} (hst : (gl g).stackTraces = false) {p : Nat} {ad : Nat → Nat} (hnd : (gK (plL g p ad)).Nodup) (n a b w : Nat) (hn : n < 12) (ha : a < 10) (hb : b < 10) (hw : w < 3)  (Z : Nat → Nat → Int32) (hlk : Z 31 0 = nI n) (hk : Q (.inl none) (ov h (gO (plL g p ad) (f_Plan_addLink n a b w Z)))) : PW g M_Plan_addLink 1 kc ks Q 0 [.ref (p), .int (nI (a)), .int (nI (b)), .int (nI (w))] [] (ov h (gO (plL g p ad) Z)) := by
  refine pw_aload_n e_Plan_addLink_0 rfl ?_
  refine pw_getf e_Plan_addLink_1 fl_Plan_56 (gO_get hnd (i := 0) rfl) rfl ?_
  refine pw_iload_n e_Plan_addLink_4 rfl ?_
  refine pw_iconst (v := nI 3) e_Plan_addLink_5 (by decide) ?_
  refine pw_imulN e_Plan_addLink_6 ?_
  refine pw_iload_n e_Plan_addLink_7 rfl ?_
  refine pw_iaddN e_Plan_addLink_8 ?_
  refine pw_aload_n e_Plan_addLink_9 rfl ?_
  refine pw_getf e_Plan_addLink_10 fl_Plan_65 (gO_get hnd (i := 0) rfl) rfl ?_
  refine pw_getf e_Plan_addLink_13 fl_Plan_83 (gO_get hnd (i := 1) rfl) rfl ?_
  refine pw_iastG (i := 12) e_Plan_addLink_16 hnd (pl_x _ _ _) rfl (by omega) (by decide) ?_
  refine pw_iload_n e_Plan_addLink_17 rfl ?_
  refine pw_iconst (v := nI 2) e_Plan_addLink_18 (by decide) ?_
  refine pw_icmp_neN (tgt := 35) e_Plan_addLink_19 (by decide) (by omega) (by omega) (fun (H1 : ¬ w = 2) => ?_) (fun (H1 : w = 2) => ?_)
  · refine pw_aload_n e_Plan_addLink_35 rfl ?_
    refine pw_getf e_Plan_addLink_36 fl_Plan_65 (gO_get hnd (i := 0) rfl) rfl ?_
    refine pw_iload_n e_Plan_addLink_39 rfl ?_
    refine pw_iload_n e_Plan_addLink_40 rfl ?_
    refine pw_iload_n e_Plan_addLink_41 rfl ?_
    refine pw_detV (As := [.int (nI (a)), .int (nI (b)), .int (nI (w))]) e_Plan_addLink_42 li_Plan_89 rfl (gO_get hnd (i := 1) rfl) (q_Links_add hst (nd_of hnd (lk_sl _ _ _)) n (nI (a)) (nI (b)) (nI (w)) (by omega) (u2 Z 10 ((b * 3) + w) (Z 31 0)) (gO_in hnd (lk_in _ _ _)) hlk) rfl (by decide) (Nat.le_of_ble_eq_true rfl) rfl ?_
    refine pw_subG hnd (pl_x _ _ _) (nd_of hnd (lk_sl _ _ _)) (lk_in _ _ _) ?_
    refine pw_vret e_Plan_addLink_45 rfl ?_
    rw [f_Plan_addLink, if_neg H1] at hk
    exact hk
  · refine pw_aload_n e_Plan_addLink_22 rfl ?_
    refine pw_getf e_Plan_addLink_23 fl_Plan_59 (gO_get hnd (i := 0) rfl) rfl ?_
    refine pw_iload_n e_Plan_addLink_26 rfl ?_
    refine pw_aload_n e_Plan_addLink_27 rfl ?_
    refine pw_getf e_Plan_addLink_28 fl_Plan_65 (gO_get hnd (i := 0) rfl) rfl ?_
    refine pw_getf e_Plan_addLink_31 fl_Plan_83 (gO_get hnd (i := 1) rfl) rfl ?_
    refine pw_iastG (i := 13) e_Plan_addLink_34 hnd (pl_x _ _ _) rfl (by omega) (by decide) ?_
    refine pw_aload_n e_Plan_addLink_35 rfl ?_
    refine pw_getf e_Plan_addLink_36 fl_Plan_65 (gO_get hnd (i := 0) rfl) rfl ?_
    refine pw_iload_n e_Plan_addLink_39 rfl ?_
    refine pw_iload_n e_Plan_addLink_40 rfl ?_
    refine pw_iload_n e_Plan_addLink_41 rfl ?_
    refine pw_detV (As := [.int (nI (a)), .int (nI (b)), .int (nI (w))]) e_Plan_addLink_42 li_Plan_89 rfl (gO_get hnd (i := 1) rfl) (q_Links_add hst (nd_of hnd (lk_sl _ _ _)) n (nI (a)) (nI (b)) (nI (w)) (by omega) (u2 (u2 Z 10 ((b * 3) + w) (Z 31 0)) 11 a ((u2 Z 10 ((b * 3) + w) (Z 31 0)) 31 0)) (gO_in hnd (lk_in _ _ _)) hlk) rfl (by decide) (Nat.le_of_ble_eq_true rfl) rfl ?_
    refine pw_subG hnd (pl_x _ _ _) (nd_of hnd (lk_sl _ _ _)) (lk_in _ _ _) ?_
    refine pw_vret e_Plan_addLink_45 rfl ?_
    rw [f_Plan_addLink, if_pos H1] at hk
    exact hk
theorem q_Plan_addLink {g : GG} {h : Hp} (hst : (gl g).stackTraces = false) {p : Nat} {ad : Nat → Nat} (hnd : (gK (plL g p ad)).Nodup) (n a b w : Nat) (hn : n < 12) (ha : a < 10) (hb : b < 10) (hw : w < 3)  (Z : Nat → Nat → Int32) (hm : ∀ q ∈ gO (plL g p ad) Z, h q.1 = some q.2) (hlk : Z 31 0 = nI n) : PM g M_Plan_addLink 1 0 0 [.ref (p), .int (nI (a)), .int (nI (b)), .int (nI (w))] h (RetV none (ov h (gO (plL g p ad) (f_Plan_addLink n a b w Z)))) := by
  refine PM.of hst (by decide) rfl (fun v hv => ?_) (Nat.le_of_ble_eq_true rfl) ?_
  · simp only [List.mem_cons, List.not_mem_nil, or_false] at hv; rcases hv with rfl | rfl | rfl | rfl <;> rfl
  · have hq := w_Plan_addLink_0 (g := g) (Q := RetV none (ov h (gO (plL g p ad) (f_Plan_addLink n a b w Z)))) (h := h) (kc := 0) (ks := 0) hst hnd n a b w hn ha hb hw Z hlk ?_
    · rw [ov_self hm] at hq; exact hq
    · exact ⟨rfl, rfl⟩

def f_Plan_suits (Z : Nat → Nat → Int32) (a b w : Nat) : Int32 :=
  if w = 2 then if ((Z 0) a) = 1 then if ((Z 0) b) = 1 then 1 else if ((Z 0) b) = 2 then 1 else 0 else 0 else if ((Z 0) b) = 3 then 1 else if w = 0 then if ((Z 0) b) = 1 then 1 else 0 else 0
set_option maxRecDepth 4000 in
theorem w_Plan_suits_0 {g : GG} {Q : QT} {h : Hp} {kc ks : Nat} (hst : (gl g).stackTraces = false) {p : Nat} {ad : Nat → Nat} (Z : Nat → Nat → Int32) (hp0 : h p = some (.inr (5, [.int (Z 30 0), .int (Z 30 1), .int (Z 30 2), .int (Z 30 3), .ref (ad 0), .ref (ad 1), .ref (ad 2), .ref (ad 3), .ref (ad 4), .ref (ad 5), .ref (ad 6), .ref (ad 7), .ref (ad 8), .ref (ad 9), .ref (ad 10), .ref (ad 11), .ref (ad 25), .ref (ad 26), .ref (ad 27)]))) (hp1 : h (ad 0) = some (aI g 10 (Z 0))) (hp2 : h (ad 10) = some (aI g 30 (Z 10))) (hp3 : h (ad 11) = some (aI g 10 (Z 11))) (a b w : Nat) (ha : a < 10) (hb : b < 10) (hw : w < 3)  (hk : Q (.inl (some (.int (f_Plan_suits Z a b w)))) h) : PW g M_Plan_suits 0 kc ks Q 0 [.ref (p), .int (nI (a)), .int (nI (b)), .int (nI (w))] [] h := by
  refine pw_iload_n e_Plan_suits_0 rfl ?_
  refine pw_iconst (v := nI 2) e_Plan_suits_1 (by decide) ?_
  refine pw_icmp_neN (tgt := 41) e_Plan_suits_2 (by decide) (by omega) (by omega) (fun (H1 : ¬ w = 2) => ?_) (fun (H1 : w = 2) => ?_)
  · refine pw_aload_n e_Plan_suits_41 rfl ?_
    refine pw_getf e_Plan_suits_42 fl_Plan_24 hp0 rfl ?_
    refine pw_iload_n e_Plan_suits_45 rfl ?_
    refine pw_ialdN e_Plan_suits_46 hp1 (by omega) (by decide) ?_
    refine pw_iconst (v := nI 3) e_Plan_suits_47 (by decide) ?_
    refine pw_icmp_eq (tgt := 65) e_Plan_suits_48 (by decide) (fun (H2 : ((Z 0) b) = 3) => ?_) (fun (H2 : ¬ ((Z 0) b) = 3) => ?_)
    · refine pw_iconst (v := nI 1) e_Plan_suits_65 (by decide) ?_
      refine pw_goto (tgt := 70) e_Plan_suits_66 (by decide) ?_
      refine pw_iret e_Plan_suits_70 rfl (by decide) ?_
      rw [f_Plan_suits, if_neg H1, if_pos H2] at hk
      exact hk
    · refine pw_iload_n e_Plan_suits_51 rfl ?_
      refine pw_if_neN (tgt := 69) e_Plan_suits_52 (by decide) (by omega) (fun (H3 : ¬ w = 0) => ?_) (fun (H3 : w = 0) => ?_)
      · refine pw_iconst (v := nI 0) e_Plan_suits_69 (by decide) ?_
        refine pw_iret e_Plan_suits_70 rfl (by decide) ?_
        rw [f_Plan_suits, if_neg H1, if_neg H2, if_neg H3] at hk
        exact hk
      · refine pw_aload_n e_Plan_suits_55 rfl ?_
        refine pw_getf e_Plan_suits_56 fl_Plan_24 hp0 rfl ?_
        refine pw_iload_n e_Plan_suits_59 rfl ?_
        refine pw_ialdN e_Plan_suits_60 hp1 (by omega) (by decide) ?_
        refine pw_iconst (v := nI 1) e_Plan_suits_61 (by decide) ?_
        refine pw_icmp_ne (tgt := 69) e_Plan_suits_62 (by decide) (fun (H4 : ¬ ((Z 0) b) = 1) => ?_) (fun (H4 : ((Z 0) b) = 1) => ?_)
        · refine pw_iconst (v := nI 0) e_Plan_suits_69 (by decide) ?_
          refine pw_iret e_Plan_suits_70 rfl (by decide) ?_
          rw [f_Plan_suits, if_neg H1, if_neg H2, if_pos H3, if_neg H4] at hk
          exact hk
        · refine pw_iconst (v := nI 1) e_Plan_suits_65 (by decide) ?_
          refine pw_goto (tgt := 70) e_Plan_suits_66 (by decide) ?_
          refine pw_iret e_Plan_suits_70 rfl (by decide) ?_
          rw [f_Plan_suits, if_neg H1, if_neg H2, if_pos H3, if_pos H4] at hk
          exact hk
  · refine pw_aload_n e_Plan_suits_5 rfl ?_
    refine pw_getf e_Plan_suits_6 fl_Plan_24 hp0 rfl ?_
    refine pw_iload_n e_Plan_suits_9 rfl ?_
    refine pw_ialdN e_Plan_suits_10 hp1 (by omega) (by decide) ?_
    refine pw_iconst (v := nI 1) e_Plan_suits_11 (by decide) ?_
    refine pw_icmp_ne (tgt := 39) e_Plan_suits_12 (by decide) (fun (H5 : ¬ ((Z 0) a) = 1) => ?_) (fun (H5 : ((Z 0) a) = 1) => ?_)
    · refine pw_iconst (v := nI 0) e_Plan_suits_39 (by decide) ?_
      refine pw_iret e_Plan_suits_40 rfl (by decide) ?_
      rw [f_Plan_suits, if_pos H1, if_neg H5] at hk
      exact hk
    · refine pw_aload_n e_Plan_suits_15 rfl ?_
      refine pw_getf e_Plan_suits_16 fl_Plan_24 hp0 rfl ?_
      refine pw_iload_n e_Plan_suits_19 rfl ?_
      refine pw_ialdN e_Plan_suits_20 hp1 (by omega) (by decide) ?_
      refine pw_iconst (v := nI 1) e_Plan_suits_21 (by decide) ?_
      refine pw_icmp_eq (tgt := 35) e_Plan_suits_22 (by decide) (fun (H6 : ((Z 0) b) = 1) => ?_) (fun (H6 : ¬ ((Z 0) b) = 1) => ?_)
      · refine pw_iconst (v := nI 1) e_Plan_suits_35 (by decide) ?_
        refine pw_goto (tgt := 40) e_Plan_suits_36 (by decide) ?_
        refine pw_iret e_Plan_suits_40 rfl (by decide) ?_
        rw [f_Plan_suits, if_pos H1, if_pos H5, if_pos H6] at hk
        exact hk
      · refine pw_aload_n e_Plan_suits_25 rfl ?_
        refine pw_getf e_Plan_suits_26 fl_Plan_24 hp0 rfl ?_
        refine pw_iload_n e_Plan_suits_29 rfl ?_
        refine pw_ialdN e_Plan_suits_30 hp1 (by omega) (by decide) ?_
        refine pw_iconst (v := nI 2) e_Plan_suits_31 (by decide) ?_
        refine pw_icmp_ne (tgt := 39) e_Plan_suits_32 (by decide) (fun (H7 : ¬ ((Z 0) b) = 2) => ?_) (fun (H7 : ((Z 0) b) = 2) => ?_)
        · refine pw_iconst (v := nI 0) e_Plan_suits_39 (by decide) ?_
          refine pw_iret e_Plan_suits_40 rfl (by decide) ?_
          rw [f_Plan_suits, if_pos H1, if_pos H5, if_neg H6, if_neg H7] at hk
          exact hk
        · refine pw_iconst (v := nI 1) e_Plan_suits_35 (by decide) ?_
          refine pw_goto (tgt := 40) e_Plan_suits_36 (by decide) ?_
          refine pw_iret e_Plan_suits_40 rfl (by decide) ?_
          rw [f_Plan_suits, if_pos H1, if_pos H5, if_neg H6, if_pos H7] at hk
          exact hk
theorem q_Plan_suits {g : GG} {h : Hp} (hst : (gl g).stackTraces = false) {p : Nat} {ad : Nat → Nat} (Z : Nat → Nat → Int32) (hp0 : h p = some (.inr (5, [.int (Z 30 0), .int (Z 30 1), .int (Z 30 2), .int (Z 30 3), .ref (ad 0), .ref (ad 1), .ref (ad 2), .ref (ad 3), .ref (ad 4), .ref (ad 5), .ref (ad 6), .ref (ad 7), .ref (ad 8), .ref (ad 9), .ref (ad 10), .ref (ad 11), .ref (ad 25), .ref (ad 26), .ref (ad 27)]))) (hp1 : h (ad 0) = some (aI g 10 (Z 0))) (hp2 : h (ad 10) = some (aI g 30 (Z 10))) (hp3 : h (ad 11) = some (aI g 10 (Z 11))) (a b w : Nat) (ha : a < 10) (hb : b < 10) (hw : w < 3)  : PM g M_Plan_suits 0 0 0 [.ref (p), .int (nI (a)), .int (nI (b)), .int (nI (w))] h (RetV (some (.int (f_Plan_suits Z a b w))) h) := by
  refine PM.of hst (by decide) rfl (fun v hv => ?_) (Nat.le_of_ble_eq_true rfl) ?_
  · simp only [List.mem_cons, List.not_mem_nil, or_false] at hv; rcases hv with rfl | rfl | rfl | rfl <;> rfl
  · have hq := w_Plan_suits_0 (g := g) (Q := RetV (some (.int (f_Plan_suits Z a b w))) h) (h := h) (kc := 0) (ks := 0) hst Z hp0 hp1 hp2 hp3 a b w ha hb hw ?_
    · exact hq
    · exact ⟨rfl, rfl⟩

def f_Plan_hasLinked (Z : Nat → Nat → Int32) (a b w : Nat) : Int32 :=
  if ((Z 10) ((b * 3) + w)) = ((-1)) then if w = 2 then if ((Z 11) a) = ((-1)) then 0 else 1 else 0 else 1
set_option maxRecDepth 4000 in
theorem w_Plan_hasLinked_0 {g : GG} {Q : QT} {h : Hp} {kc ks : Nat} (hst : (gl g).stackTraces = false) {p : Nat} {ad : Nat → Nat} (Z : Nat → Nat → Int32) (hp0 : h p = some (.inr (5, [.int (Z 30 0), .int (Z 30 1), .int (Z 30 2), .int (Z 30 3), .ref (ad 0), .ref (ad 1), .ref (ad 2), .ref (ad 3), .ref (ad 4), .ref (ad 5), .ref (ad 6), .ref (ad 7), .ref (ad 8), .ref (ad 9), .ref (ad 10), .ref (ad 11), .ref (ad 25), .ref (ad 26), .ref (ad 27)]))) (hp1 : h (ad 0) = some (aI g 10 (Z 0))) (hp2 : h (ad 10) = some (aI g 30 (Z 10))) (hp3 : h (ad 11) = some (aI g 10 (Z 11))) (a b w : Nat) (ha : a < 10) (hb : b < 10) (hw : w < 3)  (hk : Q (.inl (some (.int (f_Plan_hasLinked Z a b w)))) h) : PW g M_Plan_hasLinked 0 kc ks Q 0 [.ref (p), .int (nI (a)), .int (nI (b)), .int (nI (w))] [] h := by
  refine pw_aload_n e_Plan_hasLinked_0 rfl ?_
  refine pw_getf e_Plan_hasLinked_1 fl_Plan_56 hp0 rfl ?_
  refine pw_iload_n e_Plan_hasLinked_4 rfl ?_
  refine pw_iconst (v := nI 3) e_Plan_hasLinked_5 (by decide) ?_
  refine pw_imulN e_Plan_hasLinked_6 ?_
  refine pw_iload_n e_Plan_hasLinked_7 rfl ?_
  refine pw_iaddN e_Plan_hasLinked_8 ?_
  refine pw_ialdN e_Plan_hasLinked_9 hp2 (by omega) (by decide) ?_
  refine pw_iconst (v := (-1)) e_Plan_hasLinked_10 (by decide) ?_
  refine pw_icmp_ne (tgt := 29) e_Plan_hasLinked_11 (by decide) (fun (H1 : ¬ ((Z 10) ((b * 3) + w)) = ((-1))) => ?_) (fun (H1 : ((Z 10) ((b * 3) + w)) = ((-1))) => ?_)
  · refine pw_iconst (v := nI 1) e_Plan_hasLinked_29 (by decide) ?_
    refine pw_goto (tgt := 34) e_Plan_hasLinked_30 (by decide) ?_
    refine pw_iret e_Plan_hasLinked_34 rfl (by decide) ?_
    rw [f_Plan_hasLinked, if_neg H1] at hk
    exact hk
  · refine pw_iload_n e_Plan_hasLinked_14 rfl ?_
    refine pw_iconst (v := nI 2) e_Plan_hasLinked_15 (by decide) ?_
    refine pw_icmp_neN (tgt := 33) e_Plan_hasLinked_16 (by decide) (by omega) (by omega) (fun (H2 : ¬ w = 2) => ?_) (fun (H2 : w = 2) => ?_)
    · refine pw_iconst (v := nI 0) e_Plan_hasLinked_33 (by decide) ?_
      refine pw_iret e_Plan_hasLinked_34 rfl (by decide) ?_
      rw [f_Plan_hasLinked, if_pos H1, if_neg H2] at hk
      exact hk
    · refine pw_aload_n e_Plan_hasLinked_19 rfl ?_
      refine pw_getf e_Plan_hasLinked_20 fl_Plan_59 hp0 rfl ?_
      refine pw_iload_n e_Plan_hasLinked_23 rfl ?_
      refine pw_ialdN e_Plan_hasLinked_24 hp3 (by omega) (by decide) ?_
      refine pw_iconst (v := (-1)) e_Plan_hasLinked_25 (by decide) ?_
      refine pw_icmp_eq (tgt := 33) e_Plan_hasLinked_26 (by decide) (fun (H3 : ((Z 11) a) = ((-1))) => ?_) (fun (H3 : ¬ ((Z 11) a) = ((-1))) => ?_)
      · refine pw_iconst (v := nI 0) e_Plan_hasLinked_33 (by decide) ?_
        refine pw_iret e_Plan_hasLinked_34 rfl (by decide) ?_
        rw [f_Plan_hasLinked, if_pos H1, if_pos H2, if_pos H3] at hk
        exact hk
      · refine pw_iconst (v := nI 1) e_Plan_hasLinked_29 (by decide) ?_
        refine pw_goto (tgt := 34) e_Plan_hasLinked_30 (by decide) ?_
        refine pw_iret e_Plan_hasLinked_34 rfl (by decide) ?_
        rw [f_Plan_hasLinked, if_pos H1, if_pos H2, if_neg H3] at hk
        exact hk
theorem q_Plan_hasLinked {g : GG} {h : Hp} (hst : (gl g).stackTraces = false) {p : Nat} {ad : Nat → Nat} (Z : Nat → Nat → Int32) (hp0 : h p = some (.inr (5, [.int (Z 30 0), .int (Z 30 1), .int (Z 30 2), .int (Z 30 3), .ref (ad 0), .ref (ad 1), .ref (ad 2), .ref (ad 3), .ref (ad 4), .ref (ad 5), .ref (ad 6), .ref (ad 7), .ref (ad 8), .ref (ad 9), .ref (ad 10), .ref (ad 11), .ref (ad 25), .ref (ad 26), .ref (ad 27)]))) (hp1 : h (ad 0) = some (aI g 10 (Z 0))) (hp2 : h (ad 10) = some (aI g 30 (Z 10))) (hp3 : h (ad 11) = some (aI g 10 (Z 11))) (a b w : Nat) (ha : a < 10) (hb : b < 10) (hw : w < 3)  : PM g M_Plan_hasLinked 0 0 0 [.ref (p), .int (nI (a)), .int (nI (b)), .int (nI (w))] h (RetV (some (.int (f_Plan_hasLinked Z a b w))) h) := by
  refine PM.of hst (by decide) rfl (fun v hv => ?_) (Nat.le_of_ble_eq_true rfl) ?_
  · simp only [List.mem_cons, List.not_mem_nil, or_false] at hv; rcases hv with rfl | rfl | rfl | rfl <;> rfl
  · have hq := w_Plan_hasLinked_0 (g := g) (Q := RetV (some (.int (f_Plan_hasLinked Z a b w))) h) (h := h) (kc := 0) (ks := 0) hst Z hp0 hp1 hp2 hp3 a b w ha hb hw ?_
    · exact hq
    · exact ⟨rfl, rfl⟩

