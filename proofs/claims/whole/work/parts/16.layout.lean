/-! Noted, Layout as functions (written by wip/whole/c_small.py) -/
def ntL (g : GG) (ad : Nat → Nat) : GL := [(ad 0, 0, fun f => .inr (4, [.int (f 0), .ref (ad 1), .ref (ad 2), .ref (ad 3)])), (ad 1, 1, aI g 6), (ad 2, 2, aI g 6), (ad 3, 3, aI g 6)]
theorem nt_x (g : GG) (ad : Nat → Nat) : (gX (ntL g ad)).Nodup := by show List.Nodup [0, 1, 2, 3]; decide
def f_Noted_clear  (L : Nat → Nat → Int32) : (Nat → Nat → Int32) :=
  u2 L 0 0 0
set_option maxRecDepth 4000 in
theorem w_Noted_clear_0 {g : GG} {Q : QT} {h : Hp} {kc ks : Nat} (hst : (gl g).stackTraces = false) {ad : Nat → Nat} (hnd : (gK (ntL g ad)).Nodup)  (L : Nat → Nat → Int32) (hk : Q (.inl none) (ov h (gO (ntL g ad) (f_Noted_clear  L)))) : PW g M_Noted_clear 0 kc ks Q 0 [.ref (ad 0)] [] (ov h (gO (ntL g ad) L)) := by
  refine pw_aload_n e_Noted_clear_0 rfl ?_
  refine pw_iconst (v := nI 0) e_Noted_clear_1 (by decide) ?_
  refine pw_putG (i := 0) (ps := 0) (x := 0) e_Noted_clear_2 fp_Noted_9 hnd (nt_x _ _) rfl (Nat.le_of_ble_eq_true rfl) rfl rfl rfl ?_
  refine pw_vret e_Noted_clear_5 rfl ?_
  rw [f_Noted_clear] at hk
  exact hk
theorem q_Noted_clear {g : GG} {h : Hp} (hst : (gl g).stackTraces = false) {ad : Nat → Nat} (hnd : (gK (ntL g ad)).Nodup)  (L : Nat → Nat → Int32) (hm : ∀ q ∈ gO (ntL g ad) L, h q.1 = some q.2) : PM g M_Noted_clear 0 0 0 [.ref (ad 0)] h (RetV none (ov h (gO (ntL g ad) (f_Noted_clear  L)))) := by
  refine PM.of hst (by decide) rfl (fun v hv => ?_) (Nat.le_of_ble_eq_true rfl) ?_
  · simp only [List.mem_cons, List.not_mem_nil, or_false] at hv; rcases hv with rfl <;> rfl
  · have hq := w_Noted_clear_0 (g := g) (Q := RetV none (ov h (gO (ntL g ad) (f_Noted_clear  L)))) (h := h) (kc := 0) (ks := 0) hst hnd L ?_
    · rw [ov_self hm] at hq; exact hq
    · exact ⟨rfl, rfl⟩

def f_Noted_add (n : Nat) (x y z : Int32) (L : Nat → Nat → Int32) : (Nat → Nat → Int32) :=
  u2 (u2 (u2 (u2 L 1 n x) 2 n y) 3 n z) 0 0 (nI (n + 1))
set_option maxRecDepth 4000 in
theorem w_Noted_add_0 {g : GG} {Q : QT} {h : Hp} {kc ks : Nat} (hst : (gl g).stackTraces = false) {ad : Nat → Nat} (hnd : (gK (ntL g ad)).Nodup) (n : Nat) (x y z : Int32) (hn : n < 6)  (L : Nat → Nat → Int32) (hmany : L 0 0 = nI n) (hk : Q (.inl none) (ov h (gO (ntL g ad) (f_Noted_add n x y z L)))) : PW g M_Noted_add 0 kc ks Q 0 [.ref (ad 0), .int (x), .int (y), .int (z)] [] (ov h (gO (ntL g ad) L)) := by
  refine pw_aload_n e_Noted_add_0 rfl ?_
  refine pw_getf e_Noted_add_1 fl_Noted_15 (gO_get hnd (i := 0) rfl) rfl ?_
  refine pw_aload_n e_Noted_add_4 rfl ?_
  refine pw_getf e_Noted_add_5 fl_Noted_9 (gO_get hnd (i := 0) rfl) rfl ?_
  rw [show L 0 0 = nI (n) from hmany]
  refine pw_iload_n e_Noted_add_8 rfl ?_
  refine pw_iastG (i := 1) e_Noted_add_9 hnd (nt_x _ _) rfl (by omega) (by decide) ?_
  refine pw_aload_n e_Noted_add_10 rfl ?_
  refine pw_getf e_Noted_add_11 fl_Noted_19 (gO_get hnd (i := 0) rfl) rfl ?_
  refine pw_aload_n e_Noted_add_14 rfl ?_
  refine pw_getf e_Noted_add_15 fl_Noted_9 (gO_get hnd (i := 0) rfl) rfl ?_
  rw [show (u2 L 1 n x) 0 0 = nI (n) from hmany]
  refine pw_iload_n e_Noted_add_18 rfl ?_
  refine pw_iastG (i := 2) e_Noted_add_19 hnd (nt_x _ _) rfl (by omega) (by decide) ?_
  refine pw_aload_n e_Noted_add_20 rfl ?_
  refine pw_getf e_Noted_add_21 fl_Noted_22 (gO_get hnd (i := 0) rfl) rfl ?_
  refine pw_aload_n e_Noted_add_24 rfl ?_
  refine pw_getf e_Noted_add_25 fl_Noted_9 (gO_get hnd (i := 0) rfl) rfl ?_
  rw [show (u2 (u2 L 1 n x) 2 n y) 0 0 = nI (n) from hmany]
  refine pw_iload_n e_Noted_add_28 rfl ?_
  refine pw_iastG (i := 3) e_Noted_add_29 hnd (nt_x _ _) rfl (by omega) (by decide) ?_
  refine pw_aload_n e_Noted_add_30 rfl ?_
  refine pw_dup e_Noted_add_31 rfl ?_
  refine pw_getf e_Noted_add_32 fl_Noted_9 (gO_get hnd (i := 0) rfl) rfl ?_
  rw [show (u2 (u2 (u2 L 1 n x) 2 n y) 3 n z) 0 0 = nI (n) from hmany]
  refine pw_iconst (v := nI 1) e_Noted_add_35 (by decide) ?_
  refine pw_iaddN e_Noted_add_36 ?_
  refine pw_putG (i := 0) (ps := 0) (x := nI (n + 1)) e_Noted_add_37 fp_Noted_9 hnd (nt_x _ _) rfl (Nat.le_of_ble_eq_true rfl) rfl rfl rfl ?_
  refine pw_vret e_Noted_add_40 rfl ?_
  rw [f_Noted_add] at hk
  exact hk
theorem q_Noted_add {g : GG} {h : Hp} (hst : (gl g).stackTraces = false) {ad : Nat → Nat} (hnd : (gK (ntL g ad)).Nodup) (n : Nat) (x y z : Int32) (hn : n < 6)  (L : Nat → Nat → Int32) (hm : ∀ q ∈ gO (ntL g ad) L, h q.1 = some q.2) (hmany : L 0 0 = nI n) : PM g M_Noted_add 0 0 0 [.ref (ad 0), .int (x), .int (y), .int (z)] h (RetV none (ov h (gO (ntL g ad) (f_Noted_add n x y z L)))) := by
  refine PM.of hst (by decide) rfl (fun v hv => ?_) (Nat.le_of_ble_eq_true rfl) ?_
  · simp only [List.mem_cons, List.not_mem_nil, or_false] at hv; rcases hv with rfl | rfl | rfl | rfl <;> rfl
  · have hq := w_Noted_add_0 (g := g) (Q := RetV none (ov h (gO (ntL g ad) (f_Noted_add n x y z L)))) (h := h) (kc := 0) (ks := 0) hst hnd n x y z hn L hmany ?_
    · rw [ov_self hm] at hq; exact hq
    · exact ⟨rfl, rfl⟩

def f_Noted_furthest_4 (L : Nat → Nat → Int32) (n : Nat) : Nat → (Int32) → (Nat) → Int32
  | 0, _, _ => 0
  | t + 1, m, k => if n ≤ k then m else f_Noted_furthest_4 L n t (if m < ((L 2) k) then ((L 2) k) else m) (k + 1)
set_option maxRecDepth 4000 in
theorem w_Noted_furthest_4 {g : GG} {Q : QT} {h : Hp} {kc ks : Nat} (hst : (gl g).stackTraces = false) {ad : Nat → Nat} (L : Nat → Nat → Int32) (hm : ∀ q ∈ gO (ntL g ad) L, h q.1 = some q.2) (n : Nat) (hn : n < 7) (hmany : L 0 0 = nI n)  (t : Nat) : ∀ (m : Int32) (k : Nat) (hk1 : k < 7) (hlt : 6 - k < t) (hk : Q (.inl (some (.int (f_Noted_furthest_4 L n t m k)))) h), PW g M_Noted_furthest 1 kc ks Q 4 [.ref (ad 0), .int (m), .int (nI (k))] [] h := by
  induction t with
  | zero => intro m k hk1 hlt _; exact absurd hlt (Nat.not_lt_zero _)
  | succ t ih =>
    intro m k hk1 hlt hk
    refine pw_iload_n e_Noted_furthest_4 rfl ?_
    refine pw_aload_n e_Noted_furthest_5 rfl ?_
    refine pw_getf e_Noted_furthest_6 fl_Noted_9 (hm _ (List.mem_of_getElem? (i := 0) rfl)) rfl ?_
    rw [hmany]
    refine pw_icmp_geN (tgt := 29) e_Noted_furthest_9 (by decide) (by omega) (by omega) (fun (H1 : n ≤ k) => ?_) (fun (H1 : k < n) => ?_)
    · refine pw_iload_n e_Noted_furthest_29 rfl ?_
      refine pw_iret e_Noted_furthest_30 rfl rfl ?_
      rw [f_Noted_furthest_4, if_pos H1] at hk
      exact hk
    · refine pw_iload_n e_Noted_furthest_12 rfl ?_
      refine pw_aload_n e_Noted_furthest_13 rfl ?_
      refine pw_getf e_Noted_furthest_14 fl_Noted_19 (hm _ (List.mem_of_getElem? (i := 0) rfl)) rfl ?_
      refine pw_iload_n e_Noted_furthest_17 rfl ?_
      refine pw_ialdN e_Noted_furthest_18 (hm _ (List.mem_of_getElem? (i := 2) rfl)) (by omega) (by decide) ?_
      refine pw_max e_Noted_furthest_19 ml_Noted_25 (by decide) (Nat.le_of_ble_eq_true rfl) ?_
      refine pw_istore_n (ls2 := [_, _, _]) e_Noted_furthest_22 (by decide) rfl ?_
      refine pw_iincN (ls2 := [_, _, _]) e_Noted_furthest_23 rfl (by decide) rfl ?_
      refine pw_goto (tgt := 4) e_Noted_furthest_26 (by decide) ?_
      refine ih (if m < ((L 2) k) then ((L 2) k) else m) (k + 1) (by omega) (by omega) ?_
      rw [f_Noted_furthest_4, if_neg (Nat.not_le.mpr H1)] at hk
      exact hk
def f_Noted_furthest (L : Nat → Nat → Int32) (n : Nat) : Int32 :=
  f_Noted_furthest_4 L n 7 0 0
set_option maxRecDepth 4000 in
theorem w_Noted_furthest_0 {g : GG} {Q : QT} {h : Hp} {kc ks : Nat} (hst : (gl g).stackTraces = false) {ad : Nat → Nat} (L : Nat → Nat → Int32) (hm : ∀ q ∈ gO (ntL g ad) L, h q.1 = some q.2) (n : Nat) (hn : n < 7) (hmany : L 0 0 = nI n)  (hk : Q (.inl (some (.int (f_Noted_furthest L n)))) h) : PW g M_Noted_furthest 1 kc ks Q 0 [.ref (ad 0), .retAddr 0, .retAddr 0] [] h := by
  refine pw_iconst (v := nI 0) e_Noted_furthest_0 (by decide) ?_
  refine pw_istore_n (ls2 := [_, _, _]) e_Noted_furthest_1 (by decide) rfl ?_
  refine pw_iconst (v := nI 0) e_Noted_furthest_2 (by decide) ?_
  refine pw_istore_n (ls2 := [_, _, _]) e_Noted_furthest_3 (by decide) rfl ?_
  refine w_Noted_furthest_4 hst L hm n hn hmany 7 0 0 (by omega) (by omega) ?_
  rw [f_Noted_furthest] at hk
  exact hk
theorem q_Noted_furthest {g : GG} {h : Hp} (hst : (gl g).stackTraces = false) {ad : Nat → Nat} (L : Nat → Nat → Int32) (hm : ∀ q ∈ gO (ntL g ad) L, h q.1 = some q.2) (n : Nat) (hn : n < 7) (hmany : L 0 0 = nI n)  : PM g M_Noted_furthest 1 0 0 [.ref (ad 0)] h (RetV (some (.int (f_Noted_furthest L n))) h) := by
  refine PM.of hst (by decide) rfl (fun v hv => ?_) (Nat.le_of_ble_eq_true rfl) ?_
  · simp only [List.mem_cons, List.not_mem_nil, or_false] at hv; rcases hv with rfl <;> rfl
  · have hq := w_Noted_furthest_0 (g := g) (Q := RetV (some (.int (f_Noted_furthest L n))) h) (h := h) (kc := 0) (ks := 0) hst L hm n hn hmany ?_
    · exact hq
    · exact ⟨rfl, rfl⟩

def f_Noted_isSo_2 (L : Nat → Nat → Int32) (n : Nat) (c : Nat → Int32) (x : Int32) : Nat → (Nat) → Int32
  | 0, _ => 0
  | t + 1, k => if n ≤ k then 1 else if ((L 2) k) = x then if (c (((pN L 1 k) * 9) + 1)) = ((L 3) k) then f_Noted_isSo_2 L n c x t (k + 1) else 0 else f_Noted_isSo_2 L n c x t (k + 1)
set_option maxRecDepth 4000 in
theorem w_Noted_isSo_2 {g : GG} {Q : QT} {h : Hp} {kc ks : Nat} (hst : (gl g).stackTraces = false) {ad : Nat → Nat} (L : Nat → Nat → Int32) (hm : ∀ q ∈ gO (ntL g ad) L, h q.1 = some q.2) (n : Nat) (hn : n < 7) (hmany : L 0 0 = nI n) (hb1 : isN L 1 10) {s : Nat} (c : Nat → Int32) (hs : h s = some (aI g 225 c)) (x : Int32)  (t : Nat) : ∀ (k : Nat) (hk1 : k < 7) (hlt : 6 - k < t) (hk : Q (.inl (some (.int (f_Noted_isSo_2 L n c x t k)))) h), PW g M_Noted_isSo 0 kc ks Q 2 [.ref (ad 0), .ref (s), .int (x), .int (nI (k))] [] h := by
  induction t with
  | zero => intro k hk1 hlt _; exact absurd hlt (Nat.not_lt_zero _)
  | succ t ih =>
    intro k hk1 hlt hk
    refine pw_iload_n e_Noted_isSo_2 rfl ?_
    refine pw_aload_n e_Noted_isSo_3 rfl ?_
    refine pw_getf e_Noted_isSo_4 fl_Noted_9 (hm _ (List.mem_of_getElem? (i := 0) rfl)) rfl ?_
    rw [hmany]
    refine pw_icmp_geN (tgt := 50) e_Noted_isSo_7 (by decide) (by omega) (by omega) (fun (H1 : n ≤ k) => ?_) (fun (H1 : k < n) => ?_)
    · refine pw_iconst (v := nI 1) e_Noted_isSo_50 (by decide) ?_
      refine pw_iret e_Noted_isSo_51 rfl (by decide) ?_
      rw [f_Noted_isSo_2, if_pos H1] at hk
      exact hk
    · refine pw_aload_n e_Noted_isSo_10 rfl ?_
      refine pw_getf e_Noted_isSo_11 fl_Noted_19 (hm _ (List.mem_of_getElem? (i := 0) rfl)) rfl ?_
      refine pw_iload_n e_Noted_isSo_14 rfl ?_
      refine pw_ialdN e_Noted_isSo_15 (hm _ (List.mem_of_getElem? (i := 2) rfl)) (by omega) (by decide) ?_
      refine pw_iload_n e_Noted_isSo_16 rfl ?_
      refine pw_icmp_ne (tgt := 44) e_Noted_isSo_17 (by decide) (fun (H2 : ¬ ((L 2) k) = x) => ?_) (fun (H2 : ((L 2) k) = x) => ?_)
      · refine pw_iincN (ls2 := [_, _, _, _]) e_Noted_isSo_44 rfl (by decide) rfl ?_
        refine pw_goto (tgt := 2) e_Noted_isSo_47 (by decide) ?_
        refine ih (k + 1) (by omega) (by omega) ?_
        rw [f_Noted_isSo_2, if_neg (Nat.not_le.mpr H1), if_neg H2] at hk
        exact hk
      · refine pw_aload_n e_Noted_isSo_20 rfl ?_
        refine pw_aload_n e_Noted_isSo_21 rfl ?_
        refine pw_getf e_Noted_isSo_22 fl_Noted_15 (hm _ (List.mem_of_getElem? (i := 0) rfl)) rfl ?_
        refine pw_iload_n e_Noted_isSo_25 rfl ?_
        have hb3 := hb1 k
        refine pw_ialdC e_Noted_isSo_26 (hm _ (List.mem_of_getElem? (i := 1) rfl)) (by omega) (by decide) hb3.1 ?_
        replace hb3 := hb3.2
        refine pw_bipush (v := nI 9) e_Noted_isSo_27 (by decide) ?_
        refine pw_imulN e_Noted_isSo_29 ?_
        refine pw_iconst (v := nI 1) e_Noted_isSo_30 (by decide) ?_
        refine pw_iaddN e_Noted_isSo_31 ?_
        refine pw_ialdN e_Noted_isSo_32 hs (by omega) (by decide) ?_
        refine pw_aload_n e_Noted_isSo_33 rfl ?_
        refine pw_getf e_Noted_isSo_34 fl_Noted_22 (hm _ (List.mem_of_getElem? (i := 0) rfl)) rfl ?_
        refine pw_iload_n e_Noted_isSo_37 rfl ?_
        refine pw_ialdN e_Noted_isSo_38 (hm _ (List.mem_of_getElem? (i := 3) rfl)) (by omega) (by decide) ?_
        refine pw_icmp_eq (tgt := 44) e_Noted_isSo_39 (by decide) (fun (H4 : (c (((pN L 1 k) * 9) + 1)) = ((L 3) k)) => ?_) (fun (H4 : ¬ (c (((pN L 1 k) * 9) + 1)) = ((L 3) k)) => ?_)
        · refine pw_iincN (ls2 := [_, _, _, _]) e_Noted_isSo_44 rfl (by decide) rfl ?_
          refine pw_goto (tgt := 2) e_Noted_isSo_47 (by decide) ?_
          refine ih (k + 1) (by omega) (by omega) ?_
          rw [f_Noted_isSo_2, if_neg (Nat.not_le.mpr H1), if_pos H2, if_pos H4] at hk
          exact hk
        · refine pw_iconst (v := nI 0) e_Noted_isSo_42 (by decide) ?_
          refine pw_iret e_Noted_isSo_43 rfl (by decide) ?_
          rw [f_Noted_isSo_2, if_neg (Nat.not_le.mpr H1), if_pos H2, if_neg H4] at hk
          exact hk
def f_Noted_isSo (L : Nat → Nat → Int32) (n : Nat) (c : Nat → Int32) (x : Int32) : Int32 :=
  f_Noted_isSo_2 L n c x 7 0
set_option maxRecDepth 4000 in
theorem w_Noted_isSo_0 {g : GG} {Q : QT} {h : Hp} {kc ks : Nat} (hst : (gl g).stackTraces = false) {ad : Nat → Nat} (L : Nat → Nat → Int32) (hm : ∀ q ∈ gO (ntL g ad) L, h q.1 = some q.2) (n : Nat) (hn : n < 7) (hmany : L 0 0 = nI n) (hb1 : isN L 1 10) {s : Nat} (c : Nat → Int32) (hs : h s = some (aI g 225 c)) (x : Int32)  (hk : Q (.inl (some (.int (f_Noted_isSo L n c x)))) h) : PW g M_Noted_isSo 0 kc ks Q 0 [.ref (ad 0), .ref (s), .int (x), .retAddr 0] [] h := by
  refine pw_iconst (v := nI 0) e_Noted_isSo_0 (by decide) ?_
  refine pw_istore_n (ls2 := [_, _, _, _]) e_Noted_isSo_1 (by decide) rfl ?_
  refine w_Noted_isSo_2 hst L hm n hn hmany hb1 c hs x 7 0 (by omega) (by omega) ?_
  rw [f_Noted_isSo] at hk
  exact hk
theorem q_Noted_isSo {g : GG} {h : Hp} (hst : (gl g).stackTraces = false) {ad : Nat → Nat} (L : Nat → Nat → Int32) (hm : ∀ q ∈ gO (ntL g ad) L, h q.1 = some q.2) (n : Nat) (hn : n < 7) (hmany : L 0 0 = nI n) (hb1 : isN L 1 10) {s : Nat} (c : Nat → Int32) (hs : h s = some (aI g 225 c)) (x : Int32)  : PM g M_Noted_isSo 0 0 0 [.ref (ad 0), .ref (s), .int (x)] h (RetV (some (.int (f_Noted_isSo L n c x))) h) := by
  refine PM.of hst (by decide) rfl (fun v hv => ?_) (Nat.le_of_ble_eq_true rfl) ?_
  · simp only [List.mem_cons, List.not_mem_nil, or_false] at hv; rcases hv with rfl | rfl | rfl <;> rfl
  · have hq := w_Noted_isSo_0 (g := g) (Q := RetV (some (.int (f_Noted_isSo L n c x))) h) (h := h) (kc := 0) (ks := 0) hst L hm n hn hmany hb1 c hs x ?_
    · exact hq
    · exact ⟨rfl, rfl⟩

def f_Noted_copyFrom_10 (n : Nat) (K : Nat → Nat → Int32) : Nat → (Nat → Nat → Int32) → (Nat) → (Nat → Nat → Int32)
  | 0, L, _ => L
  | t + 1, L, k => if n ≤ k then L else f_Noted_copyFrom_10 n K t (u2 (u2 (u2 L 1 k ((K 1) k)) 2 k ((K 2) k)) 3 k ((K 3) k)) (k + 1)
set_option maxRecDepth 4000 in
theorem w_Noted_copyFrom_10 {g : GG} {Q : QT} {h : Hp} {kc ks : Nat} (hst : (gl g).stackTraces = false) {ad : Nat → Nat} (hnd : (gK (ntL g ad)).Nodup) {bd : Nat → Nat} (n : Nat) (K : Nat → Nat → Int32) (hn : n < 7) (hmany : K 0 0 = nI n) (hk2 : ∀ (i : Nat) (q : Nat × va_E), (gO (ntL g bd) K)[i]? = some q → ∀ {l : List (Nat × va_E)}, l.map Prod.fst = gK (ntL g ad) → ov h l q.1 = some q.2)  (t : Nat) : ∀ (L : Nat → Nat → Int32) (k : Nat) (hk1 : k < 7) (hmy : L 0 0 = nI n) (hlt : 6 - k < t) (hk : PW g M_Noted_copyFrom 0 kc ks Q 60 [.ref (ad 0), .ref (bd 0), .retAddr 0] [] (ov h (gO (ntL g ad) (f_Noted_copyFrom_10 n K t L k)))), PW g M_Noted_copyFrom 0 kc ks Q 10 [.ref (ad 0), .ref (bd 0), .int (nI (k))] [] (ov h (gO (ntL g ad) L)) := by
  induction t with
  | zero => intro L k hk1 hmy hlt _; exact absurd hlt (Nat.not_lt_zero _)
  | succ t ih =>
    intro L k hk1 hmy hlt hk
    refine pw_iload_n e_Noted_copyFrom_10 rfl ?_
    refine pw_aload_n e_Noted_copyFrom_11 rfl ?_
    refine pw_getf e_Noted_copyFrom_12 fl_Noted_9 (gO_get hnd (i := 0) rfl) rfl ?_
    rw [show L 0 0 = nI (n) from hmy]
    refine pw_icmp_geN (tgt := 60) e_Noted_copyFrom_15 (by decide) (by omega) (by omega) (fun (H1 : n ≤ k) => ?_) (fun (H1 : k < n) => ?_)
    · refine pw_fgt (ls' := [.ref (ad 0), .ref (bd 0), .retAddr 0]) ⟨Or.inr rfl, Or.inr rfl, Or.inl rfl, trivial⟩ ?_
      rw [f_Noted_copyFrom_10, if_pos H1] at hk
      exact hk
    · refine pw_aload_n e_Noted_copyFrom_18 rfl ?_
      refine pw_getf e_Noted_copyFrom_19 fl_Noted_15 (gO_get hnd (i := 0) rfl) rfl ?_
      refine pw_iload_n e_Noted_copyFrom_22 rfl ?_
      refine pw_aload_n e_Noted_copyFrom_23 rfl ?_
      refine pw_getf e_Noted_copyFrom_24 fl_Noted_15 (hk2 0 _ rfl (gO_fst _ _)) rfl ?_
      refine pw_iload_n e_Noted_copyFrom_27 rfl ?_
      refine pw_ialdN e_Noted_copyFrom_28 (hk2 1 _ rfl (gO_fst _ _)) (by omega) (by decide) ?_
      refine pw_iastG (i := 1) e_Noted_copyFrom_29 hnd (nt_x _ _) rfl (by omega) (by decide) ?_
      refine pw_aload_n e_Noted_copyFrom_30 rfl ?_
      refine pw_getf e_Noted_copyFrom_31 fl_Noted_19 (gO_get hnd (i := 0) rfl) rfl ?_
      refine pw_iload_n e_Noted_copyFrom_34 rfl ?_
      refine pw_aload_n e_Noted_copyFrom_35 rfl ?_
      refine pw_getf e_Noted_copyFrom_36 fl_Noted_19 (hk2 0 _ rfl (gO_fst _ _)) rfl ?_
      refine pw_iload_n e_Noted_copyFrom_39 rfl ?_
      refine pw_ialdN e_Noted_copyFrom_40 (hk2 2 _ rfl (gO_fst _ _)) (by omega) (by decide) ?_
      refine pw_iastG (i := 2) e_Noted_copyFrom_41 hnd (nt_x _ _) rfl (by omega) (by decide) ?_
      refine pw_aload_n e_Noted_copyFrom_42 rfl ?_
      refine pw_getf e_Noted_copyFrom_43 fl_Noted_22 (gO_get hnd (i := 0) rfl) rfl ?_
      refine pw_iload_n e_Noted_copyFrom_46 rfl ?_
      refine pw_aload_n e_Noted_copyFrom_47 rfl ?_
      refine pw_getf e_Noted_copyFrom_48 fl_Noted_22 (hk2 0 _ rfl (gO_fst _ _)) rfl ?_
      refine pw_iload_n e_Noted_copyFrom_51 rfl ?_
      refine pw_ialdN e_Noted_copyFrom_52 (hk2 3 _ rfl (gO_fst _ _)) (by omega) (by decide) ?_
      refine pw_iastG (i := 3) e_Noted_copyFrom_53 hnd (nt_x _ _) rfl (by omega) (by decide) ?_
      refine pw_iincN (ls2 := [_, _, _]) e_Noted_copyFrom_54 rfl (by decide) rfl ?_
      refine pw_goto (tgt := 10) e_Noted_copyFrom_57 (by decide) ?_
      refine ih (u2 (u2 (u2 L 1 k ((K 1) k)) 2 k ((K 2) k)) 3 k ((K 3) k)) (k + 1) (by omega) (by first | rfl | assumption) (by omega) ?_
      rw [f_Noted_copyFrom_10, if_neg (Nat.not_le.mpr H1)] at hk
      exact hk
def f_Noted_copyFrom (n : Nat) (K : Nat → Nat → Int32) (L : Nat → Nat → Int32) : (Nat → Nat → Int32) :=
  f_Noted_copyFrom_10 n K 7 (u2 L 0 0 (nI (n))) 0
set_option maxRecDepth 4000 in
theorem w_Noted_copyFrom_0 {g : GG} {Q : QT} {h : Hp} {kc ks : Nat} (hst : (gl g).stackTraces = false) {ad : Nat → Nat} (hnd : (gK (ntL g ad)).Nodup) {bd : Nat → Nat} (n : Nat) (K : Nat → Nat → Int32) (hn : n < 7) (hmany : K 0 0 = nI n) (hk2 : ∀ (i : Nat) (q : Nat × va_E), (gO (ntL g bd) K)[i]? = some q → ∀ {l : List (Nat × va_E)}, l.map Prod.fst = gK (ntL g ad) → ov h l q.1 = some q.2)  (L : Nat → Nat → Int32) (hk : Q (.inl none) (ov h (gO (ntL g ad) (f_Noted_copyFrom n K L)))) : PW g M_Noted_copyFrom 0 kc ks Q 0 [.ref (ad 0), .ref (bd 0), .retAddr 0] [] (ov h (gO (ntL g ad) L)) := by
  refine pw_aload_n e_Noted_copyFrom_0 rfl ?_
  refine pw_aload_n e_Noted_copyFrom_1 rfl ?_
  refine pw_getf e_Noted_copyFrom_2 fl_Noted_9 (hk2 0 _ rfl (gO_fst _ _)) rfl ?_
  rw [hmany]
  refine pw_putG (i := 0) (ps := 0) (x := nI (n)) e_Noted_copyFrom_5 fp_Noted_9 hnd (nt_x _ _) rfl (Nat.le_of_ble_eq_true rfl) rfl rfl rfl ?_
  refine pw_iconst (v := nI 0) e_Noted_copyFrom_8 (by decide) ?_
  refine pw_istore_n (ls2 := [_, _, _]) e_Noted_copyFrom_9 (by decide) rfl ?_
  refine w_Noted_copyFrom_10 hst hnd n K hn hmany hk2 7 (u2 L 0 0 (nI (n))) 0 (by omega) (by first | rfl | assumption) (by omega) ?_
  refine pw_vret e_Noted_copyFrom_60 rfl ?_
  rw [f_Noted_copyFrom] at hk
  exact hk
theorem q_Noted_copyFrom {g : GG} {h : Hp} (hst : (gl g).stackTraces = false) {ad : Nat → Nat} (hnd : (gK (ntL g ad)).Nodup) {bd : Nat → Nat} (n : Nat) (K : Nat → Nat → Int32) (hn : n < 7) (hmany : K 0 0 = nI n) (hk2 : ∀ (i : Nat) (q : Nat × va_E), (gO (ntL g bd) K)[i]? = some q → ∀ {l : List (Nat × va_E)}, l.map Prod.fst = gK (ntL g ad) → ov h l q.1 = some q.2)  (L : Nat → Nat → Int32) (hm : ∀ q ∈ gO (ntL g ad) L, h q.1 = some q.2) : PM g M_Noted_copyFrom 0 0 0 [.ref (ad 0), .ref (bd 0)] h (RetV none (ov h (gO (ntL g ad) (f_Noted_copyFrom n K L)))) := by
  refine PM.of hst (by decide) rfl (fun v hv => ?_) (Nat.le_of_ble_eq_true rfl) ?_
  · simp only [List.mem_cons, List.not_mem_nil, or_false] at hv; rcases hv with rfl | rfl <;> rfl
  · have hq := w_Noted_copyFrom_0 (g := g) (Q := RetV none (ov h (gO (ntL g ad) (f_Noted_copyFrom n K L)))) (h := h) (kc := 0) (ks := 0) hst hnd n K hn hmany hk2 L ?_
    · rw [ov_self hm] at hq; exact hq
    · exact ⟨rfl, rfl⟩

def lyL (g : GG) (ad : Nat → Nat) : GL := [(ad 27, 32, fun f => .inr (1, [.int (f 0), .int (f 1), .int (f 2), .ref (ad 18), .ref (ad 19), .ref (ad 20), .ref (ad 21), .ref (ad 22), .ref (ad 23), .ref (ad 24)])), (ad 18, 18, aI g 10), (ad 19, 19, aI g 10), (ad 20, 20, aI g 10), (ad 21, 21, aI g 10), (ad 22, 22, aI g 12), (ad 23, 23, aI g 12), (ad 24, 24, aI g 5)]
theorem ly_x (g : GG) (ad : Nat → Nat) : (gX (lyL g ad)).Nodup := by show List.Nodup [32, 18, 19, 20, 21, 22, 23, 24]; decide
def f_Layout_startEmpty_66  : Nat → (Nat → Nat → Int32) → (Nat) → (Nat → Nat → Int32)
  | 0, L, _ => L
  | t + 1, L, k => if 5 ≤ k then L else f_Layout_startEmpty_66  t (u2 L 24 k 0) (k + 1)
set_option maxRecDepth 4000 in
theorem w_Layout_startEmpty_66 {g : GG} {Q : QT} {h : Hp} {kc ks : Nat} (hst : (gl g).stackTraces = false) {bd : Nat → Nat} (hnd : (gK (lyL g bd)).Nodup)  (t : Nat) : ∀ (L : Nat → Nat → Int32) (k : Nat) (hk1 : k < 6) (hlt : 5 - k < t) (hk : PW g M_Layout_startEmpty 0 kc ks Q 84 [.ref (bd 27), .retAddr 0] [] (ov h (gO (lyL g bd) (f_Layout_startEmpty_66  t L k)))), PW g M_Layout_startEmpty 0 kc ks Q 66 [.ref (bd 27), .int (nI (k))] [] (ov h (gO (lyL g bd) L)) := by
  induction t with
  | zero => intro L k hk1 hlt _; exact absurd hlt (Nat.not_lt_zero _)
  | succ t ih =>
    intro L k hk1 hlt hk
    refine pw_iload_n e_Layout_startEmpty_66 rfl ?_
    refine pw_iconst (v := nI 5) e_Layout_startEmpty_67 (by decide) ?_
    refine pw_icmp_geN (tgt := 84) e_Layout_startEmpty_68 (by decide) (by omega) (by omega) (fun (H1 : 5 ≤ k) => ?_) (fun (H1 : k < 5) => ?_)
    · refine pw_fgt (ls' := [.ref (bd 27), .retAddr 0]) ⟨Or.inr rfl, Or.inl rfl, trivial⟩ ?_
      rw [f_Layout_startEmpty_66, if_pos H1] at hk
      exact hk
    · refine pw_aload_n e_Layout_startEmpty_71 rfl ?_
      refine pw_getf e_Layout_startEmpty_72 fl_Layout_40 (gO_get hnd (i := 0) rfl) rfl ?_
      refine pw_iload_n e_Layout_startEmpty_75 rfl ?_
      refine pw_iconst (v := nI 0) e_Layout_startEmpty_76 (by decide) ?_
      refine pw_iastG (i := 7) e_Layout_startEmpty_77 hnd (ly_x _ _) rfl (by omega) (by decide) ?_
      refine pw_iincN (ls2 := [_, _]) e_Layout_startEmpty_78 rfl (by decide) rfl ?_
      refine pw_goto (tgt := 66) e_Layout_startEmpty_81 (by decide) ?_
      refine ih (u2 L 24 k 0) (k + 1) (by omega) (by omega) ?_
      rw [f_Layout_startEmpty_66, if_neg (Nat.not_le.mpr H1)] at hk
      exact hk
def f_Layout_startEmpty_38  : Nat → (Nat → Nat → Int32) → (Nat) → (Nat → Nat → Int32)
  | 0, L, _ => L
  | t + 1, L, k => if 12 ≤ k then L else f_Layout_startEmpty_38  t (u2 (u2 L 22 k ((-1))) 23 k ((-1))) (k + 1)
set_option maxRecDepth 4000 in
theorem w_Layout_startEmpty_38 {g : GG} {Q : QT} {h : Hp} {kc ks : Nat} (hst : (gl g).stackTraces = false) {bd : Nat → Nat} (hnd : (gK (lyL g bd)).Nodup)  (t : Nat) : ∀ (L : Nat → Nat → Int32) (k : Nat) (hk1 : k < 13) (hlt : 12 - k < t) (hk : PW g M_Layout_startEmpty 0 kc ks Q 64 [.ref (bd 27), .retAddr 0] [] (ov h (gO (lyL g bd) (f_Layout_startEmpty_38  t L k)))), PW g M_Layout_startEmpty 0 kc ks Q 38 [.ref (bd 27), .int (nI (k))] [] (ov h (gO (lyL g bd) L)) := by
  induction t with
  | zero => intro L k hk1 hlt _; exact absurd hlt (Nat.not_lt_zero _)
  | succ t ih =>
    intro L k hk1 hlt hk
    refine pw_iload_n e_Layout_startEmpty_38 rfl ?_
    refine pw_bipush (v := nI 12) e_Layout_startEmpty_39 (by decide) ?_
    refine pw_icmp_geN (tgt := 64) e_Layout_startEmpty_41 (by decide) (by omega) (by omega) (fun (H1 : 12 ≤ k) => ?_) (fun (H1 : k < 12) => ?_)
    · refine pw_fgt (ls' := [.ref (bd 27), .retAddr 0]) ⟨Or.inr rfl, Or.inl rfl, trivial⟩ ?_
      rw [f_Layout_startEmpty_38, if_pos H1] at hk
      exact hk
    · refine pw_aload_n e_Layout_startEmpty_44 rfl ?_
      refine pw_getf e_Layout_startEmpty_45 fl_Layout_34 (gO_get hnd (i := 0) rfl) rfl ?_
      refine pw_iload_n e_Layout_startEmpty_48 rfl ?_
      refine pw_iconst (v := (-1)) e_Layout_startEmpty_49 (by decide) ?_
      refine pw_iastG (i := 5) e_Layout_startEmpty_50 hnd (ly_x _ _) rfl (by omega) (by decide) ?_
      refine pw_aload_n e_Layout_startEmpty_51 rfl ?_
      refine pw_getf e_Layout_startEmpty_52 fl_Layout_37 (gO_get hnd (i := 0) rfl) rfl ?_
      refine pw_iload_n e_Layout_startEmpty_55 rfl ?_
      refine pw_iconst (v := (-1)) e_Layout_startEmpty_56 (by decide) ?_
      refine pw_iastG (i := 6) e_Layout_startEmpty_57 hnd (ly_x _ _) rfl (by omega) (by decide) ?_
      refine pw_iincN (ls2 := [_, _]) e_Layout_startEmpty_58 rfl (by decide) rfl ?_
      refine pw_goto (tgt := 38) e_Layout_startEmpty_61 (by decide) ?_
      refine ih (u2 (u2 L 22 k ((-1))) 23 k ((-1))) (k + 1) (by omega) (by omega) ?_
      rw [f_Layout_startEmpty_38, if_neg (Nat.not_le.mpr H1)] at hk
      exact hk
def f_Layout_startEmpty_17  : Nat → (Nat → Nat → Int32) → (Nat) → (Nat → Nat → Int32)
  | 0, L, _ => L
  | t + 1, L, k => if 10 ≤ k then L else f_Layout_startEmpty_17  t (u2 L 19 k ((-1))) (k + 1)
set_option maxRecDepth 4000 in
theorem w_Layout_startEmpty_17 {g : GG} {Q : QT} {h : Hp} {kc ks : Nat} (hst : (gl g).stackTraces = false) {bd : Nat → Nat} (hnd : (gK (lyL g bd)).Nodup)  (t : Nat) : ∀ (L : Nat → Nat → Int32) (k : Nat) (hk1 : k < 11) (hlt : 10 - k < t) (hk : PW g M_Layout_startEmpty 0 kc ks Q 36 [.ref (bd 27), .retAddr 0] [] (ov h (gO (lyL g bd) (f_Layout_startEmpty_17  t L k)))), PW g M_Layout_startEmpty 0 kc ks Q 17 [.ref (bd 27), .int (nI (k))] [] (ov h (gO (lyL g bd) L)) := by
  induction t with
  | zero => intro L k hk1 hlt _; exact absurd hlt (Nat.not_lt_zero _)
  | succ t ih =>
    intro L k hk1 hlt hk
    refine pw_iload_n e_Layout_startEmpty_17 rfl ?_
    refine pw_bipush (v := nI 10) e_Layout_startEmpty_18 (by decide) ?_
    refine pw_icmp_geN (tgt := 36) e_Layout_startEmpty_20 (by decide) (by omega) (by omega) (fun (H1 : 10 ≤ k) => ?_) (fun (H1 : k < 10) => ?_)
    · refine pw_fgt (ls' := [.ref (bd 27), .retAddr 0]) ⟨Or.inr rfl, Or.inl rfl, trivial⟩ ?_
      rw [f_Layout_startEmpty_17, if_pos H1] at hk
      exact hk
    · refine pw_aload_n e_Layout_startEmpty_23 rfl ?_
      refine pw_getf e_Layout_startEmpty_24 fl_Layout_25 (gO_get hnd (i := 0) rfl) rfl ?_
      refine pw_iload_n e_Layout_startEmpty_27 rfl ?_
      refine pw_iconst (v := (-1)) e_Layout_startEmpty_28 (by decide) ?_
      refine pw_iastG (i := 2) e_Layout_startEmpty_29 hnd (ly_x _ _) rfl (by omega) (by decide) ?_
      refine pw_iincN (ls2 := [_, _]) e_Layout_startEmpty_30 rfl (by decide) rfl ?_
      refine pw_goto (tgt := 17) e_Layout_startEmpty_33 (by decide) ?_
      refine ih (u2 L 19 k ((-1))) (k + 1) (by omega) (by omega) ?_
      rw [f_Layout_startEmpty_17, if_neg (Nat.not_le.mpr H1)] at hk
      exact hk
def f_Layout_startEmpty  (L : Nat → Nat → Int32) : (Nat → Nat → Int32) :=
  f_Layout_startEmpty_66  6 (f_Layout_startEmpty_38  13 (f_Layout_startEmpty_17  11 (u2 (u2 (u2 L 32 0 0) 32 1 0) 32 2 0) 0) 0) 0
set_option maxRecDepth 4000 in
theorem w_Layout_startEmpty_0 {g : GG} {Q : QT} {h : Hp} {kc ks : Nat} (hst : (gl g).stackTraces = false) {bd : Nat → Nat} (hnd : (gK (lyL g bd)).Nodup)  (L : Nat → Nat → Int32) (hk : Q (.inl none) (ov h (gO (lyL g bd) (f_Layout_startEmpty  L)))) : PW g M_Layout_startEmpty 0 kc ks Q 0 [.ref (bd 27), .retAddr 0] [] (ov h (gO (lyL g bd) L)) := by
  refine pw_aload_n e_Layout_startEmpty_0 rfl ?_
  refine pw_iconst (v := nI 0) e_Layout_startEmpty_1 (by decide) ?_
  refine pw_putG (i := 0) (ps := 0) (x := 0) e_Layout_startEmpty_2 fp_Layout_9 hnd (ly_x _ _) rfl (Nat.le_of_ble_eq_true rfl) rfl rfl rfl ?_
  refine pw_aload_n e_Layout_startEmpty_5 rfl ?_
  refine pw_iconst (v := nI 0) e_Layout_startEmpty_6 (by decide) ?_
  refine pw_putG (i := 0) (ps := 1) (x := 0) e_Layout_startEmpty_7 fp_Layout_15 hnd (ly_x _ _) rfl (Nat.le_of_ble_eq_true rfl) rfl rfl rfl ?_
  refine pw_aload_n e_Layout_startEmpty_10 rfl ?_
  refine pw_iconst (v := nI 0) e_Layout_startEmpty_11 (by decide) ?_
  refine pw_putG (i := 0) (ps := 2) (x := 0) e_Layout_startEmpty_12 fp_Layout_18 hnd (ly_x _ _) rfl (Nat.le_of_ble_eq_true rfl) rfl rfl rfl ?_
  refine pw_iconst (v := nI 0) e_Layout_startEmpty_15 (by decide) ?_
  refine pw_istore_n (ls2 := [_, _]) e_Layout_startEmpty_16 (by decide) rfl ?_
  refine w_Layout_startEmpty_17 hst hnd 11 (u2 (u2 (u2 L 32 0 0) 32 1 0) 32 2 0) 0 (by omega) (by omega) ?_
  refine pw_iconst (v := nI 0) e_Layout_startEmpty_36 (by decide) ?_
  refine pw_istore_n (ls2 := [_, _]) e_Layout_startEmpty_37 (by decide) rfl ?_
  refine w_Layout_startEmpty_38 hst hnd 13 (f_Layout_startEmpty_17  11 (u2 (u2 (u2 L 32 0 0) 32 1 0) 32 2 0) 0) 0 (by omega) (by omega) ?_
  refine pw_iconst (v := nI 0) e_Layout_startEmpty_64 (by decide) ?_
  refine pw_istore_n (ls2 := [_, _]) e_Layout_startEmpty_65 (by decide) rfl ?_
  refine w_Layout_startEmpty_66 hst hnd 6 (f_Layout_startEmpty_38  13 (f_Layout_startEmpty_17  11 (u2 (u2 (u2 L 32 0 0) 32 1 0) 32 2 0) 0) 0) 0 (by omega) (by omega) ?_
  refine pw_vret e_Layout_startEmpty_84 rfl ?_
  rw [f_Layout_startEmpty] at hk
  exact hk
theorem q_Layout_startEmpty {g : GG} {h : Hp} (hst : (gl g).stackTraces = false) {bd : Nat → Nat} (hnd : (gK (lyL g bd)).Nodup)  (L : Nat → Nat → Int32) (hm : ∀ q ∈ gO (lyL g bd) L, h q.1 = some q.2) : PM g M_Layout_startEmpty 0 0 0 [.ref (bd 27)] h (RetV none (ov h (gO (lyL g bd) (f_Layout_startEmpty  L)))) := by
  refine PM.of hst (by decide) rfl (fun v hv => ?_) (Nat.le_of_ble_eq_true rfl) ?_
  · simp only [List.mem_cons, List.not_mem_nil, or_false] at hv; rcases hv with rfl <;> rfl
  · have hq := w_Layout_startEmpty_0 (g := g) (Q := RetV none (ov h (gO (lyL g bd) (f_Layout_startEmpty  L)))) (h := h) (kc := 0) (ks := 0) hst hnd L ?_
    · rw [ov_self hm] at hq; exact hq
    · exact ⟨rfl, rfl⟩

def f_Layout_isClaimed_2 (L : Nat → Nat → Int32) (x : Int32) : Nat → (Nat) → Int32
  | 0, _ => 0
  | t + 1, k => if 12 ≤ k then 0 else if ((L 22) k) = x then 1 else if ((L 23) k) = x then 1 else f_Layout_isClaimed_2 L x t (k + 1)
set_option maxRecDepth 4000 in
theorem w_Layout_isClaimed_2 {g : GG} {Q : QT} {h : Hp} {kc ks : Nat} (hst : (gl g).stackTraces = false) {bd : Nat → Nat} (L : Nat → Nat → Int32) (hm : ∀ q ∈ gO (lyL g bd) L, h q.1 = some q.2) (x : Int32)  (t : Nat) : ∀ (k : Nat) (hk1 : k < 13) (hlt : 12 - k < t) (hk : Q (.inl (some (.int (f_Layout_isClaimed_2 L x t k)))) h), PW g M_Layout_isClaimed 0 kc ks Q 2 [.ref (bd 27), .int (x), .int (nI (k))] [] h := by
  induction t with
  | zero => intro k hk1 hlt _; exact absurd hlt (Nat.not_lt_zero _)
  | succ t ih =>
    intro k hk1 hlt hk
    refine pw_iload_n e_Layout_isClaimed_2 rfl ?_
    refine pw_bipush (v := nI 12) e_Layout_isClaimed_3 (by decide) ?_
    refine pw_icmp_geN (tgt := 36) e_Layout_isClaimed_5 (by decide) (by omega) (by omega) (fun (H1 : 12 ≤ k) => ?_) (fun (H1 : k < 12) => ?_)
    · refine pw_iconst (v := nI 0) e_Layout_isClaimed_36 (by decide) ?_
      refine pw_iret e_Layout_isClaimed_37 rfl (by decide) ?_
      rw [f_Layout_isClaimed_2, if_pos H1] at hk
      exact hk
    · refine pw_aload_n e_Layout_isClaimed_8 rfl ?_
      refine pw_getf e_Layout_isClaimed_9 fl_Layout_34 (hm _ (List.mem_of_getElem? (i := 0) rfl)) rfl ?_
      refine pw_iload_n e_Layout_isClaimed_12 rfl ?_
      refine pw_ialdN e_Layout_isClaimed_13 (hm _ (List.mem_of_getElem? (i := 5) rfl)) (by omega) (by decide) ?_
      refine pw_iload_n e_Layout_isClaimed_14 rfl ?_
      refine pw_icmp_eq (tgt := 28) e_Layout_isClaimed_15 (by decide) (fun (H2 : ((L 22) k) = x) => ?_) (fun (H2 : ¬ ((L 22) k) = x) => ?_)
      · refine pw_iconst (v := nI 1) e_Layout_isClaimed_28 (by decide) ?_
        refine pw_iret e_Layout_isClaimed_29 rfl (by decide) ?_
        rw [f_Layout_isClaimed_2, if_neg (Nat.not_le.mpr H1), if_pos H2] at hk
        exact hk
      · refine pw_aload_n e_Layout_isClaimed_18 rfl ?_
        refine pw_getf e_Layout_isClaimed_19 fl_Layout_37 (hm _ (List.mem_of_getElem? (i := 0) rfl)) rfl ?_
        refine pw_iload_n e_Layout_isClaimed_22 rfl ?_
        refine pw_ialdN e_Layout_isClaimed_23 (hm _ (List.mem_of_getElem? (i := 6) rfl)) (by omega) (by decide) ?_
        refine pw_iload_n e_Layout_isClaimed_24 rfl ?_
        refine pw_icmp_ne (tgt := 30) e_Layout_isClaimed_25 (by decide) (fun (H3 : ¬ ((L 23) k) = x) => ?_) (fun (H3 : ((L 23) k) = x) => ?_)
        · refine pw_iincN (ls2 := [_, _, _]) e_Layout_isClaimed_30 rfl (by decide) rfl ?_
          refine pw_goto (tgt := 2) e_Layout_isClaimed_33 (by decide) ?_
          refine ih (k + 1) (by omega) (by omega) ?_
          rw [f_Layout_isClaimed_2, if_neg (Nat.not_le.mpr H1), if_neg H2, if_neg H3] at hk
          exact hk
        · refine pw_iconst (v := nI 1) e_Layout_isClaimed_28 (by decide) ?_
          refine pw_iret e_Layout_isClaimed_29 rfl (by decide) ?_
          rw [f_Layout_isClaimed_2, if_neg (Nat.not_le.mpr H1), if_neg H2, if_pos H3] at hk
          exact hk
def f_Layout_isClaimed (L : Nat → Nat → Int32) (x : Int32) : Int32 :=
  f_Layout_isClaimed_2 L x 13 0
set_option maxRecDepth 4000 in
theorem w_Layout_isClaimed_0 {g : GG} {Q : QT} {h : Hp} {kc ks : Nat} (hst : (gl g).stackTraces = false) {bd : Nat → Nat} (L : Nat → Nat → Int32) (hm : ∀ q ∈ gO (lyL g bd) L, h q.1 = some q.2) (x : Int32)  (hk : Q (.inl (some (.int (f_Layout_isClaimed L x)))) h) : PW g M_Layout_isClaimed 0 kc ks Q 0 [.ref (bd 27), .int (x), .retAddr 0] [] h := by
  refine pw_iconst (v := nI 0) e_Layout_isClaimed_0 (by decide) ?_
  refine pw_istore_n (ls2 := [_, _, _]) e_Layout_isClaimed_1 (by decide) rfl ?_
  refine w_Layout_isClaimed_2 hst L hm x 13 0 (by omega) (by omega) ?_
  rw [f_Layout_isClaimed] at hk
  exact hk
theorem q_Layout_isClaimed {g : GG} {h : Hp} (hst : (gl g).stackTraces = false) {bd : Nat → Nat} (L : Nat → Nat → Int32) (hm : ∀ q ∈ gO (lyL g bd) L, h q.1 = some q.2) (x : Int32)  : PM g M_Layout_isClaimed 0 0 0 [.ref (bd 27), .int (x)] h (RetV (some (.int (f_Layout_isClaimed L x))) h) := by
  refine PM.of hst (by decide) rfl (fun v hv => ?_) (Nat.le_of_ble_eq_true rfl) ?_
  · simp only [List.mem_cons, List.not_mem_nil, or_false] at hv; rcases hv with rfl | rfl <;> rfl
  · have hq := w_Layout_isClaimed_0 (g := g) (Q := RetV (some (.int (f_Layout_isClaimed L x))) h) (h := h) (kc := 0) (ks := 0) hst L hm x ?_
    · exact hq
    · exact ⟨rfl, rfl⟩

def f_Layout_claimSlot_27 (x : Int32) (L : Nat → Nat → Int32) (y : Int32) : Int32 × (Nat → Nat → Int32) :=
  (y, u2 (u2 L 32 1 ((L 32 1) + 1)) 32 0 (if ((u2 L 32 1 ((L 32 1) + 1)) 32 0) < (y + 1) then (y + 1) else ((u2 L 32 1 ((L 32 1) + 1)) 32 0)))
set_option maxRecDepth 4000 in
theorem w_Layout_claimSlot_27 {g : GG} {Q : QT} {h : Hp} {kc ks : Nat} (hst : (gl g).stackTraces = false) {bd : Nat → Nat} (hnd : (gK (lyL g bd)).Nodup) (x : Int32)  (L : Nat → Nat → Int32) (y : Int32) (hk : Q (.inl (some (.int (f_Layout_claimSlot_27 x L y).1))) (ov h (gO (lyL g bd) ((f_Layout_claimSlot_27 x L y).2)))) : PW g M_Layout_claimSlot 1 kc ks Q 27 [.ref (bd 27), .int (x), .int (y), .retAddr 0] [] (ov h (gO (lyL g bd) L)) := by
  refine pw_aload_n e_Layout_claimSlot_27 rfl ?_
  refine pw_dup e_Layout_claimSlot_28 rfl ?_
  refine pw_getf e_Layout_claimSlot_29 fl_Layout_15 (gO_get hnd (i := 0) rfl) rfl ?_
  refine pw_iconst (v := nI 1) e_Layout_claimSlot_32 (by decide) ?_
  refine pw_iadd e_Layout_claimSlot_33 ?_
  refine pw_putG (i := 0) (ps := 1) (x := (L 32 1) + 1) e_Layout_claimSlot_34 fp_Layout_15 hnd (ly_x _ _) rfl (Nat.le_of_ble_eq_true rfl) rfl rfl rfl ?_
  refine pw_aload_n e_Layout_claimSlot_37 rfl ?_
  refine pw_aload_n e_Layout_claimSlot_38 rfl ?_
  refine pw_getf e_Layout_claimSlot_39 fl_Layout_9 (gO_get hnd (i := 0) rfl) rfl ?_
  refine pw_iload_n e_Layout_claimSlot_42 rfl ?_
  refine pw_iconst (v := nI 1) e_Layout_claimSlot_43 (by decide) ?_
  refine pw_iadd e_Layout_claimSlot_44 ?_
  refine pw_max e_Layout_claimSlot_45 ml_Layout_94 (by decide) (Nat.le_of_ble_eq_true rfl) ?_
  refine pw_putG (i := 0) (ps := 0) (x := if ((u2 L 32 1 ((L 32 1) + 1)) 32 0) < (y + 1) then (y + 1) else ((u2 L 32 1 ((L 32 1) + 1)) 32 0)) e_Layout_claimSlot_48 fp_Layout_9 hnd (ly_x _ _) rfl (Nat.le_of_ble_eq_true rfl) rfl rfl rfl ?_
  refine pw_iload_n e_Layout_claimSlot_51 rfl ?_
  refine pw_iret e_Layout_claimSlot_52 rfl rfl ?_
  rw [f_Layout_claimSlot_27] at hk
  exact hk
def f_Layout_claimSlot_4 (x : Int32) : Nat → (Nat → Nat → Int32) → (Int32) → (Nat) → Int32 × (Nat → Nat → Int32)
  | 0, L, _, _ => (0, L)
  | t + 1, L, y, k => if 24 ≤ k then f_Layout_claimSlot_27 x L y else if (f_Layout_isClaimed L y) = 0 then f_Layout_claimSlot_27 x L y else f_Layout_claimSlot_4 x t L (y + 1) (k + 1)
set_option maxRecDepth 4000 in
theorem w_Layout_claimSlot_4 {g : GG} {Q : QT} {h : Hp} {kc ks : Nat} (hst : (gl g).stackTraces = false) {bd : Nat → Nat} (hnd : (gK (lyL g bd)).Nodup) (x : Int32)  (t : Nat) : ∀ (L : Nat → Nat → Int32) (y : Int32) (k : Nat) (hk1 : k < 25) (hlt : 24 - k < t) (hk : Q (.inl (some (.int (f_Layout_claimSlot_4 x t L y k).1))) (ov h (gO (lyL g bd) ((f_Layout_claimSlot_4 x t L y k).2)))), PW g M_Layout_claimSlot 1 kc ks Q 4 [.ref (bd 27), .int (x), .int (y), .int (nI (k))] [] (ov h (gO (lyL g bd) L)) := by
  induction t with
  | zero => intro L y k hk1 hlt _; exact absurd hlt (Nat.not_lt_zero _)
  | succ t ih =>
    intro L y k hk1 hlt hk
    refine pw_iload_n e_Layout_claimSlot_4 rfl ?_
    refine pw_bipush (v := nI 24) e_Layout_claimSlot_5 (by decide) ?_
    refine pw_icmp_geN (tgt := 27) e_Layout_claimSlot_7 (by decide) (by omega) (by omega) (fun (H1 : 24 ≤ k) => ?_) (fun (H1 : k < 24) => ?_)
    · refine pw_fgt (ls' := [.ref (bd 27), .int (x), .int (y), .retAddr 0]) ⟨Or.inr rfl, Or.inr rfl, Or.inr rfl, Or.inl rfl, trivial⟩ ?_
      refine w_Layout_claimSlot_27 hst hnd x L y ?_
      rw [f_Layout_claimSlot_4, if_pos H1] at hk
      exact hk
    · refine pw_aload_n e_Layout_claimSlot_10 rfl ?_
      refine pw_iload_n e_Layout_claimSlot_11 rfl ?_
      refine pw_detV (As := [.int (y)]) e_Layout_claimSlot_12 li_Layout_100 rfl (gO_get hnd (i := 0) rfl) (q_Layout_isClaimed hst L (gO_in hnd (fun _ z => z)) y) rfl (by decide) (Nat.le_of_ble_eq_true rfl) rfl ?_
      refine pw_if_eq (tgt := 27) e_Layout_claimSlot_15 (by decide) (fun (H2 : (f_Layout_isClaimed L y) = 0) => ?_) (fun (H2 : ¬ (f_Layout_isClaimed L y) = 0) => ?_)
      · refine pw_fgt (ls' := [.ref (bd 27), .int (x), .int (y), .retAddr 0]) ⟨Or.inr rfl, Or.inr rfl, Or.inr rfl, Or.inl rfl, trivial⟩ ?_
        refine w_Layout_claimSlot_27 hst hnd x L y ?_
        rw [f_Layout_claimSlot_4, if_neg (Nat.not_le.mpr H1), if_pos H2] at hk
        exact hk
      · refine pw_iinc (v := y + 1) (ls2 := [_, _, _, _]) e_Layout_claimSlot_18 rfl rfl (by decide) rfl ?_
        refine pw_iincN (ls2 := [_, _, _, _]) e_Layout_claimSlot_21 rfl (by decide) rfl ?_
        refine pw_goto (tgt := 4) e_Layout_claimSlot_24 (by decide) ?_
        refine ih L (y + 1) (k + 1) (by omega) (by omega) ?_
        rw [f_Layout_claimSlot_4, if_neg (Nat.not_le.mpr H1), if_neg H2] at hk
        exact hk
def f_Layout_claimSlot (x : Int32) (L : Nat → Nat → Int32) : Int32 × (Nat → Nat → Int32) :=
  f_Layout_claimSlot_4 x 25 L x 0
set_option maxRecDepth 4000 in
theorem w_Layout_claimSlot_0 {g : GG} {Q : QT} {h : Hp} {kc ks : Nat} (hst : (gl g).stackTraces = false) {bd : Nat → Nat} (hnd : (gK (lyL g bd)).Nodup) (x : Int32)  (L : Nat → Nat → Int32) (hk : Q (.inl (some (.int (f_Layout_claimSlot x L).1))) (ov h (gO (lyL g bd) ((f_Layout_claimSlot x L).2)))) : PW g M_Layout_claimSlot 1 kc ks Q 0 [.ref (bd 27), .int (x), .retAddr 0, .retAddr 0] [] (ov h (gO (lyL g bd) L)) := by
  refine pw_iload_n e_Layout_claimSlot_0 rfl ?_
  refine pw_istore_n (ls2 := [_, _, _, _]) e_Layout_claimSlot_1 (by decide) rfl ?_
  refine pw_iconst (v := nI 0) e_Layout_claimSlot_2 (by decide) ?_
  refine pw_istore_n (ls2 := [_, _, _, _]) e_Layout_claimSlot_3 (by decide) rfl ?_
  refine w_Layout_claimSlot_4 hst hnd x 25 L x 0 (by omega) (by omega) ?_
  rw [f_Layout_claimSlot] at hk
  exact hk
theorem q_Layout_claimSlot {g : GG} {h : Hp} (hst : (gl g).stackTraces = false) {bd : Nat → Nat} (hnd : (gK (lyL g bd)).Nodup) (x : Int32)  (L : Nat → Nat → Int32) (hm : ∀ q ∈ gO (lyL g bd) L, h q.1 = some q.2) : PM g M_Layout_claimSlot 1 0 0 [.ref (bd 27), .int (x)] h (RetV (some (.int (f_Layout_claimSlot x L).1)) (ov h (gO (lyL g bd) ((f_Layout_claimSlot x L).2)))) := by
  refine PM.of hst (by decide) rfl (fun v hv => ?_) (Nat.le_of_ble_eq_true rfl) ?_
  · simp only [List.mem_cons, List.not_mem_nil, or_false] at hv; rcases hv with rfl | rfl <;> rfl
  · have hq := w_Layout_claimSlot_0 (g := g) (Q := RetV (some (.int (f_Layout_claimSlot x L).1)) (ov h (gO (lyL g bd) ((f_Layout_claimSlot x L).2)))) (h := h) (kc := 0) (ks := 0) hst hnd x L ?_
    · rw [ov_self hm] at hq; exact hq
    · exact ⟨rfl, rfl⟩

def f_Layout_isAcross (P : Nat → Nat → Int32) (l : Nat) : Int32 :=
  if (pN P 1 (pN P 12 l)) = (pN P 1 (pN P 13 l)) then 0 else 1
set_option maxRecDepth 4000 in
theorem w_Layout_isAcross_0 {g : GG} {Q : QT} {h : Hp} {kc ks : Nat} (hst : (gl g).stackTraces = false) {p : Nat} {ad : Nat → Nat} {P : Nat → Nat → Int32} (hP : Pl0 g p ad P h) (hw : wfQ P) (l : Nat) (hl : l < 12)  (hk : Q (.inl (some (.int (f_Layout_isAcross P l)))) h) : PW g M_Layout_isAcross 0 kc ks Q 0 [.ref (p), .int (nI (l))] [] h := by
  refine pw_aload_n e_Layout_isAcross_0 rfl ?_
  refine pw_getf e_Layout_isAcross_1 fl_Layout_91 hP.o rfl ?_
  refine pw_aload_n e_Layout_isAcross_4 rfl ?_
  refine pw_getf e_Layout_isAcross_5 fl_Layout_62 hP.o rfl ?_
  refine pw_getf e_Layout_isAcross_8 fl_Layout_88 hP.k rfl ?_
  refine pw_iload_n e_Layout_isAcross_11 rfl ?_
  have hb1 := hw.frm l
  refine pw_ialdC e_Layout_isAcross_12 hP.a12 (by omega) (by decide) hb1.1 ?_
  replace hb1 := hb1.2
  have hb2 := hw.dev (pN P 12 l)
  refine pw_ialdC e_Layout_isAcross_13 hP.a1 (by omega) (by decide) hb2.1 ?_
  replace hb2 := hb2.2
  refine pw_aload_n e_Layout_isAcross_14 rfl ?_
  refine pw_getf e_Layout_isAcross_15 fl_Layout_91 hP.o rfl ?_
  refine pw_aload_n e_Layout_isAcross_18 rfl ?_
  refine pw_getf e_Layout_isAcross_19 fl_Layout_62 hP.o rfl ?_
  refine pw_getf e_Layout_isAcross_22 fl_Layout_78 hP.k rfl ?_
  refine pw_iload_n e_Layout_isAcross_25 rfl ?_
  have hb3 := hw.to l
  refine pw_ialdC e_Layout_isAcross_26 hP.a13 (by omega) (by decide) hb3.1 ?_
  replace hb3 := hb3.2
  have hb4 := hw.dev (pN P 13 l)
  refine pw_ialdC e_Layout_isAcross_27 hP.a1 (by omega) (by decide) hb4.1 ?_
  replace hb4 := hb4.2
  refine pw_icmp_eqN (tgt := 35) e_Layout_isAcross_28 (by decide) (by omega) (by omega) (fun (H5 : (pN P 1 (pN P 12 l)) = (pN P 1 (pN P 13 l))) => ?_) (fun (H5 : ¬ (pN P 1 (pN P 12 l)) = (pN P 1 (pN P 13 l))) => ?_)
  · refine pw_iconst (v := nI 0) e_Layout_isAcross_35 (by decide) ?_
    refine pw_iret e_Layout_isAcross_36 rfl (by decide) ?_
    rw [f_Layout_isAcross, if_pos H5] at hk
    exact hk
  · refine pw_iconst (v := nI 1) e_Layout_isAcross_31 (by decide) ?_
    refine pw_goto (tgt := 36) e_Layout_isAcross_32 (by decide) ?_
    refine pw_iret e_Layout_isAcross_36 rfl (by decide) ?_
    rw [f_Layout_isAcross, if_neg H5] at hk
    exact hk
theorem q_Layout_isAcross {g : GG} {h : Hp} (hst : (gl g).stackTraces = false) {p : Nat} {ad : Nat → Nat} {P : Nat → Nat → Int32} (hP : Pl0 g p ad P h) (hw : wfQ P) (l : Nat) (hl : l < 12)  : PM g M_Layout_isAcross 0 0 0 [.ref (p), .int (nI (l))] h (RetV (some (.int (f_Layout_isAcross P l))) h) := by
  refine PM.of hst (by decide) rfl (fun v hv => ?_) (Nat.le_of_ble_eq_true rfl) ?_
  · simp only [List.mem_cons, List.not_mem_nil, or_false] at hv; rcases hv with rfl | rfl <;> rfl
  · have hq := w_Layout_isAcross_0 (g := g) (Q := RetV (some (.int (f_Layout_isAcross P l))) h) (h := h) (kc := 0) (ks := 0) hst hP hw l hl ?_
    · exact hq
    · exact ⟨rfl, rfl⟩

def f_Layout_isReady_2 (P L : Nat → Nat → Int32) (b : Nat) : Nat → (Nat) → Int32
  | 0, _ => 0
  | t + 1, k => if (pN P 31 0) ≤ k then 1 else if (pN P 13 k) = b then if ((L 19) (pN P 12 k)) = ((-1)) then 0 else f_Layout_isReady_2 P L b t (k + 1) else f_Layout_isReady_2 P L b t (k + 1)
set_option maxRecDepth 4000 in
theorem w_Layout_isReady_2 {g : GG} {Q : QT} {h : Hp} {kc ks : Nat} (hst : (gl g).stackTraces = false) {bd : Nat → Nat} (L : Nat → Nat → Int32) (hm : ∀ q ∈ gO (lyL g bd) L, h q.1 = some q.2) {p : Nat} {ad : Nat → Nat} {P : Nat → Nat → Int32} (hP : Pl0 g p ad P h) (hw : wfQ P) (b : Nat) (hb : b < 10)  (t : Nat) : ∀ (k : Nat) (hk1 : k < 13) (hlt : 12 - k < t) (hk : Q (.inl (some (.int (f_Layout_isReady_2 P L b t k)))) h), PW g M_Layout_isReady 0 kc ks Q 2 [.ref (bd 27), .ref (p), .int (nI (b)), .int (nI (k))] [] h := by
  induction t with
  | zero => intro k hk1 hlt _; exact absurd hlt (Nat.not_lt_zero _)
  | succ t ih =>
    intro k hk1 hlt hk
    have hb0 := hw.lnk.2
    refine pw_iload_n e_Layout_isReady_2 rfl ?_
    refine pw_aload_n e_Layout_isReady_3 rfl ?_
    refine pw_getf e_Layout_isReady_4 fl_Layout_62 hP.o rfl ?_
    refine pw_getf e_Layout_isReady_7 fl_Layout_66 hP.k rfl ?_
    rw [hw.lnk.1]
    refine pw_icmp_geN (tgt := 52) e_Layout_isReady_10 (by decide) (by omega) (by omega) (fun (H1 : (pN P 31 0) ≤ k) => ?_) (fun (H1 : k < (pN P 31 0)) => ?_)
    · refine pw_iconst (v := nI 1) e_Layout_isReady_52 (by decide) ?_
      refine pw_iret e_Layout_isReady_53 rfl (by decide) ?_
      rw [f_Layout_isReady_2, if_pos H1] at hk
      exact hk
    · refine pw_aload_n e_Layout_isReady_13 rfl ?_
      refine pw_getf e_Layout_isReady_14 fl_Layout_62 hP.o rfl ?_
      refine pw_getf e_Layout_isReady_17 fl_Layout_78 hP.k rfl ?_
      refine pw_iload_n e_Layout_isReady_20 rfl ?_
      have hb2 := hw.to k
      refine pw_ialdC e_Layout_isReady_21 hP.a13 (by omega) (by decide) hb2.1 ?_
      replace hb2 := hb2.2
      refine pw_iload_n e_Layout_isReady_22 rfl ?_
      refine pw_icmp_neN (tgt := 46) e_Layout_isReady_23 (by decide) (by omega) (by omega) (fun (H3 : ¬ (pN P 13 k) = b) => ?_) (fun (H3 : (pN P 13 k) = b) => ?_)
      · refine pw_iincN (ls2 := [_, _, _, _]) e_Layout_isReady_46 rfl (by decide) rfl ?_
        refine pw_goto (tgt := 2) e_Layout_isReady_49 (by decide) ?_
        refine ih (k + 1) (by omega) (by omega) ?_
        rw [f_Layout_isReady_2, if_neg (Nat.not_le.mpr H1), if_neg H3] at hk
        exact hk
      · refine pw_aload_n e_Layout_isReady_26 rfl ?_
        refine pw_getf e_Layout_isReady_27 fl_Layout_25 (hm _ (List.mem_of_getElem? (i := 0) rfl)) rfl ?_
        refine pw_aload_n e_Layout_isReady_30 rfl ?_
        refine pw_getf e_Layout_isReady_31 fl_Layout_62 hP.o rfl ?_
        refine pw_getf e_Layout_isReady_34 fl_Layout_88 hP.k rfl ?_
        refine pw_iload_n e_Layout_isReady_37 rfl ?_
        have hb4 := hw.frm k
        refine pw_ialdC e_Layout_isReady_38 hP.a12 (by omega) (by decide) hb4.1 ?_
        replace hb4 := hb4.2
        refine pw_ialdN e_Layout_isReady_39 (hm _ (List.mem_of_getElem? (i := 2) rfl)) (by omega) (by decide) ?_
        refine pw_iconst (v := (-1)) e_Layout_isReady_40 (by decide) ?_
        refine pw_icmp_ne (tgt := 46) e_Layout_isReady_41 (by decide) (fun (H5 : ¬ ((L 19) (pN P 12 k)) = ((-1))) => ?_) (fun (H5 : ((L 19) (pN P 12 k)) = ((-1))) => ?_)
        · refine pw_iincN (ls2 := [_, _, _, _]) e_Layout_isReady_46 rfl (by decide) rfl ?_
          refine pw_goto (tgt := 2) e_Layout_isReady_49 (by decide) ?_
          refine ih (k + 1) (by omega) (by omega) ?_
          rw [f_Layout_isReady_2, if_neg (Nat.not_le.mpr H1), if_pos H3, if_neg H5] at hk
          exact hk
        · refine pw_iconst (v := nI 0) e_Layout_isReady_44 (by decide) ?_
          refine pw_iret e_Layout_isReady_45 rfl (by decide) ?_
          rw [f_Layout_isReady_2, if_neg (Nat.not_le.mpr H1), if_pos H3, if_pos H5] at hk
          exact hk
def f_Layout_isReady (P L : Nat → Nat → Int32) (b : Nat) : Int32 :=
  f_Layout_isReady_2 P L b 13 0
set_option maxRecDepth 4000 in
theorem w_Layout_isReady_0 {g : GG} {Q : QT} {h : Hp} {kc ks : Nat} (hst : (gl g).stackTraces = false) {bd : Nat → Nat} (L : Nat → Nat → Int32) (hm : ∀ q ∈ gO (lyL g bd) L, h q.1 = some q.2) {p : Nat} {ad : Nat → Nat} {P : Nat → Nat → Int32} (hP : Pl0 g p ad P h) (hw : wfQ P) (b : Nat) (hb : b < 10)  (hk : Q (.inl (some (.int (f_Layout_isReady P L b)))) h) : PW g M_Layout_isReady 0 kc ks Q 0 [.ref (bd 27), .ref (p), .int (nI (b)), .retAddr 0] [] h := by
  have hb0 := hw.lnk.2
  refine pw_iconst (v := nI 0) e_Layout_isReady_0 (by decide) ?_
  refine pw_istore_n (ls2 := [_, _, _, _]) e_Layout_isReady_1 (by decide) rfl ?_
  refine w_Layout_isReady_2 hst L hm hP hw b hb 13 0 (by omega) (by omega) ?_
  rw [f_Layout_isReady] at hk
  exact hk
theorem q_Layout_isReady {g : GG} {h : Hp} (hst : (gl g).stackTraces = false) {bd : Nat → Nat} (L : Nat → Nat → Int32) (hm : ∀ q ∈ gO (lyL g bd) L, h q.1 = some q.2) {p : Nat} {ad : Nat → Nat} {P : Nat → Nat → Int32} (hP : Pl0 g p ad P h) (hw : wfQ P) (b : Nat) (hb : b < 10)  : PM g M_Layout_isReady 0 0 0 [.ref (bd 27), .ref (p), .int (nI (b))] h (RetV (some (.int (f_Layout_isReady P L b))) h) := by
  refine PM.of hst (by decide) rfl (fun v hv => ?_) (Nat.le_of_ble_eq_true rfl) ?_
  · simp only [List.mem_cons, List.not_mem_nil, or_false] at hv; rcases hv with rfl | rfl | rfl <;> rfl
  · have hq := w_Layout_isReady_0 (g := g) (Q := RetV (some (.int (f_Layout_isReady P L b))) h) (h := h) (kc := 0) (ks := 0) hst L hm hP hw b hb ?_
    · exact hq
    · exact ⟨rfl, rfl⟩

def f_Layout_leastReady_2 (P L : Nat → Nat → Int32) : Nat → (Nat) → Int32
  | 0, _ => 0
  | t + 1, k => if (pN P 30 3) ≤ k then (-1) else if ((L 19) k) = ((-1)) then if (f_Layout_isReady P L k) = 0 then f_Layout_leastReady_2 P L t (k + 1) else nI (k) else f_Layout_leastReady_2 P L t (k + 1)
set_option maxRecDepth 4000 in
theorem w_Layout_leastReady_2 {g : GG} {Q : QT} {h : Hp} {kc ks : Nat} (hst : (gl g).stackTraces = false) {bd : Nat → Nat} (L : Nat → Nat → Int32) (hm : ∀ q ∈ gO (lyL g bd) L, h q.1 = some q.2) {p : Nat} {ad : Nat → Nat} {P : Nat → Nat → Int32} (hP : Pl0 g p ad P h) (hw : wfQ P)  (t : Nat) : ∀ (k : Nat) (hk1 : k < 11) (hlt : 10 - k < t) (hk : Q (.inl (some (.int (f_Layout_leastReady_2 P L t k)))) h), PW g M_Layout_leastReady 1 kc ks Q 2 [.ref (bd 27), .ref (p), .int (nI (k))] [] h := by
  induction t with
  | zero => intro k hk1 hlt _; exact absurd hlt (Nat.not_lt_zero _)
  | succ t ih =>
    intro k hk1 hlt hk
    have hb0 := hw.blk.2
    refine pw_iload_n e_Layout_leastReady_2 rfl ?_
    refine pw_aload_n e_Layout_leastReady_3 rfl ?_
    refine pw_getf e_Layout_leastReady_4 fl_Layout_46 hP.o rfl ?_
    rw [hw.blk.1]
    refine pw_icmp_geN (tgt := 37) e_Layout_leastReady_7 (by decide) (by omega) (by omega) (fun (H1 : (pN P 30 3) ≤ k) => ?_) (fun (H1 : k < (pN P 30 3)) => ?_)
    · refine pw_iconst (v := (-1)) e_Layout_leastReady_37 (by decide) ?_
      refine pw_iret e_Layout_leastReady_38 rfl rfl ?_
      rw [f_Layout_leastReady_2, if_pos H1] at hk
      exact hk
    · refine pw_aload_n e_Layout_leastReady_10 rfl ?_
      refine pw_getf e_Layout_leastReady_11 fl_Layout_25 (hm _ (List.mem_of_getElem? (i := 0) rfl)) rfl ?_
      refine pw_iload_n e_Layout_leastReady_14 rfl ?_
      refine pw_ialdN e_Layout_leastReady_15 (hm _ (List.mem_of_getElem? (i := 2) rfl)) (by omega) (by decide) ?_
      refine pw_iconst (v := (-1)) e_Layout_leastReady_16 (by decide) ?_
      refine pw_icmp_ne (tgt := 31) e_Layout_leastReady_17 (by decide) (fun (H2 : ¬ ((L 19) k) = ((-1))) => ?_) (fun (H2 : ((L 19) k) = ((-1))) => ?_)
      · refine pw_iincN (ls2 := [_, _, _]) e_Layout_leastReady_31 rfl (by decide) rfl ?_
        refine pw_goto (tgt := 2) e_Layout_leastReady_34 (by decide) ?_
        refine ih (k + 1) (by omega) (by omega) ?_
        rw [f_Layout_leastReady_2, if_neg (Nat.not_le.mpr H1), if_neg H2] at hk
        exact hk
      · refine pw_aload_n e_Layout_leastReady_20 rfl ?_
        refine pw_aload_n e_Layout_leastReady_21 rfl ?_
        refine pw_iload_n e_Layout_leastReady_22 rfl ?_
        refine pw_detV (As := [.ref (p), .int (nI (k))]) e_Layout_leastReady_23 li_Layout_85 rfl (hm _ (List.mem_of_getElem? (i := 0) rfl)) (q_Layout_isReady hst L hm hP hw k (by omega)) rfl (by decide) (Nat.le_of_ble_eq_true rfl) rfl ?_
        refine pw_if_eq (tgt := 31) e_Layout_leastReady_26 (by decide) (fun (H3 : (f_Layout_isReady P L k) = 0) => ?_) (fun (H3 : ¬ (f_Layout_isReady P L k) = 0) => ?_)
        · refine pw_iincN (ls2 := [_, _, _]) e_Layout_leastReady_31 rfl (by decide) rfl ?_
          refine pw_goto (tgt := 2) e_Layout_leastReady_34 (by decide) ?_
          refine ih (k + 1) (by omega) (by omega) ?_
          rw [f_Layout_leastReady_2, if_neg (Nat.not_le.mpr H1), if_pos H2, if_pos H3] at hk
          exact hk
        · refine pw_iload_n e_Layout_leastReady_29 rfl ?_
          refine pw_iret e_Layout_leastReady_30 rfl rfl ?_
          rw [f_Layout_leastReady_2, if_neg (Nat.not_le.mpr H1), if_pos H2, if_neg H3] at hk
          exact hk
def f_Layout_leastReady (P L : Nat → Nat → Int32) : Int32 :=
  f_Layout_leastReady_2 P L 11 0
set_option maxRecDepth 4000 in
theorem w_Layout_leastReady_0 {g : GG} {Q : QT} {h : Hp} {kc ks : Nat} (hst : (gl g).stackTraces = false) {bd : Nat → Nat} (L : Nat → Nat → Int32) (hm : ∀ q ∈ gO (lyL g bd) L, h q.1 = some q.2) {p : Nat} {ad : Nat → Nat} {P : Nat → Nat → Int32} (hP : Pl0 g p ad P h) (hw : wfQ P)  (hk : Q (.inl (some (.int (f_Layout_leastReady P L)))) h) : PW g M_Layout_leastReady 1 kc ks Q 0 [.ref (bd 27), .ref (p), .retAddr 0] [] h := by
  have hb0 := hw.blk.2
  refine pw_iconst (v := nI 0) e_Layout_leastReady_0 (by decide) ?_
  refine pw_istore_n (ls2 := [_, _, _]) e_Layout_leastReady_1 (by decide) rfl ?_
  refine w_Layout_leastReady_2 hst L hm hP hw 11 0 (by omega) (by omega) ?_
  rw [f_Layout_leastReady] at hk
  exact hk
theorem q_Layout_leastReady {g : GG} {h : Hp} (hst : (gl g).stackTraces = false) {bd : Nat → Nat} (L : Nat → Nat → Int32) (hm : ∀ q ∈ gO (lyL g bd) L, h q.1 = some q.2) {p : Nat} {ad : Nat → Nat} {P : Nat → Nat → Int32} (hP : Pl0 g p ad P h) (hw : wfQ P)  : PM g M_Layout_leastReady 1 0 0 [.ref (bd 27), .ref (p)] h (RetV (some (.int (f_Layout_leastReady P L))) h) := by
  refine PM.of hst (by decide) rfl (fun v hv => ?_) (Nat.le_of_ble_eq_true rfl) ?_
  · simp only [List.mem_cons, List.not_mem_nil, or_false] at hv; rcases hv with rfl | rfl <;> rfl
  · have hq := w_Layout_leastReady_0 (g := g) (Q := RetV (some (.int (f_Layout_leastReady P L))) h) (h := h) (kc := 0) (ks := 0) hst L hm hP hw ?_
    · exact hq
    · exact ⟨rfl, rfl⟩

theorem lr_cases {P L : Nat → Nat → Int32} (hw : wfQ P) : ∀ (t k : Nat), 10 - k < t → f_Layout_leastReady_2 P L t k = -1 ∨ ∃ j, j < pN P 30 3 ∧ f_Layout_leastReady_2 P L t k = nI j := by
  intro t
  induction t with
  | zero => intro k h; exact absurd h (Nat.not_lt_zero _)
  | succ t ih =>
    intro k hk
    have hb := hw.blk.2
    rw [f_Layout_leastReady_2]
    by_cases q1 : (pN P 30 3) ≤ k
    · rw [if_pos q1]; exact Or.inl rfl
    · rw [if_neg q1]
      by_cases q2 : ((L 19) k) = ((-1))
      · rw [if_pos q2]
        by_cases q3 : f_Layout_isReady P L k = 0
        · rw [if_pos q3]; exact ih _ (by omega)
        · rw [if_neg q3]; exact Or.inr ⟨k, by omega, rfl⟩
      · rw [if_neg q2]; exact ih _ (by omega)
def lrN (P L : Nat → Nat → Int32) : Nat := (f_Layout_leastReady P L).toNatClampNeg
theorem lr_nat {P L : Nat → Nat → Int32} (hw : wfQ P) (h : ¬ f_Layout_leastReady P L = (-1)) : f_Layout_leastReady P L = nI (lrN P L) ∧ lrN P L < pN P 30 3 := by
  have hb := hw.blk.2
  unfold lrN
  rw [f_Layout_leastReady] at h ⊢
  rcases lr_cases (L := L) hw 11 0 (by omega) with q | ⟨j, hj, q⟩
  · exact absurd q h
  · rw [q, nI_clamp (by omega)]; exact ⟨rfl, hj⟩
theorem cs_keep (x : Int32) (L : Nat → Nat → Int32) : ∀ (t : Nat) (y : Int32) (k : Nat) (a b : Nat), (a ≠ 32 ∨ (b ≠ 0 ∧ b ≠ 1)) → (f_Layout_claimSlot_4 x t L y k).2 a b = L a b := by
  have h27 : ∀ (y : Int32) (a b : Nat), (a ≠ 32 ∨ (b ≠ 0 ∧ b ≠ 1)) → (f_Layout_claimSlot_27 x L y).2 a b = L a b := by
    intro y a b hab
    rw [f_Layout_claimSlot_27]
    simp only [u2, va_up, upd]
    by_cases ha : a = 32
    · subst ha
      rcases hab with q | ⟨q1, q2⟩
      · exact absurd rfl q
      · simp [upd, q1, q2]
    · simp [ha]
  intro t
  induction t with
  | zero => intro y k a b _; rfl
  | succ t ih =>
    intro y k a b hab
    rw [f_Layout_claimSlot_4]
    split
    · exact h27 y a b hab
    · split
      · exact h27 y a b hab
      · exact ih _ _ a b hab
theorem cs_keep0 (x : Int32) (L : Nat → Nat → Int32) (a b : Nat) (hab : a ≠ 32 ∨ (b ≠ 0 ∧ b ≠ 1)) : (f_Layout_claimSlot x L).2 a b = L a b := by
  rw [f_Layout_claimSlot]; exact cs_keep x L _ _ _ a b hab
def f_Layout_takeBlock_107 (P : Nat → Nat → Int32) (b : Nat) (x : Int32) (n : Nat) (L : Nat → Nat → Int32) (er : Int32) : (Nat → Nat → Int32) :=
  u2 (u2 (u2 (u2 (u2 (u2 (u2 L 20 b er) 21 b (er + x)) 24 (pN P 1 b) (((u2 (u2 L 20 b er) 21 b (er + x)) 21) b)) 32 0 (if ((u2 (u2 (u2 L 20 b er) 21 b (er + x)) 24 (pN P 1 b) (((u2 (u2 L 20 b er) 21 b (er + x)) 21) b)) 32 0) < (((u2 (u2 (u2 L 20 b er) 21 b (er + x)) 24 (pN P 1 b) (((u2 (u2 L 20 b er) 21 b (er + x)) 21) b)) 21) b) then (((u2 (u2 (u2 L 20 b er) 21 b (er + x)) 24 (pN P 1 b) (((u2 (u2 L 20 b er) 21 b (er + x)) 21) b)) 21) b) else ((u2 (u2 (u2 L 20 b er) 21 b (er + x)) 24 (pN P 1 b) (((u2 (u2 L 20 b er) 21 b (er + x)) 21) b)) 32 0))) 18 n (nI (b))) 19 b ((u2 (u2 (u2 (u2 (u2 L 20 b er) 21 b (er + x)) 24 (pN P 1 b) (((u2 (u2 L 20 b er) 21 b (er + x)) 21) b)) 32 0 (if ((u2 (u2 (u2 L 20 b er) 21 b (er + x)) 24 (pN P 1 b) (((u2 (u2 L 20 b er) 21 b (er + x)) 21) b)) 32 0) < (((u2 (u2 (u2 L 20 b er) 21 b (er + x)) 24 (pN P 1 b) (((u2 (u2 L 20 b er) 21 b (er + x)) 21) b)) 21) b) then (((u2 (u2 (u2 L 20 b er) 21 b (er + x)) 24 (pN P 1 b) (((u2 (u2 L 20 b er) 21 b (er + x)) 21) b)) 21) b) else ((u2 (u2 (u2 L 20 b er) 21 b (er + x)) 24 (pN P 1 b) (((u2 (u2 L 20 b er) 21 b (er + x)) 21) b)) 32 0))) 18 n (nI (b))) 32 2)) 32 2 (((u2 (u2 (u2 (u2 (u2 (u2 L 20 b er) 21 b (er + x)) 24 (pN P 1 b) (((u2 (u2 L 20 b er) 21 b (er + x)) 21) b)) 32 0 (if ((u2 (u2 (u2 L 20 b er) 21 b (er + x)) 24 (pN P 1 b) (((u2 (u2 L 20 b er) 21 b (er + x)) 21) b)) 32 0) < (((u2 (u2 (u2 L 20 b er) 21 b (er + x)) 24 (pN P 1 b) (((u2 (u2 L 20 b er) 21 b (er + x)) 21) b)) 21) b) then (((u2 (u2 (u2 L 20 b er) 21 b (er + x)) 24 (pN P 1 b) (((u2 (u2 L 20 b er) 21 b (er + x)) 21) b)) 21) b) else ((u2 (u2 (u2 L 20 b er) 21 b (er + x)) 24 (pN P 1 b) (((u2 (u2 L 20 b er) 21 b (er + x)) 21) b)) 32 0))) 18 n (nI (b))) 19 b ((u2 (u2 (u2 (u2 (u2 L 20 b er) 21 b (er + x)) 24 (pN P 1 b) (((u2 (u2 L 20 b er) 21 b (er + x)) 21) b)) 32 0 (if ((u2 (u2 (u2 L 20 b er) 21 b (er + x)) 24 (pN P 1 b) (((u2 (u2 L 20 b er) 21 b (er + x)) 21) b)) 32 0) < (((u2 (u2 (u2 L 20 b er) 21 b (er + x)) 24 (pN P 1 b) (((u2 (u2 L 20 b er) 21 b (er + x)) 21) b)) 21) b) then (((u2 (u2 (u2 L 20 b er) 21 b (er + x)) 24 (pN P 1 b) (((u2 (u2 L 20 b er) 21 b (er + x)) 21) b)) 21) b) else ((u2 (u2 (u2 L 20 b er) 21 b (er + x)) 24 (pN P 1 b) (((u2 (u2 L 20 b er) 21 b (er + x)) 21) b)) 32 0))) 18 n (nI (b))) 32 2)) 32 2) + 1)
set_option maxRecDepth 4000 in
theorem w_Layout_takeBlock_107 {g : GG} {Q : QT} {h : Hp} {kc ks : Nat} (hst : (gl g).stackTraces = false) {bd : Nat → Nat} (hnd : (gK (lyL g bd)).Nodup) {p : Nat} {ad : Nat → Nat} {P : Nat → Nat → Int32} (hP : ∀ {l : List (Nat × va_E)}, l.map Prod.fst = gK (lyL g bd) → Pl0 g p ad P (ov h l)) (hw : wfQ P) (b : Nat) (x : Int32) (hb : b < 10) (n : Nat) (hn : n < 10)  (L : Nat → Nat → Int32) (er : Int32) (htk : L 32 2 = nI n) (hk : Q (.inl none) (ov h (gO (lyL g bd) (f_Layout_takeBlock_107 P b x n L er)))) : PW g M_Layout_takeBlock 2 kc ks Q 107 [.ref (bd 27), .ref (p), .int (nI (b)), .int (x), .int (er), .retAddr 0, .retAddr 0] [] (ov h (gO (lyL g bd) L)) := by
  have hb0 := hw.lnk.2
  have hb1 := (hw.dev b).2
  refine pw_aload_n e_Layout_takeBlock_107 rfl ?_
  refine pw_getf e_Layout_takeBlock_108 fl_Layout_28 (gO_get hnd (i := 0) rfl) rfl ?_
  refine pw_iload_n e_Layout_takeBlock_111 rfl ?_
  refine pw_iload e_Layout_takeBlock_112 rfl ?_
  refine pw_iastG (i := 3) e_Layout_takeBlock_114 hnd (ly_x _ _) rfl (by omega) (by decide) ?_
  refine pw_aload_n e_Layout_takeBlock_115 rfl ?_
  refine pw_getf e_Layout_takeBlock_116 fl_Layout_31 (gO_get hnd (i := 0) rfl) rfl ?_
  refine pw_iload_n e_Layout_takeBlock_119 rfl ?_
  refine pw_iload e_Layout_takeBlock_120 rfl ?_
  refine pw_iload_n e_Layout_takeBlock_122 rfl ?_
  refine pw_iadd e_Layout_takeBlock_123 ?_
  refine pw_iastG (i := 4) e_Layout_takeBlock_124 hnd (ly_x _ _) rfl (by omega) (by decide) ?_
  refine pw_aload_n e_Layout_takeBlock_125 rfl ?_
  refine pw_getf e_Layout_takeBlock_126 fl_Layout_40 (gO_get hnd (i := 0) rfl) rfl ?_
  refine pw_aload_n e_Layout_takeBlock_129 rfl ?_
  refine pw_getf e_Layout_takeBlock_130 fl_Layout_91 (hP (gO_fst _ _)).o rfl ?_
  refine pw_iload_n e_Layout_takeBlock_133 rfl ?_
  have hb1 := hw.dev b
  refine pw_ialdC e_Layout_takeBlock_134 (hP (gO_fst _ _)).a1 (by omega) (by decide) hb1.1 ?_
  replace hb1 := hb1.2
  refine pw_aload_n e_Layout_takeBlock_135 rfl ?_
  refine pw_getf e_Layout_takeBlock_136 fl_Layout_31 (gO_get hnd (i := 0) rfl) rfl ?_
  refine pw_iload_n e_Layout_takeBlock_139 rfl ?_
  refine pw_ialdN e_Layout_takeBlock_140 (gO_get hnd (i := 4) rfl) (by omega) (by decide) ?_
  refine pw_iastG (i := 7) e_Layout_takeBlock_141 hnd (ly_x _ _) rfl (by omega) (by decide) ?_
  refine pw_aload_n e_Layout_takeBlock_142 rfl ?_
  refine pw_aload_n e_Layout_takeBlock_143 rfl ?_
  refine pw_getf e_Layout_takeBlock_144 fl_Layout_9 (gO_get hnd (i := 0) rfl) rfl ?_
  refine pw_aload_n e_Layout_takeBlock_147 rfl ?_
  refine pw_getf e_Layout_takeBlock_148 fl_Layout_31 (gO_get hnd (i := 0) rfl) rfl ?_
  refine pw_iload_n e_Layout_takeBlock_151 rfl ?_
  refine pw_ialdN e_Layout_takeBlock_152 (gO_get hnd (i := 4) rfl) (by omega) (by decide) ?_
  refine pw_max e_Layout_takeBlock_153 ml_Layout_94 (by decide) (Nat.le_of_ble_eq_true rfl) ?_
  refine pw_putG (i := 0) (ps := 0) (x := if ((u2 (u2 (u2 L 20 b er) 21 b (er + x)) 24 (pN P 1 b) (((u2 (u2 L 20 b er) 21 b (er + x)) 21) b)) 32 0) < (((u2 (u2 (u2 L 20 b er) 21 b (er + x)) 24 (pN P 1 b) (((u2 (u2 L 20 b er) 21 b (er + x)) 21) b)) 21) b) then (((u2 (u2 (u2 L 20 b er) 21 b (er + x)) 24 (pN P 1 b) (((u2 (u2 L 20 b er) 21 b (er + x)) 21) b)) 21) b) else ((u2 (u2 (u2 L 20 b er) 21 b (er + x)) 24 (pN P 1 b) (((u2 (u2 L 20 b er) 21 b (er + x)) 21) b)) 32 0)) e_Layout_takeBlock_156 fp_Layout_9 hnd (ly_x _ _) rfl (Nat.le_of_ble_eq_true rfl) rfl rfl rfl ?_
  refine pw_aload_n e_Layout_takeBlock_159 rfl ?_
  refine pw_getf e_Layout_takeBlock_160 fl_Layout_21 (gO_get hnd (i := 0) rfl) rfl ?_
  refine pw_aload_n e_Layout_takeBlock_163 rfl ?_
  refine pw_getf e_Layout_takeBlock_164 fl_Layout_18 (gO_get hnd (i := 0) rfl) rfl ?_
  rw [show (u2 (u2 (u2 (u2 L 20 b er) 21 b (er + x)) 24 (pN P 1 b) (((u2 (u2 L 20 b er) 21 b (er + x)) 21) b)) 32 0 (if ((u2 (u2 (u2 L 20 b er) 21 b (er + x)) 24 (pN P 1 b) (((u2 (u2 L 20 b er) 21 b (er + x)) 21) b)) 32 0) < (((u2 (u2 (u2 L 20 b er) 21 b (er + x)) 24 (pN P 1 b) (((u2 (u2 L 20 b er) 21 b (er + x)) 21) b)) 21) b) then (((u2 (u2 (u2 L 20 b er) 21 b (er + x)) 24 (pN P 1 b) (((u2 (u2 L 20 b er) 21 b (er + x)) 21) b)) 21) b) else ((u2 (u2 (u2 L 20 b er) 21 b (er + x)) 24 (pN P 1 b) (((u2 (u2 L 20 b er) 21 b (er + x)) 21) b)) 32 0))) 32 2 = nI (n) from htk]
  refine pw_iload_n e_Layout_takeBlock_167 rfl ?_
  refine pw_iastG (i := 1) e_Layout_takeBlock_168 hnd (ly_x _ _) rfl (by omega) (by decide) ?_
  refine pw_aload_n e_Layout_takeBlock_169 rfl ?_
  refine pw_getf e_Layout_takeBlock_170 fl_Layout_25 (gO_get hnd (i := 0) rfl) rfl ?_
  refine pw_iload_n e_Layout_takeBlock_173 rfl ?_
  refine pw_aload_n e_Layout_takeBlock_174 rfl ?_
  refine pw_getf e_Layout_takeBlock_175 fl_Layout_18 (gO_get hnd (i := 0) rfl) rfl ?_
  refine pw_iastG (i := 2) e_Layout_takeBlock_178 hnd (ly_x _ _) rfl (by omega) (by decide) ?_
  refine pw_aload_n e_Layout_takeBlock_179 rfl ?_
  refine pw_dup e_Layout_takeBlock_180 rfl ?_
  refine pw_getf e_Layout_takeBlock_181 fl_Layout_18 (gO_get hnd (i := 0) rfl) rfl ?_
  refine pw_iconst (v := nI 1) e_Layout_takeBlock_184 (by decide) ?_
  refine pw_iadd e_Layout_takeBlock_185 ?_
  refine pw_putG (i := 0) (ps := 2) (x := ((u2 (u2 (u2 (u2 (u2 (u2 L 20 b er) 21 b (er + x)) 24 (pN P 1 b) (((u2 (u2 L 20 b er) 21 b (er + x)) 21) b)) 32 0 (if ((u2 (u2 (u2 L 20 b er) 21 b (er + x)) 24 (pN P 1 b) (((u2 (u2 L 20 b er) 21 b (er + x)) 21) b)) 32 0) < (((u2 (u2 (u2 L 20 b er) 21 b (er + x)) 24 (pN P 1 b) (((u2 (u2 L 20 b er) 21 b (er + x)) 21) b)) 21) b) then (((u2 (u2 (u2 L 20 b er) 21 b (er + x)) 24 (pN P 1 b) (((u2 (u2 L 20 b er) 21 b (er + x)) 21) b)) 21) b) else ((u2 (u2 (u2 L 20 b er) 21 b (er + x)) 24 (pN P 1 b) (((u2 (u2 L 20 b er) 21 b (er + x)) 21) b)) 32 0))) 18 n (nI (b))) 19 b ((u2 (u2 (u2 (u2 (u2 L 20 b er) 21 b (er + x)) 24 (pN P 1 b) (((u2 (u2 L 20 b er) 21 b (er + x)) 21) b)) 32 0 (if ((u2 (u2 (u2 L 20 b er) 21 b (er + x)) 24 (pN P 1 b) (((u2 (u2 L 20 b er) 21 b (er + x)) 21) b)) 32 0) < (((u2 (u2 (u2 L 20 b er) 21 b (er + x)) 24 (pN P 1 b) (((u2 (u2 L 20 b er) 21 b (er + x)) 21) b)) 21) b) then (((u2 (u2 (u2 L 20 b er) 21 b (er + x)) 24 (pN P 1 b) (((u2 (u2 L 20 b er) 21 b (er + x)) 21) b)) 21) b) else ((u2 (u2 (u2 L 20 b er) 21 b (er + x)) 24 (pN P 1 b) (((u2 (u2 L 20 b er) 21 b (er + x)) 21) b)) 32 0))) 18 n (nI (b))) 32 2)) 32 2) + 1) e_Layout_takeBlock_186 fp_Layout_18 hnd (ly_x _ _) rfl (Nat.le_of_ble_eq_true rfl) rfl rfl rfl ?_
  refine pw_vret e_Layout_takeBlock_189 rfl ?_
  rw [f_Layout_takeBlock_107] at hk
  exact hk
def f_Layout_takeBlock_16 (P : Nat → Nat → Int32) (b : Nat) (x : Int32) (n : Nat) : Nat → (Nat → Nat → Int32) → (Int32) → (Nat) → Int32 × (Nat → Nat → Int32)
  | 0, L, _, _ => (0, L)
  | t + 1, L, er, l => if (pN P 31 0) ≤ l then (er, L) else if (pN P 13 l) = b then if (f_Layout_isAcross P l) = 0 then f_Layout_takeBlock_16 P b x n t L (if er < ((L 21) (pN P 12 l)) then ((L 21) (pN P 12 l)) else er) (l + 1) else f_Layout_takeBlock_16 P b x n t (u2 ((f_Layout_claimSlot ((L 21) (pN P 12 l)) L).2) 22 l ((f_Layout_claimSlot ((L 21) (pN P 12 l)) L).1)) (if er < ((((u2 ((f_Layout_claimSlot ((L 21) (pN P 12 l)) L).2) 22 l ((f_Layout_claimSlot ((L 21) (pN P 12 l)) L).1)) 22) l) + 1) then ((((u2 ((f_Layout_claimSlot ((L 21) (pN P 12 l)) L).2) 22 l ((f_Layout_claimSlot ((L 21) (pN P 12 l)) L).1)) 22) l) + 1) else er) (l + 1) else f_Layout_takeBlock_16 P b x n t L er (l + 1)
set_option maxRecDepth 4000 in
theorem w_Layout_takeBlock_16 {g : GG} {Q : QT} {h : Hp} {kc ks : Nat} (hst : (gl g).stackTraces = false) {bd : Nat → Nat} (hnd : (gK (lyL g bd)).Nodup) {p : Nat} {ad : Nat → Nat} {P : Nat → Nat → Int32} (hP : ∀ {l : List (Nat × va_E)}, l.map Prod.fst = gK (lyL g bd) → Pl0 g p ad P (ov h l)) (hw : wfQ P) (b : Nat) (x : Int32) (hb : b < 10) (n : Nat) (hn : n < 10)  (t : Nat) : ∀ (L : Nat → Nat → Int32) (er : Int32) (l : Nat) (hl1 : l < 13) (hlt : 12 - l < t) (hk : PW g M_Layout_takeBlock 2 kc ks Q 107 [.ref (bd 27), .ref (p), .int (nI (b)), .int (x), .int ((f_Layout_takeBlock_16 P b x n t L er l).1), .retAddr 0, .retAddr 0] [] (ov h (gO (lyL g bd) ((f_Layout_takeBlock_16 P b x n t L er l).2)))), PW g M_Layout_takeBlock 2 kc ks Q 16 [.ref (bd 27), .ref (p), .int (nI (b)), .int (x), .int (er), .int (nI (l)), .retAddr 0] [] (ov h (gO (lyL g bd) L)) := by
  induction t with
  | zero => intro L er l hl1 hlt _; exact absurd hlt (Nat.not_lt_zero _)
  | succ t ih =>
    intro L er l hl1 hlt hk
    have hb0 := hw.lnk.2
    have hb1 := (hw.dev b).2
    refine pw_iload e_Layout_takeBlock_16 rfl ?_
    refine pw_aload_n e_Layout_takeBlock_18 rfl ?_
    refine pw_getf e_Layout_takeBlock_19 fl_Layout_62 (hP (gO_fst _ _)).o rfl ?_
    refine pw_getf e_Layout_takeBlock_22 fl_Layout_66 (hP (gO_fst _ _)).k rfl ?_
    rw [hw.lnk.1]
    refine pw_icmp_geN (tgt := 107) e_Layout_takeBlock_25 (by decide) (by omega) (by omega) (fun (H1 : (pN P 31 0) ≤ l) => ?_) (fun (H1 : l < (pN P 31 0)) => ?_)
    · refine pw_fgt (ls' := [.ref (bd 27), .ref (p), .int (nI (b)), .int (x), .int (er), .retAddr 0, .retAddr 0]) ⟨Or.inr rfl, Or.inr rfl, Or.inr rfl, Or.inr rfl, Or.inr rfl, Or.inl rfl, Or.inr rfl, trivial⟩ ?_
      rw [f_Layout_takeBlock_16, if_pos H1] at hk
      exact hk
    · refine pw_aload_n e_Layout_takeBlock_28 rfl ?_
      refine pw_getf e_Layout_takeBlock_29 fl_Layout_62 (hP (gO_fst _ _)).o rfl ?_
      refine pw_getf e_Layout_takeBlock_32 fl_Layout_78 (hP (gO_fst _ _)).k rfl ?_
      refine pw_iload e_Layout_takeBlock_35 rfl ?_
      have hb2 := hw.to l
      refine pw_ialdC e_Layout_takeBlock_37 (hP (gO_fst _ _)).a13 (by omega) (by decide) hb2.1 ?_
      replace hb2 := hb2.2
      refine pw_iload_n e_Layout_takeBlock_38 rfl ?_
      refine pw_icmp_neN (tgt := 101) e_Layout_takeBlock_39 (by decide) (by omega) (by omega) (fun (H3 : ¬ (pN P 13 l) = b) => ?_) (fun (H3 : (pN P 13 l) = b) => ?_)
      · refine pw_iincN (ls2 := [_, _, _, _, _, _, _]) e_Layout_takeBlock_101 rfl (by decide) rfl ?_
        refine pw_goto (tgt := 16) e_Layout_takeBlock_104 (by decide) ?_
        refine ih L er (l + 1) (by omega) (by omega) ?_
        rw [f_Layout_takeBlock_16, if_neg (Nat.not_le.mpr H1), if_neg H3] at hk
        exact hk
      · refine pw_aload_n e_Layout_takeBlock_42 rfl ?_
        refine pw_getf e_Layout_takeBlock_43 fl_Layout_31 (gO_get hnd (i := 0) rfl) rfl ?_
        refine pw_aload_n e_Layout_takeBlock_46 rfl ?_
        refine pw_getf e_Layout_takeBlock_47 fl_Layout_62 (hP (gO_fst _ _)).o rfl ?_
        refine pw_getf e_Layout_takeBlock_50 fl_Layout_88 (hP (gO_fst _ _)).k rfl ?_
        refine pw_iload e_Layout_takeBlock_53 rfl ?_
        have hb4 := hw.frm l
        refine pw_ialdC e_Layout_takeBlock_55 (hP (gO_fst _ _)).a12 (by omega) (by decide) hb4.1 ?_
        replace hb4 := hb4.2
        refine pw_ialdN e_Layout_takeBlock_56 (gO_get hnd (i := 4) rfl) (by omega) (by decide) ?_
        refine pw_istore (ls2 := [_, _, _, _, _, _, _]) e_Layout_takeBlock_57 (by decide) rfl ?_
        refine pw_aload_n e_Layout_takeBlock_59 rfl ?_
        refine pw_iload e_Layout_takeBlock_60 rfl ?_
        refine pw_detS (As := [.ref (p), .int (nI (l))]) e_Layout_takeBlock_62 li_Layout_74 (q_Layout_isAcross hst (hP (gO_fst _ _)) hw l (by omega)) rfl (by decide) (Nat.le_of_ble_eq_true rfl) rfl ?_
        refine pw_if_eq (tgt := 92) e_Layout_takeBlock_65 (by decide) (fun (H5 : (f_Layout_isAcross P l) = 0) => ?_) (fun (H5 : ¬ (f_Layout_isAcross P l) = 0) => ?_)
        · refine pw_iload e_Layout_takeBlock_92 rfl ?_
          refine pw_iload e_Layout_takeBlock_94 rfl ?_
          refine pw_max e_Layout_takeBlock_96 ml_Layout_94 (by decide) (Nat.le_of_ble_eq_true rfl) ?_
          refine pw_istore (ls2 := [_, _, _, _, _, _, _]) e_Layout_takeBlock_99 (by decide) rfl ?_
          refine pw_iincN (ls2 := [_, _, _, _, _, _, _]) e_Layout_takeBlock_101 rfl (by decide) rfl ?_
          refine pw_goto (tgt := 16) e_Layout_takeBlock_104 (by decide) ?_
          refine pw_fgt (ls' := [.ref (bd 27), .ref (p), .int (nI (b)), .int (x), .int (if er < ((L 21) (pN P 12 l)) then ((L 21) (pN P 12 l)) else er), .int (nI (l + 1)), .retAddr 0]) ⟨Or.inr rfl, Or.inr rfl, Or.inr rfl, Or.inr rfl, Or.inr rfl, Or.inr rfl, Or.inl rfl, trivial⟩ ?_
          refine ih L (if er < ((L 21) (pN P 12 l)) then ((L 21) (pN P 12 l)) else er) (l + 1) (by omega) (by omega) ?_
          rw [f_Layout_takeBlock_16, if_neg (Nat.not_le.mpr H1), if_pos H3, if_pos H5] at hk
          exact hk
        · refine pw_aload_n e_Layout_takeBlock_68 rfl ?_
          refine pw_getf e_Layout_takeBlock_69 fl_Layout_34 (gO_get hnd (i := 0) rfl) rfl ?_
          refine pw_iload e_Layout_takeBlock_72 rfl ?_
          refine pw_aload_n e_Layout_takeBlock_74 rfl ?_
          refine pw_iload e_Layout_takeBlock_75 rfl ?_
          refine pw_detV (As := [.int ((L 21) (pN P 12 l))]) e_Layout_takeBlock_77 li_Layout_81 rfl (gO_get hnd (i := 0) rfl) (q_Layout_claimSlot hst hnd ((L 21) (pN P 12 l)) L (gO_in hnd (fun _ z => z))) rfl (by decide) (Nat.le_of_ble_eq_true rfl) rfl ?_
          refine pw_sameG hnd ?_
          refine pw_iastG (i := 5) e_Layout_takeBlock_80 hnd (ly_x _ _) rfl (by omega) (by decide) ?_
          refine pw_aload_n e_Layout_takeBlock_81 rfl ?_
          refine pw_getf e_Layout_takeBlock_82 fl_Layout_34 (gO_get hnd (i := 0) rfl) rfl ?_
          refine pw_iload e_Layout_takeBlock_85 rfl ?_
          refine pw_ialdN e_Layout_takeBlock_87 (gO_get hnd (i := 5) rfl) (by omega) (by decide) ?_
          refine pw_iconst (v := nI 1) e_Layout_takeBlock_88 (by decide) ?_
          refine pw_iadd e_Layout_takeBlock_89 ?_
          refine pw_istore (ls2 := [_, _, _, _, _, _, _]) e_Layout_takeBlock_90 (by decide) rfl ?_
          refine pw_iload e_Layout_takeBlock_92 rfl ?_
          refine pw_iload e_Layout_takeBlock_94 rfl ?_
          refine pw_max e_Layout_takeBlock_96 ml_Layout_94 (by decide) (Nat.le_of_ble_eq_true rfl) ?_
          refine pw_istore (ls2 := [_, _, _, _, _, _, _]) e_Layout_takeBlock_99 (by decide) rfl ?_
          refine pw_iincN (ls2 := [_, _, _, _, _, _, _]) e_Layout_takeBlock_101 rfl (by decide) rfl ?_
          refine pw_goto (tgt := 16) e_Layout_takeBlock_104 (by decide) ?_
          refine pw_fgt (ls' := [.ref (bd 27), .ref (p), .int (nI (b)), .int (x), .int (if er < ((((u2 ((f_Layout_claimSlot ((L 21) (pN P 12 l)) L).2) 22 l ((f_Layout_claimSlot ((L 21) (pN P 12 l)) L).1)) 22) l) + 1) then ((((u2 ((f_Layout_claimSlot ((L 21) (pN P 12 l)) L).2) 22 l ((f_Layout_claimSlot ((L 21) (pN P 12 l)) L).1)) 22) l) + 1) else er), .int (nI (l + 1)), .retAddr 0]) ⟨Or.inr rfl, Or.inr rfl, Or.inr rfl, Or.inr rfl, Or.inr rfl, Or.inr rfl, Or.inl rfl, trivial⟩ ?_
          refine ih (u2 ((f_Layout_claimSlot ((L 21) (pN P 12 l)) L).2) 22 l ((f_Layout_claimSlot ((L 21) (pN P 12 l)) L).1)) (if er < ((((u2 ((f_Layout_claimSlot ((L 21) (pN P 12 l)) L).2) 22 l ((f_Layout_claimSlot ((L 21) (pN P 12 l)) L).1)) 22) l) + 1) then ((((u2 ((f_Layout_claimSlot ((L 21) (pN P 12 l)) L).2) 22 l ((f_Layout_claimSlot ((L 21) (pN P 12 l)) L).1)) 22) l) + 1) else er) (l + 1) (by omega) (by omega) ?_
          rw [f_Layout_takeBlock_16, if_neg (Nat.not_le.mpr H1), if_pos H3, if_neg H5] at hk
          exact hk
theorem tb_keep (P : Nat → Nat → Int32) (b : Nat) (x : Int32) (n : Nat) : ∀ (t : Nat) (L : Nat → Nat → Int32) (er : Int32) (l : Nat) (a c : Nat), (a ≠ 32 ∨ (c ≠ 0 ∧ c ≠ 1)) → a ≠ 22 → (f_Layout_takeBlock_16 P b x n t L er l).2 a c = L a c := by
  intro t
  induction t with
  | zero => intro L er l a c _ _; rfl
  | succ t ih =>
    intro L er l a c hab ha
    rw [f_Layout_takeBlock_16]
    split
    · rfl
    · split
      · split
        · exact ih _ _ _ a c hab ha
        · rw [ih _ _ _ a c hab ha, u2, va_up, if_neg ha, cs_keep0 _ _ _ _ hab]
      · exact ih _ _ _ a c hab ha
def f_Layout_takeBlock (P : Nat → Nat → Int32) (b : Nat) (x : Int32) (n : Nat) (L : Nat → Nat → Int32) : (Nat → Nat → Int32) :=
  f_Layout_takeBlock_107 P b x n ((f_Layout_takeBlock_16 P b x n 13 L ((L 24) (pN P 1 b)) 0).2) ((f_Layout_takeBlock_16 P b x n 13 L ((L 24) (pN P 1 b)) 0).1)
set_option maxRecDepth 4000 in
theorem w_Layout_takeBlock_0 {g : GG} {Q : QT} {h : Hp} {kc ks : Nat} (hst : (gl g).stackTraces = false) {bd : Nat → Nat} (hnd : (gK (lyL g bd)).Nodup) {p : Nat} {ad : Nat → Nat} {P : Nat → Nat → Int32} (hP : ∀ {l : List (Nat × va_E)}, l.map Prod.fst = gK (lyL g bd) → Pl0 g p ad P (ov h l)) (hw : wfQ P) (b : Nat) (x : Int32) (hb : b < 10) (n : Nat) (hn : n < 10)  (L : Nat → Nat → Int32) (htk : L 32 2 = nI n) (hk : Q (.inl none) (ov h (gO (lyL g bd) (f_Layout_takeBlock P b x n L)))) : PW g M_Layout_takeBlock 2 kc ks Q 0 [.ref (bd 27), .ref (p), .int (nI (b)), .int (x), .retAddr 0, .retAddr 0, .retAddr 0] [] (ov h (gO (lyL g bd) L)) := by
  have hb0 := hw.lnk.2
  have hb1 := (hw.dev b).2
  refine pw_aload_n e_Layout_takeBlock_0 rfl ?_
  refine pw_getf e_Layout_takeBlock_1 fl_Layout_40 (gO_get hnd (i := 0) rfl) rfl ?_
  refine pw_aload_n e_Layout_takeBlock_4 rfl ?_
  refine pw_getf e_Layout_takeBlock_5 fl_Layout_91 (hP (gO_fst _ _)).o rfl ?_
  refine pw_iload_n e_Layout_takeBlock_8 rfl ?_
  have hb1 := hw.dev b
  refine pw_ialdC e_Layout_takeBlock_9 (hP (gO_fst _ _)).a1 (by omega) (by decide) hb1.1 ?_
  replace hb1 := hb1.2
  refine pw_ialdN e_Layout_takeBlock_10 (gO_get hnd (i := 7) rfl) (by omega) (by decide) ?_
  refine pw_istore (ls2 := [_, _, _, _, _, _, _]) e_Layout_takeBlock_11 (by decide) rfl ?_
  refine pw_iconst (v := nI 0) e_Layout_takeBlock_13 (by decide) ?_
  refine pw_istore (ls2 := [_, _, _, _, _, _, _]) e_Layout_takeBlock_14 (by decide) rfl ?_
  refine w_Layout_takeBlock_16 hst hnd hP hw b x hb n hn 13 L ((L 24) (pN P 1 b)) 0 (by omega) (by omega) ?_
  refine w_Layout_takeBlock_107 hst hnd hP hw b x hb n hn ((f_Layout_takeBlock_16 P b x n 13 L ((L 24) (pN P 1 b)) 0).2) ((f_Layout_takeBlock_16 P b x n 13 L ((L 24) (pN P 1 b)) 0).1) ((tb_keep P b x n _ _ _ _ 32 2 (Or.inr ⟨by decide, by decide⟩) (by decide)).trans htk) ?_
  rw [f_Layout_takeBlock] at hk
  exact hk
theorem q_Layout_takeBlock {g : GG} {h : Hp} (hst : (gl g).stackTraces = false) {bd : Nat → Nat} (hnd : (gK (lyL g bd)).Nodup) {p : Nat} {ad : Nat → Nat} {P : Nat → Nat → Int32} (hP : ∀ {l : List (Nat × va_E)}, l.map Prod.fst = gK (lyL g bd) → Pl0 g p ad P (ov h l)) (hw : wfQ P) (b : Nat) (x : Int32) (hb : b < 10) (n : Nat) (hn : n < 10)  (L : Nat → Nat → Int32) (hm : ∀ q ∈ gO (lyL g bd) L, h q.1 = some q.2) (htk : L 32 2 = nI n) : PM g M_Layout_takeBlock 2 0 0 [.ref (bd 27), .ref (p), .int (nI (b)), .int (x)] h (RetV none (ov h (gO (lyL g bd) (f_Layout_takeBlock P b x n L)))) := by
  refine PM.of hst (by decide) rfl (fun v hv => ?_) (Nat.le_of_ble_eq_true rfl) ?_
  · simp only [List.mem_cons, List.not_mem_nil, or_false] at hv; rcases hv with rfl | rfl | rfl | rfl <;> rfl
  · have hq := w_Layout_takeBlock_0 (g := g) (Q := RetV none (ov h (gO (lyL g bd) (f_Layout_takeBlock P b x n L)))) (h := h) (kc := 0) (ks := 0) hst hnd hP hw b x hb n hn L htk ?_
    · rw [ov_self hm] at hq; exact hq
    · exact ⟨rfl, rfl⟩

theorem se0 : ∀ (t : Nat) (L : Nat → Nat → Int32) (k : Nat), f_Layout_startEmpty_17 t L k 32 2 = L 32 2 := by
  intro t
  induction t with
  | zero => intro L k; rfl
  | succ t ih => intro L k; rw [f_Layout_startEmpty_17]; split; · rfl
                 · rw [ih]; rfl
theorem se1 : ∀ (t : Nat) (L : Nat → Nat → Int32) (k : Nat), f_Layout_startEmpty_38 t L k 32 2 = L 32 2 := by
  intro t
  induction t with
  | zero => intro L k; rfl
  | succ t ih => intro L k; rw [f_Layout_startEmpty_38]; split; · rfl
                 · rw [ih]; rfl
theorem se2 : ∀ (t : Nat) (L : Nat → Nat → Int32) (k : Nat), f_Layout_startEmpty_66 t L k 32 2 = L 32 2 := by
  intro t
  induction t with
  | zero => intro L k; rfl
  | succ t ih => intro L k; rw [f_Layout_startEmpty_66]; split; · rfl
                 · rw [ih]; rfl
theorem lay0 (L : Nat → Nat → Int32) : f_Layout_startEmpty L 32 2 = nI 0 := by
  rw [f_Layout_startEmpty, se2, se1, se0]; rfl
theorem tbk (P : Nat → Nat → Int32) (b : Nat) (x : Int32) (k : Nat) (L : Nat → Nat → Int32) (h : L 32 2 = nI k) : f_Layout_takeBlock P b x k L 32 2 = nI (k + 1) := by
  have h2 : (f_Layout_takeBlock_16 P b x k 13 L (L 24 (pN P 1 b)) 0).2 32 2 = nI k := (tb_keep P b x k _ _ _ _ 32 2 (Or.inr ⟨by decide, by decide⟩) (by decide)).trans h
  rw [f_Layout_takeBlock, f_Layout_takeBlock_107, nI_succ, ← h2]
  rfl
def f_Layout_lay_71 (P : Nat → Nat → Int32) (x y : Int32) : Nat → (Nat → Nat → Int32) → (Nat) → (Nat → Nat → Int32)
  | 0, L, _ => L
  | t + 1, L, l => if (pN P 31 0) ≤ l then L else if (pN P 14 l) = 2 then if (f_Layout_isAcross P l) = 0 then f_Layout_lay_71 P x y t L (l + 1) else f_Layout_lay_71 P x y t (u2 ((f_Layout_claimSlot ((L 21) (pN P 13 l)) L).2) 23 l ((f_Layout_claimSlot ((L 21) (pN P 13 l)) L).1)) (l + 1) else f_Layout_lay_71 P x y t L (l + 1)
set_option maxRecDepth 4000 in
theorem w_Layout_lay_71 {g : GG} {Q : QT} {h : Hp} {kc ks : Nat} (hst : (gl g).stackTraces = false) {bd : Nat → Nat} (hnd : (gK (lyL g bd)).Nodup) {p : Nat} {ad : Nat → Nat} {P : Nat → Nat → Int32} (hP : ∀ {l : List (Nat × va_E)}, l.map Prod.fst = gK (lyL g bd) → Pl0 g p ad P (ov h l)) (hw : wfQ P) (x y : Int32)  (t : Nat) : ∀ (L : Nat → Nat → Int32) (l : Nat) (hl1 : l < 13) (hlt : 12 - l < t) (hk : PW g M_Layout_lay 3 kc ks Q 138 [.ref (bd 27), .ref (p), .int (x), .int (y), .retAddr 0, .retAddr 0] [] (ov h (gO (lyL g bd) (f_Layout_lay_71 P x y t L l)))), PW g M_Layout_lay 3 kc ks Q 71 [.ref (bd 27), .ref (p), .int (x), .int (y), .int (nI (l)), .retAddr 0] [] (ov h (gO (lyL g bd) L)) := by
  induction t with
  | zero => intro L l hl1 hlt _; exact absurd hlt (Nat.not_lt_zero _)
  | succ t ih =>
    intro L l hl1 hlt hk
    have hb0 := hw.lnk.2
    have hb1 := hw.blk.2
    refine pw_iload e_Layout_lay_71 rfl ?_
    refine pw_aload_n e_Layout_lay_73 rfl ?_
    refine pw_getf e_Layout_lay_74 fl_Layout_62 (hP (gO_fst _ _)).o rfl ?_
    refine pw_getf e_Layout_lay_77 fl_Layout_66 (hP (gO_fst _ _)).k rfl ?_
    rw [hw.lnk.1]
    refine pw_icmp_geN (tgt := 138) e_Layout_lay_80 (by decide) (by omega) (by omega) (fun (H1 : (pN P 31 0) ≤ l) => ?_) (fun (H1 : l < (pN P 31 0)) => ?_)
    · refine pw_fgt (ls' := [.ref (bd 27), .ref (p), .int (x), .int (y), .retAddr 0, .retAddr 0]) ⟨Or.inr rfl, Or.inr rfl, Or.inr rfl, Or.inr rfl, Or.inl rfl, Or.inr rfl, trivial⟩ ?_
      rw [f_Layout_lay_71, if_pos H1] at hk
      exact hk
    · refine pw_aload_n e_Layout_lay_83 rfl ?_
      refine pw_getf e_Layout_lay_84 fl_Layout_62 (hP (gO_fst _ _)).o rfl ?_
      refine pw_getf e_Layout_lay_87 fl_Layout_71 (hP (gO_fst _ _)).k rfl ?_
      refine pw_iload e_Layout_lay_90 rfl ?_
      have hb2 := hw.whr l
      refine pw_ialdC e_Layout_lay_92 (hP (gO_fst _ _)).a14 (by omega) (by decide) hb2.1 ?_
      replace hb2 := hb2.2
      refine pw_iconst (v := nI 2) e_Layout_lay_93 (by decide) ?_
      refine pw_icmp_neN (tgt := 132) e_Layout_lay_94 (by decide) (by omega) (by omega) (fun (H3 : ¬ (pN P 14 l) = 2) => ?_) (fun (H3 : (pN P 14 l) = 2) => ?_)
      · refine pw_iincN (ls2 := [_, _, _, _, _, _]) e_Layout_lay_132 rfl (by decide) rfl ?_
        refine pw_goto (tgt := 71) e_Layout_lay_135 (by decide) ?_
        refine ih L (l + 1) (by omega) (by omega) ?_
        rw [f_Layout_lay_71, if_neg (Nat.not_le.mpr H1), if_neg H3] at hk
        exact hk
      · refine pw_aload_n e_Layout_lay_97 rfl ?_
        refine pw_iload e_Layout_lay_98 rfl ?_
        refine pw_detS (As := [.ref (p), .int (nI (l))]) e_Layout_lay_100 li_Layout_74 (q_Layout_isAcross hst (hP (gO_fst _ _)) hw l (by omega)) rfl (by decide) (Nat.le_of_ble_eq_true rfl) rfl ?_
        refine pw_if_eq (tgt := 132) e_Layout_lay_103 (by decide) (fun (H4 : (f_Layout_isAcross P l) = 0) => ?_) (fun (H4 : ¬ (f_Layout_isAcross P l) = 0) => ?_)
        · refine pw_iincN (ls2 := [_, _, _, _, _, _]) e_Layout_lay_132 rfl (by decide) rfl ?_
          refine pw_goto (tgt := 71) e_Layout_lay_135 (by decide) ?_
          refine ih L (l + 1) (by omega) (by omega) ?_
          rw [f_Layout_lay_71, if_neg (Nat.not_le.mpr H1), if_pos H3, if_pos H4] at hk
          exact hk
        · refine pw_aload_n e_Layout_lay_106 rfl ?_
          refine pw_getf e_Layout_lay_107 fl_Layout_37 (gO_get hnd (i := 0) rfl) rfl ?_
          refine pw_iload e_Layout_lay_110 rfl ?_
          refine pw_aload_n e_Layout_lay_112 rfl ?_
          refine pw_aload_n e_Layout_lay_113 rfl ?_
          refine pw_getf e_Layout_lay_114 fl_Layout_31 (gO_get hnd (i := 0) rfl) rfl ?_
          refine pw_aload_n e_Layout_lay_117 rfl ?_
          refine pw_getf e_Layout_lay_118 fl_Layout_62 (hP (gO_fst _ _)).o rfl ?_
          refine pw_getf e_Layout_lay_121 fl_Layout_78 (hP (gO_fst _ _)).k rfl ?_
          refine pw_iload e_Layout_lay_124 rfl ?_
          have hb5 := hw.to l
          refine pw_ialdC e_Layout_lay_126 (hP (gO_fst _ _)).a13 (by omega) (by decide) hb5.1 ?_
          replace hb5 := hb5.2
          refine pw_ialdN e_Layout_lay_127 (gO_get hnd (i := 4) rfl) (by omega) (by decide) ?_
          refine pw_detV (As := [.int ((L 21) (pN P 13 l))]) e_Layout_lay_128 li_Layout_81 rfl (gO_get hnd (i := 0) rfl) (q_Layout_claimSlot hst hnd ((L 21) (pN P 13 l)) L (gO_in hnd (fun _ z => z))) rfl (by decide) (Nat.le_of_ble_eq_true rfl) rfl ?_
          refine pw_sameG hnd ?_
          refine pw_iastG (i := 6) e_Layout_lay_131 hnd (ly_x _ _) rfl (by omega) (by decide) ?_
          refine pw_iincN (ls2 := [_, _, _, _, _, _]) e_Layout_lay_132 rfl (by decide) rfl ?_
          refine pw_goto (tgt := 71) e_Layout_lay_135 (by decide) ?_
          refine ih (u2 ((f_Layout_claimSlot ((L 21) (pN P 13 l)) L).2) 23 l ((f_Layout_claimSlot ((L 21) (pN P 13 l)) L).1)) (l + 1) (by omega) (by omega) ?_
          rw [f_Layout_lay_71, if_neg (Nat.not_le.mpr H1), if_pos H3, if_neg H4] at hk
          exact hk
def f_Layout_lay_7 (P : Nat → Nat → Int32) (x y : Int32) : Nat → (Nat → Nat → Int32) → (Nat) → (Nat → Nat → Int32)
  | 0, L, _ => L
  | t + 1, L, k => if (pN P 30 3) ≤ k then f_Layout_lay_71 P x y 13 L 0 else if (f_Layout_leastReady P L) = ((-1)) then L else if (nI (lrN P L)) = x then f_Layout_lay_7 P x y t (f_Layout_takeBlock P (lrN P L) (((P 2) (lrN P L)) + y) k L) (k + 1) else f_Layout_lay_7 P x y t (f_Layout_takeBlock P (lrN P L) ((P 2) (lrN P L)) k L) (k + 1)
set_option maxRecDepth 4000 in
theorem w_Layout_lay_7 {g : GG} {Q : QT} {h : Hp} {kc ks : Nat} (hst : (gl g).stackTraces = false) {bd : Nat → Nat} (hnd : (gK (lyL g bd)).Nodup) {p : Nat} {ad : Nat → Nat} {P : Nat → Nat → Int32} (hP : ∀ {l : List (Nat × va_E)}, l.map Prod.fst = gK (lyL g bd) → Pl0 g p ad P (ov h l)) (hw : wfQ P) (x y : Int32)  (t : Nat) : ∀ (L : Nat → Nat → Int32) (k : Nat) (hk1 : k < 11) (htk : L 32 2 = nI k) (hlt : 10 - k < t) (hk : Q (.inl none) (ov h (gO (lyL g bd) (f_Layout_lay_7 P x y t L k)))), PW g M_Layout_lay 3 kc ks Q 7 [.ref (bd 27), .ref (p), .int (x), .int (y), .int (nI (k)), .retAddr 0] [] (ov h (gO (lyL g bd) L)) := by
  induction t with
  | zero => intro L k hk1 htk hlt _; exact absurd hlt (Nat.not_lt_zero _)
  | succ t ih =>
    intro L k hk1 htk hlt hk
    have hb0 := hw.lnk.2
    have hb1 := hw.blk.2
    refine pw_iload e_Layout_lay_7 rfl ?_
    refine pw_aload_n e_Layout_lay_9 rfl ?_
    refine pw_getf e_Layout_lay_10 fl_Layout_46 (hP (gO_fst _ _)).o rfl ?_
    rw [hw.blk.1]
    refine pw_icmp_geN (tgt := 68) e_Layout_lay_13 (by decide) (by omega) (by omega) (fun (H1 : (pN P 30 3) ≤ k) => ?_) (fun (H1 : k < (pN P 30 3)) => ?_)
    · refine pw_iconst (v := nI 0) e_Layout_lay_68 (by decide) ?_
      refine pw_istore (ls2 := [_, _, _, _, _, _]) e_Layout_lay_69 (by decide) rfl ?_
      refine w_Layout_lay_71 hst hnd hP hw x y 13 L 0 (by omega) (by omega) ?_
      refine pw_vret e_Layout_lay_138 rfl ?_
      rw [f_Layout_lay_7, if_pos H1] at hk
      exact hk
    · refine pw_aload_n e_Layout_lay_16 rfl ?_
      refine pw_aload_n e_Layout_lay_17 rfl ?_
      refine pw_detV (As := [.ref (p)]) e_Layout_lay_18 li_Layout_51 rfl (gO_get hnd (i := 0) rfl) (q_Layout_leastReady hst L (gO_in hnd (fun _ z => z)) (hP (gO_fst _ _)) hw) rfl (by decide) (Nat.le_of_ble_eq_true rfl) rfl ?_
      refine pw_istore (ls2 := [_, _, _, _, _, _]) e_Layout_lay_21 (by decide) rfl ?_
      refine pw_iload e_Layout_lay_23 rfl ?_
      refine pw_iconst (v := (-1)) e_Layout_lay_25 (by decide) ?_
      refine pw_icmp_ne (tgt := 30) e_Layout_lay_26 (by decide) (fun (H2 : ¬ (f_Layout_leastReady P L) = ((-1))) => ?_) (fun (H2 : (f_Layout_leastReady P L) = ((-1))) => ?_)
      · have hlr := lr_nat hw H2
        rw [hlr.1]
        replace hlr := hlr.2
        refine pw_aload_n e_Layout_lay_30 rfl ?_
        refine pw_aload_n e_Layout_lay_31 rfl ?_
        refine pw_iload e_Layout_lay_32 rfl ?_
        refine pw_iload e_Layout_lay_34 rfl ?_
        refine pw_iload_n e_Layout_lay_36 rfl ?_
        refine pw_icmp_ne (tgt := 52) e_Layout_lay_37 (by decide) (fun (H3 : ¬ (nI (lrN P L)) = x) => ?_) (fun (H3 : (nI (lrN P L)) = x) => ?_)
        · refine pw_aload_n e_Layout_lay_52 rfl ?_
          refine pw_getf e_Layout_lay_53 fl_Layout_55 (hP (gO_fst _ _)).o rfl ?_
          refine pw_iload e_Layout_lay_56 rfl ?_
          refine pw_ialdN e_Layout_lay_58 (hP (gO_fst _ _)).a2 (by omega) (by decide) ?_
          refine pw_detV (As := [.ref (p), .int (nI (lrN P L)), .int ((P 2) (lrN P L))]) e_Layout_lay_59 li_Layout_58 rfl (gO_get hnd (i := 0) rfl) (q_Layout_takeBlock hst hnd (fun hl => by rw [ov_same hnd (gO_fst _ _) hl]; exact hP hl) hw (lrN P L) ((P 2) (lrN P L)) (by omega) k (by omega) L (gO_in hnd (fun _ z => z)) htk) rfl (by decide) (Nat.le_of_ble_eq_true rfl) rfl ?_
          refine pw_sameG hnd ?_
          refine pw_iincN (ls2 := [_, _, _, _, _, _]) e_Layout_lay_62 rfl (by decide) rfl ?_
          refine pw_goto (tgt := 7) e_Layout_lay_65 (by decide) ?_
          refine pw_fgt (ls' := [.ref (bd 27), .ref (p), .int (x), .int (y), .int (nI (k + 1)), .retAddr 0]) ⟨Or.inr rfl, Or.inr rfl, Or.inr rfl, Or.inr rfl, Or.inr rfl, Or.inl rfl, trivial⟩ ?_
          refine ih (f_Layout_takeBlock P (lrN P L) ((P 2) (lrN P L)) k L) (k + 1) (by omega) (by first | exact lay0 _ | exact tbk _ _ _ _ _ htk) (by omega) ?_
          rw [f_Layout_lay_7, if_neg (Nat.not_le.mpr H1), if_neg H2, if_neg H3] at hk
          exact hk
        · refine pw_aload_n e_Layout_lay_40 rfl ?_
          refine pw_getf e_Layout_lay_41 fl_Layout_55 (hP (gO_fst _ _)).o rfl ?_
          refine pw_iload e_Layout_lay_44 rfl ?_
          refine pw_ialdN e_Layout_lay_46 (hP (gO_fst _ _)).a2 (by omega) (by decide) ?_
          refine pw_iload_n e_Layout_lay_47 rfl ?_
          refine pw_iadd e_Layout_lay_48 ?_
          refine pw_goto (tgt := 59) e_Layout_lay_49 (by decide) ?_
          refine pw_detV (As := [.ref (p), .int (nI (lrN P L)), .int (((P 2) (lrN P L)) + y)]) e_Layout_lay_59 li_Layout_58 rfl (gO_get hnd (i := 0) rfl) (q_Layout_takeBlock hst hnd (fun hl => by rw [ov_same hnd (gO_fst _ _) hl]; exact hP hl) hw (lrN P L) (((P 2) (lrN P L)) + y) (by omega) k (by omega) L (gO_in hnd (fun _ z => z)) htk) rfl (by decide) (Nat.le_of_ble_eq_true rfl) rfl ?_
          refine pw_sameG hnd ?_
          refine pw_iincN (ls2 := [_, _, _, _, _, _]) e_Layout_lay_62 rfl (by decide) rfl ?_
          refine pw_goto (tgt := 7) e_Layout_lay_65 (by decide) ?_
          refine pw_fgt (ls' := [.ref (bd 27), .ref (p), .int (x), .int (y), .int (nI (k + 1)), .retAddr 0]) ⟨Or.inr rfl, Or.inr rfl, Or.inr rfl, Or.inr rfl, Or.inr rfl, Or.inl rfl, trivial⟩ ?_
          refine ih (f_Layout_takeBlock P (lrN P L) (((P 2) (lrN P L)) + y) k L) (k + 1) (by omega) (by first | exact lay0 _ | exact tbk _ _ _ _ _ htk) (by omega) ?_
          rw [f_Layout_lay_7, if_neg (Nat.not_le.mpr H1), if_neg H2, if_pos H3] at hk
          exact hk
      · refine pw_vret e_Layout_lay_29 rfl ?_
        rw [f_Layout_lay_7, if_neg (Nat.not_le.mpr H1), if_pos H2] at hk
        exact hk
def f_Layout_lay (P : Nat → Nat → Int32) (x y : Int32) (L : Nat → Nat → Int32) : (Nat → Nat → Int32) :=
  f_Layout_lay_7 P x y 11 (f_Layout_startEmpty L) 0
set_option maxRecDepth 4000 in
theorem w_Layout_lay_0 {g : GG} {Q : QT} {h : Hp} {kc ks : Nat} (hst : (gl g).stackTraces = false) {bd : Nat → Nat} (hnd : (gK (lyL g bd)).Nodup) {p : Nat} {ad : Nat → Nat} {P : Nat → Nat → Int32} (hP : ∀ {l : List (Nat × va_E)}, l.map Prod.fst = gK (lyL g bd) → Pl0 g p ad P (ov h l)) (hw : wfQ P) (x y : Int32)  (L : Nat → Nat → Int32) (hk : Q (.inl none) (ov h (gO (lyL g bd) (f_Layout_lay P x y L)))) : PW g M_Layout_lay 3 kc ks Q 0 [.ref (bd 27), .ref (p), .int (x), .int (y), .retAddr 0, .retAddr 0] [] (ov h (gO (lyL g bd) L)) := by
  have hb0 := hw.lnk.2
  have hb1 := hw.blk.2
  refine pw_aload_n e_Layout_lay_0 rfl ?_
  refine pw_detV (As := []) e_Layout_lay_1 li_Layout_43 rfl (gO_get hnd (i := 0) rfl) (q_Layout_startEmpty hst hnd L (gO_in hnd (fun _ z => z))) rfl (by decide) (Nat.le_of_ble_eq_true rfl) rfl ?_
  refine pw_sameG hnd ?_
  refine pw_iconst (v := nI 0) e_Layout_lay_4 (by decide) ?_
  refine pw_istore (ls2 := [_, _, _, _, _, _]) e_Layout_lay_5 (by decide) rfl ?_
  refine w_Layout_lay_7 hst hnd hP hw x y 11 (f_Layout_startEmpty L) 0 (by omega) (by first | exact lay0 _ | exact tbk _ _ _ _ _ htk) (by omega) ?_
  rw [f_Layout_lay] at hk
  exact hk
theorem q_Layout_lay {g : GG} {h : Hp} (hst : (gl g).stackTraces = false) {bd : Nat → Nat} (hnd : (gK (lyL g bd)).Nodup) {p : Nat} {ad : Nat → Nat} {P : Nat → Nat → Int32} (hP : ∀ {l : List (Nat × va_E)}, l.map Prod.fst = gK (lyL g bd) → Pl0 g p ad P (ov h l)) (hw : wfQ P) (x y : Int32)  (L : Nat → Nat → Int32) (hm : ∀ q ∈ gO (lyL g bd) L, h q.1 = some q.2) : PM g M_Layout_lay 3 0 0 [.ref (bd 27), .ref (p), .int (x), .int (y)] h (RetV none (ov h (gO (lyL g bd) (f_Layout_lay P x y L)))) := by
  refine PM.of hst (by decide) rfl (fun v hv => ?_) (Nat.le_of_ble_eq_true rfl) ?_
  · simp only [List.mem_cons, List.not_mem_nil, or_false] at hv; rcases hv with rfl | rfl | rfl | rfl <;> rfl
  · have hq := w_Layout_lay_0 (g := g) (Q := RetV none (ov h (gO (lyL g bd) (f_Layout_lay P x y L)))) (h := h) (kc := 0) (ks := 0) hst hnd hP hw x y L ?_
    · rw [ov_self hm] at hq; exact hq
    · exact ⟨rfl, rfl⟩

