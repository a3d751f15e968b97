/-! the reference: links, plants, clauses of a text (written by wip/whole/c_mod13.py) -/
def f_Mod_isPlace (x : Int32) (y : Int32) (z : Int32) : Int32 :=
  if z = 0 then if y = 1 then 1 else if y = 3 then 1 else 0 else if z = 1 then if y = 3 then 1 else 0 else if x = 1 then if y = 1 then 1 else if y = 2 then 1 else 0 else 0
set_option maxRecDepth 4000 in
theorem w_Mod_isPlace_0 {g : GG} {Q : QT} {h : Hp} {kc ks : Nat} (hst : (gl g).stackTraces = false) (x : Int32) (y : Int32) (z : Int32)  (hk : Q (.inl (some (.int (f_Mod_isPlace x y z)))) h) : PW g M_Mod_isPlace 0 kc ks Q 0 [.int (x), .int (y), .int (z)] [] h := by
  refine pw_iload_n e_Mod_isPlace_0 rfl ?_
  refine pw_if_ne (tgt := 20) e_Mod_isPlace_1 (by decide) (fun (H1 : ¬ z = 0) => ?_) (fun (H1 : z = 0) => ?_)
  · refine pw_iload_n e_Mod_isPlace_20 rfl ?_
    refine pw_iconst (v := nI 1) e_Mod_isPlace_21 (by decide) ?_
    refine pw_icmp_ne (tgt := 38) e_Mod_isPlace_22 (by decide) (fun (H2 : ¬ z = 1) => ?_) (fun (H2 : z = 1) => ?_)
    · refine pw_iload_n e_Mod_isPlace_38 rfl ?_
      refine pw_iconst (v := nI 1) e_Mod_isPlace_39 (by decide) ?_
      refine pw_icmp_ne (tgt := 57) e_Mod_isPlace_40 (by decide) (fun (H3 : ¬ x = 1) => ?_) (fun (H3 : x = 1) => ?_)
      · refine pw_iconst (v := nI 0) e_Mod_isPlace_57 (by decide) ?_
        refine pw_iret e_Mod_isPlace_58 rfl (by decide) ?_
        rw [f_Mod_isPlace, if_neg H1, if_neg H2, if_neg H3] at hk
        exact hk
      · refine pw_iload_n e_Mod_isPlace_43 rfl ?_
        refine pw_iconst (v := nI 1) e_Mod_isPlace_44 (by decide) ?_
        refine pw_icmp_eq (tgt := 53) e_Mod_isPlace_45 (by decide) (fun (H4 : y = 1) => ?_) (fun (H4 : ¬ y = 1) => ?_)
        · refine pw_iconst (v := nI 1) e_Mod_isPlace_53 (by decide) ?_
          refine pw_goto (tgt := 58) e_Mod_isPlace_54 (by decide) ?_
          refine pw_iret e_Mod_isPlace_58 rfl (by decide) ?_
          rw [f_Mod_isPlace, if_neg H1, if_neg H2, if_pos H3, if_pos H4] at hk
          exact hk
        · refine pw_iload_n e_Mod_isPlace_48 rfl ?_
          refine pw_iconst (v := nI 2) e_Mod_isPlace_49 (by decide) ?_
          refine pw_icmp_ne (tgt := 57) e_Mod_isPlace_50 (by decide) (fun (H5 : ¬ y = 2) => ?_) (fun (H5 : y = 2) => ?_)
          · refine pw_iconst (v := nI 0) e_Mod_isPlace_57 (by decide) ?_
            refine pw_iret e_Mod_isPlace_58 rfl (by decide) ?_
            rw [f_Mod_isPlace, if_neg H1, if_neg H2, if_pos H3, if_neg H4, if_neg H5] at hk
            exact hk
          · refine pw_iconst (v := nI 1) e_Mod_isPlace_53 (by decide) ?_
            refine pw_goto (tgt := 58) e_Mod_isPlace_54 (by decide) ?_
            refine pw_iret e_Mod_isPlace_58 rfl (by decide) ?_
            rw [f_Mod_isPlace, if_neg H1, if_neg H2, if_pos H3, if_neg H4, if_pos H5] at hk
            exact hk
    · refine pw_iload_n e_Mod_isPlace_25 rfl ?_
      refine pw_iconst (v := nI 3) e_Mod_isPlace_26 (by decide) ?_
      refine pw_icmp_ne (tgt := 34) e_Mod_isPlace_27 (by decide) (fun (H6 : ¬ y = 3) => ?_) (fun (H6 : y = 3) => ?_)
      · refine pw_iconst (v := nI 0) e_Mod_isPlace_34 (by decide) ?_
        refine pw_goto (tgt := 58) e_Mod_isPlace_35 (by decide) ?_
        refine pw_iret e_Mod_isPlace_58 rfl (by decide) ?_
        rw [f_Mod_isPlace, if_neg H1, if_pos H2, if_neg H6] at hk
        exact hk
      · refine pw_iconst (v := nI 1) e_Mod_isPlace_30 (by decide) ?_
        refine pw_goto (tgt := 58) e_Mod_isPlace_31 (by decide) ?_
        refine pw_iret e_Mod_isPlace_58 rfl (by decide) ?_
        rw [f_Mod_isPlace, if_neg H1, if_pos H2, if_pos H6] at hk
        exact hk
  · refine pw_iload_n e_Mod_isPlace_4 rfl ?_
    refine pw_iconst (v := nI 1) e_Mod_isPlace_5 (by decide) ?_
    refine pw_icmp_eq (tgt := 14) e_Mod_isPlace_6 (by decide) (fun (H7 : y = 1) => ?_) (fun (H7 : ¬ y = 1) => ?_)
    · refine pw_iconst (v := nI 1) e_Mod_isPlace_14 (by decide) ?_
      refine pw_goto (tgt := 19) e_Mod_isPlace_15 (by decide) ?_
      refine pw_iret e_Mod_isPlace_19 rfl (by decide) ?_
      rw [f_Mod_isPlace, if_pos H1, if_pos H7] at hk
      exact hk
    · refine pw_iload_n e_Mod_isPlace_9 rfl ?_
      refine pw_iconst (v := nI 3) e_Mod_isPlace_10 (by decide) ?_
      refine pw_icmp_ne (tgt := 18) e_Mod_isPlace_11 (by decide) (fun (H8 : ¬ y = 3) => ?_) (fun (H8 : y = 3) => ?_)
      · refine pw_iconst (v := nI 0) e_Mod_isPlace_18 (by decide) ?_
        refine pw_iret e_Mod_isPlace_19 rfl (by decide) ?_
        rw [f_Mod_isPlace, if_pos H1, if_neg H7, if_neg H8] at hk
        exact hk
      · refine pw_iconst (v := nI 1) e_Mod_isPlace_14 (by decide) ?_
        refine pw_goto (tgt := 19) e_Mod_isPlace_15 (by decide) ?_
        refine pw_iret e_Mod_isPlace_19 rfl (by decide) ?_
        rw [f_Mod_isPlace, if_pos H1, if_neg H7, if_pos H8] at hk
        exact hk
theorem q_Mod_isPlace {g : GG} {h : Hp} (hst : (gl g).stackTraces = false) (x : Int32) (y : Int32) (z : Int32)  : PM g M_Mod_isPlace 0 0 0 [.int (x), .int (y), .int (z)] h (RetV (some (.int (f_Mod_isPlace x y z))) h) := by
  refine PM.of hst (by decide) rfl (fun v hv => ?_) (Nat.le_of_ble_eq_true rfl) ?_
  · simp only [List.mem_cons, List.not_mem_nil, or_false] at hv; rcases hv with rfl | rfl | rfl <;> rfl
  · have hq := w_Mod_isPlace_0 (g := g) (Q := RetV (some (.int (f_Mod_isPlace x y z))) h) (h := h) (kc := 0) (ks := 0) hst x y z ?_
    · exact hq
    · exact ⟨rfl, rfl⟩

noncomputable def f_Mod_aheadOf_15 (f : Nat) : Nat → (Nat → Nat → Int32) → (Int32) → (Nat) → (Nat) → Int32 × (Nat → Nat → Int32)
  | 0, Z, _, _, _ => (0, Z)
  | t + 1, Z, u, k, l => if (pN Z 100 68) ≤ l then (u, Z) else if ((u >>> (((Z 61) l) &&& 31)) &&& 1) = 1 then f_Mod_aheadOf_15 f t Z (u ||| ((1 : Int32) <<< (((Z 60) l) &&& 31))) k (l + 1) else f_Mod_aheadOf_15 f t Z u k (l + 1)
set_option maxRecDepth 4000 in
theorem w_Mod_aheadOf_15 {g : GG} {Q : QT} {h : Hp} {kc ks : Nat} (hst : (gl g).stackTraces = false) {A : Nat → Nat} (hnd : (gK (moL g A)).Nodup) (f : Nat) (hf : f < 10)  (t : Nat) : ∀ (Z : Nat → Nat → Int32) (u : Int32) (k : Nat) (l : Nat) (hw : GoI Z) (hL : Z 100 68 = nI (pN Z 100 68) ∧ pN Z 100 68 < 13) (hl9 : l ≤ 12) (hlt : 12 - l < t) (hk : PW g M_Mod_aheadOf 0 kc ks Q 57 [.ref (A 100), .int (nI (f)), .int ((f_Mod_aheadOf_15 f t Z u k l).1), .int (nI (k)), .retAddr 0] [] (ov h (gO (moL g A) ((f_Mod_aheadOf_15 f t Z u k l).2)))), PW g M_Mod_aheadOf 0 kc ks Q 15 [.ref (A 100), .int (nI (f)), .int (u), .int (nI (k)), .int (nI (l))] [] (ov h (gO (moL g A) Z)) := by
  induction t with
  | zero => intro Z u k l hw hL hl9 hlt _; exact absurd hlt (Nat.not_lt_zero _)
  | succ t ih =>
    intro Z u k l hw hL hl9 hlt hk
    have hl12 := hL.2
    have hz0 := hw.1.2
    have hz1 := hw.2.1.2
    refine pw_iload e_Mod_aheadOf_15 rfl ?_
    refine pw_aload_n e_Mod_aheadOf_17 rfl ?_
    refine pw_getf e_Mod_aheadOf_18 fl_Mod_333 (gO_get hnd (i := 0) rfl) rfl ?_
    refine pw_eqst (congrArg (fun q => Value.int q :: [.int (nI (l))]) (show _ = nI (pN Z 100 68) from hL.1)) ?_
    refine pw_icmp_geN (tgt := 57) e_Mod_aheadOf_21 (by decide) (by omega) (by omega) (fun (H1 : (pN Z 100 68) ≤ l) => ?_) (fun (H1 : l < (pN Z 100 68)) => ?_)
    · refine pw_fgt (ls' := [.ref (A 100), .int (nI (f)), .int (u), .int (nI (k)), .retAddr 0]) ⟨Or.inr rfl, Or.inr rfl, Or.inr rfl, Or.inr rfl, Or.inl rfl, trivial⟩ ?_
      rw [f_Mod_aheadOf_15, if_pos H1] at hk
      exact hk
    · refine pw_iload_n e_Mod_aheadOf_24 rfl ?_
      refine pw_aload_n e_Mod_aheadOf_25 rfl ?_
      refine pw_getf e_Mod_aheadOf_26 fl_Mod_132 (gO_get hnd (i := 0) rfl) rfl ?_
      refine pw_iload e_Mod_aheadOf_29 rfl ?_
      refine pw_ialdN e_Mod_aheadOf_31 (gO_get hnd (i := 36) rfl) (by omega) (by decide) ?_
      refine pw_ishr e_Mod_aheadOf_32 ?_
      refine pw_iconst (v := nI 1) e_Mod_aheadOf_33 (by decide) ?_
      refine pw_iand e_Mod_aheadOf_34 ?_
      refine pw_iconst (v := nI 1) e_Mod_aheadOf_35 (by decide) ?_
      refine pw_icmp_ne (tgt := 51) e_Mod_aheadOf_36 (by decide) (fun (H2 : ¬ ((u >>> (((Z 61) l) &&& 31)) &&& 1) = 1) => ?_) (fun (H2 : ((u >>> (((Z 61) l) &&& 31)) &&& 1) = 1) => ?_)
      · refine pw_iincN (ls2 := [_, _, _, _, _]) e_Mod_aheadOf_51 rfl (by decide) rfl ?_
        refine pw_goto (tgt := 15) e_Mod_aheadOf_54 (by decide) ?_
        refine ih Z u k (l + 1) hw hL (by omega) (by omega) ?_
        rw [f_Mod_aheadOf_15, if_neg (Nat.not_le.mpr H1), if_neg H2] at hk
        exact hk
      · refine pw_iload_n e_Mod_aheadOf_39 rfl ?_
        refine pw_iconst (v := nI 1) e_Mod_aheadOf_40 (by decide) ?_
        refine pw_aload_n e_Mod_aheadOf_41 rfl ?_
        refine pw_getf e_Mod_aheadOf_42 fl_Mod_129 (gO_get hnd (i := 0) rfl) rfl ?_
        refine pw_iload e_Mod_aheadOf_45 rfl ?_
        refine pw_ialdN e_Mod_aheadOf_47 (gO_get hnd (i := 35) rfl) (by omega) (by decide) ?_
        refine pw_ishl e_Mod_aheadOf_48 ?_
        refine pw_ior e_Mod_aheadOf_49 ?_
        refine pw_istore_n (ls2 := [_, _, _, _, _]) e_Mod_aheadOf_50 (by decide) rfl ?_
        refine pw_iincN (ls2 := [_, _, _, _, _]) e_Mod_aheadOf_51 rfl (by decide) rfl ?_
        refine pw_goto (tgt := 15) e_Mod_aheadOf_54 (by decide) ?_
        refine ih Z (u ||| ((1 : Int32) <<< (((Z 60) l) &&& 31))) k (l + 1) hw hL (by omega) (by omega) ?_
        rw [f_Mod_aheadOf_15, if_neg (Nat.not_le.mpr H1), if_pos H2] at hk
        exact hk
theorem ah_Z {f : Nat} : ∀ {t : Nat} {Z : Nat → Nat → Int32} {u : Int32} {k l : Nat}, (f_Mod_aheadOf_15 f t Z u k l).2 = Z := by
  intro t
  induction t with
  | zero => intro Z u k l; rfl
  | succ t ih =>
    intro Z u k l
    rw [f_Mod_aheadOf_15]
    repeat' split
    all_goals first | rfl | exact ih
noncomputable def f_Mod_aheadOf_6 (f : Nat) : Nat → (Nat → Nat → Int32) → (Int32) → (Nat) → Int32
  | 0, _, _, _ => 0
  | t + 1, Z, u, k => if 10 ≤ k then u else f_Mod_aheadOf_6 f t Z ((f_Mod_aheadOf_15 f (fu 13) Z u k 0).1) (k + 1)
set_option maxRecDepth 4000 in
theorem w_Mod_aheadOf_6 {g : GG} {Q : QT} {h : Hp} {kc ks : Nat} (hst : (gl g).stackTraces = false) {A : Nat → Nat} (hnd : (gK (moL g A)).Nodup) (f : Nat) (hf : f < 10)  (t : Nat) : ∀ (Z : Nat → Nat → Int32) (u : Int32) (k : Nat) (hw : GoI Z) (hL : Z 100 68 = nI (pN Z 100 68) ∧ pN Z 100 68 < 13) (hk9 : k ≤ 10) (hlt : 10 - k < t) (hk : Q (.inl (some (.int (f_Mod_aheadOf_6 f t Z u k)))) (ov h (gO (moL g A) Z))), PW g M_Mod_aheadOf 0 kc ks Q 6 [.ref (A 100), .int (nI (f)), .int (u), .int (nI (k)), .retAddr 0] [] (ov h (gO (moL g A) Z)) := by
  induction t with
  | zero => intro Z u k hw hL hk9 hlt _; exact absurd hlt (Nat.not_lt_zero _)
  | succ t ih =>
    intro Z u k hw hL hk9 hlt hk
    have hl12 := hL.2
    have hz0 := hw.1.2
    have hz1 := hw.2.1.2
    refine pw_iload_n e_Mod_aheadOf_6 rfl ?_
    refine pw_bipush (v := nI 10) e_Mod_aheadOf_7 (by decide) ?_
    refine pw_icmp_geN (tgt := 63) e_Mod_aheadOf_9 (by decide) (by omega) (by omega) (fun (H1 : 10 ≤ k) => ?_) (fun (H1 : k < 10) => ?_)
    · refine pw_iload_n e_Mod_aheadOf_63 rfl ?_
      refine pw_iret e_Mod_aheadOf_64 rfl rfl ?_
      rw [f_Mod_aheadOf_6, if_pos H1] at hk
      exact hk
    · refine pw_iconst (v := nI 0) e_Mod_aheadOf_12 (by decide) ?_
      refine pw_istore (ls2 := [_, _, _, _, _]) e_Mod_aheadOf_13 (by decide) rfl ?_
      refine w_Mod_aheadOf_15 hst hnd f hf (fu 13) Z u k 0 hw hL (by omega) (by rw [fu_eq]; omega) ?_
      rw [ah_Z]
      refine pw_iincN (ls2 := [_, _, _, _, _]) e_Mod_aheadOf_57 rfl (by decide) rfl ?_
      refine pw_goto (tgt := 6) e_Mod_aheadOf_60 (by decide) ?_
      refine ih Z ((f_Mod_aheadOf_15 f (fu 13) Z u k 0).1) (k + 1) hw hL (by omega) (by omega) ?_
      rw [f_Mod_aheadOf_6, if_neg (Nat.not_le.mpr H1)] at hk
      exact hk
noncomputable def f_Mod_aheadOf (f : Nat) (Z : Nat → Nat → Int32) : Int32 :=
  f_Mod_aheadOf_6 f (fu 11) Z ((1 : Int32) <<< ((nI (f)) &&& 31)) 0
set_option maxRecDepth 4000 in
theorem w_Mod_aheadOf_0 {g : GG} {Q : QT} {h : Hp} {kc ks : Nat} (hst : (gl g).stackTraces = false) {A : Nat → Nat} (hnd : (gK (moL g A)).Nodup) (f : Nat) (hf : f < 10)  (Z : Nat → Nat → Int32) (hw : GoI Z) (hL : Z 100 68 = nI (pN Z 100 68) ∧ pN Z 100 68 < 13) (hk : Q (.inl (some (.int (f_Mod_aheadOf f Z)))) (ov h (gO (moL g A) Z))) : PW g M_Mod_aheadOf 0 kc ks Q 0 [.ref (A 100), .int (nI (f)), .retAddr 0, .retAddr 0, .retAddr 0] [] (ov h (gO (moL g A) Z)) := by
  have hl12 := hL.2
  have hz0 := hw.1.2
  have hz1 := hw.2.1.2
  refine pw_iconst (v := nI 1) e_Mod_aheadOf_0 (by decide) ?_
  refine pw_iload_n e_Mod_aheadOf_1 rfl ?_
  refine pw_ishl e_Mod_aheadOf_2 ?_
  refine pw_istore_n (ls2 := [_, _, _, _, _]) e_Mod_aheadOf_3 (by decide) rfl ?_
  refine pw_iconst (v := nI 0) e_Mod_aheadOf_4 (by decide) ?_
  refine pw_istore_n (ls2 := [_, _, _, _, _]) e_Mod_aheadOf_5 (by decide) rfl ?_
  refine w_Mod_aheadOf_6 hst hnd f hf (fu 11) Z ((1 : Int32) <<< ((nI (f)) &&& 31)) 0 hw hL (by omega) (by rw [fu_eq]; omega) ?_
  rw [f_Mod_aheadOf] at hk
  exact hk
theorem q_Mod_aheadOf {g : GG} {h : Hp} (hst : (gl g).stackTraces = false) {A : Nat → Nat} (hnd : (gK (moL g A)).Nodup) (f : Nat) (hf : f < 10)  (Z : Nat → Nat → Int32) (hm : ∀ q ∈ gO (moL g A) Z, h q.1 = some q.2) (hw : GoI Z) (hL : Z 100 68 = nI (pN Z 100 68) ∧ pN Z 100 68 < 13) : PM g M_Mod_aheadOf 0 0 0 [.ref (A 100), .int (nI (f))] h (RetV (some (.int (f_Mod_aheadOf f Z))) h) := by
  refine PM.of hst (by decide) rfl (fun v hv => ?_) (Nat.le_of_ble_eq_true rfl) ?_
  · simp only [List.mem_cons, List.not_mem_nil, or_false] at hv; rcases hv with rfl | rfl <;> rfl
  · have hq := w_Mod_aheadOf_0 (g := g) (Q := RetV (some (.int (f_Mod_aheadOf f Z))) h) (h := h) (kc := 0) (ks := 0) hst hnd f hf Z hw hL ?_
    · rw [ov_self hm] at hq; exact hq
    · exact ⟨rfl, ov_self hm⟩

noncomputable def f_Mod_isFree_3 (f : Nat) (b : Nat) (w : Int32) : Nat → (Nat → Nat → Int32) → (Nat) → Int32
  | 0, _, _ => 0
  | t + 1, Z, l => if (pN Z 100 68) ≤ l then if (((f_Mod_aheadOf f Z) >>> ((nI (b)) &&& 31)) &&& 1) = 0 then 1 else 0 else if ((Z 61) l) = (nI (b)) then if ((Z 62) l) = w then 0 else if w = 2 then if ((Z 62) l) = 2 then if ((Z 60) l) = (nI (f)) then 0 else f_Mod_isFree_3 f b w t Z (l + 1) else f_Mod_isFree_3 f b w t Z (l + 1) else f_Mod_isFree_3 f b w t Z (l + 1) else if w = 2 then if ((Z 62) l) = 2 then if ((Z 60) l) = (nI (f)) then 0 else f_Mod_isFree_3 f b w t Z (l + 1) else f_Mod_isFree_3 f b w t Z (l + 1) else f_Mod_isFree_3 f b w t Z (l + 1)
set_option maxRecDepth 4000 in
theorem w_Mod_isFree_3 {g : GG} {Q : QT} {h : Hp} {kc ks : Nat} (hst : (gl g).stackTraces = false) {A : Nat → Nat} (hnd : (gK (moL g A)).Nodup) (f : Nat) (b : Nat) (w : Int32) (hf : f < 10)  (t : Nat) : ∀ (Z : Nat → Nat → Int32) (l : Nat) (hw : GoI Z) (hL : Z 100 68 = nI (pN Z 100 68) ∧ pN Z 100 68 < 13) (hl9 : l ≤ 12) (hlt : 12 - l < t) (hk : Q (.inl (some (.int (f_Mod_isFree_3 f b w t Z l)))) (ov h (gO (moL g A) Z))), PW g M_Mod_isFree 1 kc ks Q 3 [.ref (A 100), .int (nI (f)), .int (nI (b)), .int (w), .int (nI (l))] [] (ov h (gO (moL g A) Z)) := by
  induction t with
  | zero => intro Z l hw hL hl9 hlt _; exact absurd hlt (Nat.not_lt_zero _)
  | succ t ih =>
    intro Z l hw hL hl9 hlt hk
    have hl12 := hL.2
    have hz0 := hw.1.2
    have hz1 := hw.2.1.2
    refine pw_iload e_Mod_isFree_3 rfl ?_
    refine pw_aload_n e_Mod_isFree_5 rfl ?_
    refine pw_getf e_Mod_isFree_6 fl_Mod_333 (gO_get hnd (i := 0) rfl) rfl ?_
    refine pw_eqst (congrArg (fun q => Value.int q :: [.int (nI (l))]) (show _ = nI (pN Z 100 68) from hL.1)) ?_
    refine pw_icmp_geN (tgt := 69) e_Mod_isFree_9 (by decide) (by omega) (by omega) (fun (H1 : (pN Z 100 68) ≤ l) => ?_) (fun (H1 : l < (pN Z 100 68)) => ?_)
    · refine pw_aload_n e_Mod_isFree_69 rfl ?_
      refine pw_iload_n e_Mod_isFree_70 rfl ?_
      refine pw_detV (As := [.int (nI (f))]) e_Mod_isFree_71 li_Mod_336 rfl (gO_get hnd (i := 0) rfl) (q_Mod_aheadOf hst hnd f (by omega) Z (gO_in hnd (fun _ z => z)) hw hL) rfl (by decide) (Nat.le_of_ble_eq_true rfl) rfl ?_
      refine pw_iload_n e_Mod_isFree_74 rfl ?_
      refine pw_ishr e_Mod_isFree_75 ?_
      refine pw_iconst (v := nI 1) e_Mod_isFree_76 (by decide) ?_
      refine pw_iand e_Mod_isFree_77 ?_
      refine pw_if_ne (tgt := 85) e_Mod_isFree_78 (by decide) (fun (H2 : ¬ (((f_Mod_aheadOf f Z) >>> ((nI (b)) &&& 31)) &&& 1) = 0) => ?_) (fun (H2 : (((f_Mod_aheadOf f Z) >>> ((nI (b)) &&& 31)) &&& 1) = 0) => ?_)
      · refine pw_iconst (v := nI 0) e_Mod_isFree_85 (by decide) ?_
        refine pw_iret e_Mod_isFree_86 rfl (by decide) ?_
        rw [f_Mod_isFree_3, if_pos H1, if_neg H2] at hk
        exact hk
      · refine pw_iconst (v := nI 1) e_Mod_isFree_81 (by decide) ?_
        refine pw_goto (tgt := 86) e_Mod_isFree_82 (by decide) ?_
        refine pw_iret e_Mod_isFree_86 rfl (by decide) ?_
        rw [f_Mod_isFree_3, if_pos H1, if_pos H2] at hk
        exact hk
    · refine pw_aload_n e_Mod_isFree_12 rfl ?_
      refine pw_getf e_Mod_isFree_13 fl_Mod_132 (gO_get hnd (i := 0) rfl) rfl ?_
      refine pw_iload e_Mod_isFree_16 rfl ?_
      refine pw_ialdN e_Mod_isFree_18 (gO_get hnd (i := 36) rfl) (by omega) (by decide) ?_
      refine pw_iload_n e_Mod_isFree_19 rfl ?_
      refine pw_icmp_ne (tgt := 34) e_Mod_isFree_20 (by decide) (fun (H3 : ¬ ((Z 61) l) = (nI (b))) => ?_) (fun (H3 : ((Z 61) l) = (nI (b))) => ?_)
      · refine pw_iload_n e_Mod_isFree_34 rfl ?_
        refine pw_iconst (v := nI 2) e_Mod_isFree_35 (by decide) ?_
        refine pw_icmp_ne (tgt := 63) e_Mod_isFree_36 (by decide) (fun (H4 : ¬ w = 2) => ?_) (fun (H4 : w = 2) => ?_)
        · refine pw_iincN (ls2 := [_, _, _, _, _]) e_Mod_isFree_63 rfl (by decide) rfl ?_
          refine pw_goto (tgt := 3) e_Mod_isFree_66 (by decide) ?_
          refine ih Z (l + 1) hw hL (by omega) (by omega) ?_
          rw [f_Mod_isFree_3, if_neg (Nat.not_le.mpr H1), if_neg H3, if_neg H4] at hk
          exact hk
        · refine pw_aload_n e_Mod_isFree_39 rfl ?_
          refine pw_getf e_Mod_isFree_40 fl_Mod_135 (gO_get hnd (i := 0) rfl) rfl ?_
          refine pw_iload e_Mod_isFree_43 rfl ?_
          refine pw_ialdN e_Mod_isFree_45 (gO_get hnd (i := 37) rfl) (by omega) (by decide) ?_
          refine pw_iconst (v := nI 2) e_Mod_isFree_46 (by decide) ?_
          refine pw_icmp_ne (tgt := 63) e_Mod_isFree_47 (by decide) (fun (H5 : ¬ ((Z 62) l) = 2) => ?_) (fun (H5 : ((Z 62) l) = 2) => ?_)
          · refine pw_iincN (ls2 := [_, _, _, _, _]) e_Mod_isFree_63 rfl (by decide) rfl ?_
            refine pw_goto (tgt := 3) e_Mod_isFree_66 (by decide) ?_
            refine ih Z (l + 1) hw hL (by omega) (by omega) ?_
            rw [f_Mod_isFree_3, if_neg (Nat.not_le.mpr H1), if_neg H3, if_pos H4, if_neg H5] at hk
            exact hk
          · refine pw_aload_n e_Mod_isFree_50 rfl ?_
            refine pw_getf e_Mod_isFree_51 fl_Mod_129 (gO_get hnd (i := 0) rfl) rfl ?_
            refine pw_iload e_Mod_isFree_54 rfl ?_
            refine pw_ialdN e_Mod_isFree_56 (gO_get hnd (i := 35) rfl) (by omega) (by decide) ?_
            refine pw_iload_n e_Mod_isFree_57 rfl ?_
            refine pw_icmp_ne (tgt := 63) e_Mod_isFree_58 (by decide) (fun (H6 : ¬ ((Z 60) l) = (nI (f))) => ?_) (fun (H6 : ((Z 60) l) = (nI (f))) => ?_)
            · refine pw_iincN (ls2 := [_, _, _, _, _]) e_Mod_isFree_63 rfl (by decide) rfl ?_
              refine pw_goto (tgt := 3) e_Mod_isFree_66 (by decide) ?_
              refine ih Z (l + 1) hw hL (by omega) (by omega) ?_
              rw [f_Mod_isFree_3, if_neg (Nat.not_le.mpr H1), if_neg H3, if_pos H4, if_pos H5, if_neg H6] at hk
              exact hk
            · refine pw_iconst (v := nI 0) e_Mod_isFree_61 (by decide) ?_
              refine pw_iret e_Mod_isFree_62 rfl (by decide) ?_
              rw [f_Mod_isFree_3, if_neg (Nat.not_le.mpr H1), if_neg H3, if_pos H4, if_pos H5, if_pos H6] at hk
              exact hk
      · refine pw_aload_n e_Mod_isFree_23 rfl ?_
        refine pw_getf e_Mod_isFree_24 fl_Mod_135 (gO_get hnd (i := 0) rfl) rfl ?_
        refine pw_iload e_Mod_isFree_27 rfl ?_
        refine pw_ialdN e_Mod_isFree_29 (gO_get hnd (i := 37) rfl) (by omega) (by decide) ?_
        refine pw_iload_n e_Mod_isFree_30 rfl ?_
        refine pw_icmp_eq (tgt := 61) e_Mod_isFree_31 (by decide) (fun (H7 : ((Z 62) l) = w) => ?_) (fun (H7 : ¬ ((Z 62) l) = w) => ?_)
        · refine pw_iconst (v := nI 0) e_Mod_isFree_61 (by decide) ?_
          refine pw_iret e_Mod_isFree_62 rfl (by decide) ?_
          rw [f_Mod_isFree_3, if_neg (Nat.not_le.mpr H1), if_pos H3, if_pos H7] at hk
          exact hk
        · refine pw_iload_n e_Mod_isFree_34 rfl ?_
          refine pw_iconst (v := nI 2) e_Mod_isFree_35 (by decide) ?_
          refine pw_icmp_ne (tgt := 63) e_Mod_isFree_36 (by decide) (fun (H8 : ¬ w = 2) => ?_) (fun (H8 : w = 2) => ?_)
          · refine pw_iincN (ls2 := [_, _, _, _, _]) e_Mod_isFree_63 rfl (by decide) rfl ?_
            refine pw_goto (tgt := 3) e_Mod_isFree_66 (by decide) ?_
            refine ih Z (l + 1) hw hL (by omega) (by omega) ?_
            rw [f_Mod_isFree_3, if_neg (Nat.not_le.mpr H1), if_pos H3, if_neg H7, if_neg H8] at hk
            exact hk
          · refine pw_aload_n e_Mod_isFree_39 rfl ?_
            refine pw_getf e_Mod_isFree_40 fl_Mod_135 (gO_get hnd (i := 0) rfl) rfl ?_
            refine pw_iload e_Mod_isFree_43 rfl ?_
            refine pw_ialdN e_Mod_isFree_45 (gO_get hnd (i := 37) rfl) (by omega) (by decide) ?_
            refine pw_iconst (v := nI 2) e_Mod_isFree_46 (by decide) ?_
            refine pw_icmp_ne (tgt := 63) e_Mod_isFree_47 (by decide) (fun (H9 : ¬ ((Z 62) l) = 2) => ?_) (fun (H9 : ((Z 62) l) = 2) => ?_)
            · refine pw_iincN (ls2 := [_, _, _, _, _]) e_Mod_isFree_63 rfl (by decide) rfl ?_
              refine pw_goto (tgt := 3) e_Mod_isFree_66 (by decide) ?_
              refine ih Z (l + 1) hw hL (by omega) (by omega) ?_
              rw [f_Mod_isFree_3, if_neg (Nat.not_le.mpr H1), if_pos H3, if_neg H7, if_pos H8, if_neg H9] at hk
              exact hk
            · refine pw_aload_n e_Mod_isFree_50 rfl ?_
              refine pw_getf e_Mod_isFree_51 fl_Mod_129 (gO_get hnd (i := 0) rfl) rfl ?_
              refine pw_iload e_Mod_isFree_54 rfl ?_
              refine pw_ialdN e_Mod_isFree_56 (gO_get hnd (i := 35) rfl) (by omega) (by decide) ?_
              refine pw_iload_n e_Mod_isFree_57 rfl ?_
              refine pw_icmp_ne (tgt := 63) e_Mod_isFree_58 (by decide) (fun (H10 : ¬ ((Z 60) l) = (nI (f))) => ?_) (fun (H10 : ((Z 60) l) = (nI (f))) => ?_)
              · refine pw_iincN (ls2 := [_, _, _, _, _]) e_Mod_isFree_63 rfl (by decide) rfl ?_
                refine pw_goto (tgt := 3) e_Mod_isFree_66 (by decide) ?_
                refine ih Z (l + 1) hw hL (by omega) (by omega) ?_
                rw [f_Mod_isFree_3, if_neg (Nat.not_le.mpr H1), if_pos H3, if_neg H7, if_pos H8, if_pos H9, if_neg H10] at hk
                exact hk
              · refine pw_iconst (v := nI 0) e_Mod_isFree_61 (by decide) ?_
                refine pw_iret e_Mod_isFree_62 rfl (by decide) ?_
                rw [f_Mod_isFree_3, if_neg (Nat.not_le.mpr H1), if_pos H3, if_neg H7, if_pos H8, if_pos H9, if_pos H10] at hk
                exact hk
noncomputable def f_Mod_isFree (f : Nat) (b : Nat) (w : Int32) (Z : Nat → Nat → Int32) : Int32 :=
  f_Mod_isFree_3 f b w (fu 13) Z 0
set_option maxRecDepth 4000 in
theorem w_Mod_isFree_0 {g : GG} {Q : QT} {h : Hp} {kc ks : Nat} (hst : (gl g).stackTraces = false) {A : Nat → Nat} (hnd : (gK (moL g A)).Nodup) (f : Nat) (b : Nat) (w : Int32) (hf : f < 10)  (Z : Nat → Nat → Int32) (hw : GoI Z) (hL : Z 100 68 = nI (pN Z 100 68) ∧ pN Z 100 68 < 13) (hk : Q (.inl (some (.int (f_Mod_isFree f b w Z)))) (ov h (gO (moL g A) Z))) : PW g M_Mod_isFree 1 kc ks Q 0 [.ref (A 100), .int (nI (f)), .int (nI (b)), .int (w), .retAddr 0] [] (ov h (gO (moL g A) Z)) := by
  have hl12 := hL.2
  have hz0 := hw.1.2
  have hz1 := hw.2.1.2
  refine pw_iconst (v := nI 0) e_Mod_isFree_0 (by decide) ?_
  refine pw_istore (ls2 := [_, _, _, _, _]) e_Mod_isFree_1 (by decide) rfl ?_
  refine w_Mod_isFree_3 hst hnd f b w hf (fu 13) Z 0 hw hL (by omega) (by rw [fu_eq]; omega) ?_
  rw [f_Mod_isFree] at hk
  exact hk
theorem q_Mod_isFree {g : GG} {h : Hp} (hst : (gl g).stackTraces = false) {A : Nat → Nat} (hnd : (gK (moL g A)).Nodup) (f : Nat) (b : Nat) (w : Int32) (hf : f < 10)  (Z : Nat → Nat → Int32) (hm : ∀ q ∈ gO (moL g A) Z, h q.1 = some q.2) (hw : GoI Z) (hL : Z 100 68 = nI (pN Z 100 68) ∧ pN Z 100 68 < 13) : PM g M_Mod_isFree 1 0 0 [.ref (A 100), .int (nI (f)), .int (nI (b)), .int (w)] h (RetV (some (.int (f_Mod_isFree f b w Z))) h) := by
  refine PM.of hst (by decide) rfl (fun v hv => ?_) (Nat.le_of_ble_eq_true rfl) ?_
  · simp only [List.mem_cons, List.not_mem_nil, or_false] at hv; rcases hv with rfl | rfl | rfl | rfl <;> rfl
  · have hq := w_Mod_isFree_0 (g := g) (Q := RetV (some (.int (f_Mod_isFree f b w Z))) h) (h := h) (kc := 0) (ks := 0) hst hnd f b w hf Z hw hL ?_
    · rw [ov_self hm] at hq; exact hq
    · exact ⟨rfl, ov_self hm⟩

theorem b68 {Z : Nat → Nat → Int32} (h : Z 100 68 = nI (pN Z 100 68) ∧ pN Z 100 68 < 13) (H : ¬ 12 ≤ Z 100 68) : Z 100 68 = nI (pN Z 100 68) ∧ pN Z 100 68 < 12 := by
  refine ⟨h.1, ?_⟩
  rw [h.1, i_le, nI_toInt (by omega), show (12 : Int32).toInt = 12 by decide] at H
  omega
theorem nn.lt {Z Y : Nat → Nat → Int32} (h : Z 100 68 = nI (pN Z 100 68) ∧ pN Z 100 68 < 12) (r : RW Z Y) : Y 100 68 = nI (pN Y 100 68) ∧ pN Y 100 68 < 13 := by
  have q := nn.rw (i := 68) (by unfold goK; decide) h r
  exact ⟨q.1, by omega⟩
theorem nd_9 {y : Int32} {Z : Nat → Nat → Int32} (hw : GoI Z) (hy : ∃ m, y = nI m ∧ m < 2 ^ 30) : (f_Mod_named (nI 9) y Z).1 = nI (f_Mod_named (nI 9) y Z).1.toNatClampNeg ∧ (f_Mod_named (nI 9) y Z).1.toNatClampNeg < 10 := by
  obtain ⟨m, rfl, hm⟩ := hy
  obtain ⟨n, e, h1, -⟩ := nd_v (a := 9) (m := m) hw (by decide) hm
  rw [e, nI_clamp (by omega)]; exact ⟨rfl, by omega⟩
theorem b67n {Z : Nat → Nat → Int32} (h : Z 100 67 = nI (pN Z 100 67) ∧ pN Z 100 67 < 11) : ∃ m, Z 100 67 = nI m ∧ m < 2 ^ 30 := ⟨_, h.1, by omega⟩
theorem v4 {W Q : Nat → Nat → Int32} (hw : GoI W) (e : Q 100 50 = W 100 50) (H : ¬ 4 ≤ W 100 50) : pN Q 100 50 < 4 := by
  have h := hw.2.2
  rw [pN_o e]
  rw [h.1, i_le, nI_toInt (by omega), show (4 : Int32).toInt = 4 by decide] at H
  omega
noncomputable def f_Mod_link1_140  (Z : Nat → Nat → Int32) (f : Nat) (t : Nat) (w : Int32) : (Nat → Nat → Int32) :=
  u2 (u2 (u2 (u2 (s_Mod_go Z) 60 (pN Z 100 68) (nI (f))) 61 (pN Z 100 68) (nI (t))) 62 (pN Z 100 68) w) 100 68 (nI ((pN Z 100 68) + 1))
set_option maxRecDepth 4000 in
theorem w_Mod_link1_140 {g : GG} {Q : QT} {h : Hp} {kc ks : Nat} (hst : (gl g).stackTraces = false) {A : Nat → Nat} (hnd : (gK (moL g A)).Nodup)  (Z : Nat → Nat → Int32) (f : Nat) (t : Nat) (w : Int32) (hw : GoI Z) (hL : Z 100 68 = nI (pN Z 100 68) ∧ pN Z 100 68 < 12) (hf : f < 10) (ht : t < 10) (hk : Q (.inl none) (ov h (gO (moL g A) (f_Mod_link1_140  Z f t w)))) : PW g M_Mod_link1 4 kc ks Q 140 [.ref (A 100), .int (nI (f)), .int (nI (t)), .int (w)] [] (ov h (gO (moL g A) Z)) := by
  have hl12 := hL.2
  have hz0 := hw.1.2
  have hz1 := hw.2.1.2
  refine pw_aload_n e_Mod_link1_140 rfl ?_
  refine pw_detV (As := []) e_Mod_link1_141 li_Mod_315 rfl (gO_get hnd (i := 0) rfl) (qs_Mod_go hst hnd Z (gO_in hnd (fun _ z => z)) hw) rfl (by decide) (Nat.le_of_ble_eq_true rfl) rfl ?_
  refine pw_sameG hnd ?_
  refine pw_aload_n e_Mod_link1_144 rfl ?_
  refine pw_getf e_Mod_link1_145 fl_Mod_129 (gO_get hnd (i := 0) rfl) rfl ?_
  refine pw_aload_n e_Mod_link1_148 rfl ?_
  refine pw_getf e_Mod_link1_149 fl_Mod_333 (gO_get hnd (i := 0) rfl) rfl ?_
  refine pw_eqst (congrArg (fun q => Value.int q :: [.ref (A 60)]) (show _ = nI (pN Z 100 68) from (((go_s hw).2.1.2 68 (by unfold goK; decide)).trans hL.1))) ?_
  refine pw_iload_n e_Mod_link1_152 rfl ?_
  refine pw_iastG (i := 35) e_Mod_link1_153 hnd (mo_x _ _) rfl (by omega) (by decide) ?_
  refine pw_aload_n e_Mod_link1_154 rfl ?_
  refine pw_getf e_Mod_link1_155 fl_Mod_132 (gO_get hnd (i := 0) rfl) rfl ?_
  refine pw_aload_n e_Mod_link1_158 rfl ?_
  refine pw_getf e_Mod_link1_159 fl_Mod_333 (gO_get hnd (i := 0) rfl) rfl ?_
  refine pw_eqst (congrArg (fun q => Value.int q :: [.ref (A 61)]) (show _ = nI (pN Z 100 68) from (u2_o (by decide) (((go_s hw).2.1.2 68 (by unfold goK; decide)).trans hL.1)))) ?_
  refine pw_iload_n e_Mod_link1_162 rfl ?_
  refine pw_iastG (i := 36) e_Mod_link1_163 hnd (mo_x _ _) rfl (by omega) (by decide) ?_
  refine pw_aload_n e_Mod_link1_164 rfl ?_
  refine pw_getf e_Mod_link1_165 fl_Mod_135 (gO_get hnd (i := 0) rfl) rfl ?_
  refine pw_aload_n e_Mod_link1_168 rfl ?_
  refine pw_getf e_Mod_link1_169 fl_Mod_333 (gO_get hnd (i := 0) rfl) rfl ?_
  refine pw_eqst (congrArg (fun q => Value.int q :: [.ref (A 62)]) (show _ = nI (pN Z 100 68) from (u2_o (by decide) (u2_o (by decide) (((go_s hw).2.1.2 68 (by unfold goK; decide)).trans hL.1))))) ?_
  refine pw_iload_n e_Mod_link1_172 rfl ?_
  refine pw_iastG (i := 37) e_Mod_link1_173 hnd (mo_x _ _) rfl (by omega) (by decide) ?_
  refine pw_aload_n e_Mod_link1_174 rfl ?_
  refine pw_dup e_Mod_link1_175 rfl ?_
  refine pw_getf e_Mod_link1_176 fl_Mod_333 (gO_get hnd (i := 0) rfl) rfl ?_
  refine pw_eqst (congrArg (fun q => Value.int q :: [.ref (A 100)]) (show _ = nI (pN Z 100 68) from (u2_o (by decide) (u2_o (by decide) (u2_o (by decide) (((go_s hw).2.1.2 68 (by unfold goK; decide)).trans hL.1)))))) ?_
  refine pw_iconst (v := nI 1) e_Mod_link1_179 (by decide) ?_
  refine pw_iaddN e_Mod_link1_180 ?_
  refine pw_putGi (i := 0) (ps := 68) (x := nI ((pN Z 100 68) + 1)) e_Mod_link1_181 fp_Mod_333 hnd (mo_x _ _) rfl (Nat.le_of_ble_eq_true rfl) rfl rfl (fun _ _ => rfl) ?_
  refine pw_vret e_Mod_link1_184 rfl ?_
  rw [f_Mod_link1_140] at hk
  exact hk
noncomputable def f_Mod_link1_100  (Z : Nat → Nat → Int32) (f : Nat) (t : Nat) (w : Int32) : (Nat → Nat → Int32) :=
  if ((f_Mod_wants (f_Mod_isPlace ((Z 55) f) ((Z 55) t) w) (nI 3) Z).1) = 0 then (f_Mod_wants (f_Mod_isPlace ((Z 55) f) ((Z 55) t) w) (nI 3) Z).2 else if ((f_Mod_wants (f_Mod_isFree f t w ((f_Mod_wants (f_Mod_isPlace ((Z 55) f) ((Z 55) t) w) (nI 3) Z).2)) (nI 5) ((f_Mod_wants (f_Mod_isPlace ((Z 55) f) ((Z 55) t) w) (nI 3) Z).2)).1) = 0 then (f_Mod_wants (f_Mod_isFree f t w ((f_Mod_wants (f_Mod_isPlace ((Z 55) f) ((Z 55) t) w) (nI 3) Z).2)) (nI 5) ((f_Mod_wants (f_Mod_isPlace ((Z 55) f) ((Z 55) t) w) (nI 3) Z).2)).2 else f_Mod_link1_140  ((f_Mod_wants (f_Mod_isFree f t w ((f_Mod_wants (f_Mod_isPlace ((Z 55) f) ((Z 55) t) w) (nI 3) Z).2)) (nI 5) ((f_Mod_wants (f_Mod_isPlace ((Z 55) f) ((Z 55) t) w) (nI 3) Z).2)).2) f t w
set_option maxRecDepth 4000 in
theorem w_Mod_link1_100 {g : GG} {Q : QT} {h : Hp} {kc ks : Nat} (hst : (gl g).stackTraces = false) {A : Nat → Nat} (hnd : (gK (moL g A)).Nodup)  (Z : Nat → Nat → Int32) (f : Nat) (t : Nat) (w : Int32) (hw : GoI Z) (hL : Z 100 68 = nI (pN Z 100 68) ∧ pN Z 100 68 < 12) (hf : f < 10) (ht : t < 10) (hk : Q (.inl none) (ov h (gO (moL g A) (f_Mod_link1_100  Z f t w)))) : PW g M_Mod_link1 4 kc ks Q 100 [.ref (A 100), .int (nI (f)), .int (nI (t)), .int (w)] [] (ov h (gO (moL g A) Z)) := by
  have hz0 := hw.1.2
  have hz1 := hw.2.1.2
  refine pw_aload_n e_Mod_link1_100 rfl ?_
  refine pw_aload_n e_Mod_link1_101 rfl ?_
  refine pw_getf e_Mod_link1_102 fl_Mod_114 (gO_get hnd (i := 0) rfl) rfl ?_
  refine pw_iload_n e_Mod_link1_105 rfl ?_
  refine pw_ialdN e_Mod_link1_106 (gO_get hnd (i := 30) rfl) (by omega) (by decide) ?_
  refine pw_aload_n e_Mod_link1_107 rfl ?_
  refine pw_getf e_Mod_link1_108 fl_Mod_114 (gO_get hnd (i := 0) rfl) rfl ?_
  refine pw_iload_n e_Mod_link1_111 rfl ?_
  refine pw_ialdN e_Mod_link1_112 (gO_get hnd (i := 30) rfl) (by omega) (by decide) ?_
  refine pw_iload_n e_Mod_link1_113 rfl ?_
  refine pw_detS (As := [.int ((Z 55) f), .int ((Z 55) t), .int (w)]) e_Mod_link1_114 li_Mod_339 (q_Mod_isPlace hst ((Z 55) f) ((Z 55) t) w) rfl (by decide) (Nat.le_of_ble_eq_true rfl) rfl ?_
  refine pw_iconst (v := nI 3) e_Mod_link1_117 (by decide) ?_
  refine pw_detV (As := [.int (f_Mod_isPlace ((Z 55) f) ((Z 55) t) w), .int (nI (3))]) e_Mod_link1_118 li_Mod_308 rfl (gO_get hnd (i := 0) rfl) (q_Mod_wants hst hnd (f_Mod_isPlace ((Z 55) f) ((Z 55) t) w) (nI 3) Z (gO_in hnd (fun _ z => z))) rfl (by decide) (Nat.le_of_ble_eq_true rfl) rfl ?_
  refine pw_sameG hnd ?_
  refine pw_if_eq (tgt := 139) e_Mod_link1_121 (by decide) (fun (H1 : ((f_Mod_wants (f_Mod_isPlace ((Z 55) f) ((Z 55) t) w) (nI 3) Z).1) = 0) => ?_) (fun (H1 : ¬ ((f_Mod_wants (f_Mod_isPlace ((Z 55) f) ((Z 55) t) w) (nI 3) Z).1) = 0) => ?_)
  · refine pw_vret e_Mod_link1_139 rfl ?_
    rw [f_Mod_link1_100, if_pos H1] at hk
    exact hk
  · refine pw_aload_n e_Mod_link1_124 rfl ?_
    refine pw_aload_n e_Mod_link1_125 rfl ?_
    refine pw_iload_n e_Mod_link1_126 rfl ?_
    refine pw_iload_n e_Mod_link1_127 rfl ?_
    refine pw_iload_n e_Mod_link1_128 rfl ?_
    refine pw_detV (As := [.int (nI (f)), .int (nI (t)), .int (w)]) e_Mod_link1_129 li_Mod_342 rfl (gO_get hnd (i := 0) rfl) (q_Mod_isFree hst hnd f t w (by omega) ((f_Mod_wants (f_Mod_isPlace ((Z 55) f) ((Z 55) t) w) (nI 3) Z).2) (gO_in hnd (fun _ z => z)) (g_wants hw) (nn.lt hL (by repeat (first | exact RW.self hw | apply RW.wt | apply RW.go | apply RW.number | apply RW.named | apply RW.oneOf)))) rfl (by decide) (Nat.le_of_ble_eq_true rfl) rfl ?_
    refine pw_iconst (v := nI 5) e_Mod_link1_132 (by decide) ?_
    refine pw_detV (As := [.int (f_Mod_isFree f t w ((f_Mod_wants (f_Mod_isPlace ((Z 55) f) ((Z 55) t) w) (nI 3) Z).2)), .int (nI (5))]) e_Mod_link1_133 li_Mod_308 rfl (gO_get hnd (i := 0) rfl) (q_Mod_wants hst hnd (f_Mod_isFree f t w ((f_Mod_wants (f_Mod_isPlace ((Z 55) f) ((Z 55) t) w) (nI 3) Z).2)) (nI 5) ((f_Mod_wants (f_Mod_isPlace ((Z 55) f) ((Z 55) t) w) (nI 3) Z).2) (gO_in hnd (fun _ z => z))) rfl (by decide) (Nat.le_of_ble_eq_true rfl) rfl ?_
    refine pw_sameG hnd ?_
    refine pw_if_ne (tgt := 140) e_Mod_link1_136 (by decide) (fun (H2 : ¬ ((f_Mod_wants (f_Mod_isFree f t w ((f_Mod_wants (f_Mod_isPlace ((Z 55) f) ((Z 55) t) w) (nI 3) Z).2)) (nI 5) ((f_Mod_wants (f_Mod_isPlace ((Z 55) f) ((Z 55) t) w) (nI 3) Z).2)).1) = 0) => ?_) (fun (H2 : ((f_Mod_wants (f_Mod_isFree f t w ((f_Mod_wants (f_Mod_isPlace ((Z 55) f) ((Z 55) t) w) (nI 3) Z).2)) (nI 5) ((f_Mod_wants (f_Mod_isPlace ((Z 55) f) ((Z 55) t) w) (nI 3) Z).2)).1) = 0) => ?_)
    · refine w_Mod_link1_140 hst hnd ((f_Mod_wants (f_Mod_isFree f t w ((f_Mod_wants (f_Mod_isPlace ((Z 55) f) ((Z 55) t) w) (nI 3) Z).2)) (nI 5) ((f_Mod_wants (f_Mod_isPlace ((Z 55) f) ((Z 55) t) w) (nI 3) Z).2)).2) f t w (g_wants (g_wants hw)) (nn.rw (by unfold goK; decide) hL (by repeat (first | exact RW.self hw | apply RW.wt | apply RW.go | apply RW.number | apply RW.named | apply RW.oneOf))) hf ht ?_
      rw [f_Mod_link1_100, if_neg H1, if_neg H2] at hk
      exact hk
    · refine pw_vret e_Mod_link1_139 rfl ?_
      rw [f_Mod_link1_100, if_neg H1, if_pos H2] at hk
      exact hk
noncomputable def f_Mod_link1_92  (Z : Nat → Nat → Int32) (f : Nat) (t : Nat) : (Nat → Nat → Int32) :=
  f_Mod_link1_100  Z f t ((Z 100 51) - 16)
set_option maxRecDepth 4000 in
theorem w_Mod_link1_92 {g : GG} {Q : QT} {h : Hp} {kc ks : Nat} (hst : (gl g).stackTraces = false) {A : Nat → Nat} (hnd : (gK (moL g A)).Nodup)  (Z : Nat → Nat → Int32) (f : Nat) (t : Nat) (hw : GoI Z) (hL : Z 100 68 = nI (pN Z 100 68) ∧ pN Z 100 68 < 12) (hf : f < 10) (ht : t < 10) (hk : Q (.inl none) (ov h (gO (moL g A) (f_Mod_link1_92  Z f t)))) : PW g M_Mod_link1 4 kc ks Q 92 [.ref (A 100), .int (nI (f)), .int (nI (t)), .retAddr 0] [] (ov h (gO (moL g A) Z)) := by
  have hz0 := hw.1.2
  have hz1 := hw.2.1.2
  refine pw_aload_n e_Mod_link1_92 rfl ?_
  refine pw_getf e_Mod_link1_93 fl_Mod_289 (gO_get hnd (i := 0) rfl) rfl ?_
  refine pw_bipush (v := nI 16) e_Mod_link1_96 (by decide) ?_
  refine pw_isub e_Mod_link1_98 ?_
  refine pw_istore_n (ls2 := [_, _, _, _]) e_Mod_link1_99 (by decide) rfl ?_
  refine w_Mod_link1_100 hst hnd Z f t ((Z 100 51) - 16) hw (nn.rw (by unfold goK; decide) hL (by repeat (first | exact RW.self hw | apply RW.wt | apply RW.go | apply RW.number | apply RW.named | apply RW.oneOf))) hf ht ?_
  rw [f_Mod_link1_92] at hk
  exact hk
noncomputable def f_Mod_link1_49  (Z : Nat → Nat → Int32) (f : Nat) (t : Nat) : (Nat → Nat → Int32) :=
  if (Z 100 52) = 0 then if (Z 100 49) = 1 then if (f_Mod_within (Z 100 51) (nI 16) (nI 18)) = 0 then (f_Mod_wants (nI 0) (nI 1) Z).2 else if ((f_Mod_wants (nI 1) (nI 1) Z).1) = 0 then (f_Mod_wants (nI 1) (nI 1) Z).2 else f_Mod_link1_92  ((f_Mod_wants (nI 1) (nI 1) Z).2) f t else (f_Mod_wants (nI 0) (nI 1) Z).2 else Z
set_option maxRecDepth 4000 in
theorem w_Mod_link1_49 {g : GG} {Q : QT} {h : Hp} {kc ks : Nat} (hst : (gl g).stackTraces = false) {A : Nat → Nat} (hnd : (gK (moL g A)).Nodup)  (Z : Nat → Nat → Int32) (f : Nat) (t : Nat) (hw : GoI Z) (hL : Z 100 68 = nI (pN Z 100 68) ∧ pN Z 100 68 < 12) (hf : f < 10) (ht : t < 10) (hk : Q (.inl none) (ov h (gO (moL g A) (f_Mod_link1_49  Z f t)))) : PW g M_Mod_link1 4 kc ks Q 49 [.ref (A 100), .int (nI (f)), .int (nI (t)), .retAddr 0] [] (ov h (gO (moL g A) Z)) := by
  have hz0 := hw.1.2
  have hz1 := hw.2.1.2
  refine pw_aload_n e_Mod_link1_49 rfl ?_
  refine pw_getf e_Mod_link1_50 fl_Mod_305 (gO_get hnd (i := 0) rfl) rfl ?_
  refine pw_if_ne (tgt := 91) e_Mod_link1_53 (by decide) (fun (H1 : ¬ (Z 100 52) = 0) => ?_) (fun (H1 : (Z 100 52) = 0) => ?_)
  · refine pw_vret e_Mod_link1_91 rfl ?_
    rw [f_Mod_link1_49, if_neg H1] at hk
    exact hk
  · refine pw_aload_n e_Mod_link1_56 rfl ?_
    refine pw_aload_n e_Mod_link1_57 rfl ?_
    refine pw_getf e_Mod_link1_58 fl_Mod_295 (gO_get hnd (i := 0) rfl) rfl ?_
    refine pw_iconst (v := nI 1) e_Mod_link1_61 (by decide) ?_
    refine pw_icmp_ne (tgt := 83) e_Mod_link1_62 (by decide) (fun (H2 : ¬ (Z 100 49) = 1) => ?_) (fun (H2 : (Z 100 49) = 1) => ?_)
    · refine pw_iconst (v := nI 0) e_Mod_link1_83 (by decide) ?_
      refine pw_iconst (v := nI 1) e_Mod_link1_84 (by decide) ?_
      refine pw_detV (As := [.int (nI (0)), .int (nI (1))]) e_Mod_link1_85 li_Mod_308 rfl (gO_get hnd (i := 0) rfl) (q_Mod_wants hst hnd (nI 0) (nI 1) Z (gO_in hnd (fun _ z => z))) rfl (by decide) (Nat.le_of_ble_eq_true rfl) rfl ?_
      refine pw_sameG hnd ?_
      refine pw_if_ne (tgt := 92) e_Mod_link1_88 (by decide) (fun (H3 : ¬ ((f_Mod_wants (nI 0) (nI 1) Z).1) = 0) => ?_) (fun (H3 : ((f_Mod_wants (nI 0) (nI 1) Z).1) = 0) => ?_)
      · exact absurd H3 (fun q => (wt_of (by decide) q).1 rfl)
      · refine pw_vret e_Mod_link1_91 rfl ?_
        rw [f_Mod_link1_49, if_pos H1, if_neg H2] at hk
        exact hk
    · refine pw_aload_n e_Mod_link1_65 rfl ?_
      refine pw_getf e_Mod_link1_66 fl_Mod_289 (gO_get hnd (i := 0) rfl) rfl ?_
      refine pw_bipush (v := nI 16) e_Mod_link1_69 (by decide) ?_
      refine pw_bipush (v := nI 18) e_Mod_link1_71 (by decide) ?_
      refine pw_detS (As := [.int (Z 100 51), .int (nI (16)), .int (nI (18))]) e_Mod_link1_73 li_Mod_312 (q_Mod_within hst (Z 100 51) (nI 16) (nI 18)) rfl (by decide) (Nat.le_of_ble_eq_true rfl) rfl ?_
      refine pw_if_eq (tgt := 83) e_Mod_link1_76 (by decide) (fun (H4 : (f_Mod_within (Z 100 51) (nI 16) (nI 18)) = 0) => ?_) (fun (H4 : ¬ (f_Mod_within (Z 100 51) (nI 16) (nI 18)) = 0) => ?_)
      · refine pw_iconst (v := nI 0) e_Mod_link1_83 (by decide) ?_
        refine pw_iconst (v := nI 1) e_Mod_link1_84 (by decide) ?_
        refine pw_detV (As := [.int (nI (0)), .int (nI (1))]) e_Mod_link1_85 li_Mod_308 rfl (gO_get hnd (i := 0) rfl) (q_Mod_wants hst hnd (nI 0) (nI 1) Z (gO_in hnd (fun _ z => z))) rfl (by decide) (Nat.le_of_ble_eq_true rfl) rfl ?_
        refine pw_sameG hnd ?_
        refine pw_if_ne (tgt := 92) e_Mod_link1_88 (by decide) (fun (H5 : ¬ ((f_Mod_wants (nI 0) (nI 1) Z).1) = 0) => ?_) (fun (H5 : ((f_Mod_wants (nI 0) (nI 1) Z).1) = 0) => ?_)
        · exact absurd H5 (fun q => (wt_of (by decide) q).1 rfl)
        · refine pw_vret e_Mod_link1_91 rfl ?_
          rw [f_Mod_link1_49, if_pos H1, if_pos H2, if_pos H4] at hk
          exact hk
      · refine pw_iconst (v := nI 1) e_Mod_link1_79 (by decide) ?_
        refine pw_goto (tgt := 84) e_Mod_link1_80 (by decide) ?_
        refine pw_iconst (v := nI 1) e_Mod_link1_84 (by decide) ?_
        refine pw_detV (As := [.int (nI (1)), .int (nI (1))]) e_Mod_link1_85 li_Mod_308 rfl (gO_get hnd (i := 0) rfl) (q_Mod_wants hst hnd (nI 1) (nI 1) Z (gO_in hnd (fun _ z => z))) rfl (by decide) (Nat.le_of_ble_eq_true rfl) rfl ?_
        refine pw_sameG hnd ?_
        refine pw_if_ne (tgt := 92) e_Mod_link1_88 (by decide) (fun (H6 : ¬ ((f_Mod_wants (nI 1) (nI 1) Z).1) = 0) => ?_) (fun (H6 : ((f_Mod_wants (nI 1) (nI 1) Z).1) = 0) => ?_)
        · refine w_Mod_link1_92 hst hnd ((f_Mod_wants (nI 1) (nI 1) Z).2) f t (g_wants hw) (nn.rw (by unfold goK; decide) hL (by repeat (first | exact RW.self hw | apply RW.wt | apply RW.go | apply RW.number | apply RW.named | apply RW.oneOf))) hf ht ?_
          rw [f_Mod_link1_49, if_pos H1, if_pos H2, if_neg H4, if_neg H6] at hk
          exact hk
        · refine pw_vret e_Mod_link1_91 rfl ?_
          rw [f_Mod_link1_49, if_pos H1, if_pos H2, if_neg H4, if_pos H6] at hk
          exact hk
noncomputable def f_Mod_link1_38  (Z : Nat → Nat → Int32) (f : Nat) : (Nat → Nat → Int32) :=
  f_Mod_link1_49  ((f_Mod_named (nI 9) (Z 100 67) Z).2) f (((f_Mod_named (nI 9) (Z 100 67) Z).1).toNatClampNeg)
set_option maxRecDepth 4000 in
theorem w_Mod_link1_38 {g : GG} {Q : QT} {h : Hp} {kc ks : Nat} (hst : (gl g).stackTraces = false) {A : Nat → Nat} (hnd : (gK (moL g A)).Nodup)  (Z : Nat → Nat → Int32) (f : Nat) (hw : GoI Z) (hB : Z 100 67 = nI (pN Z 100 67) ∧ pN Z 100 67 < 11) (hL : Z 100 68 = nI (pN Z 100 68) ∧ pN Z 100 68 < 12) (hf : f < 10) (hk : Q (.inl none) (ov h (gO (moL g A) (f_Mod_link1_38  Z f)))) : PW g M_Mod_link1 4 kc ks Q 38 [.ref (A 100), .int (nI (f)), .retAddr 0, .retAddr 0] [] (ov h (gO (moL g A) Z)) := by
  have hz0 := hw.1.2
  have hz1 := hw.2.1.2
  refine pw_aload_n e_Mod_link1_38 rfl ?_
  refine pw_bipush (v := nI 9) e_Mod_link1_39 (by decide) ?_
  refine pw_aload_n e_Mod_link1_41 rfl ?_
  refine pw_getf e_Mod_link1_42 fl_Mod_318 (gO_get hnd (i := 0) rfl) rfl ?_
  refine pw_detV (As := [.int (nI (9)), .int (Z 100 67)]) e_Mod_link1_45 li_Mod_324 rfl (gO_get hnd (i := 0) rfl) (q_Mod_named hst hnd (nI 9) (Z 100 67) Z (gO_in hnd (fun _ z => z)) hw) rfl (by decide) (Nat.le_of_ble_eq_true rfl) rfl ?_
  refine pw_sameG hnd ?_
  refine pw_istore_n (ls2 := [_, _, _, _]) e_Mod_link1_48 (by decide) rfl ?_
  refine pw_eqls (ls' := [.ref (A 100), .int (nI (f)), .int (nI (((f_Mod_named (nI 9) (Z 100 67) Z).1).toNatClampNeg)), .retAddr 0]) (by rw [← (show (f_Mod_named (nI 9) (Z 100 67) Z).1 = nI (((f_Mod_named (nI 9) (Z 100 67) Z).1).toNatClampNeg) from (nd_9 hw (b67n hB)).1)]) ?_
  refine w_Mod_link1_49 hst hnd ((f_Mod_named (nI 9) (Z 100 67) Z).2) f (((f_Mod_named (nI 9) (Z 100 67) Z).1).toNatClampNeg) (rw_named hw).1 (nn.rw (by unfold goK; decide) hL (by repeat (first | exact RW.self hw | apply RW.wt | apply RW.go | apply RW.number | apply RW.named | apply RW.oneOf))) hf (nd_9 hw (b67n hB)).2 ?_
  rw [f_Mod_link1_38] at hk
  exact hk
noncomputable def f_Mod_link1_23  (Z : Nat → Nat → Int32) : (Nat → Nat → Int32) :=
  f_Mod_link1_38  ((f_Mod_named (nI 9) ((s_Mod_go Z) 100 67) (s_Mod_go Z)).2) (((f_Mod_named (nI 9) ((s_Mod_go Z) 100 67) (s_Mod_go Z)).1).toNatClampNeg)
set_option maxRecDepth 4000 in
theorem w_Mod_link1_23 {g : GG} {Q : QT} {h : Hp} {kc ks : Nat} (hst : (gl g).stackTraces = false) {A : Nat → Nat} (hnd : (gK (moL g A)).Nodup)  (Z : Nat → Nat → Int32) (hw : GoI Z) (hB : Z 100 67 = nI (pN Z 100 67) ∧ pN Z 100 67 < 11) (hL : Z 100 68 = nI (pN Z 100 68) ∧ pN Z 100 68 < 12) (hk : Q (.inl none) (ov h (gO (moL g A) (f_Mod_link1_23  Z)))) : PW g M_Mod_link1 4 kc ks Q 23 [.ref (A 100), .retAddr 0, .retAddr 0, .retAddr 0] [] (ov h (gO (moL g A) Z)) := by
  have hz0 := hw.1.2
  have hz1 := hw.2.1.2
  refine pw_aload_n e_Mod_link1_23 rfl ?_
  refine pw_detV (As := []) e_Mod_link1_24 li_Mod_315 rfl (gO_get hnd (i := 0) rfl) (qs_Mod_go hst hnd Z (gO_in hnd (fun _ z => z)) hw) rfl (by decide) (Nat.le_of_ble_eq_true rfl) rfl ?_
  refine pw_sameG hnd ?_
  refine pw_aload_n e_Mod_link1_27 rfl ?_
  refine pw_bipush (v := nI 9) e_Mod_link1_28 (by decide) ?_
  refine pw_aload_n e_Mod_link1_30 rfl ?_
  refine pw_getf e_Mod_link1_31 fl_Mod_318 (gO_get hnd (i := 0) rfl) rfl ?_
  refine pw_detV (As := [.int (nI (9)), .int ((s_Mod_go Z) 100 67)]) e_Mod_link1_34 li_Mod_324 rfl (gO_get hnd (i := 0) rfl) (q_Mod_named hst hnd (nI 9) ((s_Mod_go Z) 100 67) (s_Mod_go Z) (gO_in hnd (fun _ z => z)) (go_s hw).1) rfl (by decide) (Nat.le_of_ble_eq_true rfl) rfl ?_
  refine pw_sameG hnd ?_
  refine pw_istore_n (ls2 := [_, _, _, _]) e_Mod_link1_37 (by decide) rfl ?_
  refine pw_eqls (ls' := [.ref (A 100), .int (nI (((f_Mod_named (nI 9) ((s_Mod_go Z) 100 67) (s_Mod_go Z)).1).toNatClampNeg)), .retAddr 0, .retAddr 0]) (by rw [← (show (f_Mod_named (nI 9) ((s_Mod_go Z) 100 67) (s_Mod_go Z)).1 = nI (((f_Mod_named (nI 9) ((s_Mod_go Z) 100 67) (s_Mod_go Z)).1).toNatClampNeg) from (nd_9 (go_s hw).1 (b67n (nn.rw (by unfold goK; decide) hB (by repeat (first | exact RW.self hw | apply RW.wt | apply RW.go | apply RW.number | apply RW.named | apply RW.oneOf))))).1)]) ?_
  refine w_Mod_link1_38 hst hnd ((f_Mod_named (nI 9) ((s_Mod_go Z) 100 67) (s_Mod_go Z)).2) (((f_Mod_named (nI 9) ((s_Mod_go Z) 100 67) (s_Mod_go Z)).1).toNatClampNeg) (rw_named (go_s hw).1).1 (nn.rw (by unfold goK; decide) hB (by repeat (first | exact RW.self hw | apply RW.wt | apply RW.go | apply RW.number | apply RW.named | apply RW.oneOf))) (nn.rw (by unfold goK; decide) hL (by repeat (first | exact RW.self hw | apply RW.wt | apply RW.go | apply RW.number | apply RW.named | apply RW.oneOf))) (nd_9 (go_s hw).1 (b67n (nn.rw (by unfold goK; decide) hB (by repeat (first | exact RW.self hw | apply RW.wt | apply RW.go | apply RW.number | apply RW.named | apply RW.oneOf))))).2 ?_
  rw [f_Mod_link1_23] at hk
  exact hk
noncomputable def f_Mod_link1  (Z : Nat → Nat → Int32) : (Nat → Nat → Int32) :=
  if 12 ≤ (Z 100 68) then (f_Mod_wants (nI 0) (nI 2) Z).2 else if ((f_Mod_wants (nI 1) (nI 2) Z).1) = 0 then (f_Mod_wants (nI 1) (nI 2) Z).2 else f_Mod_link1_23  ((f_Mod_wants (nI 1) (nI 2) Z).2)
set_option maxRecDepth 4000 in
theorem w_Mod_link1_0 {g : GG} {Q : QT} {h : Hp} {kc ks : Nat} (hst : (gl g).stackTraces = false) {A : Nat → Nat} (hnd : (gK (moL g A)).Nodup)  (Z : Nat → Nat → Int32) (hw : GoI Z) (hB : Z 100 67 = nI (pN Z 100 67) ∧ pN Z 100 67 < 11) (hL : Z 100 68 = nI (pN Z 100 68) ∧ pN Z 100 68 < 13) (hk : Q (.inl none) (ov h (gO (moL g A) (f_Mod_link1  Z)))) : PW g M_Mod_link1 4 kc ks Q 0 [.ref (A 100), .retAddr 0, .retAddr 0, .retAddr 0] [] (ov h (gO (moL g A) Z)) := by
  have hz0 := hw.1.2
  have hz1 := hw.2.1.2
  refine pw_aload_n e_Mod_link1_0 rfl ?_
  refine pw_aload_n e_Mod_link1_1 rfl ?_
  refine pw_getf e_Mod_link1_2 fl_Mod_333 (gO_get hnd (i := 0) rfl) rfl ?_
  refine pw_bipush (v := nI 12) e_Mod_link1_5 (by decide) ?_
  refine pw_icmp_ge (tgt := 14) e_Mod_link1_7 (by decide) (fun (H1 : 12 ≤ (Z 100 68)) => ?_) (fun (H1 : ¬ 12 ≤ (Z 100 68)) => ?_)
  · refine pw_iconst (v := nI 0) e_Mod_link1_14 (by decide) ?_
    refine pw_iconst (v := nI 2) e_Mod_link1_15 (by decide) ?_
    refine pw_detV (As := [.int (nI (0)), .int (nI (2))]) e_Mod_link1_16 li_Mod_308 rfl (gO_get hnd (i := 0) rfl) (q_Mod_wants hst hnd (nI 0) (nI 2) Z (gO_in hnd (fun _ z => z))) rfl (by decide) (Nat.le_of_ble_eq_true rfl) rfl ?_
    refine pw_sameG hnd ?_
    refine pw_if_ne (tgt := 23) e_Mod_link1_19 (by decide) (fun (H2 : ¬ ((f_Mod_wants (nI 0) (nI 2) Z).1) = 0) => ?_) (fun (H2 : ((f_Mod_wants (nI 0) (nI 2) Z).1) = 0) => ?_)
    · exact absurd H2 (fun q => (wt_of (by decide) q).1 rfl)
    · refine pw_vret e_Mod_link1_22 rfl ?_
      rw [f_Mod_link1, if_pos H1] at hk
      exact hk
  · refine pw_iconst (v := nI 1) e_Mod_link1_10 (by decide) ?_
    refine pw_goto (tgt := 15) e_Mod_link1_11 (by decide) ?_
    refine pw_iconst (v := nI 2) e_Mod_link1_15 (by decide) ?_
    refine pw_detV (As := [.int (nI (1)), .int (nI (2))]) e_Mod_link1_16 li_Mod_308 rfl (gO_get hnd (i := 0) rfl) (q_Mod_wants hst hnd (nI 1) (nI 2) Z (gO_in hnd (fun _ z => z))) rfl (by decide) (Nat.le_of_ble_eq_true rfl) rfl ?_
    refine pw_sameG hnd ?_
    refine pw_if_ne (tgt := 23) e_Mod_link1_19 (by decide) (fun (H3 : ¬ ((f_Mod_wants (nI 1) (nI 2) Z).1) = 0) => ?_) (fun (H3 : ((f_Mod_wants (nI 1) (nI 2) Z).1) = 0) => ?_)
    · refine w_Mod_link1_23 hst hnd ((f_Mod_wants (nI 1) (nI 2) Z).2) (g_wants hw) (nn.rw (by unfold goK; decide) hB (by repeat (first | exact RW.self hw | apply RW.wt | apply RW.go | apply RW.number | apply RW.named | apply RW.oneOf))) (nn.rw (by unfold goK; decide) (b68 hL H1) (by repeat (first | exact RW.self hw | apply RW.wt | apply RW.go | apply RW.number | apply RW.named | apply RW.oneOf))) ?_
      rw [f_Mod_link1, if_neg H1, if_neg H3] at hk
      exact hk
    · refine pw_vret e_Mod_link1_22 rfl ?_
      rw [f_Mod_link1, if_neg H1, if_pos H3] at hk
      exact hk
theorem q_Mod_link1 {g : GG} {h : Hp} (hst : (gl g).stackTraces = false) {A : Nat → Nat} (hnd : (gK (moL g A)).Nodup)  (Z : Nat → Nat → Int32) (hm : ∀ q ∈ gO (moL g A) Z, h q.1 = some q.2) (hw : GoI Z) (hB : Z 100 67 = nI (pN Z 100 67) ∧ pN Z 100 67 < 11) (hL : Z 100 68 = nI (pN Z 100 68) ∧ pN Z 100 68 < 13) : PM g M_Mod_link1 4 0 0 [.ref (A 100)] h (RetV none (ov h (gO (moL g A) (f_Mod_link1  Z)))) := by
  refine PM.of hst (by decide) rfl (fun v hv => ?_) (Nat.le_of_ble_eq_true rfl) ?_
  · simp only [List.mem_cons, List.not_mem_nil, or_false] at hv; rcases hv with rfl <;> rfl
  · have hq := w_Mod_link1_0 (g := g) (Q := RetV none (ov h (gO (moL g A) (f_Mod_link1  Z)))) (h := h) (kc := 0) (ks := 0) hst hnd Z hw hB hL ?_
    · rw [ov_self hm] at hq; exact hq
    · exact ⟨rfl, rfl⟩

noncomputable def f_Mod_plant1_116  (Z : Nat → Nat → Int32) (s : Nat) (a : Int32) : (Nat → Nat → Int32) :=
  u2 Z 63 s a
set_option maxRecDepth 4000 in
theorem w_Mod_plant1_116 {g : GG} {Q : QT} {h : Hp} {kc ks : Nat} (hst : (gl g).stackTraces = false) {A : Nat → Nat} (hnd : (gK (moL g A)).Nodup)  (Z : Nat → Nat → Int32) (s : Nat) (a : Int32) (hw : GoI Z) (hs : s < 4) (hk : Q (.inl none) (ov h (gO (moL g A) (f_Mod_plant1_116  Z s a)))) : PW g M_Mod_plant1 4 kc ks Q 116 [.ref (A 100), .int (nI (s)), .int (a)] [] (ov h (gO (moL g A) Z)) := by
  have hz0 := hw.1.2
  have hz1 := hw.2.1.2
  refine pw_aload_n e_Mod_plant1_116 rfl ?_
  refine pw_getf e_Mod_plant1_117 fl_Mod_138 (gO_get hnd (i := 0) rfl) rfl ?_
  refine pw_iload_n e_Mod_plant1_120 rfl ?_
  refine pw_iload_n e_Mod_plant1_121 rfl ?_
  refine pw_iastG (i := 38) e_Mod_plant1_122 hnd (mo_x _ _) rfl (by omega) (by decide) ?_
  refine pw_vret e_Mod_plant1_123 rfl ?_
  rw [f_Mod_plant1_116] at hk
  exact hk
noncomputable def f_Mod_plant1_103  (Z : Nat → Nat → Int32) (s : Nat) (a : Int32) : (Nat → Nat → Int32) :=
  f_Mod_plant1_116  (u2 ((f_Mod_number (nI 1) (nI 50) Z).2) 65 s ((f_Mod_number (nI 1) (nI 50) Z).1)) s a
set_option maxRecDepth 4000 in
theorem w_Mod_plant1_103 {g : GG} {Q : QT} {h : Hp} {kc ks : Nat} (hst : (gl g).stackTraces = false) {A : Nat → Nat} (hnd : (gK (moL g A)).Nodup)  (Z : Nat → Nat → Int32) (s : Nat) (a : Int32) (hw : GoI Z) (hs : s < 4) (hk : Q (.inl none) (ov h (gO (moL g A) (f_Mod_plant1_103  Z s a)))) : PW g M_Mod_plant1 4 kc ks Q 103 [.ref (A 100), .int (nI (s)), .int (a)] [] (ov h (gO (moL g A) Z)) := by
  have hz0 := hw.1.2
  have hz1 := hw.2.1.2
  refine pw_aload_n e_Mod_plant1_103 rfl ?_
  refine pw_getf e_Mod_plant1_104 fl_Mod_144 (gO_get hnd (i := 0) rfl) rfl ?_
  refine pw_iload_n e_Mod_plant1_107 rfl ?_
  refine pw_aload_n e_Mod_plant1_108 rfl ?_
  refine pw_iconst (v := nI 1) e_Mod_plant1_109 (by decide) ?_
  refine pw_bipush (v := nI 50) e_Mod_plant1_110 (by decide) ?_
  refine pw_detV (As := [.int (nI (1)), .int (nI (50))]) e_Mod_plant1_112 li_Mod_327 rfl (gO_get hnd (i := 0) rfl) (q_Mod_number hst hnd (nI 1) (nI 50) Z (gO_in hnd (fun _ z => z)) hw) rfl (by decide) (Nat.le_of_ble_eq_true rfl) rfl ?_
  refine pw_sameG hnd ?_
  refine pw_iastG (i := 40) e_Mod_plant1_115 hnd (mo_x _ _) rfl (by omega) (by decide) ?_
  refine w_Mod_plant1_116 hst hnd (u2 ((f_Mod_number (nI 1) (nI 50) Z).2) 65 s ((f_Mod_number (nI 1) (nI 50) Z).1)) s a (GoI.uk (k := 65) (rw_number hw).1 (by decide)) hs ?_
  rw [f_Mod_plant1_103] at hk
  exact hk
noncomputable def f_Mod_plant1_89  (Z : Nat → Nat → Int32) (s : Nat) (a : Int32) : (Nat → Nat → Int32) :=
  f_Mod_plant1_103  (u2 ((f_Mod_number (nI 0) (nI 300) Z).2) 64 s ((f_Mod_number (nI 0) (nI 300) Z).1)) s a
set_option maxRecDepth 4000 in
theorem w_Mod_plant1_89 {g : GG} {Q : QT} {h : Hp} {kc ks : Nat} (hst : (gl g).stackTraces = false) {A : Nat → Nat} (hnd : (gK (moL g A)).Nodup)  (Z : Nat → Nat → Int32) (s : Nat) (a : Int32) (hw : GoI Z) (hs : s < 4) (hk : Q (.inl none) (ov h (gO (moL g A) (f_Mod_plant1_89  Z s a)))) : PW g M_Mod_plant1 4 kc ks Q 89 [.ref (A 100), .int (nI (s)), .int (a)] [] (ov h (gO (moL g A) Z)) := by
  have hz0 := hw.1.2
  have hz1 := hw.2.1.2
  refine pw_aload_n e_Mod_plant1_89 rfl ?_
  refine pw_getf e_Mod_plant1_90 fl_Mod_141 (gO_get hnd (i := 0) rfl) rfl ?_
  refine pw_iload_n e_Mod_plant1_93 rfl ?_
  refine pw_aload_n e_Mod_plant1_94 rfl ?_
  refine pw_iconst (v := nI 0) e_Mod_plant1_95 (by decide) ?_
  refine pw_sipush (v := nI 300) e_Mod_plant1_96 (by decide) ?_
  refine pw_detV (As := [.int (nI (0)), .int (nI (300))]) e_Mod_plant1_99 li_Mod_327 rfl (gO_get hnd (i := 0) rfl) (q_Mod_number hst hnd (nI 0) (nI 300) Z (gO_in hnd (fun _ z => z)) hw) rfl (by decide) (Nat.le_of_ble_eq_true rfl) rfl ?_
  refine pw_sameG hnd ?_
  refine pw_iastG (i := 39) e_Mod_plant1_102 hnd (mo_x _ _) rfl (by omega) (by decide) ?_
  refine w_Mod_plant1_103 hst hnd (u2 ((f_Mod_number (nI 0) (nI 300) Z).2) 64 s ((f_Mod_number (nI 0) (nI 300) Z).1)) s a (GoI.uk (k := 64) (rw_number hw).1 (by decide)) hs ?_
  rw [f_Mod_plant1_89] at hk
  exact hk
noncomputable def f_Mod_plant1_82  (Z : Nat → Nat → Int32) (s : Nat) : (Nat → Nat → Int32) :=
  f_Mod_plant1_89  ((f_Mod_number (nI 0) (nI 3) Z).2) s ((f_Mod_number (nI 0) (nI 3) Z).1)
set_option maxRecDepth 4000 in
theorem w_Mod_plant1_82 {g : GG} {Q : QT} {h : Hp} {kc ks : Nat} (hst : (gl g).stackTraces = false) {A : Nat → Nat} (hnd : (gK (moL g A)).Nodup)  (Z : Nat → Nat → Int32) (s : Nat) (hw : GoI Z) (hs : s < 4) (hk : Q (.inl none) (ov h (gO (moL g A) (f_Mod_plant1_82  Z s)))) : PW g M_Mod_plant1 4 kc ks Q 82 [.ref (A 100), .int (nI (s)), .retAddr 0] [] (ov h (gO (moL g A) Z)) := by
  have hz0 := hw.1.2
  have hz1 := hw.2.1.2
  refine pw_aload_n e_Mod_plant1_82 rfl ?_
  refine pw_iconst (v := nI 0) e_Mod_plant1_83 (by decide) ?_
  refine pw_iconst (v := nI 3) e_Mod_plant1_84 (by decide) ?_
  refine pw_detV (As := [.int (nI (0)), .int (nI (3))]) e_Mod_plant1_85 li_Mod_327 rfl (gO_get hnd (i := 0) rfl) (q_Mod_number hst hnd (nI 0) (nI 3) Z (gO_in hnd (fun _ z => z)) hw) rfl (by decide) (Nat.le_of_ble_eq_true rfl) rfl ?_
  refine pw_sameG hnd ?_
  refine pw_istore_n (ls2 := [_, _, _]) e_Mod_plant1_88 (by decide) rfl ?_
  refine w_Mod_plant1_89 hst hnd ((f_Mod_number (nI 0) (nI 3) Z).2) s ((f_Mod_number (nI 0) (nI 3) Z).1) (rw_number hw).1 hs ?_
  rw [f_Mod_plant1_82] at hk
  exact hk
noncomputable def f_Mod_plant1_73  (Z : Nat → Nat → Int32) : (Nat → Nat → Int32) :=
  f_Mod_plant1_82  (s_Mod_go Z) (pN Z 100 50)
set_option maxRecDepth 4000 in
theorem w_Mod_plant1_73 {g : GG} {Q : QT} {h : Hp} {kc ks : Nat} (hst : (gl g).stackTraces = false) {A : Nat → Nat} (hnd : (gK (moL g A)).Nodup)  (Z : Nat → Nat → Int32) (hw : GoI Z) (hv : pN Z 100 50 < 4) (hk : Q (.inl none) (ov h (gO (moL g A) (f_Mod_plant1_73  Z)))) : PW g M_Mod_plant1 4 kc ks Q 73 [.ref (A 100), .retAddr 0, .retAddr 0] [] (ov h (gO (moL g A) Z)) := by
  have hz0 := hw.1.2
  have hz1 := hw.2.1.2
  refine pw_aload_n e_Mod_plant1_73 rfl ?_
  refine pw_getf e_Mod_plant1_74 fl_Mod_292 (gO_get hnd (i := 0) rfl) rfl ?_
  refine pw_eqst (congrArg (fun q => Value.int q :: []) (show _ = nI (pN Z 100 50) from hw.2.2.1)) ?_
  refine pw_istore_n (ls2 := [_, _, _]) e_Mod_plant1_77 (by decide) rfl ?_
  refine pw_aload_n e_Mod_plant1_78 rfl ?_
  refine pw_detV (As := []) e_Mod_plant1_79 li_Mod_315 rfl (gO_get hnd (i := 0) rfl) (qs_Mod_go hst hnd Z (gO_in hnd (fun _ z => z)) hw) rfl (by decide) (Nat.le_of_ble_eq_true rfl) rfl ?_
  refine pw_sameG hnd ?_
  refine w_Mod_plant1_82 hst hnd (s_Mod_go Z) (pN Z 100 50) (go_s hw).1 hv ?_
  rw [f_Mod_plant1_73] at hk
  exact hk
noncomputable def f_Mod_plant1_46  (Z : Nat → Nat → Int32) : (Nat → Nat → Int32) :=
  if ((Z 63) (pN Z 100 50)) = ((-1)) then if ((f_Mod_wants (nI 1) (nI 4) Z).1) = 0 then (f_Mod_wants (nI 1) (nI 4) Z).2 else f_Mod_plant1_73  ((f_Mod_wants (nI 1) (nI 4) Z).2) else (f_Mod_wants (nI 0) (nI 4) Z).2
set_option maxRecDepth 4000 in
theorem w_Mod_plant1_46 {g : GG} {Q : QT} {h : Hp} {kc ks : Nat} (hst : (gl g).stackTraces = false) {A : Nat → Nat} (hnd : (gK (moL g A)).Nodup)  (Z : Nat → Nat → Int32) (hw : GoI Z) (hv : pN Z 100 50 < 4) (hk : Q (.inl none) (ov h (gO (moL g A) (f_Mod_plant1_46  Z)))) : PW g M_Mod_plant1 4 kc ks Q 46 [.ref (A 100), .retAddr 0, .retAddr 0] [] (ov h (gO (moL g A) Z)) := by
  have hz0 := hw.1.2
  have hz1 := hw.2.1.2
  refine pw_aload_n e_Mod_plant1_46 rfl ?_
  refine pw_aload_n e_Mod_plant1_47 rfl ?_
  refine pw_getf e_Mod_plant1_48 fl_Mod_138 (gO_get hnd (i := 0) rfl) rfl ?_
  refine pw_aload_n e_Mod_plant1_51 rfl ?_
  refine pw_getf e_Mod_plant1_52 fl_Mod_292 (gO_get hnd (i := 0) rfl) rfl ?_
  refine pw_eqst (congrArg (fun q => Value.int q :: [.ref (A 63), .ref (A 100)]) (show _ = nI (pN Z 100 50) from hw.2.2.1)) ?_
  refine pw_ialdN e_Mod_plant1_55 (gO_get hnd (i := 38) rfl) (by omega) (by decide) ?_
  refine pw_iconst (v := (-1)) e_Mod_plant1_56 (by decide) ?_
  refine pw_icmp_ne (tgt := 64) e_Mod_plant1_57 (by decide) (fun (H1 : ¬ ((Z 63) (pN Z 100 50)) = ((-1))) => ?_) (fun (H1 : ((Z 63) (pN Z 100 50)) = ((-1))) => ?_)
  · refine pw_iconst (v := nI 0) e_Mod_plant1_64 (by decide) ?_
    refine pw_iconst (v := nI 4) e_Mod_plant1_65 (by decide) ?_
    refine pw_detV (As := [.int (nI (0)), .int (nI (4))]) e_Mod_plant1_66 li_Mod_308 rfl (gO_get hnd (i := 0) rfl) (q_Mod_wants hst hnd (nI 0) (nI 4) Z (gO_in hnd (fun _ z => z))) rfl (by decide) (Nat.le_of_ble_eq_true rfl) rfl ?_
    refine pw_sameG hnd ?_
    refine pw_if_ne (tgt := 73) e_Mod_plant1_69 (by decide) (fun (H2 : ¬ ((f_Mod_wants (nI 0) (nI 4) Z).1) = 0) => ?_) (fun (H2 : ((f_Mod_wants (nI 0) (nI 4) Z).1) = 0) => ?_)
    · exact absurd H2 (fun q => (wt_of (by decide) q).1 rfl)
    · refine pw_vret e_Mod_plant1_72 rfl ?_
      rw [f_Mod_plant1_46, if_neg H1] at hk
      exact hk
  · refine pw_iconst (v := nI 1) e_Mod_plant1_60 (by decide) ?_
    refine pw_goto (tgt := 65) e_Mod_plant1_61 (by decide) ?_
    refine pw_iconst (v := nI 4) e_Mod_plant1_65 (by decide) ?_
    refine pw_detV (As := [.int (nI (1)), .int (nI (4))]) e_Mod_plant1_66 li_Mod_308 rfl (gO_get hnd (i := 0) rfl) (q_Mod_wants hst hnd (nI 1) (nI 4) Z (gO_in hnd (fun _ z => z))) rfl (by decide) (Nat.le_of_ble_eq_true rfl) rfl ?_
    refine pw_sameG hnd ?_
    refine pw_if_ne (tgt := 73) e_Mod_plant1_69 (by decide) (fun (H3 : ¬ ((f_Mod_wants (nI 1) (nI 4) Z).1) = 0) => ?_) (fun (H3 : ((f_Mod_wants (nI 1) (nI 4) Z).1) = 0) => ?_)
    · refine w_Mod_plant1_73 hst hnd ((f_Mod_wants (nI 1) (nI 4) Z).2) (g_wants hw) (by rw [pN_o (wt_k.2 50 (by decide) (by decide))]; exact hv) ?_
      rw [f_Mod_plant1_46, if_pos H1, if_neg H3] at hk
      exact hk
    · refine pw_vret e_Mod_plant1_72 rfl ?_
      rw [f_Mod_plant1_46, if_pos H1, if_pos H3] at hk
      exact hk
noncomputable def f_Mod_plant1_25  (Z : Nat → Nat → Int32) : (Nat → Nat → Int32) :=
  if 4 ≤ (Z 100 50) then (f_Mod_wants (nI 0) (nI 2) Z).2 else if ((f_Mod_wants (nI 1) (nI 2) Z).1) = 0 then (f_Mod_wants (nI 1) (nI 2) Z).2 else f_Mod_plant1_46  ((f_Mod_wants (nI 1) (nI 2) Z).2)
set_option maxRecDepth 4000 in
theorem w_Mod_plant1_25 {g : GG} {Q : QT} {h : Hp} {kc ks : Nat} (hst : (gl g).stackTraces = false) {A : Nat → Nat} (hnd : (gK (moL g A)).Nodup)  (Z : Nat → Nat → Int32) (hw : GoI Z) (hk : Q (.inl none) (ov h (gO (moL g A) (f_Mod_plant1_25  Z)))) : PW g M_Mod_plant1 4 kc ks Q 25 [.ref (A 100), .retAddr 0, .retAddr 0] [] (ov h (gO (moL g A) Z)) := by
  have hz0 := hw.1.2
  have hz1 := hw.2.1.2
  refine pw_aload_n e_Mod_plant1_25 rfl ?_
  refine pw_aload_n e_Mod_plant1_26 rfl ?_
  refine pw_getf e_Mod_plant1_27 fl_Mod_292 (gO_get hnd (i := 0) rfl) rfl ?_
  refine pw_iconst (v := nI 4) e_Mod_plant1_30 (by decide) ?_
  refine pw_icmp_ge (tgt := 38) e_Mod_plant1_31 (by decide) (fun (H1 : 4 ≤ (Z 100 50)) => ?_) (fun (H1 : ¬ 4 ≤ (Z 100 50)) => ?_)
  · refine pw_iconst (v := nI 0) e_Mod_plant1_38 (by decide) ?_
    refine pw_iconst (v := nI 2) e_Mod_plant1_39 (by decide) ?_
    refine pw_detV (As := [.int (nI (0)), .int (nI (2))]) e_Mod_plant1_40 li_Mod_308 rfl (gO_get hnd (i := 0) rfl) (q_Mod_wants hst hnd (nI 0) (nI 2) Z (gO_in hnd (fun _ z => z))) rfl (by decide) (Nat.le_of_ble_eq_true rfl) rfl ?_
    refine pw_sameG hnd ?_
    refine pw_if_eq (tgt := 72) e_Mod_plant1_43 (by decide) (fun (H2 : ((f_Mod_wants (nI 0) (nI 2) Z).1) = 0) => ?_) (fun (H2 : ¬ ((f_Mod_wants (nI 0) (nI 2) Z).1) = 0) => ?_)
    · refine pw_vret e_Mod_plant1_72 rfl ?_
      rw [f_Mod_plant1_25, if_pos H1] at hk
      exact hk
    · exact absurd H2 (fun q => (wt_of (by decide) q).1 rfl)
  · refine pw_iconst (v := nI 1) e_Mod_plant1_34 (by decide) ?_
    refine pw_goto (tgt := 39) e_Mod_plant1_35 (by decide) ?_
    refine pw_iconst (v := nI 2) e_Mod_plant1_39 (by decide) ?_
    refine pw_detV (As := [.int (nI (1)), .int (nI (2))]) e_Mod_plant1_40 li_Mod_308 rfl (gO_get hnd (i := 0) rfl) (q_Mod_wants hst hnd (nI 1) (nI 2) Z (gO_in hnd (fun _ z => z))) rfl (by decide) (Nat.le_of_ble_eq_true rfl) rfl ?_
    refine pw_sameG hnd ?_
    refine pw_if_eq (tgt := 72) e_Mod_plant1_43 (by decide) (fun (H3 : ((f_Mod_wants (nI 1) (nI 2) Z).1) = 0) => ?_) (fun (H3 : ¬ ((f_Mod_wants (nI 1) (nI 2) Z).1) = 0) => ?_)
    · refine pw_vret e_Mod_plant1_72 rfl ?_
      rw [f_Mod_plant1_25, if_neg H1, if_pos H3] at hk
      exact hk
    · refine w_Mod_plant1_46 hst hnd ((f_Mod_wants (nI 1) (nI 2) Z).2) (g_wants hw) (v4 hw (wt_k.2 50 (by decide) (by decide)) H1) ?_
      rw [f_Mod_plant1_25, if_neg H1, if_neg H3] at hk
      exact hk
noncomputable def f_Mod_plant1_4  (Z : Nat → Nat → Int32) : (Nat → Nat → Int32) :=
  if (Z 100 49) = 2 then if ((f_Mod_wants (nI 1) (nI 1) Z).1) = 0 then (f_Mod_wants (nI 1) (nI 1) Z).2 else f_Mod_plant1_25  ((f_Mod_wants (nI 1) (nI 1) Z).2) else (f_Mod_wants (nI 0) (nI 1) Z).2
set_option maxRecDepth 4000 in
theorem w_Mod_plant1_4 {g : GG} {Q : QT} {h : Hp} {kc ks : Nat} (hst : (gl g).stackTraces = false) {A : Nat → Nat} (hnd : (gK (moL g A)).Nodup)  (Z : Nat → Nat → Int32) (hw : GoI Z) (hk : Q (.inl none) (ov h (gO (moL g A) (f_Mod_plant1_4  Z)))) : PW g M_Mod_plant1 4 kc ks Q 4 [.ref (A 100), .retAddr 0, .retAddr 0] [] (ov h (gO (moL g A) Z)) := by
  have hz0 := hw.1.2
  have hz1 := hw.2.1.2
  refine pw_aload_n e_Mod_plant1_4 rfl ?_
  refine pw_aload_n e_Mod_plant1_5 rfl ?_
  refine pw_getf e_Mod_plant1_6 fl_Mod_295 (gO_get hnd (i := 0) rfl) rfl ?_
  refine pw_iconst (v := nI 2) e_Mod_plant1_9 (by decide) ?_
  refine pw_icmp_ne (tgt := 17) e_Mod_plant1_10 (by decide) (fun (H1 : ¬ (Z 100 49) = 2) => ?_) (fun (H1 : (Z 100 49) = 2) => ?_)
  · refine pw_iconst (v := nI 0) e_Mod_plant1_17 (by decide) ?_
    refine pw_iconst (v := nI 1) e_Mod_plant1_18 (by decide) ?_
    refine pw_detV (As := [.int (nI (0)), .int (nI (1))]) e_Mod_plant1_19 li_Mod_308 rfl (gO_get hnd (i := 0) rfl) (q_Mod_wants hst hnd (nI 0) (nI 1) Z (gO_in hnd (fun _ z => z))) rfl (by decide) (Nat.le_of_ble_eq_true rfl) rfl ?_
    refine pw_sameG hnd ?_
    refine pw_if_eq (tgt := 72) e_Mod_plant1_22 (by decide) (fun (H2 : ((f_Mod_wants (nI 0) (nI 1) Z).1) = 0) => ?_) (fun (H2 : ¬ ((f_Mod_wants (nI 0) (nI 1) Z).1) = 0) => ?_)
    · refine pw_vret e_Mod_plant1_72 rfl ?_
      rw [f_Mod_plant1_4, if_neg H1] at hk
      exact hk
    · exact absurd H2 (fun q => (wt_of (by decide) q).1 rfl)
  · refine pw_iconst (v := nI 1) e_Mod_plant1_13 (by decide) ?_
    refine pw_goto (tgt := 18) e_Mod_plant1_14 (by decide) ?_
    refine pw_iconst (v := nI 1) e_Mod_plant1_18 (by decide) ?_
    refine pw_detV (As := [.int (nI (1)), .int (nI (1))]) e_Mod_plant1_19 li_Mod_308 rfl (gO_get hnd (i := 0) rfl) (q_Mod_wants hst hnd (nI 1) (nI 1) Z (gO_in hnd (fun _ z => z))) rfl (by decide) (Nat.le_of_ble_eq_true rfl) rfl ?_
    refine pw_sameG hnd ?_
    refine pw_if_eq (tgt := 72) e_Mod_plant1_22 (by decide) (fun (H3 : ((f_Mod_wants (nI 1) (nI 1) Z).1) = 0) => ?_) (fun (H3 : ¬ ((f_Mod_wants (nI 1) (nI 1) Z).1) = 0) => ?_)
    · refine pw_vret e_Mod_plant1_72 rfl ?_
      rw [f_Mod_plant1_4, if_pos H1, if_pos H3] at hk
      exact hk
    · refine w_Mod_plant1_25 hst hnd ((f_Mod_wants (nI 1) (nI 1) Z).2) (g_wants hw) ?_
      rw [f_Mod_plant1_4, if_pos H1, if_neg H3] at hk
      exact hk
noncomputable def f_Mod_plant1  (Z : Nat → Nat → Int32) : (Nat → Nat → Int32) :=
  f_Mod_plant1_4  (s_Mod_go Z)
set_option maxRecDepth 4000 in
theorem w_Mod_plant1_0 {g : GG} {Q : QT} {h : Hp} {kc ks : Nat} (hst : (gl g).stackTraces = false) {A : Nat → Nat} (hnd : (gK (moL g A)).Nodup)  (Z : Nat → Nat → Int32) (hw : GoI Z) (hk : Q (.inl none) (ov h (gO (moL g A) (f_Mod_plant1  Z)))) : PW g M_Mod_plant1 4 kc ks Q 0 [.ref (A 100), .retAddr 0, .retAddr 0] [] (ov h (gO (moL g A) Z)) := by
  have hz0 := hw.1.2
  have hz1 := hw.2.1.2
  refine pw_aload_n e_Mod_plant1_0 rfl ?_
  refine pw_detV (As := []) e_Mod_plant1_1 li_Mod_315 rfl (gO_get hnd (i := 0) rfl) (qs_Mod_go hst hnd Z (gO_in hnd (fun _ z => z)) hw) rfl (by decide) (Nat.le_of_ble_eq_true rfl) rfl ?_
  refine pw_sameG hnd ?_
  refine w_Mod_plant1_4 hst hnd (s_Mod_go Z) (go_s hw).1 ?_
  rw [f_Mod_plant1] at hk
  exact hk
theorem q_Mod_plant1 {g : GG} {h : Hp} (hst : (gl g).stackTraces = false) {A : Nat → Nat} (hnd : (gK (moL g A)).Nodup)  (Z : Nat → Nat → Int32) (hm : ∀ q ∈ gO (moL g A) Z, h q.1 = some q.2) (hw : GoI Z) : PM g M_Mod_plant1 4 0 0 [.ref (A 100)] h (RetV none (ov h (gO (moL g A) (f_Mod_plant1  Z)))) := by
  refine PM.of hst (by decide) rfl (fun v hv => ?_) (Nat.le_of_ble_eq_true rfl) ?_
  · simp only [List.mem_cons, List.not_mem_nil, or_false] at hv; rcases hv with rfl <;> rfl
  · have hq := w_Mod_plant1_0 (g := g) (Q := RetV none (ov h (gO (moL g A) (f_Mod_plant1  Z)))) (h := h) (kc := 0) (ks := 0) hst hnd Z hw ?_
    · rw [ov_self hm] at hq; exact hq
    · exact ⟨rfl, rfl⟩

noncomputable def f_Mod_once1_41 (x : Int32) (Z : Nat → Nat → Int32) : (Nat → Nat → Int32) :=
  if x = 4 then u2 ((f_Mod_number (nI 1) (nI 9) Z).2) 100 69 ((f_Mod_number (nI 1) (nI 9) Z).1) else u2 ((f_Mod_number (nI 0) (nI 9) Z).2) 100 70 ((f_Mod_number (nI 0) (nI 9) Z).1)
set_option maxRecDepth 4000 in
theorem w_Mod_once1_41 {g : GG} {Q : QT} {h : Hp} {kc ks : Nat} (hst : (gl g).stackTraces = false) {A : Nat → Nat} (hnd : (gK (moL g A)).Nodup) (x : Int32)  (Z : Nat → Nat → Int32) (hw : GoI Z) (hk : Q (.inl none) (ov h (gO (moL g A) (f_Mod_once1_41 x Z)))) : PW g M_Mod_once1 4 kc ks Q 41 [.ref (A 100), .int (x)] [] (ov h (gO (moL g A) Z)) := by
  have hz0 := hw.1.2
  have hz1 := hw.2.1.2
  refine pw_iload_n e_Mod_once1_41 rfl ?_
  refine pw_iconst (v := nI 4) e_Mod_once1_42 (by decide) ?_
  refine pw_icmp_ne (tgt := 60) e_Mod_once1_43 (by decide) (fun (H1 : ¬ x = 4) => ?_) (fun (H1 : x = 4) => ?_)
  · refine pw_aload_n e_Mod_once1_60 rfl ?_
    refine pw_aload_n e_Mod_once1_61 rfl ?_
    refine pw_iconst (v := nI 0) e_Mod_once1_62 (by decide) ?_
    refine pw_bipush (v := nI 9) e_Mod_once1_63 (by decide) ?_
    refine pw_detV (As := [.int (nI (0)), .int (nI (9))]) e_Mod_once1_65 li_Mod_327 rfl (gO_get hnd (i := 0) rfl) (q_Mod_number hst hnd (nI 0) (nI 9) Z (gO_in hnd (fun _ z => z)) hw) rfl (by decide) (Nat.le_of_ble_eq_true rfl) rfl ?_
    refine pw_sameG hnd ?_
    refine pw_putGi (i := 0) (ps := 70) (x := (f_Mod_number (nI 0) (nI 9) Z).1) e_Mod_once1_68 fp_Mod_351 hnd (mo_x _ _) rfl (Nat.le_of_ble_eq_true rfl) rfl rfl (fun _ _ => rfl) ?_
    refine pw_vret e_Mod_once1_71 rfl ?_
    rw [f_Mod_once1_41, if_neg H1] at hk
    exact hk
  · refine pw_aload_n e_Mod_once1_46 rfl ?_
    refine pw_aload_n e_Mod_once1_47 rfl ?_
    refine pw_iconst (v := nI 1) e_Mod_once1_48 (by decide) ?_
    refine pw_bipush (v := nI 9) e_Mod_once1_49 (by decide) ?_
    refine pw_detV (As := [.int (nI (1)), .int (nI (9))]) e_Mod_once1_51 li_Mod_327 rfl (gO_get hnd (i := 0) rfl) (q_Mod_number hst hnd (nI 1) (nI 9) Z (gO_in hnd (fun _ z => z)) hw) rfl (by decide) (Nat.le_of_ble_eq_true rfl) rfl ?_
    refine pw_sameG hnd ?_
    refine pw_putGi (i := 0) (ps := 69) (x := (f_Mod_number (nI 1) (nI 9) Z).1) e_Mod_once1_54 fp_Mod_348 hnd (mo_x _ _) rfl (Nat.le_of_ble_eq_true rfl) rfl rfl (fun _ _ => rfl) ?_
    refine pw_goto (tgt := 71) e_Mod_once1_57 (by decide) ?_
    refine pw_vret e_Mod_once1_71 rfl ?_
    rw [f_Mod_once1_41, if_pos H1] at hk
    exact hk
noncomputable def f_Mod_once1 (x : Int32) (Z : Nat → Nat → Int32) : (Nat → Nat → Int32) :=
  if (((Z 100 71) >>> (x &&& 31)) &&& 1) = 0 then if ((f_Mod_wants (nI 1) (nI 4) Z).1) = 0 then (f_Mod_wants (nI 1) (nI 4) Z).2 else f_Mod_once1_41 x (s_Mod_go (u2 ((f_Mod_wants (nI 1) (nI 4) Z).2) 100 71 ((((f_Mod_wants (nI 1) (nI 4) Z).2) 100 71) ||| ((1 : Int32) <<< (x &&& 31))))) else (f_Mod_wants (nI 0) (nI 4) Z).2
set_option maxRecDepth 4000 in
theorem w_Mod_once1_0 {g : GG} {Q : QT} {h : Hp} {kc ks : Nat} (hst : (gl g).stackTraces = false) {A : Nat → Nat} (hnd : (gK (moL g A)).Nodup) (x : Int32)  (Z : Nat → Nat → Int32) (hw : GoI Z) (hk : Q (.inl none) (ov h (gO (moL g A) (f_Mod_once1 x Z)))) : PW g M_Mod_once1 4 kc ks Q 0 [.ref (A 100), .int (x)] [] (ov h (gO (moL g A) Z)) := by
  have hz0 := hw.1.2
  have hz1 := hw.2.1.2
  refine pw_aload_n e_Mod_once1_0 rfl ?_
  refine pw_aload_n e_Mod_once1_1 rfl ?_
  refine pw_getf e_Mod_once1_2 fl_Mod_345 (gO_get hnd (i := 0) rfl) rfl ?_
  refine pw_iload_n e_Mod_once1_5 rfl ?_
  refine pw_ishr e_Mod_once1_6 ?_
  refine pw_iconst (v := nI 1) e_Mod_once1_7 (by decide) ?_
  refine pw_iand e_Mod_once1_8 ?_
  refine pw_if_ne (tgt := 16) e_Mod_once1_9 (by decide) (fun (H1 : ¬ (((Z 100 71) >>> (x &&& 31)) &&& 1) = 0) => ?_) (fun (H1 : (((Z 100 71) >>> (x &&& 31)) &&& 1) = 0) => ?_)
  · refine pw_iconst (v := nI 0) e_Mod_once1_16 (by decide) ?_
    refine pw_iconst (v := nI 4) e_Mod_once1_17 (by decide) ?_
    refine pw_detV (As := [.int (nI (0)), .int (nI (4))]) e_Mod_once1_18 li_Mod_308 rfl (gO_get hnd (i := 0) rfl) (q_Mod_wants hst hnd (nI 0) (nI 4) Z (gO_in hnd (fun _ z => z))) rfl (by decide) (Nat.le_of_ble_eq_true rfl) rfl ?_
    refine pw_sameG hnd ?_
    refine pw_if_ne (tgt := 25) e_Mod_once1_21 (by decide) (fun (H2 : ¬ ((f_Mod_wants (nI 0) (nI 4) Z).1) = 0) => ?_) (fun (H2 : ((f_Mod_wants (nI 0) (nI 4) Z).1) = 0) => ?_)
    · exact absurd H2 (fun q => (wt_of (by decide) q).1 rfl)
    · refine pw_vret e_Mod_once1_24 rfl ?_
      rw [f_Mod_once1, if_neg H1] at hk
      exact hk
  · refine pw_iconst (v := nI 1) e_Mod_once1_12 (by decide) ?_
    refine pw_goto (tgt := 17) e_Mod_once1_13 (by decide) ?_
    refine pw_iconst (v := nI 4) e_Mod_once1_17 (by decide) ?_
    refine pw_detV (As := [.int (nI (1)), .int (nI (4))]) e_Mod_once1_18 li_Mod_308 rfl (gO_get hnd (i := 0) rfl) (q_Mod_wants hst hnd (nI 1) (nI 4) Z (gO_in hnd (fun _ z => z))) rfl (by decide) (Nat.le_of_ble_eq_true rfl) rfl ?_
    refine pw_sameG hnd ?_
    refine pw_if_ne (tgt := 25) e_Mod_once1_21 (by decide) (fun (H3 : ¬ ((f_Mod_wants (nI 1) (nI 4) Z).1) = 0) => ?_) (fun (H3 : ((f_Mod_wants (nI 1) (nI 4) Z).1) = 0) => ?_)
    · refine pw_aload_n e_Mod_once1_25 rfl ?_
      refine pw_dup e_Mod_once1_26 rfl ?_
      refine pw_getf e_Mod_once1_27 fl_Mod_345 (gO_get hnd (i := 0) rfl) rfl ?_
      refine pw_iconst (v := nI 1) e_Mod_once1_30 (by decide) ?_
      refine pw_iload_n e_Mod_once1_31 rfl ?_
      refine pw_ishl e_Mod_once1_32 ?_
      refine pw_ior e_Mod_once1_33 ?_
      refine pw_putGi (i := 0) (ps := 71) (x := (((f_Mod_wants (nI 1) (nI 4) Z).2) 100 71) ||| ((1 : Int32) <<< (x &&& 31))) e_Mod_once1_34 fp_Mod_345 hnd (mo_x _ _) rfl (Nat.le_of_ble_eq_true rfl) rfl rfl (fun _ _ => rfl) ?_
      refine pw_aload_n e_Mod_once1_37 rfl ?_
      refine pw_detV (As := []) e_Mod_once1_38 li_Mod_315 rfl (gO_get hnd (i := 0) rfl) (qs_Mod_go hst hnd (u2 ((f_Mod_wants (nI 1) (nI 4) Z).2) 100 71 ((((f_Mod_wants (nI 1) (nI 4) Z).2) 100 71) ||| ((1 : Int32) <<< (x &&& 31)))) (gO_in hnd (fun _ z => z)) (GoI.u100 (i := 71) (g_wants hw) (by decide))) rfl (by decide) (Nat.le_of_ble_eq_true rfl) rfl ?_
      refine pw_sameG hnd ?_
      refine w_Mod_once1_41 hst hnd x (s_Mod_go (u2 ((f_Mod_wants (nI 1) (nI 4) Z).2) 100 71 ((((f_Mod_wants (nI 1) (nI 4) Z).2) 100 71) ||| ((1 : Int32) <<< (x &&& 31))))) (go_s (GoI.u100 (i := 71) (g_wants hw) (by decide))).1 ?_
      rw [f_Mod_once1, if_pos H1, if_neg H3] at hk
      exact hk
    · refine pw_vret e_Mod_once1_24 rfl ?_
      rw [f_Mod_once1, if_pos H1, if_pos H3] at hk
      exact hk
theorem q_Mod_once1 {g : GG} {h : Hp} (hst : (gl g).stackTraces = false) {A : Nat → Nat} (hnd : (gK (moL g A)).Nodup) (x : Int32)  (Z : Nat → Nat → Int32) (hm : ∀ q ∈ gO (moL g A) Z, h q.1 = some q.2) (hw : GoI Z) : PM g M_Mod_once1 4 0 0 [.ref (A 100), .int (x)] h (RetV none (ov h (gO (moL g A) (f_Mod_once1 x Z)))) := by
  refine PM.of hst (by decide) rfl (fun v hv => ?_) (Nat.le_of_ble_eq_true rfl) ?_
  · simp only [List.mem_cons, List.not_mem_nil, or_false] at hv; rcases hv with rfl | rfl <;> rfl
  · have hq := w_Mod_once1_0 (g := g) (Q := RetV none (ov h (gO (moL g A) (f_Mod_once1 x Z)))) (h := h) (kc := 0) (ks := 0) hst hnd x Z hw ?_
    · rw [ov_self hm] at hq; exact hq
    · exact ⟨rfl, rfl⟩

theorem nn.le {Z : Nat → Nat → Int32} (h : Z 100 67 = nI (pN Z 100 67) ∧ pN Z 100 67 < 11) : Z 100 67 = nI (pN Z 100 67) ∧ pN Z 100 67 ≤ 10 := ⟨h.1, by omega⟩
noncomputable def f_Mod_clause1_112  (Z : Nat → Nat → Int32) : (Nat → Nat → Int32) :=
  u2 ((f_Mod_number (nI 1) (nI 5) Z).2) 100 66 ((f_Mod_number (nI 1) (nI 5) Z).1)
set_option maxRecDepth 4000 in
theorem w_Mod_clause1_112 {g : GG} {Q : QT} {h : Hp} {kc ks : Nat} (hst : (gl g).stackTraces = false) {A : Nat → Nat} (hnd : (gK (moL g A)).Nodup)  (Z : Nat → Nat → Int32) (hw : GoI Z) (hk : Q (.inl none) (ov h (gO (moL g A) (f_Mod_clause1_112  Z)))) : PW g M_Mod_clause1 5 kc ks Q 112 [.ref (A 100), .retAddr 0] [] (ov h (gO (moL g A) Z)) := by
  have hz0 := hw.1.2
  have hz1 := hw.2.1.2
  refine pw_aload_n e_Mod_clause1_112 rfl ?_
  refine pw_aload_n e_Mod_clause1_113 rfl ?_
  refine pw_iconst (v := nI 1) e_Mod_clause1_114 (by decide) ?_
  refine pw_iconst (v := nI 5) e_Mod_clause1_115 (by decide) ?_
  refine pw_detV (As := [.int (nI (1)), .int (nI (5))]) e_Mod_clause1_116 li_Mod_327 rfl (gO_get hnd (i := 0) rfl) (q_Mod_number hst hnd (nI 1) (nI 5) Z (gO_in hnd (fun _ z => z)) hw) rfl (by decide) (Nat.le_of_ble_eq_true rfl) rfl ?_
  refine pw_sameG hnd ?_
  refine pw_putGi (i := 0) (ps := 66) (x := (f_Mod_number (nI 1) (nI 5) Z).1) e_Mod_clause1_119 fp_Mod_321 hnd (mo_x _ _) rfl (Nat.le_of_ble_eq_true rfl) rfl rfl (fun _ _ => rfl) ?_
  refine pw_vret e_Mod_clause1_122 rfl ?_
  rw [f_Mod_clause1_112] at hk
  exact hk
noncomputable def f_Mod_clause1_108  (Z : Nat → Nat → Int32) : (Nat → Nat → Int32) :=
  f_Mod_clause1_112  (s_Mod_go Z)
set_option maxRecDepth 4000 in
theorem w_Mod_clause1_108 {g : GG} {Q : QT} {h : Hp} {kc ks : Nat} (hst : (gl g).stackTraces = false) {A : Nat → Nat} (hnd : (gK (moL g A)).Nodup)  (Z : Nat → Nat → Int32) (hw : GoI Z) (hk : Q (.inl none) (ov h (gO (moL g A) (f_Mod_clause1_108  Z)))) : PW g M_Mod_clause1 5 kc ks Q 108 [.ref (A 100), .retAddr 0] [] (ov h (gO (moL g A) Z)) := by
  have hz0 := hw.1.2
  have hz1 := hw.2.1.2
  refine pw_aload_n e_Mod_clause1_108 rfl ?_
  refine pw_detV (As := []) e_Mod_clause1_109 li_Mod_315 rfl (gO_get hnd (i := 0) rfl) (qs_Mod_go hst hnd Z (gO_in hnd (fun _ z => z)) hw) rfl (by decide) (Nat.le_of_ble_eq_true rfl) rfl ?_
  refine pw_sameG hnd ?_
  refine w_Mod_clause1_112 hst hnd (s_Mod_go Z) (go_s hw).1 ?_
  rw [f_Mod_clause1_108] at hk
  exact hk
noncomputable def f_Mod_clause1_17  (Z : Nat → Nat → Int32) (w : Int32) : (Nat → Nat → Int32) :=
  if w = 1 then f_Mod_block1 Z else if w = 2 then f_Mod_link1 Z else if w = 3 then f_Mod_plant1 Z else if w = 4 then f_Mod_once1 w Z else if w = 5 then f_Mod_once1 w Z else if w = 0 then if ((f_Mod_wants (nI 1) (nI 1) Z).1) = 0 then (f_Mod_wants (nI 1) (nI 1) Z).2 else if (((f_Mod_wants (nI 1) (nI 1) Z).2) 100 72) = 0 then if ((f_Mod_wants (nI 1) (nI 4) ((f_Mod_wants (nI 1) (nI 1) Z).2)).1) = 0 then (f_Mod_wants (nI 1) (nI 4) ((f_Mod_wants (nI 1) (nI 1) Z).2)).2 else f_Mod_clause1_108  ((f_Mod_wants (nI 1) (nI 4) ((f_Mod_wants (nI 1) (nI 1) Z).2)).2) else (f_Mod_wants (nI 0) (nI 4) ((f_Mod_wants (nI 1) (nI 1) Z).2)).2 else (f_Mod_wants (nI 0) (nI 1) Z).2
set_option maxRecDepth 4000 in
theorem w_Mod_clause1_17 {g : GG} {Q : QT} {h : Hp} {kc ks : Nat} (hst : (gl g).stackTraces = false) {A : Nat → Nat} (hnd : (gK (moL g A)).Nodup)  (Z : Nat → Nat → Int32) (w : Int32) (hw : GoI Z) (hB : Z 100 67 = nI (pN Z 100 67) ∧ pN Z 100 67 < 11) (hL : Z 100 68 = nI (pN Z 100 68) ∧ pN Z 100 68 < 13) (hk : Q (.inl none) (ov h (gO (moL g A) (f_Mod_clause1_17  Z w)))) : PW g M_Mod_clause1 5 kc ks Q 17 [.ref (A 100), .int (w)] [] (ov h (gO (moL g A) Z)) := by
  have hz0 := hw.1.2
  have hz1 := hw.2.1.2
  refine pw_iload_n e_Mod_clause1_17 rfl ?_
  refine pw_iconst (v := nI 1) e_Mod_clause1_18 (by decide) ?_
  refine pw_icmp_ne (tgt := 29) e_Mod_clause1_19 (by decide) (fun (H1 : ¬ w = 1) => ?_) (fun (H1 : w = 1) => ?_)
  · refine pw_iload_n e_Mod_clause1_29 rfl ?_
    refine pw_iconst (v := nI 2) e_Mod_clause1_30 (by decide) ?_
    refine pw_icmp_ne (tgt := 41) e_Mod_clause1_31 (by decide) (fun (H2 : ¬ w = 2) => ?_) (fun (H2 : w = 2) => ?_)
    · refine pw_iload_n e_Mod_clause1_41 rfl ?_
      refine pw_iconst (v := nI 3) e_Mod_clause1_42 (by decide) ?_
      refine pw_icmp_ne (tgt := 53) e_Mod_clause1_43 (by decide) (fun (H3 : ¬ w = 3) => ?_) (fun (H3 : w = 3) => ?_)
      · refine pw_iload_n e_Mod_clause1_53 rfl ?_
        refine pw_iconst (v := nI 4) e_Mod_clause1_54 (by decide) ?_
        refine pw_icmp_eq (tgt := 63) e_Mod_clause1_55 (by decide) (fun (H4 : w = 4) => ?_) (fun (H4 : ¬ w = 4) => ?_)
        · refine pw_aload_n e_Mod_clause1_63 rfl ?_
          refine pw_iload_n e_Mod_clause1_64 rfl ?_
          refine pw_detV (As := [.int (w)]) e_Mod_clause1_65 li_Mod_363 rfl (gO_get hnd (i := 0) rfl) (q_Mod_once1 hst hnd w Z (gO_in hnd (fun _ z => z)) hw) rfl (by decide) (Nat.le_of_ble_eq_true rfl) rfl ?_
          refine pw_sameG hnd ?_
          refine pw_goto (tgt := 122) e_Mod_clause1_68 (by decide) ?_
          refine pw_vret e_Mod_clause1_122 rfl ?_
          rw [f_Mod_clause1_17, if_neg H1, if_neg H2, if_neg H3, if_pos H4] at hk
          exact hk
        · refine pw_iload_n e_Mod_clause1_58 rfl ?_
          refine pw_iconst (v := nI 5) e_Mod_clause1_59 (by decide) ?_
          refine pw_icmp_ne (tgt := 71) e_Mod_clause1_60 (by decide) (fun (H5 : ¬ w = 5) => ?_) (fun (H5 : w = 5) => ?_)
          · refine pw_aload_n e_Mod_clause1_71 rfl ?_
            refine pw_iload_n e_Mod_clause1_72 rfl ?_
            refine pw_if_ne (tgt := 80) e_Mod_clause1_73 (by decide) (fun (H6 : ¬ w = 0) => ?_) (fun (H6 : w = 0) => ?_)
            · refine pw_iconst (v := nI 0) e_Mod_clause1_80 (by decide) ?_
              refine pw_iconst (v := nI 1) e_Mod_clause1_81 (by decide) ?_
              refine pw_detV (As := [.int (nI (0)), .int (nI (1))]) e_Mod_clause1_82 li_Mod_308 rfl (gO_get hnd (i := 0) rfl) (q_Mod_wants hst hnd (nI 0) (nI 1) Z (gO_in hnd (fun _ z => z))) rfl (by decide) (Nat.le_of_ble_eq_true rfl) rfl ?_
              refine pw_sameG hnd ?_
              refine pw_if_eq (tgt := 122) e_Mod_clause1_85 (by decide) (fun (H7 : ((f_Mod_wants (nI 0) (nI 1) Z).1) = 0) => ?_) (fun (H7 : ¬ ((f_Mod_wants (nI 0) (nI 1) Z).1) = 0) => ?_)
              · refine pw_vret e_Mod_clause1_122 rfl ?_
                rw [f_Mod_clause1_17, if_neg H1, if_neg H2, if_neg H3, if_neg H4, if_neg H5, if_neg H6] at hk
                exact hk
              · exact absurd H7 (fun q => (wt_of (by decide) q).1 rfl)
            · refine pw_iconst (v := nI 1) e_Mod_clause1_76 (by decide) ?_
              refine pw_goto (tgt := 81) e_Mod_clause1_77 (by decide) ?_
              refine pw_iconst (v := nI 1) e_Mod_clause1_81 (by decide) ?_
              refine pw_detV (As := [.int (nI (1)), .int (nI (1))]) e_Mod_clause1_82 li_Mod_308 rfl (gO_get hnd (i := 0) rfl) (q_Mod_wants hst hnd (nI 1) (nI 1) Z (gO_in hnd (fun _ z => z))) rfl (by decide) (Nat.le_of_ble_eq_true rfl) rfl ?_
              refine pw_sameG hnd ?_
              refine pw_if_eq (tgt := 122) e_Mod_clause1_85 (by decide) (fun (H8 : ((f_Mod_wants (nI 1) (nI 1) Z).1) = 0) => ?_) (fun (H8 : ¬ ((f_Mod_wants (nI 1) (nI 1) Z).1) = 0) => ?_)
              · refine pw_vret e_Mod_clause1_122 rfl ?_
                rw [f_Mod_clause1_17, if_neg H1, if_neg H2, if_neg H3, if_neg H4, if_neg H5, if_pos H6, if_pos H8] at hk
                exact hk
              · refine pw_aload_n e_Mod_clause1_88 rfl ?_
                refine pw_aload_n e_Mod_clause1_89 rfl ?_
                refine pw_getf e_Mod_clause1_90 fl_Mod_366 (gO_get hnd (i := 0) rfl) rfl ?_
                refine pw_if_ne (tgt := 100) e_Mod_clause1_93 (by decide) (fun (H9 : ¬ (((f_Mod_wants (nI 1) (nI 1) Z).2) 100 72) = 0) => ?_) (fun (H9 : (((f_Mod_wants (nI 1) (nI 1) Z).2) 100 72) = 0) => ?_)
                · refine pw_iconst (v := nI 0) e_Mod_clause1_100 (by decide) ?_
                  refine pw_iconst (v := nI 4) e_Mod_clause1_101 (by decide) ?_
                  refine pw_detV (As := [.int (nI (0)), .int (nI (4))]) e_Mod_clause1_102 li_Mod_308 rfl (gO_get hnd (i := 0) rfl) (q_Mod_wants hst hnd (nI 0) (nI 4) ((f_Mod_wants (nI 1) (nI 1) Z).2) (gO_in hnd (fun _ z => z))) rfl (by decide) (Nat.le_of_ble_eq_true rfl) rfl ?_
                  refine pw_sameG hnd ?_
                  refine pw_if_eq (tgt := 122) e_Mod_clause1_105 (by decide) (fun (H10 : ((f_Mod_wants (nI 0) (nI 4) ((f_Mod_wants (nI 1) (nI 1) Z).2)).1) = 0) => ?_) (fun (H10 : ¬ ((f_Mod_wants (nI 0) (nI 4) ((f_Mod_wants (nI 1) (nI 1) Z).2)).1) = 0) => ?_)
                  · refine pw_vret e_Mod_clause1_122 rfl ?_
                    rw [f_Mod_clause1_17, if_neg H1, if_neg H2, if_neg H3, if_neg H4, if_neg H5, if_pos H6, if_neg H8, if_neg H9] at hk
                    exact hk
                  · exact absurd H10 (fun q => (wt_of (by decide) q).1 rfl)
                · refine pw_iconst (v := nI 1) e_Mod_clause1_96 (by decide) ?_
                  refine pw_goto (tgt := 101) e_Mod_clause1_97 (by decide) ?_
                  refine pw_iconst (v := nI 4) e_Mod_clause1_101 (by decide) ?_
                  refine pw_detV (As := [.int (nI (1)), .int (nI (4))]) e_Mod_clause1_102 li_Mod_308 rfl (gO_get hnd (i := 0) rfl) (q_Mod_wants hst hnd (nI 1) (nI 4) ((f_Mod_wants (nI 1) (nI 1) Z).2) (gO_in hnd (fun _ z => z))) rfl (by decide) (Nat.le_of_ble_eq_true rfl) rfl ?_
                  refine pw_sameG hnd ?_
                  refine pw_if_eq (tgt := 122) e_Mod_clause1_105 (by decide) (fun (H11 : ((f_Mod_wants (nI 1) (nI 4) ((f_Mod_wants (nI 1) (nI 1) Z).2)).1) = 0) => ?_) (fun (H11 : ¬ ((f_Mod_wants (nI 1) (nI 4) ((f_Mod_wants (nI 1) (nI 1) Z).2)).1) = 0) => ?_)
                  · refine pw_vret e_Mod_clause1_122 rfl ?_
                    rw [f_Mod_clause1_17, if_neg H1, if_neg H2, if_neg H3, if_neg H4, if_neg H5, if_pos H6, if_neg H8, if_pos H9, if_pos H11] at hk
                    exact hk
                  · refine pw_fgt (ls' := [.ref (A 100), .retAddr 0]) ⟨Or.inr rfl, Or.inl rfl, trivial⟩ ?_
                    refine w_Mod_clause1_108 hst hnd ((f_Mod_wants (nI 1) (nI 4) ((f_Mod_wants (nI 1) (nI 1) Z).2)).2) (g_wants (g_wants hw)) ?_
                    rw [f_Mod_clause1_17, if_neg H1, if_neg H2, if_neg H3, if_neg H4, if_neg H5, if_pos H6, if_neg H8, if_pos H9, if_neg H11] at hk
                    exact hk
          · refine pw_aload_n e_Mod_clause1_63 rfl ?_
            refine pw_iload_n e_Mod_clause1_64 rfl ?_
            refine pw_detV (As := [.int (w)]) e_Mod_clause1_65 li_Mod_363 rfl (gO_get hnd (i := 0) rfl) (q_Mod_once1 hst hnd w Z (gO_in hnd (fun _ z => z)) hw) rfl (by decide) (Nat.le_of_ble_eq_true rfl) rfl ?_
            refine pw_sameG hnd ?_
            refine pw_goto (tgt := 122) e_Mod_clause1_68 (by decide) ?_
            refine pw_vret e_Mod_clause1_122 rfl ?_
            rw [f_Mod_clause1_17, if_neg H1, if_neg H2, if_neg H3, if_neg H4, if_pos H5] at hk
            exact hk
      · refine pw_aload_n e_Mod_clause1_46 rfl ?_
        refine pw_detV (As := []) e_Mod_clause1_47 li_Mod_360 rfl (gO_get hnd (i := 0) rfl) (q_Mod_plant1 hst hnd Z (gO_in hnd (fun _ z => z)) hw) rfl (by decide) (Nat.le_of_ble_eq_true rfl) rfl ?_
        refine pw_sameG hnd ?_
        refine pw_goto (tgt := 122) e_Mod_clause1_50 (by decide) ?_
        refine pw_vret e_Mod_clause1_122 rfl ?_
        rw [f_Mod_clause1_17, if_neg H1, if_neg H2, if_pos H3] at hk
        exact hk
    · refine pw_aload_n e_Mod_clause1_34 rfl ?_
      refine pw_detV (As := []) e_Mod_clause1_35 li_Mod_357 rfl (gO_get hnd (i := 0) rfl) (q_Mod_link1 hst hnd Z (gO_in hnd (fun _ z => z)) hw hB hL) rfl (by decide) (Nat.le_of_ble_eq_true rfl) rfl ?_
      refine pw_sameG hnd ?_
      refine pw_goto (tgt := 122) e_Mod_clause1_38 (by decide) ?_
      refine pw_vret e_Mod_clause1_122 rfl ?_
      rw [f_Mod_clause1_17, if_neg H1, if_pos H2] at hk
      exact hk
  · refine pw_aload_n e_Mod_clause1_22 rfl ?_
    refine pw_detV (As := []) e_Mod_clause1_23 li_Mod_354 rfl (gO_get hnd (i := 0) rfl) (q_Mod_block1 hst hnd Z (gO_in hnd (fun _ z => z)) hw (nn.le hB)) rfl (by decide) (Nat.le_of_ble_eq_true rfl) rfl ?_
    refine pw_sameG hnd ?_
    refine pw_goto (tgt := 122) e_Mod_clause1_26 (by decide) ?_
    refine pw_vret e_Mod_clause1_122 rfl ?_
    rw [f_Mod_clause1_17, if_pos H1] at hk
    exact hk
noncomputable def f_Mod_clause1  (Z : Nat → Nat → Int32) : (Nat → Nat → Int32) :=
  if (Z 100 49) = 1 then f_Mod_clause1_17  Z (Z 100 51) else f_Mod_clause1_17  Z ((-1))
set_option maxRecDepth 4000 in
theorem w_Mod_clause1_0 {g : GG} {Q : QT} {h : Hp} {kc ks : Nat} (hst : (gl g).stackTraces = false) {A : Nat → Nat} (hnd : (gK (moL g A)).Nodup)  (Z : Nat → Nat → Int32) (hw : GoI Z) (hB : Z 100 67 = nI (pN Z 100 67) ∧ pN Z 100 67 < 11) (hL : Z 100 68 = nI (pN Z 100 68) ∧ pN Z 100 68 < 13) (hk : Q (.inl none) (ov h (gO (moL g A) (f_Mod_clause1  Z)))) : PW g M_Mod_clause1 5 kc ks Q 0 [.ref (A 100), .retAddr 0] [] (ov h (gO (moL g A) Z)) := by
  have hz0 := hw.1.2
  have hz1 := hw.2.1.2
  refine pw_aload_n e_Mod_clause1_0 rfl ?_
  refine pw_getf e_Mod_clause1_1 fl_Mod_295 (gO_get hnd (i := 0) rfl) rfl ?_
  refine pw_iconst (v := nI 1) e_Mod_clause1_4 (by decide) ?_
  refine pw_icmp_ne (tgt := 15) e_Mod_clause1_5 (by decide) (fun (H1 : ¬ (Z 100 49) = 1) => ?_) (fun (H1 : (Z 100 49) = 1) => ?_)
  · refine pw_iconst (v := (-1)) e_Mod_clause1_15 (by decide) ?_
    refine pw_istore_n (ls2 := [_, _]) e_Mod_clause1_16 (by decide) rfl ?_
    refine w_Mod_clause1_17 hst hnd Z ((-1)) hw hB hL ?_
    rw [f_Mod_clause1, if_neg H1] at hk
    exact hk
  · refine pw_aload_n e_Mod_clause1_8 rfl ?_
    refine pw_getf e_Mod_clause1_9 fl_Mod_289 (gO_get hnd (i := 0) rfl) rfl ?_
    refine pw_goto (tgt := 16) e_Mod_clause1_12 (by decide) ?_
    refine pw_istore_n (ls2 := [_, _]) e_Mod_clause1_16 (by decide) rfl ?_
    refine w_Mod_clause1_17 hst hnd Z (Z 100 51) hw hB hL ?_
    rw [f_Mod_clause1, if_pos H1] at hk
    exact hk
theorem q_Mod_clause1 {g : GG} {h : Hp} (hst : (gl g).stackTraces = false) {A : Nat → Nat} (hnd : (gK (moL g A)).Nodup)  (Z : Nat → Nat → Int32) (hm : ∀ q ∈ gO (moL g A) Z, h q.1 = some q.2) (hw : GoI Z) (hB : Z 100 67 = nI (pN Z 100 67) ∧ pN Z 100 67 < 11) (hL : Z 100 68 = nI (pN Z 100 68) ∧ pN Z 100 68 < 13) : PM g M_Mod_clause1 5 0 0 [.ref (A 100)] h (RetV none (ov h (gO (moL g A) (f_Mod_clause1  Z)))) := by
  refine PM.of hst (by decide) rfl (fun v hv => ?_) (Nat.le_of_ble_eq_true rfl) ?_
  · simp only [List.mem_cons, List.not_mem_nil, or_false] at hv; rcases hv with rfl <;> rfl
  · have hq := w_Mod_clause1_0 (g := g) (Q := RetV none (ov h (gO (moL g A) (f_Mod_clause1  Z)))) (h := h) (kc := 0) (ks := 0) hst hnd Z hw hB hL ?_
    · rw [ov_self hm] at hq; exact hq
    · exact ⟨rfl, rfl⟩

